/-! THE REFERENCE: pure words -/
def mgF (f : Nat → UInt32) : Nat → UInt32
  | 0 => FP.fconst0
  | k + 1 => mxF (mgF f k) (f k)
theorem mgF_row (wt : Nat → Nat → UInt32) (d : Nat) : ∀ t, t ≤ 12 → mgF (fl12 wt) (12 * d + t) = gwT (wt d) (mgF (fl12 wt) (12 * d)) t
  | 0, _ => rfl
  | t + 1, h => by
    show mxF (mgF (fl12 wt) (12 * d + t)) (fl12 wt (12 * d + t)) = mxF (gwT (wt d) (mgF (fl12 wt) (12 * d)) t) (wt d t)
    rw [mgF_row wt d t (by omega), fl12_at wt (by omega)]
theorem mgF_all (wt : Nat → Nat → UInt32) : ∀ d, mgF (fl12 wt) (12 * d) = gwF wt d
  | 0 => rfl
  | d + 1 => by
    rw [show 12 * (d + 1) = 12 * d + 12 by omega, mgF_row wt d 12 (Nat.le_refl _), mgF_all wt d]
    rfl
theorem mgF_ok {wt : Nat → Nat → UInt32} (hf : ∀ d t, fb 148 (wt d t)) : ∀ k, fp (mgF (fl12 wt) k) ∧ fb 148 (mgF (fl12 wt) k)
  | 0 => ⟨show fp FP.fconst0 by unfold fp; decide, show fb 148 FP.fconst0 by unfold fb; decide⟩
  | k + 1 => ⟨mxF_fp (mgF_ok hf k).1 ((mgF_ok hf k).2.up (by decide)) ((hf _ _).up (by decide)), mxF_fb (mgF_ok hf k).2 (hf _ _)⟩
theorem fgt_key {x y : UInt32} (hx : fb 250 x) (hy : fb 250 y) : FP.fcmp x y = some .gt ↔ FP.Core.fkey y < FP.Core.fkey x := FP.Core.fcmp_gt_key (hx.fin (by decide)).ne_nan (hy.fin (by decide)).ne_nan
theorem mxF_ge {g w : UInt32} (hg : fb 250 g) (hw : fb 250 w) : FP.Core.fkey g ≤ FP.Core.fkey (mxF g w) ∧ FP.Core.fkey w ≤ FP.Core.fkey (mxF g w) := by
  unfold mxF
  split
  · rename_i h
    have := (fgt_key hw hg).mp h
    omega
  · rename_i h
    have := mt (fgt_key hw hg).mpr h
    omega
theorem mgF_ge {wt : Nat → Nat → UInt32} (hf : ∀ d t, fb 148 (wt d t)) : ∀ n k, k < n → FP.Core.fkey (fl12 wt k) ≤ FP.Core.fkey (mgF (fl12 wt) n)
  | 0, k, h => absurd h (Nat.not_lt_zero _)
  | n + 1, k, h => by
    have h1 := mxF_ge ((mgF_ok hf n).2.up (show 148 ≤ 250 by decide)) ((hf (n / 12) (n % 12)).up (show 148 ≤ 250 by decide))
    by_cases e : k = n
    · subst e; exact h1.2
    · exact Int.le_trans (mgF_ge hf n k (by omega)) h1.1
/-- a weight above 0 makes the greatest above 0 -/
theorem gw_pos {wt : Nat → Nat → UInt32} (hf : ∀ d t, fb 148 (wt d t)) {nd d t : Nat} (hd : d < nd) (ht : t < 12) (h : FP.fcmp (wt d t) FP.fconst0 = some .gt) : FP.fcmp (gwF wt nd) FP.fconst0 = some .gt := by
  have h0 : fb 250 FP.fconst0 := by unfold fb; decide
  have h1 := mgF_ge hf (12 * nd) (12 * d + t) (by omega)
  rw [fl12_at wt ht, mgF_all] at h1
  have h2 := (fgt_key ((hf d t).up (by decide)) h0).mp h
  exact (fgt_key ((gwF_ok hf nd).2.up (by decide)) h0).mpr (by omega)

set_option maxHeartbeats 400000 in
set_option maxRecDepth 100000 in
/-- reference: logOf -/
theorem c_X10_logOf (l : Launch) (Γ : Gm) (b M : Nat) (mem : Nat → va_E) {x : UInt64} (hxo : lgOK x) : Ct l yX10_logOf (.code yX10_logOf cX10_logOf 12 (some .double)) ({ frames := 0, cells := 0, slots := 0, locals := 0 } : Room) Γ b M [.double x] mem (fun u => u = mem) (some (.double (lgF x))) := by
  refine mm_enter (cc := cX10_logOf) (by decide) (Nat.le_of_ble_eq_true rfl) ?_
  intro p e s m args below meth c ls hx hb hml hown hr hlocks hname hE hh hl
  have hl : lv_has ls 12 [(0, .double x)] := hl
  have loop25 : ∀ (mm : UInt64) (ee : Nat), (lgs 40 x 0 = (mm, ee)) → (l12 mm) → ∀ (H : Heap) (locs : List Loc), GH Γ b M mem s H locs → ∀ (ls : Array Slot), lv_has ls 12 [(4, .int (nI ee)), (2, .double mm), (0, .double x)] → W p l e ({ frames := 0, cells := 0, slots := 0, locals := 0 } : Room) s m args below meth c H locs 0 0 (MQ below (QC Γ b M (fun u => u = mem) (some (.double (lgF x)))) args s 0 0 (fun q => b ≤ q)) (F0 m 25 ls []) := by
    intro mm ee hex h12 H locs hh ls hl
    refine lv_dload_n hx hb dX10_logOf_25 rfl (lv_at hl 1 rfl) ?_
    refine lv_dconst1 hx hb dX10_logOf_26 ?_
    refine lv_dsub hx hb dX10_logOf_27 ((lg_b0 h12).n (by decide)) ?_
    refine lv_dload_n hx hb dX10_logOf_28 rfl (lv_at hl 1 rfl) ?_
    refine lv_dconst1 hx hb dX10_logOf_29 ?_
    refine lv_dadd hx hb dX10_logOf_30 ((lg_b1 h12).n (by decide)) ?_
    refine lv_ddiv hx hb dX10_logOf_31 ((lg_bR h12).n (by decide)) ?_
    refine lv_dstore (lv' := [(5, .double (FP.ddiv (FP.dsub mm FP.dconst1) (FP.dadd mm FP.dconst1))), (4, .int (nI ee)), (2, .double mm), (0, .double x)]) hx hb dX10_logOf_32 hl (by decide) rfl (fun ls hl => ?_)
    refine lv_dload hx hb dX10_logOf_34 (lv_at hl 0 rfl) ?_
    refine lv_dstore (lv' := [(7, .double (FP.ddiv (FP.dsub mm FP.dconst1) (FP.dadd mm FP.dconst1))), (5, .double (FP.ddiv (FP.dsub mm FP.dconst1) (FP.dadd mm FP.dconst1))), (4, .int (nI ee)), (2, .double mm), (0, .double x)]) hx hb dX10_logOf_36 hl (by decide) rfl (fun ls hl => ?_)
    refine lv_dconst0 hx hb dX10_logOf_38 ?_
    refine lv_dstore (lv' := [(9, .double FP.dconst0), (7, .double (FP.ddiv (FP.dsub mm FP.dconst1) (FP.dadd mm FP.dconst1))), (5, .double (FP.ddiv (FP.dsub mm FP.dconst1) (FP.dadd mm FP.dconst1))), (4, .int (nI ee)), (2, .double mm), (0, .double x)]) hx hb dX10_logOf_39 hl (by decide) rfl (fun ls hl => ?_)
    refine lv_iconst (v := (nI 1)) hx hb dX10_logOf_41 (by decide) ?_
    refine lv_istore (lv' := [(11, .int (nI 1)), (9, .double FP.dconst0), (7, .double (FP.ddiv (FP.dsub mm FP.dconst1) (FP.dadd mm FP.dconst1))), (5, .double (FP.ddiv (FP.dsub mm FP.dconst1) (FP.dadd mm FP.dconst1))), (4, .int (nI ee)), (2, .double mm), (0, .double x)]) hx hb dX10_logOf_42 hl (by decide) rfl (fun ls hl => ?_)
    have loop44 : ∀ (n9 : Nat) (i : Nat), (10 - i) < n9 → (i ≤ 10) → ∀ (H : Heap) (locs : List Loc), GH Γ b M mem s H locs → ∀ (ls : Array Slot), lv_has ls 12 [(11, .int (nI (2 * i + 1))), (9, .double (lgu (lgR mm) i)), (7, .double (lgp (lgR mm) i)), (5, .double (lgR mm)), (4, .int (nI ee)), (2, .double mm), (0, .double x)] → W p l e ({ frames := 0, cells := 0, slots := 0, locals := 0 } : Room) s m args below meth c H locs 0 0 (MQ below (QC Γ b M (fun u => u = mem) (some (.double (lgF x)))) args s 0 0 (fun q => b ≤ q)) (F0 m 44 ls []) := by
      intro n9
      induction n9 with
      | zero => intro i hn; exact absurd hn (Nat.not_lt_zero _)
      | succ n9 ih =>
        intro i hn hi H locs hh ls hl
        have ih1 := ih
        refine lv_iload hx hb dX10_logOf_44 (lv_at hl 0 rfl) ?_
        refine lv_bipush (v := (nI 20)) hx hb dX10_logOf_46 (by decide) ?_
        refine nn_icmp_ge (tgt := 78) hx hb dX10_logOf_48 (by decide) (by omega) (by omega) (fun h2 => ?_) (fun h2 => ?_)
        ·
          obtain rfl : i = 10 := by omega
          refine lv_ldc2d hx hb hown (wk_X10_120 hE.2.1 args) dX10_logOf_78 ?_
          refine lv_dload hx hb dX10_logOf_81 (lv_at hl 1 rfl) ?_
          refine lv_dmul hx hb dX10_logOf_83 (((lg_b2u (lg_bR h12))).n (by decide)) ?_
          refine lv_iload hx hb dX10_logOf_84 (lv_at hl 4 rfl) ?_
          refine lv_i2d hx hb dX10_logOf_86 ?_
          refine lv_ldc2d hx hb hown (wk_X10_122 hE.2.1 args) dX10_logOf_87 ?_
          refine lv_dmul hx hb dX10_logOf_90 ((lg_be _).n (by decide)) ?_
          refine lv_dadd hx hb dX10_logOf_91 ((lg_bF (lg_bR h12) _).n (by decide)) ?_
          exact mm_dret hx hb hr hlocks hE hh (by unfold lgF; rw [hex]) (rfl) dX10_logOf_92
        ·
          refine lv_dload hx hb dX10_logOf_51 (lv_at hl 1 rfl) ?_
          refine lv_dload hx hb dX10_logOf_53 (lv_at hl 2 rfl) ?_
          refine lv_iload hx hb dX10_logOf_55 (lv_at hl 0 rfl) ?_
          refine lv_i2d hx hb dX10_logOf_57 ?_
          refine lv_ddiv hx hb dX10_logOf_58 ((lg_bq (lg_bR h12) i (by omega)).n (by omega)) ?_
          refine lv_dadd hx hb dX10_logOf_59 ((lg_bu (lg_bR h12) (i + 1) (by omega)).n (by omega)) ?_
          refine lv_dstore (lv' := [(9, .double (FP.dadd (lgu (lgR mm) i) (FP.ddiv (lgp (lgR mm) i) (FP.i2d (nI (2 * i + 1)))))), (11, .int (nI (2 * i + 1))), (7, .double (lgp (lgR mm) i)), (5, .double (lgR mm)), (4, .int (nI ee)), (2, .double mm), (0, .double x)]) hx hb dX10_logOf_60 hl (by decide) rfl (fun ls hl => ?_)
          refine lv_dload hx hb dX10_logOf_62 (lv_at hl 2 rfl) ?_
          refine lv_dload hx hb dX10_logOf_64 (lv_at hl 3 rfl) ?_
          refine lv_dload hx hb dX10_logOf_66 (lv_at hl 3 rfl) ?_
          refine lv_dmul hx hb dX10_logOf_68 ((lg_bs (lg_bR h12)).n (by decide)) ?_
          refine lv_dmul hx hb dX10_logOf_69 ((lg_bp (lg_bR h12) (i + 1) (by omega)).n (by omega)) ?_
          refine lv_dstore (lv' := [(7, .double (FP.dmul (lgp (lgR mm) i) (FP.dmul (lgR mm) (lgR mm)))), (9, .double (FP.dadd (lgu (lgR mm) i) (FP.ddiv (lgp (lgR mm) i) (FP.i2d (nI (2 * i + 1)))))), (11, .int (nI (2 * i + 1))), (5, .double (lgR mm)), (4, .int (nI ee)), (2, .double mm), (0, .double x)]) hx hb dX10_logOf_70 hl (by decide) rfl (fun ls hl => ?_)
          refine nn_iinc (x := (2 * i + 1)) (d := 2) (lv' := [(11, .int (nI ((2 * i + 1) + 2))), (7, .double (FP.dmul (lgp (lgR mm) i) (FP.dmul (lgR mm) (lgR mm)))), (9, .double (FP.dadd (lgu (lgR mm) i) (FP.ddiv (lgp (lgR mm) i) (FP.i2d (nI (2 * i + 1)))))), (5, .double (lgR mm)), (4, .int (nI ee)), (2, .double mm), (0, .double x)]) hx hb dX10_logOf_72 hl (k := 2) rfl (by decide) (by decide) rfl (fun ls hl => ?_)
          refine lv_goto (tgt := 44) hx hb dX10_logOf_75 (by decide) ?_
          exact ih1 (i + 1) (by omega) (by omega) _ _ hh ls (lv_sub hl [0, 2, 1, 3, 4, 5, 6] rfl)
    exact loop44 ((10 - 0) + 1) 0 (by omega) (by omega) _ _ hh ls (lv_sub hl [0, 1, 2, 3, 4, 5, 6] rfl)
  refine lv_dload_n hx hb dX10_logOf_0 rfl (lv_at hl 0 rfl) ?_
  refine lv_dstore_n (lv' := [(2, .double x), (0, .double x)]) hx hb dX10_logOf_1 rfl hl (by decide) rfl (fun ls hl => ?_)
  refine lv_iconst (v := (nI 0)) hx hb dX10_logOf_2 (by decide) ?_
  refine lv_istore (lv' := [(4, .int (nI 0)), (2, .double x), (0, .double x)]) hx hb dX10_logOf_3 hl (by decide) rfl (fun ls hl => ?_)
  have loop5 : ∀ (n9 : Nat) (mm : UInt64) (ee : Nat), (40 - ee) < n9 → (lgI x mm ee) → ∀ (H : Heap) (locs : List Loc), GH Γ b M mem s H locs → ∀ (ls : Array Slot), lv_has ls 12 [(4, .int (nI ee)), (2, .double mm), (0, .double x)] → W p l e ({ frames := 0, cells := 0, slots := 0, locals := 0 } : Room) s m args below meth c H locs 0 0 (MQ below (QC Γ b M (fun u => u = mem) (some (.double (lgF x)))) args s 0 0 (fun q => b ≤ q)) (F0 m 5 ls []) := by
    intro n9
    induction n9 with
    | zero => intro mm ee hn; exact absurd hn (Nat.not_lt_zero _)
    | succ n9 ih =>
      intro mm ee hn hI H locs hh ls hl
      have hee := lgI_e hI
      have ih3 := ih
      refine lv_dload_n hx hb dX10_logOf_5 rfl (lv_at hl 1 rfl) ?_
      refine lv_ldc2d hx hb hown (wk_X10_120 hE.2.1 args) dX10_logOf_6 ?_
      refine lv_dcmp hx hb dX10_logOf_9 ?_
      refine nn_cl_lt (tgt := 25) hx hb dX10_logOf_10 (by decide) (fun h4 => ?_) (fun h4 => ?_)
      ·
        have hex := lgI_x hI h4
        have h12 : l12 mm := ⟨hI.1, lgI_lt hI h4⟩
        exact loop25 mm ee (hex) (h12) _ _ hh ls (lv_sub hl [0, 1, 2] rfl)
      ·
        have h10 := Classical.not_not.mp h4
        refine lv_dload_n hx hb dX10_logOf_13 rfl (lv_at hl 1 rfl) ?_
        refine lv_ldc2d hx hb hown (wk_X10_120 hE.2.1 args) dX10_logOf_14 ?_
        refine lv_ddiv hx hb dX10_logOf_17 (db.n (K := 1060) (by unfold db; have hg := half_bits (lgI_ge hI h10) (by have := hI.2.1; omega); have := hI.2.1; rw [hg]; omega) (by decide)) ?_
        refine lv_dstore_n (lv' := [(2, .double (FP.ddiv mm 4611686018427387904)), (4, .int (nI ee)), (0, .double x)]) hx hb dX10_logOf_18 rfl hl (by decide) rfl (fun ls hl => ?_)
        refine nn_iinc (x := ee) (d := 1) (lv' := [(4, .int (nI (ee + 1))), (2, .double (FP.ddiv mm 4611686018427387904)), (0, .double x)]) hx hb dX10_logOf_19 hl (k := 1) rfl (by decide) (by decide) rfl (fun ls hl => ?_)
        refine lv_goto (tgt := 5) hx hb dX10_logOf_22 (by decide) ?_
        exact ih3 (FP.ddiv mm 4611686018427387904) (ee + 1) (by have := lgI_e hI; omega) (lgI_s hI h10) _ _ hh ls (lv_sub hl [0, 1, 2] rfl)
  exact loop5 ((40 - 0) + 1) x 0 (by omega) (lgI_0 hxo) _ _ hh ls (lv_sub hl [0, 1, 2] rfl)
set_option maxHeartbeats 4000000 in
set_option maxRecDepth 100000 in
/-- reference: log -/
theorem m_log (l : Launch) (Γ : Gm) (b M : Nat) (mem : Nat → va_E) {cd nd cz wz iz vz md wh sd sk ps fc : Nat} {x : UInt64} (hM : 138 ≤ M) (fM : mem 115 = .inr (9, [.int (nI cd), .int (nI nd), .ref (b + 116), .ref (b + 117), .ref (b + 118), .ref (b + 119), .int (nI cz), .ref (b + 120), .int (nI wz), .int (nI iz), .int (nI vz), .ref (b + 121), .ref (b + 122), .ref (b + 123), .ref (b + 124), .ref (b + 125), .ref (b + 126), .ref (b + 127), .ref (b + 128), .ref (b + 129), .int (nI md), .ref (b + 130), .ref (b + 131), .int (nI wh), .ref (b + 132), .ref (b + 133), .int (nI sd), .int (nI sk), .int (nI ps), .int (nI fc), .ref (b + 134), .ref (b + 135)])) (hlo : rge (FP.dcmp x FP.dconst1) → rle (FP.dcmp x 9218868437227405311) → lgOK x) : Ct l yX10_log (.code yX10_log cX10_log 3 (some .double)) ({ frames := 1, cells := 0, slots := 0, locals := 31 } : Room) Γ b M [.ref (b + 115), .double x] mem (fun u => u 115 = .inr (9, [.int (nI 0), .int (nI nd), .ref (b + 116), .ref (b + 117), .ref (b + 118), .ref (b + 119), .int (nI cz), .ref (b + 120), .int (nI wz), .int (nI iz), .int (nI vz), .ref (b + 121), .ref (b + 122), .ref (b + 123), .ref (b + 124), .ref (b + 125), .ref (b + 126), .ref (b + 127), .ref (b + 128), .ref (b + 129), .int (nI md), .ref (b + 130), .ref (b + 131), .int (nI wh), .ref (b + 132), .ref (b + 133), .int (nI sd), .int (nI sk), .int (nI ps), .int (nI fc), .ref (b + 134), .ref (b + 135)]) ∧ ∀ j, j ≠ 115 → u j = mem j) (some (.double (lgX x))) := by
  refine mm_enter (cc := cX10_log) (by decide) (Nat.le_of_ble_eq_true rfl) ?_
  intro p e s m args below meth c ls hx hb hml hown hr hlocks hname hE hh hl
  have hl : lv_has ls 3 [(0, .ref (b + 115)), (1, .double x)] := hl
  have hfr : ∀ j, j ≠ 115 → mem j = mem j := fun j _ => rfl
  refine lv_aload_n hx hb dX10_log_0 rfl (lv_at hl 0 rfl) ?_
  refine lv_iconst (v := (nI 0)) hx hb dX10_log_1 (by decide) ?_
  refine gp_X10_code (fs' := [.int (nI 0), .int (nI nd), .ref (b + 116), .ref (b + 117), .ref (b + 118), .ref (b + 119), .int (nI cz), .ref (b + 120), .int (nI wz), .int (nI iz), .int (nI vz), .ref (b + 121), .ref (b + 122), .ref (b + 123), .ref (b + 124), .ref (b + 125), .ref (b + 126), .ref (b + 127), .ref (b + 128), .ref (b + 129), .int (nI md), .ref (b + 130), .ref (b + 131), .int (nI wh), .ref (b + 132), .ref (b + 133), .int (nI sd), .int (nI sk), .int (nI ps), .int (nI fc), .ref (b + 134), .ref (b + 135)]) hx hb hE hown hh (by omega) fM rfl rfl (show 0 < 32 by decide) rfl dX10_log_2 (fun H locs mem1 f2 k3 hh => ?_)
  have hfr4 : ∀ j, j ≠ 115 → mem1 j = mem j := fun j c0 => (k3 j (by omega)).trans (hfr j c0)
  refine lv_dload_n hx hb dX10_log_5 rfl (lv_at hl 1 rfl) ?_
  refine lv_dconst1 hx hb dX10_log_6 ?_
  refine lv_dcmp hx hb dX10_log_7 ?_
  refine nn_cl_lt (tgt := 26) hx hb dX10_log_8 (by decide) (fun h5 => ?_) (fun h5 => ?_)
  ·
    have hq := lgX_1 h5
    refine lv_ldc2d hx hb hown (wk_X10_132 hE.2.1 args) dX10_log_26 ?_
    exact mm_dret hx hb hr hlocks hE hh (by rw [hq]) (⟨f2, hfr4⟩) dX10_log_29
  ·
    have g1 := Classical.not_not.mp h5
    refine lv_dload_n hx hb dX10_log_11 rfl (lv_at hl 1 rfl) ?_
    refine lv_ldc2d hx hb hown (wk_X10_126 hE.2.1 args) dX10_log_12 ?_
    refine lv_dcmp hx hb dX10_log_15 ?_
    refine nn_cg_gt (tgt := 26) hx hb dX10_log_16 (by decide) (fun h6 => ?_) (fun h6 => ?_)
    ·
      have hq := lgX_2 h6
      refine lv_ldc2d hx hb hown (wk_X10_132 hE.2.1 args) dX10_log_26 ?_
      exact mm_dret hx hb hr hlocks hE hh (by rw [hq]) (⟨f2, hfr4⟩) dX10_log_29
    ·
      have g2 := Classical.not_not.mp h6
      have hq := lgX_y g1 g2
      refine lv_dload_n hx hb dX10_log_19 rfl (lv_at hl 1 rfl) ?_
      refine mm_S0r (As := [.double x]) (rest := []) hx hb hml hown hE hl.1 hh (kc_X10_128 hE.2.1 ⟨Nat.le_of_ble_eq_true rfl, Nat.le_of_ble_eq_true rfl⟩) (c_X10_logOf l Γ b M mem1 (x := x) (hlo g1 g2)) rfl rfl (Nat.le_of_ble_eq_true rfl) dX10_log_20 rfl rfl (fun H locs hh => ?_)
      refine lv_goto (tgt := 29) hx hb dX10_log_23 (by decide) ?_
      exact mm_dret hx hb hr hlocks hE hh (by rw [hq]) (⟨f2, hfr4⟩) dX10_log_29
set_option maxHeartbeats 4000000 in
set_option maxRecDepth 100000 in
/-- reference: product -/
theorem c_X10_product (l : Launch) (Γ : Gm) (b M : Nat) (mem : Nat → va_E) {a a2 i j L L2 : Nat} {f g : Nat → UInt32} (hM : a < M) (hM2 : a2 < M) (fa : mem a = aF Γ L f) (fb2 : mem a2 = aF Γ L2 g) (hi : i + 4 ≤ L) (hj : j + 4 ≤ L2) (hL : L ≤ 256) (hL2 : L2 ≤ 256) (hf : gdF f) (hg : gdF g) : Ct l yX10_product (.code yX10_product cX10_product 6 (some .float)) ({ frames := 0, cells := 0, slots := 0, locals := 0 } : Room) Γ b M [.ref (b + a), .int (nI i), .ref (b + a2), .int (nI j)] mem (fun u => u = mem) (some (.float (pr4 f i g j 4))) := by
  refine mm_enter (cc := cX10_product) (by decide) (Nat.le_of_ble_eq_true rfl) ?_
  intro p e s m args below meth c ls hx hb hml hown hr hlocks hname hE hh hl
  have hl : lv_has ls 6 [(0, .ref (b + a)), (1, .int (nI i)), (2, .ref (b + a2)), (3, .int (nI j))] := hl
  refine lv_fconst0 hx hb dX10_product_0 ?_
  refine lv_fstore (lv' := [(4, .float FP.fconst0), (0, .ref (b + a)), (1, .int (nI i)), (2, .ref (b + a2)), (3, .int (nI j))]) hx hb dX10_product_1 hl (by decide) rfl (fun ls hl => ?_)
  refine lv_iconst (v := (nI 0)) hx hb dX10_product_3 (by decide) ?_
  refine lv_istore (lv' := [(5, .int (nI 0)), (4, .float FP.fconst0), (0, .ref (b + a)), (1, .int (nI i)), (2, .ref (b + a2)), (3, .int (nI j))]) hx hb dX10_product_4 hl (by decide) rfl (fun ls hl => ?_)
  have loop6 : ∀ (n9 : Nat) (k : Nat), (4 - k) < n9 → (k ≤ 4) → ∀ (H : Heap) (locs : List Loc), GH Γ b M mem s H locs → ∀ (ls : Array Slot), lv_has ls 6 [(5, .int (nI k)), (4, .float (pr4 f i g j k)), (0, .ref (b + a)), (1, .int (nI i)), (2, .ref (b + a2)), (3, .int (nI j))] → W p l e ({ frames := 0, cells := 0, slots := 0, locals := 0 } : Room) s m args below meth c H locs 0 0 (MQ below (QC Γ b M (fun u => u = mem) (some (.float (pr4 f i g j 4)))) args s 0 0 (fun q => b ≤ q)) (F0 m 6 ls []) := by
    intro n9
    induction n9 with
    | zero => intro k hn; exact absurd hn (Nat.not_lt_zero _)
    | succ n9 ih =>
      intro k hn hk H locs hh ls hl
      have ih1 := ih
      refine lv_iload hx hb dX10_product_6 (lv_at hl 0 rfl) ?_
      refine lv_iconst (v := (nI 4)) hx hb dX10_product_8 (by decide) ?_
      refine nn_icmp_ge (tgt := 36) hx hb dX10_product_9 (by decide) (by omega) (by omega) (fun h2 => ?_) (fun h2 => ?_)
      ·
        obtain rfl : k = 4 := by omega
        refine lv_fload hx hb dX10_product_36 (lv_at hl 1 rfl) ?_
        exact mm_fret hx hb hr hlocks hE hh (rfl) (rfl) dX10_product_38
      ·
        refine lv_fload hx hb dX10_product_12 (lv_at hl 1 rfl) ?_
        refine lv_aload_n hx hb dX10_product_14 rfl (lv_at hl 2 rfl) ?_
        refine lv_iload_n hx hb dX10_product_15 rfl (lv_at hl 3 rfl) ?_
        refine lv_iload hx hb dX10_product_16 (lv_at hl 0 rfl) ?_
        refine nn_iadd hx hb dX10_product_18 ?_
        refine mm_fald hx hb hE hh (by omega) fa (by omega) (by omega) dX10_product_19 ?_
        refine lv_aload_n hx hb dX10_product_20 rfl (lv_at hl 4 rfl) ?_
        refine lv_iload_n hx hb dX10_product_21 rfl (lv_at hl 5 rfl) ?_
        refine lv_iload hx hb dX10_product_22 (lv_at hl 0 rfl) ?_
        refine nn_iadd hx hb dX10_product_24 ?_
        refine mm_fald hx hb hE hh (by omega) fb2 (by omega) (by omega) dX10_product_25 ?_
        refine lv_fmul hx hb dX10_product_26 ((((hf (i + k)).mul (hg (j + k)) (by decide) (by decide)).up (show _ ≤ 200 by decide)).n (by decide)) ?_
        refine lv_fadd hx hb dX10_product_27 ((pr4_fb hf hg i j (k + 1) (by omega)).n (by omega)) ?_
        refine lv_fstore (lv' := [(4, .float (FP.fadd (pr4 f i g j k) (FP.fmul (f (i + k)) (g (j + k))))), (5, .int (nI k)), (0, .ref (b + a)), (1, .int (nI i)), (2, .ref (b + a2)), (3, .int (nI j))]) hx hb dX10_product_28 hl (by decide) rfl (fun ls hl => ?_)
        refine nn_iinc (x := k) (d := 1) (lv' := [(5, .int (nI (k + 1))), (4, .float (FP.fadd (pr4 f i g j k) (FP.fmul (f (i + k)) (g (j + k))))), (0, .ref (b + a)), (1, .int (nI i)), (2, .ref (b + a2)), (3, .int (nI j))]) hx hb dX10_product_30 hl (k := 1) rfl (by decide) (by decide) rfl (fun ls hl => ?_)
        refine lv_goto (tgt := 6) hx hb dX10_product_33 (by decide) ?_
        exact ih1 (k + 1) (by omega) (by omega) _ _ hh ls (lv_sub hl [0, 1, 2, 3, 4, 5] rfl)
  exact loop6 ((4 - 0) + 1) 0 (by omega) (by omega) _ _ hh ls (lv_sub hl [0, 1, 2, 3, 4, 5] rfl)
set_option maxHeartbeats 4000000 in
set_option maxRecDepth 100000 in
/-- reference: termsOf 0 -/
theorem m_termsOf0 (l : Launch) (Γ : Gm) (b M : Nat) (mem : Nat → va_E) {cd nd cz wz iz vz md wh sd sk ps fc : Nat}  (hM : 138 ≤ M) (fM : mem 115 = .inr (9, [.int (nI cd), .int (nI nd), .ref (b + 116), .ref (b + 117), .ref (b + 118), .ref (b + 119), .int (nI cz), .ref (b + 120), .int (nI wz), .int (nI iz), .int (nI vz), .ref (b + 121), .ref (b + 122), .ref (b + 123), .ref (b + 124), .ref (b + 125), .ref (b + 126), .ref (b + 127), .ref (b + 128), .ref (b + 129), .int (nI md), .ref (b + 130), .ref (b + 131), .int (nI wh), .ref (b + 132), .ref (b + 133), .int (nI sd), .int (nI sk), .int (nI ps), .int (nI fc), .ref (b + 134), .ref (b + 135)])) : Ct l yX10_termsOf (.code yX10_termsOf cX10_termsOf 2 (some .int)) ({ frames := 0, cells := 0, slots := 0, locals := 0 } : Room) Γ b M [.ref (b + 115), .int (nI 0)] mem (fun u => u = mem) (some (.int (nI wz))) := by
  refine mm_enter (cc := cX10_termsOf) (by decide) (Nat.le_of_ble_eq_true rfl) ?_
  intro p e s m args below meth c ls hx hb hml hown hr hlocks hname hE hh hl
  have hl : lv_has ls 2 [(0, .ref (b + 115)), (1, .int (nI 0))] := hl
  refine lv_iload_n hx hb dX10_termsOf_0 rfl (lv_at hl 1 rfl) ?_
  refine nn_if_ne (tgt := 11) hx hb dX10_termsOf_1 (by decide) (by omega) (fun h1 => ?_) (fun h1 => ?_)
  ·
    exact absurd h1 (by decide)
  ·
    refine lv_aload_n hx hb dX10_termsOf_4 rfl (lv_at hl 0 rfl) ?_
    refine gf_X10_words hx hb hE hown hh (by omega) fM rfl dX10_termsOf_5 ?_
    refine lv_goto (tgt := 15) hx hb dX10_termsOf_8 (by decide) ?_
    exact mm_iret hx hb hr hlocks hE hh (rfl) (rfl) dX10_termsOf_15
set_option maxHeartbeats 4000000 in
set_option maxRecDepth 100000 in
/-- reference: termsOf 1 -/
theorem m_termsOf1 (l : Launch) (Γ : Gm) (b M : Nat) (mem : Nat → va_E) {cd nd cz wz iz vz md wh sd sk ps fc : Nat}  (hM : 138 ≤ M) (fM : mem 115 = .inr (9, [.int (nI cd), .int (nI nd), .ref (b + 116), .ref (b + 117), .ref (b + 118), .ref (b + 119), .int (nI cz), .ref (b + 120), .int (nI wz), .int (nI iz), .int (nI vz), .ref (b + 121), .ref (b + 122), .ref (b + 123), .ref (b + 124), .ref (b + 125), .ref (b + 126), .ref (b + 127), .ref (b + 128), .ref (b + 129), .int (nI md), .ref (b + 130), .ref (b + 131), .int (nI wh), .ref (b + 132), .ref (b + 133), .int (nI sd), .int (nI sk), .int (nI ps), .int (nI fc), .ref (b + 134), .ref (b + 135)])) : Ct l yX10_termsOf (.code yX10_termsOf cX10_termsOf 2 (some .int)) ({ frames := 0, cells := 0, slots := 0, locals := 0 } : Room) Γ b M [.ref (b + 115), .int (nI 1)] mem (fun u => u = mem) (some (.int (nI iz))) := by
  refine mm_enter (cc := cX10_termsOf) (by decide) (Nat.le_of_ble_eq_true rfl) ?_
  intro p e s m args below meth c ls hx hb hml hown hr hlocks hname hE hh hl
  have hl : lv_has ls 2 [(0, .ref (b + 115)), (1, .int (nI 1))] := hl
  refine lv_iload_n hx hb dX10_termsOf_0 rfl (lv_at hl 1 rfl) ?_
  refine nn_if_ne (tgt := 11) hx hb dX10_termsOf_1 (by decide) (by omega) (fun h1 => ?_) (fun h1 => ?_)
  ·
    refine lv_aload_n hx hb dX10_termsOf_11 rfl (lv_at hl 0 rfl) ?_
    refine gf_X10_impacts hx hb hE hown hh (by omega) fM rfl dX10_termsOf_12 ?_
    exact mm_iret hx hb hr hlocks hE hh (rfl) (rfl) dX10_termsOf_15
  ·
    exact absurd h1 (by decide)
set_option maxHeartbeats 4000000 in
set_option maxRecDepth 100000 in
/-- reference: lengthOf -/
theorem c_X10_lengthOf (l : Launch) (Γ : Gm) (b M : Nat) (mem : Nat → va_E) {cd nd cz wz iz vz md wh sd sk ps fc : Nat} {d : Nat} {cn : Nat → Nat → Nat} (hM : 138 ≤ M) (fM : mem 115 = .inr (9, [.int (nI cd), .int (nI nd), .ref (b + 116), .ref (b + 117), .ref (b + 118), .ref (b + 119), .int (nI cz), .ref (b + 120), .int (nI wz), .int (nI iz), .int (nI vz), .ref (b + 121), .ref (b + 122), .ref (b + 123), .ref (b + 124), .ref (b + 125), .ref (b + 126), .ref (b + 127), .ref (b + 128), .ref (b + 129), .int (nI md), .ref (b + 130), .ref (b + 131), .int (nI wh), .ref (b + 132), .ref (b + 133), .int (nI sd), .int (nI sk), .int (nI ps), .int (nI fc), .ref (b + 134), .ref (b + 135)])) (g116 : mem 116 = aN Γ 192 (fl12 cn)) (hd : d < 16) : Ct l yX10_lengthOf (.code yX10_lengthOf cX10_lengthOf 4 (some .int)) ({ frames := 0, cells := 0, slots := 0, locals := 0 } : Room) Γ b M [.ref (b + 115), .int (nI d)] mem (fun u => u = mem) (some (.int (nI (suN (cn d) 12)))) := by
  refine mm_enter (cc := cX10_lengthOf) (by decide) (Nat.le_of_ble_eq_true rfl) ?_
  intro p e s m args below meth c ls hx hb hml hown hr hlocks hname hE hh hl
  have hl : lv_has ls 4 [(0, .ref (b + 115)), (1, .int (nI d))] := hl
  refine lv_iconst (v := (nI 0)) hx hb dX10_lengthOf_0 (by decide) ?_
  refine lv_istore_n (lv' := [(2, .int (nI 0)), (0, .ref (b + 115)), (1, .int (nI d))]) hx hb dX10_lengthOf_1 rfl hl (by decide) rfl (fun ls hl => ?_)
  refine lv_iconst (v := (nI 0)) hx hb dX10_lengthOf_2 (by decide) ?_
  refine lv_istore_n (lv' := [(3, .int (nI 0)), (2, .int (nI 0)), (0, .ref (b + 115)), (1, .int (nI d))]) hx hb dX10_lengthOf_3 rfl hl (by decide) rfl (fun ls hl => ?_)
  have loop4 : ∀ (n9 : Nat) (t : Nat), (12 - t) < n9 → (t ≤ 12) → ∀ (H : Heap) (locs : List Loc), GH Γ b M mem s H locs → ∀ (ls : Array Slot), lv_has ls 4 [(3, .int (nI t)), (2, .int (nI (suN (cn d) t))), (0, .ref (b + 115)), (1, .int (nI d))] → W p l e ({ frames := 0, cells := 0, slots := 0, locals := 0 } : Room) s m args below meth c H locs 0 0 (MQ below (QC Γ b M (fun u => u = mem) (some (.int (nI (suN (cn d) 12))))) args s 0 0 (fun q => b ≤ q)) (F0 m 4 ls []) := by
    intro n9
    induction n9 with
    | zero => intro t hn; exact absurd hn (Nat.not_lt_zero _)
    | succ n9 ih =>
      intro t hn ht H locs hh ls hl
      have ih1 := ih
      refine lv_iload_n hx hb dX10_lengthOf_4 rfl (lv_at hl 0 rfl) ?_
      refine lv_bipush (v := (nI 12)) hx hb dX10_lengthOf_5 (by decide) ?_
      refine nn_icmp_ge (tgt := 30) hx hb dX10_lengthOf_7 (by decide) (by omega) (by omega) (fun h2 => ?_) (fun h2 => ?_)
      ·
        obtain rfl : t = 12 := by omega
        refine lv_iload_n hx hb dX10_lengthOf_30 rfl (lv_at hl 1 rfl) ?_
        exact mm_iret hx hb hr hlocks hE hh (rfl) (rfl) dX10_lengthOf_31
      ·
        refine lv_iload_n hx hb dX10_lengthOf_10 rfl (lv_at hl 1 rfl) ?_
        refine lv_aload_n hx hb dX10_lengthOf_11 rfl (lv_at hl 2 rfl) ?_
        refine gf_X10_counts hx hb hE hown hh (by omega) fM rfl dX10_lengthOf_12 ?_
        refine lv_bipush (v := (nI 12)) hx hb dX10_lengthOf_15 (by decide) ?_
        refine lv_iload_n hx hb dX10_lengthOf_17 rfl (lv_at hl 3 rfl) ?_
        refine nn_imul hx hb dX10_lengthOf_18 ?_
        refine lv_iload_n hx hb dX10_lengthOf_19 rfl (lv_at hl 0 rfl) ?_
        refine nn_iadd hx hb dX10_lengthOf_20 ?_
        refine mm_iald hx hb hE hh (by omega) g116 (by omega) (by decide) dX10_lengthOf_21 ?_
        have hv21 : (fl12 cn) ((12 * d) + t) = cn d t := fl12_at _ (by omega)
        rw [hv21]
        refine nn_iadd hx hb dX10_lengthOf_22 ?_
        refine lv_istore_n (lv' := [(2, .int (nI ((suN (cn d) t) + (cn d t)))), (3, .int (nI t)), (0, .ref (b + 115)), (1, .int (nI d))]) hx hb dX10_lengthOf_23 rfl hl (by decide) rfl (fun ls hl => ?_)
        refine nn_iinc (x := t) (d := 1) (lv' := [(3, .int (nI (t + 1))), (2, .int (nI ((suN (cn d) t) + (cn d t)))), (0, .ref (b + 115)), (1, .int (nI d))]) hx hb dX10_lengthOf_24 hl (k := 1) rfl (by decide) (by decide) rfl (fun ls hl => ?_)
        refine lv_goto (tgt := 4) hx hb dX10_lengthOf_27 (by decide) ?_
        exact ih1 (t + 1) (by omega) (by omega) _ _ hh ls (lv_sub hl [0, 1, 2, 3] rfl)
  exact loop4 ((12 - 0) + 1) 0 (by omega) (by omega) _ _ hh ls (lv_sub hl [0, 1, 2, 3] rfl)
set_option maxHeartbeats 4000000 in
set_option maxRecDepth 100000 in
/-- reference: impactOf -/
theorem c_X10_impactOf (l : Launch) (Γ : Gm) (b M : Nat) (mem : Nat → va_E) {cd nd cz wz iz vz md wh sd sk ps fc : Nat} {d t : Nat} {wt : Nat → Nat → UInt32} (hM : 138 ≤ M) (fM : mem 115 = .inr (9, [.int (nI cd), .int (nI nd), .ref (b + 116), .ref (b + 117), .ref (b + 118), .ref (b + 119), .int (nI cz), .ref (b + 120), .int (nI wz), .int (nI iz), .int (nI vz), .ref (b + 121), .ref (b + 122), .ref (b + 123), .ref (b + 124), .ref (b + 125), .ref (b + 126), .ref (b + 127), .ref (b + 128), .ref (b + 129), .int (nI md), .ref (b + 130), .ref (b + 131), .int (nI wh), .ref (b + 132), .ref (b + 133), .int (nI sd), .int (nI sk), .int (nI ps), .int (nI fc), .ref (b + 134), .ref (b + 135)])) (g117 : mem 117 = aF Γ 192 (fl12 wt)) (hnd : nd ≤ 16) (hd : d < nd) (ht : t < 12) (hwt : ∀ d t, fb 148 (wt d t)) : Ct l yX10_impactOf (.code yX10_impactOf cX10_impactOf 6 (some .int)) ({ frames := 0, cells := 0, slots := 0, locals := 0 } : Room) Γ b M [.ref (b + 115), .int (nI d), .int (nI t)] mem (fun u => u = mem) (some (.int (imF (wt d t) (gwF wt nd)))) := by
  refine mm_enter (cc := cX10_impactOf) (by decide) (Nat.le_of_ble_eq_true rfl) ?_
  intro p e s m args below meth c ls hx hb hml hown hr hlocks hname hE hh hl
  have hl : lv_has ls 6 [(0, .ref (b + 115)), (1, .int (nI d)), (2, .int (nI t))] := hl
  refine lv_aload_n hx hb dX10_impactOf_0 rfl (lv_at hl 0 rfl) ?_
  refine gf_X10_weights hx hb hE hown hh (by omega) fM rfl dX10_impactOf_1 ?_
  refine lv_bipush (v := (nI 12)) hx hb dX10_impactOf_4 (by decide) ?_
  refine lv_iload_n hx hb dX10_impactOf_6 rfl (lv_at hl 1 rfl) ?_
  refine nn_imul hx hb dX10_impactOf_7 ?_
  refine lv_iload_n hx hb dX10_impactOf_8 rfl (lv_at hl 2 rfl) ?_
  refine nn_iadd hx hb dX10_impactOf_9 ?_
  refine mm_fald hx hb hE hh (by omega) g117 (by omega) (by decide) dX10_impactOf_10 ?_
  have hv10 : (fl12 wt) ((12 * d) + t) = wt d t := fl12_at _ (by omega)
  rw [hv10]
  refine lv_fstore_n (lv' := [(3, .float (wt d t)), (0, .ref (b + 115)), (1, .int (nI d)), (2, .int (nI t))]) hx hb dX10_impactOf_11 rfl hl (by decide) rfl (fun ls hl => ?_)
  refine lv_fload_n hx hb dX10_impactOf_12 rfl (lv_at hl 0 rfl) ?_
  refine lv_fconst0 hx hb dX10_impactOf_13 ?_
  refine lv_fcmp hx hb dX10_impactOf_14 ?_
  refine nn_cl_gt (tgt := 20) hx hb dX10_impactOf_15 (by decide) (fun h1 => ?_) (fun h1 => ?_)
  ·
    have g1 := h1
    have g2 := gw_pos hwt hd ht h1
    refine lv_fconst0 hx hb dX10_impactOf_20 ?_
    refine lv_fstore (lv' := [(4, .float FP.fconst0), (3, .float (wt d t)), (0, .ref (b + 115)), (1, .int (nI d)), (2, .int (nI t))]) hx hb dX10_impactOf_21 hl (by decide) rfl (fun ls hl => ?_)
    refine lv_iconst (v := (nI 0)) hx hb dX10_impactOf_23 (by decide) ?_
    refine lv_istore (lv' := [(5, .int (nI 0)), (4, .float FP.fconst0), (3, .float (wt d t)), (0, .ref (b + 115)), (1, .int (nI d)), (2, .int (nI t))]) hx hb dX10_impactOf_24 hl (by decide) rfl (fun ls hl => ?_)
    have loop26 : ∀ (n9 : Nat) (k : Nat), (12 * nd - k) < n9 → (k ≤ 12 * nd) → ∀ (H : Heap) (locs : List Loc), GH Γ b M mem s H locs → ∀ (ls : Array Slot), lv_has ls 6 [(5, .int (nI k)), (4, .float (mgF (fl12 wt) k)), (3, .float (wt d t)), (0, .ref (b + 115)), (1, .int (nI d)), (2, .int (nI t))] → W p l e ({ frames := 0, cells := 0, slots := 0, locals := 0 } : Room) s m args below meth c H locs 0 0 (MQ below (QC Γ b M (fun u => u = mem) (some (.int (imF (wt d t) (gwF wt nd))))) args s 0 0 (fun q => b ≤ q)) (F0 m 26 ls []) := by
      intro n9
      induction n9 with
      | zero => intro k hn; exact absurd hn (Nat.not_lt_zero _)
      | succ n9 ih =>
        intro k hn hk H locs hh ls hl
        have ih2 := ih
        refine lv_iload hx hb dX10_impactOf_26 (lv_at hl 0 rfl) ?_
        refine lv_bipush (v := (nI 12)) hx hb dX10_impactOf_28 (by decide) ?_
        refine lv_aload_n hx hb dX10_impactOf_30 rfl (lv_at hl 3 rfl) ?_
        refine gf_X10_documents hx hb hE hown hh (by omega) fM rfl dX10_impactOf_31 ?_
        refine nn_imul hx hb dX10_impactOf_34 ?_
        refine nn_icmp_ge (tgt := 71) hx hb dX10_impactOf_35 (by decide) (by omega) (by omega) (fun h3 => ?_) (fun h3 => ?_)
        ·
          obtain rfl : k = 12 * nd := by omega
          have hgw := mgF_all wt nd
          refine lv_fload_n hx hb dX10_impactOf_71 rfl (lv_at hl 2 rfl) ?_
          refine lv_fload hx hb dX10_impactOf_72 (lv_at hl 1 rfl) ?_
          refine lv_fdiv hx hb dX10_impactOf_74 (by rw [hgw]; exact im_n1 ((hwt d t).up (by decide)) ((gwF_ok hwt nd).2.up (by decide)) g2) ?_
          refine lv_ldcf hx hb hown (wk_X10_148 hE.2.1 args) dX10_impactOf_75 ?_
          refine lv_fmul hx hb dX10_impactOf_77 (by rw [hgw]; exact im_n2 (im_n1 ((hwt d t).up (by decide)) ((gwF_ok hwt nd).2.up (by decide)) g2)) ?_
          refine lv_ldcf hx hb hown (wk_X10_149 hE.2.1 args) dX10_impactOf_78 ?_
          refine lv_fadd hx hb dX10_impactOf_80 (by rw [hgw]; exact im_n3 (im_n2 (im_n1 ((hwt d t).up (by decide)) ((gwF_ok hwt nd).2.up (by decide)) g2))) ?_
          refine lv_f2i hx hb dX10_impactOf_81 ?_
          exact mm_iret hx hb hr hlocks hE hh (by rw [hgw]; unfold imF; rw [if_pos ⟨g1, g2⟩]) (rfl) dX10_impactOf_82
        ·
          refine lv_aload_n hx hb dX10_impactOf_38 rfl (lv_at hl 3 rfl) ?_
          refine gf_X10_weights hx hb hE hown hh (by omega) fM rfl dX10_impactOf_39 ?_
          refine lv_iload hx hb dX10_impactOf_42 (lv_at hl 0 rfl) ?_
          refine mm_fald hx hb hE hh (by omega) g117 (by omega) (by decide) dX10_impactOf_44 ?_
          refine lv_fload hx hb dX10_impactOf_45 (lv_at hl 1 rfl) ?_
          refine lv_fcmp hx hb dX10_impactOf_47 ?_
          refine nn_cl_le (tgt := 61) hx hb dX10_impactOf_48 (by decide) (fun h4 => ?_) (fun h4 => ?_)
          ·
            have hq : mgF (fl12 wt) (k + 1) = mgF (fl12 wt) k := if_neg h4
            refine lv_fload hx hb dX10_impactOf_61 (lv_at hl 1 rfl) ?_
            refine lv_fstore (lv' := [(4, .float (mgF (fl12 wt) k)), (5, .int (nI k)), (3, .float (wt d t)), (0, .ref (b + 115)), (1, .int (nI d)), (2, .int (nI t))]) hx hb dX10_impactOf_63 hl (by decide) rfl (fun ls hl => ?_)
            refine nn_iinc (x := k) (d := 1) (lv' := [(5, .int (nI (k + 1))), (4, .float (mgF (fl12 wt) k)), (3, .float (wt d t)), (0, .ref (b + 115)), (1, .int (nI d)), (2, .int (nI t))]) hx hb dX10_impactOf_65 hl (k := 1) rfl (by decide) (by decide) rfl (fun ls hl => ?_)
            refine lv_goto (tgt := 26) hx hb dX10_impactOf_68 (by decide) ?_
            exact ih2 (k + 1) (by omega) (by omega) _ _ hh ls (lv_sub hl [0, 1, 2, 3, 4, 5] (by rw [hq]; rfl))
          ·
            have hq : mgF (fl12 wt) (k + 1) = fl12 wt k := if_pos (Classical.not_not.mp h4)
            refine lv_aload_n hx hb dX10_impactOf_51 rfl (lv_at hl 3 rfl) ?_
            refine gf_X10_weights hx hb hE hown hh (by omega) fM rfl dX10_impactOf_52 ?_
            refine lv_iload hx hb dX10_impactOf_55 (lv_at hl 0 rfl) ?_
            refine mm_fald hx hb hE hh (by omega) g117 (by omega) (by decide) dX10_impactOf_57 ?_
            refine lv_goto (tgt := 63) hx hb dX10_impactOf_58 (by decide) ?_
            refine lv_fstore (lv' := [(4, .float ((fl12 wt) k)), (5, .int (nI k)), (3, .float (wt d t)), (0, .ref (b + 115)), (1, .int (nI d)), (2, .int (nI t))]) hx hb dX10_impactOf_63 hl (by decide) rfl (fun ls hl => ?_)
            refine nn_iinc (x := k) (d := 1) (lv' := [(5, .int (nI (k + 1))), (4, .float ((fl12 wt) k)), (3, .float (wt d t)), (0, .ref (b + 115)), (1, .int (nI d)), (2, .int (nI t))]) hx hb dX10_impactOf_65 hl (k := 1) rfl (by decide) (by decide) rfl (fun ls hl => ?_)
            refine lv_goto (tgt := 26) hx hb dX10_impactOf_68 (by decide) ?_
            exact ih2 (k + 1) (by omega) (by omega) _ _ hh ls (lv_sub hl [0, 1, 2, 3, 4, 5] (by rw [hq]; rfl))
    exact loop26 ((12 * nd - 0) + 1) 0 (by omega) (by omega) _ _ hh ls (lv_sub hl [0, 1, 2, 3, 4, 5] rfl)
  ·
    have hq : imF (wt d t) (gwF wt nd) = 0 := if_neg (fun q => h1 q.1)
    refine lv_iconst (v := (nI 0)) hx hb dX10_impactOf_18 (by decide) ?_
    exact mm_iret hx hb hr hlocks hE hh (by rw [hq]; rfl) (rfl) dX10_impactOf_19
