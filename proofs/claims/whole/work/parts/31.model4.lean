def inW (cn : Nat → Nat → Nat) (wm : Nat → Nat) (d : Nat) : Nat → Bool := fun k => decide (0 < cn d (wm k))
def inI (wt : Nat → Nat → UInt32) (im : Nat → Nat) (nd d : Nat) : Nat → Bool := fun k => decide (¬ imF (wt d (im k)) (gwF wt nd) ≤ 0)
def wQ (cn : Nat → Nat → Nat) (ln wm : Nat → Nat) (nd d : Nat) : Nat → UInt64 := fun k => wV cn ln wm nd k d
def iQ (wt : Nat → Nat → UInt32) (im iw : Nat → Nat) (nd d : Nat) : Nat → UInt64 := fun k => iV wt im iw nd k d
def anB (c : Nat → Bool) : Nat → Bool
  | 0 => false
  | n + 1 => anB c n || c n
theorem anB_y {c : Nat → Bool} {n : Nat} (h : anB c n = true) : anB c (n + 1) = true := by unfold anB; rw [h]; rfl
theorem anB_t {c : Nat → Bool} {n : Nat} (h : c n = true) : anB c (n + 1) = true := by unfold anB; rw [h, Bool.or_true]
theorem anB_f {c : Nat → Bool} {n : Nat} (h : anB c n = false) (h2 : c n = false) : anB c (n + 1) = false := by unfold anB; rw [h, h2]; rfl
theorem iq_mul {w : Nat} {x : Int32} (hw : 1 ≤ w ∧ w ≤ 100) (hx : ¬ x ≤ 0) : FP.dmul (FP.i2d (nI w)) (FP.i2d x) = FP.l2d ((nI w).toInt64 * x.toInt64) := by
  show FP.Core.dmul (FP.Core.i2d (nI w)) (FP.Core.i2d x) = FP.Core.l2d _
  have hx0 : 0 < x.toInt := by
    have h1 := mt Int32.le_iff_toInt_le.mpr hx
    rw [Int32.toInt_zero] at h1
    omega
  have h2 : x.toInt < 2147483648 := Int32.toInt_lt x
  have e1 := nI_64 (show w < 2 ^ 31 by omega)
  have e2 : x.toInt64.toInt = x.toInt := Int32.toInt_toInt64 x
  have h3 : (w : Int) * x.toInt ≤ 100 * x.toInt := Int.mul_le_mul_of_nonneg_right (by omega) (by omega)
  have h4 : 0 ≤ (w : Int) * x.toInt := Int.mul_nonneg (by omega) (by omega)
  rw [FP.Core.i2d_l2d, FP.Core.i2d_l2d]
  refine FP.Core.dmul_l2d (sm_nI (by omega)) ?_ (fun q => ?_) (fun q => ?_) ?_ ?_
  · unfold FP.Core.Small53; rw [e2]; omega
  · rw [q] at e1; have h5 : (0 : Int64).toInt = 0 := rfl; omega
  · rw [q] at e2; have h5 : (0 : Int64).toInt = 0 := rfl; omega
  · rw [e1, e2]; omega
  · rw [e1, e2]; omega
theorem pr4_fl (vf : Nat → UInt32) (tf : Nat → Nat → UInt32) (i d j : Nat) (hj : j + 4 ≤ 16) : ∀ n, n ≤ 4 → pr4 vf i (fl16 tf) (16 * d + j) n = pr4 vf i (tf d) j n
  | 0, _ => rfl
  | n + 1, hn => by
    unfold pr4
    rw [pr4_fl vf tf i d j hj n (by omega), show 16 * d + j + n = 16 * d + (j + n) by omega, fl16_at tf (show j + n < 16 by omega)]
theorem fl16_gd {tf : Nat → Nat → UInt32} (h : ∀ d, gdF (tf d)) : gdF (fl16 tf) := fun k => h (k / 16) (k % 16)

set_option maxHeartbeats 4000000 in
set_option maxRecDepth 100000 in
/-- reference: adds, words -/
theorem m_adds0 (l : Launch) (Γ : Gm) (b M : Nat) (mem : Nat → va_E) {cd nd cz wz iz vz md wh sd sk ps fc : Nat} {d k : Nat} {cn : Nat → Nat → Nat} {ln wm : Nat → Nat}  (hM : 138 ≤ M) (fM : mem 115 = .inr (9, [.int (nI cd), .int (nI nd), .ref (b + 116), .ref (b + 117), .ref (b + 118), .ref (b + 119), .int (nI cz), .ref (b + 120), .int (nI wz), .int (nI iz), .int (nI vz), .ref (b + 121), .ref (b + 122), .ref (b + 123), .ref (b + 124), .ref (b + 125), .ref (b + 126), .ref (b + 127), .ref (b + 128), .ref (b + 129), .int (nI md), .ref (b + 130), .ref (b + 131), .int (nI wh), .ref (b + 132), .ref (b + 133), .int (nI sd), .int (nI sk), .int (nI ps), .int (nI fc), .ref (b + 134), .ref (b + 135)])) (g116 : mem 116 = aN Γ 192 (fl12 cn)) (g121 : mem 121 = aN Γ 4 wm) (hnd : nd ≤ 16) (hd : d < nd) (hcn : ∀ d t, cn d t ≤ 1000) (hlc : ∀ d t, cn d t ≤ ln d) (hln : ∀ d, ln d ≤ 12000) (hlm : ∀ d, suN (cn d) 12 = ln d) (hwm : ∀ i, wm i < 12) (hwz : wz ≤ 4) (hk : k < wz) : Ct l yX10_adds (.code yX10_adds cX10_adds 4 (some .double)) ({ frames := 2, cells := 0, slots := 0, locals := 67 } : Room) Γ b M [.ref (b + 115), .int (nI 0), .int (nI d), .int (nI k)] mem (fun u => u = mem) (some (.double (wQ cn ln wm nd d k))) := by
  refine mm_enter (cc := cX10_adds) (by decide) (Nat.le_of_ble_eq_true rfl) ?_
  intro p e s m args below meth c ls hx hb hml hown hr hlocks hname hE hh hl
  have hl : lv_has ls 4 [(0, .ref (b + 115)), (1, .int (nI 0)), (2, .int (nI d)), (3, .int (nI k))] := hl
  have hwk := hwm k
  refine lv_iload_n hx hb dX10_adds_0 rfl (lv_at hl 1 rfl) ?_
  refine nn_if_ne (tgt := 18) hx hb dX10_adds_1 (by decide) (by omega) (fun h1 => ?_) (fun h1 => ?_)
  ·
    exact absurd h1 (by decide)
  ·
    refine lv_aload_n hx hb dX10_adds_4 rfl (lv_at hl 0 rfl) ?_
    refine lv_iload_n hx hb dX10_adds_5 rfl (lv_at hl 2 rfl) ?_
    refine lv_aload_n hx hb dX10_adds_6 rfl (lv_at hl 0 rfl) ?_
    refine gf_X10_word hx hb hE hown hh (by omega) fM rfl dX10_adds_7 ?_
    refine lv_iload_n hx hb dX10_adds_10 rfl (lv_at hl 3 rfl) ?_
    refine mm_iald hx hb hE hh (by omega) g121 (by omega) (by decide) dX10_adds_11 ?_
    refine mm_V0r (As := [.int (nI d), .int (nI (wm k))]) (rest := []) hx hb hml hown hE hl.1 hh (kc_X10_154 hE.2.1 ⟨Nat.le_of_ble_eq_true rfl, Nat.le_of_ble_eq_true rfl⟩) (c_X10_addsWord l Γ b M mem (cd := cd) (nd := nd) (cz := cz) (wz := wz) (iz := iz) (vz := vz) (md := md) (wh := wh) (sd := sd) (sk := sk) (ps := ps) (fc := fc) (d := d) (t := wm k) (by omega) fM g116 (by omega) (by omega) (by omega) (hcn) (hlc) (hln) (hlm)) rfl (by omega) fM rfl rfl (Nat.le_of_ble_eq_true rfl) dX10_adds_12 rfl rfl (fun H locs hh => ?_)
    refine lv_goto (tgt := 38) hx hb dX10_adds_15 (by decide) ?_
    exact mm_dret hx hb hr hlocks hE hh (rfl) (rfl) dX10_adds_38
set_option maxHeartbeats 4000000 in
set_option maxRecDepth 100000 in
/-- reference: adds, impacts -/
theorem m_adds1 (l : Launch) (Γ : Gm) (b M : Nat) (mem : Nat → va_E) {cd nd cz wz iz vz md wh sd sk ps fc : Nat} {d k : Nat} {wt : Nat → Nat → UInt32} {im iw : Nat → Nat}  (hM : 138 ≤ M) (fM : mem 115 = .inr (9, [.int (nI cd), .int (nI nd), .ref (b + 116), .ref (b + 117), .ref (b + 118), .ref (b + 119), .int (nI cz), .ref (b + 120), .int (nI wz), .int (nI iz), .int (nI vz), .ref (b + 121), .ref (b + 122), .ref (b + 123), .ref (b + 124), .ref (b + 125), .ref (b + 126), .ref (b + 127), .ref (b + 128), .ref (b + 129), .int (nI md), .ref (b + 130), .ref (b + 131), .int (nI wh), .ref (b + 132), .ref (b + 133), .int (nI sd), .int (nI sk), .int (nI ps), .int (nI fc), .ref (b + 134), .ref (b + 135)])) (g117 : mem 117 = aF Γ 192 (fl12 wt)) (g122 : mem 122 = aN Γ 4 im) (g123 : mem 123 = aN Γ 4 iw) (hnd : nd ≤ 16) (hd : d < nd) (hwt : ∀ d t, fb 148 (wt d t)) (him : ∀ i, im i < 12) (hiz : iz ≤ 4) (hiw : ∀ i, i < iz → 1 ≤ iw i ∧ iw i ≤ 100) (hk : k < iz) (hin : inI wt im nd d k = true) : Ct l yX10_adds (.code yX10_adds cX10_adds 4 (some .double)) ({ frames := 1, cells := 0, slots := 0, locals := 25 } : Room) Γ b M [.ref (b + 115), .int (nI 1), .int (nI d), .int (nI k)] mem (fun u => u = mem) (some (.double (iQ wt im iw nd d k))) := by
  refine mm_enter (cc := cX10_adds) (by decide) (Nat.le_of_ble_eq_true rfl) ?_
  intro p e s m args below meth c ls hx hb hml hown hr hlocks hname hE hh hl
  have hl : lv_has ls 4 [(0, .ref (b + 115)), (1, .int (nI 1)), (2, .int (nI d)), (3, .int (nI k))] := hl
  have hik := him k
  have hwk := hiw k hk
  refine lv_iload_n hx hb dX10_adds_0 rfl (lv_at hl 1 rfl) ?_
  refine nn_if_ne (tgt := 18) hx hb dX10_adds_1 (by decide) (by omega) (fun h1 => ?_) (fun h1 => ?_)
  ·
    refine lv_aload_n hx hb dX10_adds_18 rfl (lv_at hl 0 rfl) ?_
    refine gf_X10_weight hx hb hE hown hh (by omega) fM rfl dX10_adds_19 ?_
    refine lv_iload_n hx hb dX10_adds_22 rfl (lv_at hl 3 rfl) ?_
    refine mm_iald hx hb hE hh (by omega) g123 (by omega) (by decide) dX10_adds_23 ?_
    refine lv_i2d hx hb dX10_adds_24 ?_
    refine lv_aload_n hx hb dX10_adds_25 rfl (lv_at hl 0 rfl) ?_
    refine lv_iload_n hx hb dX10_adds_26 rfl (lv_at hl 2 rfl) ?_
    refine lv_aload_n hx hb dX10_adds_27 rfl (lv_at hl 0 rfl) ?_
    refine gf_X10_impact hx hb hE hown hh (by omega) fM rfl dX10_adds_28 ?_
    refine lv_iload_n hx hb dX10_adds_31 rfl (lv_at hl 3 rfl) ?_
    refine mm_iald hx hb hE hh (by omega) g122 (by omega) (by decide) dX10_adds_32 ?_
    refine mm_V0r (As := [.int (nI d), .int (nI (im k))]) (rest := [.double (FP.i2d (nI (iw k)))]) hx hb hml hown hE hl.1 hh (kc_X10_150 hE.2.1 ⟨Nat.le_of_ble_eq_true rfl, Nat.le_of_ble_eq_true rfl⟩) (c_X10_impactOf l Γ b M mem (cd := cd) (nd := nd) (cz := cz) (wz := wz) (iz := iz) (vz := vz) (md := md) (wh := wh) (sd := sd) (sk := sk) (ps := ps) (fc := fc) (d := d) (t := im k) (by omega) fM g117 (by omega) (by omega) (by omega) (hwt)) rfl (by omega) fM rfl rfl (Nat.le_of_ble_eq_true rfl) dX10_adds_33 rfl rfl (fun H locs hh => ?_)
    refine lv_i2d hx hb dX10_adds_36 ?_
    refine lv_dmul hx hb dX10_adds_37 (((db_i2d _).mul (db_i2d _) (by decide) (by decide)).n (by decide)) ?_
    exact mm_dret hx hb hr hlocks hE hh ((congrArg Value.double (iq_mul hwk (of_decide_eq_true hin))).symm) (rfl) dX10_adds_38
  ·
    exact absurd h1 (by decide)
set_option maxHeartbeats 4000000 in
set_option maxRecDepth 100000 in
/-- reference: isIn, words -/
theorem m_isIn0 (l : Launch) (Γ : Gm) (b M : Nat) (mem : Nat → va_E) {cd nd cz wz iz vz md wh sd sk ps fc : Nat} {d k : Nat} {cn : Nat → Nat → Nat} {ln wm : Nat → Nat}  (hM : 138 ≤ M) (fM : mem 115 = .inr (9, [.int (nI cd), .int (nI nd), .ref (b + 116), .ref (b + 117), .ref (b + 118), .ref (b + 119), .int (nI cz), .ref (b + 120), .int (nI wz), .int (nI iz), .int (nI vz), .ref (b + 121), .ref (b + 122), .ref (b + 123), .ref (b + 124), .ref (b + 125), .ref (b + 126), .ref (b + 127), .ref (b + 128), .ref (b + 129), .int (nI md), .ref (b + 130), .ref (b + 131), .int (nI wh), .ref (b + 132), .ref (b + 133), .int (nI sd), .int (nI sk), .int (nI ps), .int (nI fc), .ref (b + 134), .ref (b + 135)])) (g116 : mem 116 = aN Γ 192 (fl12 cn)) (g121 : mem 121 = aN Γ 4 wm) (hnd : nd ≤ 16) (hd : d < nd) (hcn : ∀ d t, cn d t ≤ 1000) (hlc : ∀ d t, cn d t ≤ ln d) (hln : ∀ d, ln d ≤ 12000) (hlm : ∀ d, suN (cn d) 12 = ln d) (hwm : ∀ i, wm i < 12) (hwz : wz ≤ 4) (hk : k < wz) : Ct l yX10_isIn (.code yX10_isIn cX10_isIn 4 (some .boolean)) ({ frames := 0, cells := 0, slots := 0, locals := 0 } : Room) Γ b M [.ref (b + 115), .int (nI 0), .int (nI d), .int (nI k)] mem (fun u => u = mem) (some (.int (bI (inW cn wm d k)))) := by
  refine mm_enter (cc := cX10_isIn) (by decide) (Nat.le_of_ble_eq_true rfl) ?_
  intro p e s m args below meth c ls hx hb hml hown hr hlocks hname hE hh hl
  have hl : lv_has ls 4 [(0, .ref (b + 115)), (1, .int (nI 0)), (2, .int (nI d)), (3, .int (nI k))] := hl
  have hwk := hwm k
  have hck := hcn d (wm k)
  refine lv_iload_n hx hb dX10_isIn_0 rfl (lv_at hl 1 rfl) ?_
  refine nn_if_ne (tgt := 31) hx hb dX10_isIn_1 (by decide) (by omega) (fun h1 => ?_) (fun h1 => ?_)
  ·
    exact absurd h1 (by decide)
  ·
    refine lv_aload_n hx hb dX10_isIn_4 rfl (lv_at hl 0 rfl) ?_
    refine gf_X10_counts hx hb hE hown hh (by omega) fM rfl dX10_isIn_5 ?_
    refine lv_bipush (v := (nI 12)) hx hb dX10_isIn_8 (by decide) ?_
    refine lv_iload_n hx hb dX10_isIn_10 rfl (lv_at hl 2 rfl) ?_
    refine nn_imul hx hb dX10_isIn_11 ?_
    refine lv_aload_n hx hb dX10_isIn_12 rfl (lv_at hl 0 rfl) ?_
    refine gf_X10_word hx hb hE hown hh (by omega) fM rfl dX10_isIn_13 ?_
    refine lv_iload_n hx hb dX10_isIn_16 rfl (lv_at hl 3 rfl) ?_
    refine mm_iald hx hb hE hh (by omega) g121 (by omega) (by decide) dX10_isIn_17 ?_
    refine nn_iadd hx hb dX10_isIn_18 ?_
    refine mm_iald hx hb hE hh (by omega) g116 (by omega) (by decide) dX10_isIn_19 ?_
    have hv19 : (fl12 cn) ((12 * d) + (wm k)) = cn d (wm k) := fl12_at _ (by omega)
    rw [hv19]
    refine nn_if_le (tgt := 27) hx hb dX10_isIn_20 (by decide) (by omega) (fun h2 => ?_) (fun h2 => ?_)
    ·
      have hq : inW cn wm d k = false := decide_eq_false (by omega)
      refine lv_iconst (v := (nI 0)) hx hb dX10_isIn_27 (by decide) ?_
      refine lv_goto (tgt := 50) hx hb dX10_isIn_28 (by decide) ?_
      exact mm_zret hx hb hr hlocks hE hh (by rw [hq]; rfl) (rfl) rfl dX10_isIn_50
    ·
      have hq : inW cn wm d k = true := decide_eq_true (by omega)
      refine lv_iconst (v := (nI 1)) hx hb dX10_isIn_23 (by decide) ?_
      refine lv_goto (tgt := 50) hx hb dX10_isIn_24 (by decide) ?_
      exact mm_zret hx hb hr hlocks hE hh (by rw [hq]; rfl) (rfl) rfl dX10_isIn_50
set_option maxHeartbeats 4000000 in
set_option maxRecDepth 100000 in
/-- reference: isIn, impacts -/
theorem m_isIn1 (l : Launch) (Γ : Gm) (b M : Nat) (mem : Nat → va_E) {cd nd cz wz iz vz md wh sd sk ps fc : Nat} {d k : Nat} {wt : Nat → Nat → UInt32} {im iw : Nat → Nat}  (hM : 138 ≤ M) (fM : mem 115 = .inr (9, [.int (nI cd), .int (nI nd), .ref (b + 116), .ref (b + 117), .ref (b + 118), .ref (b + 119), .int (nI cz), .ref (b + 120), .int (nI wz), .int (nI iz), .int (nI vz), .ref (b + 121), .ref (b + 122), .ref (b + 123), .ref (b + 124), .ref (b + 125), .ref (b + 126), .ref (b + 127), .ref (b + 128), .ref (b + 129), .int (nI md), .ref (b + 130), .ref (b + 131), .int (nI wh), .ref (b + 132), .ref (b + 133), .int (nI sd), .int (nI sk), .int (nI ps), .int (nI fc), .ref (b + 134), .ref (b + 135)])) (g117 : mem 117 = aF Γ 192 (fl12 wt)) (g122 : mem 122 = aN Γ 4 im) (g123 : mem 123 = aN Γ 4 iw) (hnd : nd ≤ 16) (hd : d < nd) (hwt : ∀ d t, fb 148 (wt d t)) (him : ∀ i, im i < 12) (hiz : iz ≤ 4) (hiw : ∀ i, i < iz → 1 ≤ iw i ∧ iw i ≤ 100) (hk : k < iz) : Ct l yX10_isIn (.code yX10_isIn cX10_isIn 4 (some .boolean)) ({ frames := 1, cells := 0, slots := 0, locals := 25 } : Room) Γ b M [.ref (b + 115), .int (nI 1), .int (nI d), .int (nI k)] mem (fun u => u = mem) (some (.int (bI (inI wt im nd d k)))) := by
  refine mm_enter (cc := cX10_isIn) (by decide) (Nat.le_of_ble_eq_true rfl) ?_
  intro p e s m args below meth c ls hx hb hml hown hr hlocks hname hE hh hl
  have hl : lv_has ls 4 [(0, .ref (b + 115)), (1, .int (nI 1)), (2, .int (nI d)), (3, .int (nI k))] := hl
  have hik := him k
  refine lv_iload_n hx hb dX10_isIn_0 rfl (lv_at hl 1 rfl) ?_
  refine nn_if_ne (tgt := 31) hx hb dX10_isIn_1 (by decide) (by omega) (fun h1 => ?_) (fun h1 => ?_)
  ·
    refine lv_aload_n hx hb dX10_isIn_31 rfl (lv_at hl 0 rfl) ?_
    refine lv_iload_n hx hb dX10_isIn_32 rfl (lv_at hl 2 rfl) ?_
    refine lv_aload_n hx hb dX10_isIn_33 rfl (lv_at hl 0 rfl) ?_
    refine gf_X10_impact hx hb hE hown hh (by omega) fM rfl dX10_isIn_34 ?_
    refine lv_iload_n hx hb dX10_isIn_37 rfl (lv_at hl 3 rfl) ?_
    refine mm_iald hx hb hE hh (by omega) g122 (by omega) (by decide) dX10_isIn_38 ?_
    refine mm_V0r (As := [.int (nI d), .int (nI (im k))]) (rest := []) hx hb hml hown hE hl.1 hh (kc_X10_150 hE.2.1 ⟨Nat.le_of_ble_eq_true rfl, Nat.le_of_ble_eq_true rfl⟩) (c_X10_impactOf l Γ b M mem (cd := cd) (nd := nd) (cz := cz) (wz := wz) (iz := iz) (vz := vz) (md := md) (wh := wh) (sd := sd) (sk := sk) (ps := ps) (fc := fc) (d := d) (t := im k) (by omega) fM g117 (by omega) (by omega) (by omega) (hwt)) rfl (by omega) fM rfl rfl (Nat.le_of_ble_eq_true rfl) dX10_isIn_39 rfl rfl (fun H locs hh => ?_)
    refine lv_if_le (tgt := 49) hx hb dX10_isIn_42 (by decide) (fun h2 => ?_) (fun h2 => ?_)
    ·
      have hq : inI wt im nd d k = false := decide_eq_false (fun q => q h2)
      refine lv_iconst (v := (nI 0)) hx hb dX10_isIn_49 (by decide) ?_
      exact mm_zret hx hb hr hlocks hE hh (by rw [hq]; rfl) (rfl) rfl dX10_isIn_50
    ·
      have hq : inI wt im nd d k = true := decide_eq_true h2
      refine lv_iconst (v := (nI 1)) hx hb dX10_isIn_45 (by decide) ?_
      refine lv_goto (tgt := 50) hx hb dX10_isIn_46 (by decide) ?_
      exact mm_zret hx hb hr hlocks hE hh (by rw [hq]; rfl) (rfl) rfl dX10_isIn_50
  ·
    exact absurd h1 (by decide)
set_option maxHeartbeats 4000000 in
set_option maxRecDepth 100000 in
/-- reference: matches 0 -/
theorem m_matches0 (l : Launch) (Γ : Gm) (b M : Nat) (mem : Nat → va_E) {cd nd cz wz iz vz md wh sd sk ps fc : Nat} {d : Nat} {cn : Nat → Nat → Nat} {ln wm : Nat → Nat}  (hM : 138 ≤ M) (fM : mem 115 = .inr (9, [.int (nI cd), .int (nI nd), .ref (b + 116), .ref (b + 117), .ref (b + 118), .ref (b + 119), .int (nI cz), .ref (b + 120), .int (nI wz), .int (nI iz), .int (nI vz), .ref (b + 121), .ref (b + 122), .ref (b + 123), .ref (b + 124), .ref (b + 125), .ref (b + 126), .ref (b + 127), .ref (b + 128), .ref (b + 129), .int (nI md), .ref (b + 130), .ref (b + 131), .int (nI wh), .ref (b + 132), .ref (b + 133), .int (nI sd), .int (nI sk), .int (nI ps), .int (nI fc), .ref (b + 134), .ref (b + 135)])) (g116 : mem 116 = aN Γ 192 (fl12 cn)) (g121 : mem 121 = aN Γ 4 wm) (hnd : nd ≤ 16) (hd : d < nd) (hcn : ∀ d t, cn d t ≤ 1000) (hlc : ∀ d t, cn d t ≤ ln d) (hln : ∀ d, ln d ≤ 12000) (hlm : ∀ d, suN (cn d) 12 = ln d) (hwm : ∀ i, wm i < 12) (hwz : wz ≤ 4) : Ct l yX10_matches (.code yX10_matches cX10_matches 5 (some .boolean)) ({ frames := 1, cells := 0, slots := 0, locals := 23 } : Room) Γ b M [.ref (b + 115), .int (nI 0), .int (nI d)] mem (fun u => u = mem) (some (.int (bI (anB (inW cn wm d) wz)))) := by
  refine mm_enter (cc := cX10_matches) (by decide) (Nat.le_of_ble_eq_true rfl) ?_
  intro p e s m args below meth c ls hx hb hml hown hr hlocks hname hE hh hl
  have hl : lv_has ls 5 [(0, .ref (b + 115)), (1, .int (nI 0)), (2, .int (nI d))] := hl
  refine lv_iload_n hx hb dX10_matches_0 rfl (lv_at hl 1 rfl) ?_
  refine lv_iconst (v := (nI 2)) hx hb dX10_matches_1 (by decide) ?_
  refine nn_icmp_ne (tgt := 27) hx hb dX10_matches_2 (by decide) (by omega) (by omega) (fun h1 => ?_) (fun h1 => ?_)
  ·
    refine lv_iconst (v := (nI 0)) hx hb dX10_matches_27 (by decide) ?_
    refine lv_istore_n (lv' := [(3, .int (nI 0)), (0, .ref (b + 115)), (1, .int (nI 0)), (2, .int (nI d))]) hx hb dX10_matches_28 rfl hl (by decide) rfl (fun ls hl => ?_)
    refine lv_iconst (v := (nI 0)) hx hb dX10_matches_29 (by decide) ?_
    refine lv_istore (lv' := [(4, .int (nI 0)), (3, .int (nI 0)), (0, .ref (b + 115)), (1, .int (nI 0)), (2, .int (nI d))]) hx hb dX10_matches_30 hl (by decide) rfl (fun ls hl => ?_)
    have loop32 : ∀ (n9 : Nat) (k : Nat), (wz - k) < n9 → (k ≤ wz) → ∀ (H : Heap) (locs : List Loc), GH Γ b M mem s H locs → ∀ (ls : Array Slot), lv_has ls 5 [(4, .int (nI k)), (3, .int (bI (anB (inW cn wm d) k))), (0, .ref (b + 115)), (1, .int (nI 0)), (2, .int (nI d))] → W p l e ({ frames := 1, cells := 0, slots := 0, locals := 23 } : Room) s m args below meth c H locs 0 0 (MQ below (QC Γ b M (fun u => u = mem) (some (.int (bI (anB (inW cn wm d) wz))))) args s 0 0 (fun q => b ≤ q)) (F0 m 32 ls []) := by
      intro n9
      induction n9 with
      | zero => intro k hn; exact absurd hn (Nat.not_lt_zero _)
      | succ n9 ih =>
        intro k hn hk H locs hh ls hl
        have ih2 := ih
        refine lv_iload hx hb dX10_matches_32 (lv_at hl 0 rfl) ?_
        refine lv_aload_n hx hb dX10_matches_34 rfl (lv_at hl 2 rfl) ?_
        refine lv_iload_n hx hb dX10_matches_35 rfl (lv_at hl 3 rfl) ?_
        refine mm_V0r (As := [.int (nI 0)]) (rest := [.int (nI k)]) hx hb hml hown hE hl.1 hh (kc_X10_158 hE.2.1 ⟨Nat.le_of_ble_eq_true rfl, Nat.le_of_ble_eq_true rfl⟩) (m_termsOf0 l Γ b M mem (cd := cd) (nd := nd) (cz := cz) (wz := wz) (iz := iz) (vz := vz) (md := md) (wh := wh) (sd := sd) (sk := sk) (ps := ps) (fc := fc) (by omega) fM) rfl (by omega) fM rfl rfl (Nat.le_of_ble_eq_true rfl) dX10_matches_36 rfl rfl (fun H locs hh => ?_)
        refine nn_icmp_ge (tgt := 69) hx hb dX10_matches_39 (by decide) (by omega) (by omega) (fun h3 => ?_) (fun h3 => ?_)
        ·
          obtain rfl : wz = k := by omega
          refine lv_iload_n hx hb dX10_matches_69 rfl (lv_at hl 1 rfl) ?_
          exact mm_zret hx hb hr hlocks hE hh (rfl) (rfl) (bI_nar _) dX10_matches_70
        ·
          refine lv_iload_n hx hb dX10_matches_42 rfl (lv_at hl 1 rfl) ?_
          refine nn_bne (tgt := 57) hx hb dX10_matches_43 (by decide) (fun h4 => ?_) (fun h4 => ?_)
          ·
            have hq := anB_y h4
            refine lv_iconst (v := (nI 1)) hx hb dX10_matches_57 (by decide) ?_
            refine lv_goto (tgt := 62) hx hb dX10_matches_58 (by decide) ?_
            refine lv_istore_n (lv' := [(3, .int (nI 1)), (4, .int (nI k)), (0, .ref (b + 115)), (1, .int (nI 0)), (2, .int (nI d))]) hx hb dX10_matches_62 rfl hl (by decide) rfl (fun ls hl => ?_)
            refine nn_iinc (x := k) (d := 1) (lv' := [(4, .int (nI (k + 1))), (3, .int (nI 1)), (0, .ref (b + 115)), (1, .int (nI 0)), (2, .int (nI d))]) hx hb dX10_matches_63 hl (k := 1) rfl (by decide) (by decide) rfl (fun ls hl => ?_)
            refine lv_goto (tgt := 32) hx hb dX10_matches_66 (by decide) ?_
            exact ih2 (k + 1) (by omega) (by omega) _ _ hh ls (lv_sub hl [0, 1, 2, 3, 4] (by rw [hq]; rfl))
          ·
            have g1 := h4
            refine lv_aload_n hx hb dX10_matches_46 rfl (lv_at hl 2 rfl) ?_
            refine lv_iload_n hx hb dX10_matches_47 rfl (lv_at hl 3 rfl) ?_
            refine lv_iload_n hx hb dX10_matches_48 rfl (lv_at hl 4 rfl) ?_
            refine lv_iload hx hb dX10_matches_49 (lv_at hl 0 rfl) ?_
            refine mm_V0r (As := [.int (nI 0), .int (nI d), .int (nI k)]) (rest := []) hx hb hml hown hE hl.1 hh (kc_X10_161 hE.2.1 ⟨Nat.le_of_ble_eq_true rfl, Nat.le_of_ble_eq_true rfl⟩) (m_isIn0 l Γ b M mem (cd := cd) (nd := nd) (cz := cz) (wz := wz) (iz := iz) (vz := vz) (md := md) (wh := wh) (sd := sd) (sk := sk) (ps := ps) (fc := fc) (d := d) (k := k) (wm := wm) (by omega) fM g116 g121 (by omega) (by omega) (hcn) (hlc) (hln) (hlm) (hwm) (by omega) (by omega)) rfl (by omega) fM rfl rfl (Nat.le_of_ble_eq_true rfl) dX10_matches_51 rfl rfl (fun H locs hh => ?_)
            refine nn_beq (tgt := 61) hx hb dX10_matches_54 (by decide) (fun h5 => ?_) (fun h5 => ?_)
            ·
              have hq := anB_f g1 h5
              refine lv_iconst (v := (nI 0)) hx hb dX10_matches_61 (by decide) ?_
              refine lv_istore_n (lv' := [(3, .int (nI 0)), (4, .int (nI k)), (0, .ref (b + 115)), (1, .int (nI 0)), (2, .int (nI d))]) hx hb dX10_matches_62 rfl hl (by decide) rfl (fun ls hl => ?_)
              refine nn_iinc (x := k) (d := 1) (lv' := [(4, .int (nI (k + 1))), (3, .int (nI 0)), (0, .ref (b + 115)), (1, .int (nI 0)), (2, .int (nI d))]) hx hb dX10_matches_63 hl (k := 1) rfl (by decide) (by decide) rfl (fun ls hl => ?_)
              refine lv_goto (tgt := 32) hx hb dX10_matches_66 (by decide) ?_
              exact ih2 (k + 1) (by omega) (by omega) _ _ hh ls (lv_sub hl [0, 1, 2, 3, 4] (by rw [hq]; rfl))
            ·
              have hq : (anB (inW cn wm d) (k + 1)) = true := anB_t h5
              refine lv_iconst (v := (nI 1)) hx hb dX10_matches_57 (by decide) ?_
              refine lv_goto (tgt := 62) hx hb dX10_matches_58 (by decide) ?_
              refine lv_istore_n (lv' := [(3, .int (nI 1)), (4, .int (nI k)), (0, .ref (b + 115)), (1, .int (nI 0)), (2, .int (nI d))]) hx hb dX10_matches_62 rfl hl (by decide) rfl (fun ls hl => ?_)
              refine nn_iinc (x := k) (d := 1) (lv' := [(4, .int (nI (k + 1))), (3, .int (nI 1)), (0, .ref (b + 115)), (1, .int (nI 0)), (2, .int (nI d))]) hx hb dX10_matches_63 hl (k := 1) rfl (by decide) (by decide) rfl (fun ls hl => ?_)
              refine lv_goto (tgt := 32) hx hb dX10_matches_66 (by decide) ?_
              exact ih2 (k + 1) (by omega) (by omega) _ _ hh ls (lv_sub hl [0, 1, 2, 3, 4] (by rw [hq]; rfl))
    exact loop32 ((wz - 0) + 1) 0 (by omega) (by omega) _ _ hh ls (lv_sub hl [0, 1, 2, 3, 4] rfl)
  ·
    exact absurd h1 (by decide)
set_option maxHeartbeats 4000000 in
set_option maxRecDepth 100000 in
/-- reference: scoreOf 0 -/
theorem m_scoreOf0 (l : Launch) (Γ : Gm) (b M : Nat) (mem : Nat → va_E) {cd nd cz wz iz vz md wh sd sk ps fc : Nat} {d : Nat} {cn : Nat → Nat → Nat} {ln wm : Nat → Nat}  (hM : 138 ≤ M) (fM : mem 115 = .inr (9, [.int (nI cd), .int (nI nd), .ref (b + 116), .ref (b + 117), .ref (b + 118), .ref (b + 119), .int (nI cz), .ref (b + 120), .int (nI wz), .int (nI iz), .int (nI vz), .ref (b + 121), .ref (b + 122), .ref (b + 123), .ref (b + 124), .ref (b + 125), .ref (b + 126), .ref (b + 127), .ref (b + 128), .ref (b + 129), .int (nI md), .ref (b + 130), .ref (b + 131), .int (nI wh), .ref (b + 132), .ref (b + 133), .int (nI sd), .int (nI sk), .int (nI ps), .int (nI fc), .ref (b + 134), .ref (b + 135)])) (g116 : mem 116 = aN Γ 192 (fl12 cn)) (g121 : mem 121 = aN Γ 4 wm) (hnd : nd ≤ 16) (hd : d < nd) (hcn : ∀ d t, cn d t ≤ 1000) (hlc : ∀ d t, cn d t ≤ ln d) (hln : ∀ d, ln d ≤ 12000) (hlm : ∀ d, suN (cn d) 12 = ln d) (hwm : ∀ i, wm i < 12) (hwz : wz ≤ 4) : Ct l yX10_scoreOf (.code yX10_scoreOf cX10_scoreOf 9 (some .double)) ({ frames := 3, cells := 0, slots := 0, locals := 90 } : Room) Γ b M [.ref (b + 115), .int (nI 0), .int (nI d)] mem (fun u => u = mem) (some (.double (suG (inW cn wm d) (wQ cn ln wm nd d) wz))) := by
  refine mm_enter (cc := cX10_scoreOf) (by decide) (Nat.le_of_ble_eq_true rfl) ?_
  intro p e s m args below meth c ls hx hb hml hown hr hlocks hname hE hh hl
  have hl : lv_has ls 9 [(0, .ref (b + 115)), (1, .int (nI 0)), (2, .int (nI d))] := hl
  refine lv_dconst0 hx hb dX10_scoreOf_0 ?_
  refine lv_dstore_n (lv' := [(3, .double FP.dconst0), (0, .ref (b + 115)), (1, .int (nI 0)), (2, .int (nI d))]) hx hb dX10_scoreOf_1 rfl hl (by decide) rfl (fun ls hl => ?_)
  refine lv_iconst (v := (nI 0)) hx hb dX10_scoreOf_2 (by decide) ?_
  refine lv_istore (lv' := [(5, .int (nI 0)), (3, .double FP.dconst0), (0, .ref (b + 115)), (1, .int (nI 0)), (2, .int (nI d))]) hx hb dX10_scoreOf_3 hl (by decide) rfl (fun ls hl => ?_)
  have loop5 : ∀ (n9 : Nat) (k : Nat), (wz - k) < n9 → (k ≤ wz) → ∀ (H : Heap) (locs : List Loc), GH Γ b M mem s H locs → ∀ (ls : Array Slot), lv_has ls 9 [(5, .int (nI k)), (3, .double (suG (inW cn wm d) (wQ cn ln wm nd d) k)), (0, .ref (b + 115)), (1, .int (nI 0)), (2, .int (nI d))] → W p l e ({ frames := 3, cells := 0, slots := 0, locals := 90 } : Room) s m args below meth c H locs 0 0 (MQ below (QC Γ b M (fun u => u = mem) (some (.double (suG (inW cn wm d) (wQ cn ln wm nd d) wz)))) args s 0 0 (fun q => b ≤ q)) (F0 m 5 ls []) := by
    intro n9
    induction n9 with
    | zero => intro k hn; exact absurd hn (Nat.not_lt_zero _)
    | succ n9 ih =>
      intro k hn hk H locs hh ls hl
      have ih1 := ih
      refine lv_iload_n hx hb dX10_scoreOf_5 rfl (lv_at hl 3 rfl) ?_
      refine lv_iconst (v := (nI 2)) hx hb dX10_scoreOf_6 (by decide) ?_
      refine nn_icmp_eq (tgt := 52) hx hb dX10_scoreOf_7 (by decide) (by omega) (by omega) (fun h2 => ?_) (fun h2 => ?_)
      ·
        exact absurd h2 (by decide)
      ·
        refine lv_iload hx hb dX10_scoreOf_10 (lv_at hl 0 rfl) ?_
        refine lv_aload_n hx hb dX10_scoreOf_12 rfl (lv_at hl 2 rfl) ?_
        refine lv_iload_n hx hb dX10_scoreOf_13 rfl (lv_at hl 3 rfl) ?_
        refine mm_V0r (As := [.int (nI 0)]) (rest := [.int (nI k)]) hx hb hml hown hE hl.1 hh (kc_X10_158 hE.2.1 ⟨Nat.le_of_ble_eq_true rfl, Nat.le_of_ble_eq_true rfl⟩) (m_termsOf0 l Γ b M mem (cd := cd) (nd := nd) (cz := cz) (wz := wz) (iz := iz) (vz := vz) (md := md) (wh := wh) (sd := sd) (sk := sk) (ps := ps) (fc := fc) (by omega) fM) rfl (by omega) fM rfl rfl (Nat.le_of_ble_eq_true rfl) dX10_scoreOf_14 rfl rfl (fun H locs hh => ?_)
        refine nn_icmp_ge (tgt := 52) hx hb dX10_scoreOf_17 (by decide) (by omega) (by omega) (fun h3 => ?_) (fun h3 => ?_)
        ·
          obtain rfl : wz = k := by omega
          refine lv_iload_n hx hb dX10_scoreOf_52 rfl (lv_at hl 3 rfl) ?_
          refine lv_iconst (v := (nI 2)) hx hb dX10_scoreOf_53 (by decide) ?_
          refine nn_icmp_eq (tgt := 59) hx hb dX10_scoreOf_54 (by decide) (by omega) (by omega) (fun h4 => ?_) (fun h4 => ?_)
          ·
            exact absurd h4 (by decide)
          ·
            refine lv_dload_n hx hb dX10_scoreOf_57 rfl (lv_at hl 1 rfl) ?_
            exact mm_dret hx hb hr hlocks hE hh (rfl) (rfl) dX10_scoreOf_58
        ·
          refine lv_aload_n hx hb dX10_scoreOf_20 rfl (lv_at hl 2 rfl) ?_
          refine lv_iload_n hx hb dX10_scoreOf_21 rfl (lv_at hl 3 rfl) ?_
          refine lv_iload_n hx hb dX10_scoreOf_22 rfl (lv_at hl 4 rfl) ?_
          refine lv_iload hx hb dX10_scoreOf_23 (lv_at hl 0 rfl) ?_
          refine mm_V0r (As := [.int (nI 0), .int (nI d), .int (nI k)]) (rest := []) hx hb hml hown hE hl.1 hh (kc_X10_161 hE.2.1 ⟨Nat.le_of_ble_eq_true rfl, Nat.le_of_ble_eq_true rfl⟩) (m_isIn0 l Γ b M mem (cd := cd) (nd := nd) (cz := cz) (wz := wz) (iz := iz) (vz := vz) (md := md) (wh := wh) (sd := sd) (sk := sk) (ps := ps) (fc := fc) (d := d) (k := k) (wm := wm) (by omega) fM g116 g121 (by omega) (by omega) (hcn) (hlc) (hln) (hlm) (hwm) (by omega) (by omega)) rfl (by omega) fM rfl rfl (Nat.le_of_ble_eq_true rfl) dX10_scoreOf_25 rfl rfl (fun H locs hh => ?_)
          refine nn_beq (tgt := 44) hx hb dX10_scoreOf_28 (by decide) (fun h5 => ?_) (fun h5 => ?_)
          ·
            have hn1 : (suG (inW cn wm d) (wQ cn ln wm nd d) (k + 1)) = (suG (inW cn wm d) (wQ cn ln wm nd d) k) := if_neg (by rw [h5]; decide)
            refine lv_dload_n hx hb dX10_scoreOf_44 rfl (lv_at hl 1 rfl) ?_
            refine lv_dstore_n (lv' := [(3, .double (suG (inW cn wm d) (wQ cn ln wm nd d) k)), (5, .int (nI k)), (0, .ref (b + 115)), (1, .int (nI 0)), (2, .int (nI d))]) hx hb dX10_scoreOf_45 rfl hl (by decide) rfl (fun ls hl => ?_)
            refine nn_iinc (x := k) (d := 1) (lv' := [(5, .int (nI (k + 1))), (3, .double (suG (inW cn wm d) (wQ cn ln wm nd d) k)), (0, .ref (b + 115)), (1, .int (nI 0)), (2, .int (nI d))]) hx hb dX10_scoreOf_46 hl (k := 1) rfl (by decide) (by decide) rfl (fun ls hl => ?_)
            refine lv_goto (tgt := 5) hx hb dX10_scoreOf_49 (by decide) ?_
            exact ih1 (k + 1) (by omega) (by omega) _ _ hh ls (lv_sub hl [0, 1, 2, 3, 4] (by rw [hn1]; rfl))
          ·
            have g1 := h5
            have hn1 : (suG (inW cn wm d) (wQ cn ln wm nd d) (k + 1)) = FP.dadd (suG (inW cn wm d) (wQ cn ln wm nd d) k) ((wQ cn ln wm nd d) k) := if_pos h5
            refine lv_dload_n hx hb dX10_scoreOf_31 rfl (lv_at hl 1 rfl) ?_
            refine lv_aload_n hx hb dX10_scoreOf_32 rfl (lv_at hl 2 rfl) ?_
            refine lv_iload_n hx hb dX10_scoreOf_33 rfl (lv_at hl 3 rfl) ?_
            refine lv_iload_n hx hb dX10_scoreOf_34 rfl (lv_at hl 4 rfl) ?_
            refine lv_iload hx hb dX10_scoreOf_35 (lv_at hl 0 rfl) ?_
            refine mm_V0r (As := [.int (nI 0), .int (nI d), .int (nI k)]) (rest := [.double (suG (inW cn wm d) (wQ cn ln wm nd d) k)]) hx hb hml hown hE hl.1 hh (kc_X10_165 hE.2.1 ⟨Nat.le_of_ble_eq_true rfl, Nat.le_of_ble_eq_true rfl⟩) (m_adds0 l Γ b M mem (cd := cd) (nd := nd) (cz := cz) (wz := wz) (iz := iz) (vz := vz) (md := md) (wh := wh) (sd := sd) (sk := sk) (ps := ps) (fc := fc) (d := d) (k := k) (wm := wm) (by omega) fM g116 g121 (by omega) (by omega) (hcn) (hlc) (hln) (hlm) (hwm) (by omega) (by omega)) rfl (by omega) fM rfl rfl (Nat.le_of_ble_eq_true rfl) dX10_scoreOf_37 rfl rfl (fun H locs hh => ?_)
            refine lv_dadd hx hb dX10_scoreOf_40 ((hn1 ▸ (suG_db (c := (inW cn wm d)) (q := (wQ cn ln wm nd d)) (K := 1090) (by decide) (by decide) (k + 1) (by omega) (fun i9 hi9 => wV_db hnd hcn hlc hln hd)).n (by omega))) ?_
            refine lv_goto (tgt := 45) hx hb dX10_scoreOf_41 (by decide) ?_
            refine lv_dstore_n (lv' := [(3, .double (FP.dadd (suG (inW cn wm d) (wQ cn ln wm nd d) k) (wQ cn ln wm nd d k))), (5, .int (nI k)), (0, .ref (b + 115)), (1, .int (nI 0)), (2, .int (nI d))]) hx hb dX10_scoreOf_45 rfl hl (by decide) rfl (fun ls hl => ?_)
            refine nn_iinc (x := k) (d := 1) (lv' := [(5, .int (nI (k + 1))), (3, .double (FP.dadd (suG (inW cn wm d) (wQ cn ln wm nd d) k) (wQ cn ln wm nd d k))), (0, .ref (b + 115)), (1, .int (nI 0)), (2, .int (nI d))]) hx hb dX10_scoreOf_46 hl (k := 1) rfl (by decide) (by decide) rfl (fun ls hl => ?_)
            refine lv_goto (tgt := 5) hx hb dX10_scoreOf_49 (by decide) ?_
            exact ih1 (k + 1) (by omega) (by omega) _ _ hh ls (lv_sub hl [0, 1, 2, 3, 4] (by rw [hn1]; rfl))
  exact loop5 ((wz - 0) + 1) 0 (by omega) (by omega) _ _ hh ls (lv_sub hl [0, 1, 2, 3, 4] rfl)
set_option maxHeartbeats 4000000 in
set_option maxRecDepth 100000 in
/-- reference: matches 1 -/
theorem m_matches1 (l : Launch) (Γ : Gm) (b M : Nat) (mem : Nat → va_E) {cd nd cz wz iz vz md wh sd sk ps fc : Nat} {d : Nat} {wt : Nat → Nat → UInt32} {im iw : Nat → Nat}  (hM : 138 ≤ M) (fM : mem 115 = .inr (9, [.int (nI cd), .int (nI nd), .ref (b + 116), .ref (b + 117), .ref (b + 118), .ref (b + 119), .int (nI cz), .ref (b + 120), .int (nI wz), .int (nI iz), .int (nI vz), .ref (b + 121), .ref (b + 122), .ref (b + 123), .ref (b + 124), .ref (b + 125), .ref (b + 126), .ref (b + 127), .ref (b + 128), .ref (b + 129), .int (nI md), .ref (b + 130), .ref (b + 131), .int (nI wh), .ref (b + 132), .ref (b + 133), .int (nI sd), .int (nI sk), .int (nI ps), .int (nI fc), .ref (b + 134), .ref (b + 135)])) (g117 : mem 117 = aF Γ 192 (fl12 wt)) (g122 : mem 122 = aN Γ 4 im) (g123 : mem 123 = aN Γ 4 iw) (hnd : nd ≤ 16) (hd : d < nd) (hwt : ∀ d t, fb 148 (wt d t)) (him : ∀ i, im i < 12) (hiz : iz ≤ 4) (hiw : ∀ i, i < iz → 1 ≤ iw i ∧ iw i ≤ 100) : Ct l yX10_matches (.code yX10_matches cX10_matches 5 (some .boolean)) ({ frames := 2, cells := 0, slots := 0, locals := 48 } : Room) Γ b M [.ref (b + 115), .int (nI 1), .int (nI d)] mem (fun u => u = mem) (some (.int (bI (anB (inI wt im nd d) iz)))) := by
  refine mm_enter (cc := cX10_matches) (by decide) (Nat.le_of_ble_eq_true rfl) ?_
  intro p e s m args below meth c ls hx hb hml hown hr hlocks hname hE hh hl
  have hl : lv_has ls 5 [(0, .ref (b + 115)), (1, .int (nI 1)), (2, .int (nI d))] := hl
  refine lv_iload_n hx hb dX10_matches_0 rfl (lv_at hl 1 rfl) ?_
  refine lv_iconst (v := (nI 2)) hx hb dX10_matches_1 (by decide) ?_
  refine nn_icmp_ne (tgt := 27) hx hb dX10_matches_2 (by decide) (by omega) (by omega) (fun h1 => ?_) (fun h1 => ?_)
  ·
    refine lv_iconst (v := (nI 0)) hx hb dX10_matches_27 (by decide) ?_
    refine lv_istore_n (lv' := [(3, .int (nI 0)), (0, .ref (b + 115)), (1, .int (nI 1)), (2, .int (nI d))]) hx hb dX10_matches_28 rfl hl (by decide) rfl (fun ls hl => ?_)
    refine lv_iconst (v := (nI 0)) hx hb dX10_matches_29 (by decide) ?_
    refine lv_istore (lv' := [(4, .int (nI 0)), (3, .int (nI 0)), (0, .ref (b + 115)), (1, .int (nI 1)), (2, .int (nI d))]) hx hb dX10_matches_30 hl (by decide) rfl (fun ls hl => ?_)
    have loop32 : ∀ (n9 : Nat) (k : Nat), (iz - k) < n9 → (k ≤ iz) → ∀ (H : Heap) (locs : List Loc), GH Γ b M mem s H locs → ∀ (ls : Array Slot), lv_has ls 5 [(4, .int (nI k)), (3, .int (bI (anB (inI wt im nd d) k))), (0, .ref (b + 115)), (1, .int (nI 1)), (2, .int (nI d))] → W p l e ({ frames := 2, cells := 0, slots := 0, locals := 48 } : Room) s m args below meth c H locs 0 0 (MQ below (QC Γ b M (fun u => u = mem) (some (.int (bI (anB (inI wt im nd d) iz))))) args s 0 0 (fun q => b ≤ q)) (F0 m 32 ls []) := by
      intro n9
      induction n9 with
      | zero => intro k hn; exact absurd hn (Nat.not_lt_zero _)
      | succ n9 ih =>
        intro k hn hk H locs hh ls hl
        have ih2 := ih
        refine lv_iload hx hb dX10_matches_32 (lv_at hl 0 rfl) ?_
        refine lv_aload_n hx hb dX10_matches_34 rfl (lv_at hl 2 rfl) ?_
        refine lv_iload_n hx hb dX10_matches_35 rfl (lv_at hl 3 rfl) ?_
        refine mm_V0r (As := [.int (nI 1)]) (rest := [.int (nI k)]) hx hb hml hown hE hl.1 hh (kc_X10_158 hE.2.1 ⟨Nat.le_of_ble_eq_true rfl, Nat.le_of_ble_eq_true rfl⟩) (m_termsOf1 l Γ b M mem (cd := cd) (nd := nd) (cz := cz) (wz := wz) (iz := iz) (vz := vz) (md := md) (wh := wh) (sd := sd) (sk := sk) (ps := ps) (fc := fc) (by omega) fM) rfl (by omega) fM rfl rfl (Nat.le_of_ble_eq_true rfl) dX10_matches_36 rfl rfl (fun H locs hh => ?_)
        refine nn_icmp_ge (tgt := 69) hx hb dX10_matches_39 (by decide) (by omega) (by omega) (fun h3 => ?_) (fun h3 => ?_)
        ·
          obtain rfl : iz = k := by omega
          refine lv_iload_n hx hb dX10_matches_69 rfl (lv_at hl 1 rfl) ?_
          exact mm_zret hx hb hr hlocks hE hh (rfl) (rfl) (bI_nar _) dX10_matches_70
        ·
          refine lv_iload_n hx hb dX10_matches_42 rfl (lv_at hl 1 rfl) ?_
          refine nn_bne (tgt := 57) hx hb dX10_matches_43 (by decide) (fun h4 => ?_) (fun h4 => ?_)
          ·
            have hq := anB_y h4
            refine lv_iconst (v := (nI 1)) hx hb dX10_matches_57 (by decide) ?_
            refine lv_goto (tgt := 62) hx hb dX10_matches_58 (by decide) ?_
            refine lv_istore_n (lv' := [(3, .int (nI 1)), (4, .int (nI k)), (0, .ref (b + 115)), (1, .int (nI 1)), (2, .int (nI d))]) hx hb dX10_matches_62 rfl hl (by decide) rfl (fun ls hl => ?_)
            refine nn_iinc (x := k) (d := 1) (lv' := [(4, .int (nI (k + 1))), (3, .int (nI 1)), (0, .ref (b + 115)), (1, .int (nI 1)), (2, .int (nI d))]) hx hb dX10_matches_63 hl (k := 1) rfl (by decide) (by decide) rfl (fun ls hl => ?_)
            refine lv_goto (tgt := 32) hx hb dX10_matches_66 (by decide) ?_
            exact ih2 (k + 1) (by omega) (by omega) _ _ hh ls (lv_sub hl [0, 1, 2, 3, 4] (by rw [hq]; rfl))
          ·
            have g1 := h4
            refine lv_aload_n hx hb dX10_matches_46 rfl (lv_at hl 2 rfl) ?_
            refine lv_iload_n hx hb dX10_matches_47 rfl (lv_at hl 3 rfl) ?_
            refine lv_iload_n hx hb dX10_matches_48 rfl (lv_at hl 4 rfl) ?_
            refine lv_iload hx hb dX10_matches_49 (lv_at hl 0 rfl) ?_
            refine mm_V0r (As := [.int (nI 1), .int (nI d), .int (nI k)]) (rest := []) hx hb hml hown hE hl.1 hh (kc_X10_161 hE.2.1 ⟨Nat.le_of_ble_eq_true rfl, Nat.le_of_ble_eq_true rfl⟩) (m_isIn1 l Γ b M mem (cd := cd) (nd := nd) (cz := cz) (wz := wz) (iz := iz) (vz := vz) (md := md) (wh := wh) (sd := sd) (sk := sk) (ps := ps) (fc := fc) (d := d) (k := k) (im := im) (iw := iw) (by omega) fM g117 g122 g123 (by omega) (by omega) (hwt) (him) (by omega) (hiw) (by omega)) rfl (by omega) fM rfl rfl (Nat.le_of_ble_eq_true rfl) dX10_matches_51 rfl rfl (fun H locs hh => ?_)
            refine nn_beq (tgt := 61) hx hb dX10_matches_54 (by decide) (fun h5 => ?_) (fun h5 => ?_)
            ·
              have hq := anB_f g1 h5
              refine lv_iconst (v := (nI 0)) hx hb dX10_matches_61 (by decide) ?_
              refine lv_istore_n (lv' := [(3, .int (nI 0)), (4, .int (nI k)), (0, .ref (b + 115)), (1, .int (nI 1)), (2, .int (nI d))]) hx hb dX10_matches_62 rfl hl (by decide) rfl (fun ls hl => ?_)
              refine nn_iinc (x := k) (d := 1) (lv' := [(4, .int (nI (k + 1))), (3, .int (nI 0)), (0, .ref (b + 115)), (1, .int (nI 1)), (2, .int (nI d))]) hx hb dX10_matches_63 hl (k := 1) rfl (by decide) (by decide) rfl (fun ls hl => ?_)
              refine lv_goto (tgt := 32) hx hb dX10_matches_66 (by decide) ?_
              exact ih2 (k + 1) (by omega) (by omega) _ _ hh ls (lv_sub hl [0, 1, 2, 3, 4] (by rw [hq]; rfl))
            ·
              have hq : (anB (inI wt im nd d) (k + 1)) = true := anB_t h5
              refine lv_iconst (v := (nI 1)) hx hb dX10_matches_57 (by decide) ?_
              refine lv_goto (tgt := 62) hx hb dX10_matches_58 (by decide) ?_
              refine lv_istore_n (lv' := [(3, .int (nI 1)), (4, .int (nI k)), (0, .ref (b + 115)), (1, .int (nI 1)), (2, .int (nI d))]) hx hb dX10_matches_62 rfl hl (by decide) rfl (fun ls hl => ?_)
              refine nn_iinc (x := k) (d := 1) (lv' := [(4, .int (nI (k + 1))), (3, .int (nI 1)), (0, .ref (b + 115)), (1, .int (nI 1)), (2, .int (nI d))]) hx hb dX10_matches_63 hl (k := 1) rfl (by decide) (by decide) rfl (fun ls hl => ?_)
              refine lv_goto (tgt := 32) hx hb dX10_matches_66 (by decide) ?_
              exact ih2 (k + 1) (by omega) (by omega) _ _ hh ls (lv_sub hl [0, 1, 2, 3, 4] (by rw [hq]; rfl))
    exact loop32 ((iz - 0) + 1) 0 (by omega) (by omega) _ _ hh ls (lv_sub hl [0, 1, 2, 3, 4] rfl)
  ·
    exact absurd h1 (by decide)
set_option maxHeartbeats 4000000 in
set_option maxRecDepth 100000 in
/-- reference: scoreOf 1 -/
theorem m_scoreOf1 (l : Launch) (Γ : Gm) (b M : Nat) (mem : Nat → va_E) {cd nd cz wz iz vz md wh sd sk ps fc : Nat} {d : Nat} {wt : Nat → Nat → UInt32} {im iw : Nat → Nat}  (hM : 138 ≤ M) (fM : mem 115 = .inr (9, [.int (nI cd), .int (nI nd), .ref (b + 116), .ref (b + 117), .ref (b + 118), .ref (b + 119), .int (nI cz), .ref (b + 120), .int (nI wz), .int (nI iz), .int (nI vz), .ref (b + 121), .ref (b + 122), .ref (b + 123), .ref (b + 124), .ref (b + 125), .ref (b + 126), .ref (b + 127), .ref (b + 128), .ref (b + 129), .int (nI md), .ref (b + 130), .ref (b + 131), .int (nI wh), .ref (b + 132), .ref (b + 133), .int (nI sd), .int (nI sk), .int (nI ps), .int (nI fc), .ref (b + 134), .ref (b + 135)])) (g117 : mem 117 = aF Γ 192 (fl12 wt)) (g122 : mem 122 = aN Γ 4 im) (g123 : mem 123 = aN Γ 4 iw) (hnd : nd ≤ 16) (hd : d < nd) (hwt : ∀ d t, fb 148 (wt d t)) (him : ∀ i, im i < 12) (hiz : iz ≤ 4) (hiw : ∀ i, i < iz → 1 ≤ iw i ∧ iw i ≤ 100) : Ct l yX10_scoreOf (.code yX10_scoreOf cX10_scoreOf 9 (some .double)) ({ frames := 2, cells := 0, slots := 0, locals := 48 } : Room) Γ b M [.ref (b + 115), .int (nI 1), .int (nI d)] mem (fun u => u = mem) (some (.double (suG (inI wt im nd d) (iQ wt im iw nd d) iz))) := by
  refine mm_enter (cc := cX10_scoreOf) (by decide) (Nat.le_of_ble_eq_true rfl) ?_
  intro p e s m args below meth c ls hx hb hml hown hr hlocks hname hE hh hl
  have hl : lv_has ls 9 [(0, .ref (b + 115)), (1, .int (nI 1)), (2, .int (nI d))] := hl
  refine lv_dconst0 hx hb dX10_scoreOf_0 ?_
  refine lv_dstore_n (lv' := [(3, .double FP.dconst0), (0, .ref (b + 115)), (1, .int (nI 1)), (2, .int (nI d))]) hx hb dX10_scoreOf_1 rfl hl (by decide) rfl (fun ls hl => ?_)
  refine lv_iconst (v := (nI 0)) hx hb dX10_scoreOf_2 (by decide) ?_
  refine lv_istore (lv' := [(5, .int (nI 0)), (3, .double FP.dconst0), (0, .ref (b + 115)), (1, .int (nI 1)), (2, .int (nI d))]) hx hb dX10_scoreOf_3 hl (by decide) rfl (fun ls hl => ?_)
  have loop5 : ∀ (n9 : Nat) (k : Nat), (iz - k) < n9 → (k ≤ iz) → ∀ (H : Heap) (locs : List Loc), GH Γ b M mem s H locs → ∀ (ls : Array Slot), lv_has ls 9 [(5, .int (nI k)), (3, .double (suG (inI wt im nd d) (iQ wt im iw nd d) k)), (0, .ref (b + 115)), (1, .int (nI 1)), (2, .int (nI d))] → W p l e ({ frames := 2, cells := 0, slots := 0, locals := 48 } : Room) s m args below meth c H locs 0 0 (MQ below (QC Γ b M (fun u => u = mem) (some (.double (suG (inI wt im nd d) (iQ wt im iw nd d) iz)))) args s 0 0 (fun q => b ≤ q)) (F0 m 5 ls []) := by
    intro n9
    induction n9 with
    | zero => intro k hn; exact absurd hn (Nat.not_lt_zero _)
    | succ n9 ih =>
      intro k hn hk H locs hh ls hl
      have ih1 := ih
      refine lv_iload_n hx hb dX10_scoreOf_5 rfl (lv_at hl 3 rfl) ?_
      refine lv_iconst (v := (nI 2)) hx hb dX10_scoreOf_6 (by decide) ?_
      refine nn_icmp_eq (tgt := 52) hx hb dX10_scoreOf_7 (by decide) (by omega) (by omega) (fun h2 => ?_) (fun h2 => ?_)
      ·
        exact absurd h2 (by decide)
      ·
        refine lv_iload hx hb dX10_scoreOf_10 (lv_at hl 0 rfl) ?_
        refine lv_aload_n hx hb dX10_scoreOf_12 rfl (lv_at hl 2 rfl) ?_
        refine lv_iload_n hx hb dX10_scoreOf_13 rfl (lv_at hl 3 rfl) ?_
        refine mm_V0r (As := [.int (nI 1)]) (rest := [.int (nI k)]) hx hb hml hown hE hl.1 hh (kc_X10_158 hE.2.1 ⟨Nat.le_of_ble_eq_true rfl, Nat.le_of_ble_eq_true rfl⟩) (m_termsOf1 l Γ b M mem (cd := cd) (nd := nd) (cz := cz) (wz := wz) (iz := iz) (vz := vz) (md := md) (wh := wh) (sd := sd) (sk := sk) (ps := ps) (fc := fc) (by omega) fM) rfl (by omega) fM rfl rfl (Nat.le_of_ble_eq_true rfl) dX10_scoreOf_14 rfl rfl (fun H locs hh => ?_)
        refine nn_icmp_ge (tgt := 52) hx hb dX10_scoreOf_17 (by decide) (by omega) (by omega) (fun h3 => ?_) (fun h3 => ?_)
        ·
          obtain rfl : iz = k := by omega
          refine lv_iload_n hx hb dX10_scoreOf_52 rfl (lv_at hl 3 rfl) ?_
          refine lv_iconst (v := (nI 2)) hx hb dX10_scoreOf_53 (by decide) ?_
          refine nn_icmp_eq (tgt := 59) hx hb dX10_scoreOf_54 (by decide) (by omega) (by omega) (fun h4 => ?_) (fun h4 => ?_)
          ·
            exact absurd h4 (by decide)
          ·
            refine lv_dload_n hx hb dX10_scoreOf_57 rfl (lv_at hl 1 rfl) ?_
            exact mm_dret hx hb hr hlocks hE hh (rfl) (rfl) dX10_scoreOf_58
        ·
          refine lv_aload_n hx hb dX10_scoreOf_20 rfl (lv_at hl 2 rfl) ?_
          refine lv_iload_n hx hb dX10_scoreOf_21 rfl (lv_at hl 3 rfl) ?_
          refine lv_iload_n hx hb dX10_scoreOf_22 rfl (lv_at hl 4 rfl) ?_
          refine lv_iload hx hb dX10_scoreOf_23 (lv_at hl 0 rfl) ?_
          refine mm_V0r (As := [.int (nI 1), .int (nI d), .int (nI k)]) (rest := []) hx hb hml hown hE hl.1 hh (kc_X10_161 hE.2.1 ⟨Nat.le_of_ble_eq_true rfl, Nat.le_of_ble_eq_true rfl⟩) (m_isIn1 l Γ b M mem (cd := cd) (nd := nd) (cz := cz) (wz := wz) (iz := iz) (vz := vz) (md := md) (wh := wh) (sd := sd) (sk := sk) (ps := ps) (fc := fc) (d := d) (k := k) (im := im) (iw := iw) (by omega) fM g117 g122 g123 (by omega) (by omega) (hwt) (him) (by omega) (hiw) (by omega)) rfl (by omega) fM rfl rfl (Nat.le_of_ble_eq_true rfl) dX10_scoreOf_25 rfl rfl (fun H locs hh => ?_)
          refine nn_beq (tgt := 44) hx hb dX10_scoreOf_28 (by decide) (fun h5 => ?_) (fun h5 => ?_)
          ·
            have hn1 : (suG (inI wt im nd d) (iQ wt im iw nd d) (k + 1)) = (suG (inI wt im nd d) (iQ wt im iw nd d) k) := if_neg (by rw [h5]; decide)
            refine lv_dload_n hx hb dX10_scoreOf_44 rfl (lv_at hl 1 rfl) ?_
            refine lv_dstore_n (lv' := [(3, .double (suG (inI wt im nd d) (iQ wt im iw nd d) k)), (5, .int (nI k)), (0, .ref (b + 115)), (1, .int (nI 1)), (2, .int (nI d))]) hx hb dX10_scoreOf_45 rfl hl (by decide) rfl (fun ls hl => ?_)
            refine nn_iinc (x := k) (d := 1) (lv' := [(5, .int (nI (k + 1))), (3, .double (suG (inI wt im nd d) (iQ wt im iw nd d) k)), (0, .ref (b + 115)), (1, .int (nI 1)), (2, .int (nI d))]) hx hb dX10_scoreOf_46 hl (k := 1) rfl (by decide) (by decide) rfl (fun ls hl => ?_)
            refine lv_goto (tgt := 5) hx hb dX10_scoreOf_49 (by decide) ?_
            exact ih1 (k + 1) (by omega) (by omega) _ _ hh ls (lv_sub hl [0, 1, 2, 3, 4] (by rw [hn1]; rfl))
          ·
            have g1 := h5
            have hn1 : (suG (inI wt im nd d) (iQ wt im iw nd d) (k + 1)) = FP.dadd (suG (inI wt im nd d) (iQ wt im iw nd d) k) ((iQ wt im iw nd d) k) := if_pos h5
            refine lv_dload_n hx hb dX10_scoreOf_31 rfl (lv_at hl 1 rfl) ?_
            refine lv_aload_n hx hb dX10_scoreOf_32 rfl (lv_at hl 2 rfl) ?_
            refine lv_iload_n hx hb dX10_scoreOf_33 rfl (lv_at hl 3 rfl) ?_
            refine lv_iload_n hx hb dX10_scoreOf_34 rfl (lv_at hl 4 rfl) ?_
            refine lv_iload hx hb dX10_scoreOf_35 (lv_at hl 0 rfl) ?_
            refine mm_V0r (As := [.int (nI 1), .int (nI d), .int (nI k)]) (rest := [.double (suG (inI wt im nd d) (iQ wt im iw nd d) k)]) hx hb hml hown hE hl.1 hh (kc_X10_165 hE.2.1 ⟨Nat.le_of_ble_eq_true rfl, Nat.le_of_ble_eq_true rfl⟩) (m_adds1 l Γ b M mem (cd := cd) (nd := nd) (cz := cz) (wz := wz) (iz := iz) (vz := vz) (md := md) (wh := wh) (sd := sd) (sk := sk) (ps := ps) (fc := fc) (d := d) (k := k) (im := im) (iw := iw) (by omega) fM g117 g122 g123 (by omega) (by omega) (hwt) (him) (by omega) (hiw) (by omega) (g1)) rfl (by omega) fM rfl rfl (Nat.le_of_ble_eq_true rfl) dX10_scoreOf_37 rfl rfl (fun H locs hh => ?_)
            refine lv_dadd hx hb dX10_scoreOf_40 ((hn1 ▸ (suG_db (c := (inI wt im nd d)) (q := (iQ wt im iw nd d)) (K := 1090) (by decide) (by decide) (k + 1) (by omega) (fun i9 hi9 => iV_db)).n (by omega))) ?_
            refine lv_goto (tgt := 45) hx hb dX10_scoreOf_41 (by decide) ?_
            refine lv_dstore_n (lv' := [(3, .double (FP.dadd (suG (inI wt im nd d) (iQ wt im iw nd d) k) (iQ wt im iw nd d k))), (5, .int (nI k)), (0, .ref (b + 115)), (1, .int (nI 1)), (2, .int (nI d))]) hx hb dX10_scoreOf_45 rfl hl (by decide) rfl (fun ls hl => ?_)
            refine nn_iinc (x := k) (d := 1) (lv' := [(5, .int (nI (k + 1))), (3, .double (FP.dadd (suG (inI wt im nd d) (iQ wt im iw nd d) k) (iQ wt im iw nd d k))), (0, .ref (b + 115)), (1, .int (nI 1)), (2, .int (nI d))]) hx hb dX10_scoreOf_46 hl (k := 1) rfl (by decide) (by decide) rfl (fun ls hl => ?_)
            refine lv_goto (tgt := 5) hx hb dX10_scoreOf_49 (by decide) ?_
            exact ih1 (k + 1) (by omega) (by omega) _ _ hh ls (lv_sub hl [0, 1, 2, 3, 4] (by rw [hn1]; rfl))
  exact loop5 ((iz - 0) + 1) 0 (by omega) (by omega) _ _ hh ls (lv_sub hl [0, 1, 2, 3, 4] rfl)
set_option maxHeartbeats 4000000 in
set_option maxRecDepth 100000 in
/-- reference: matches 2 -/
theorem m_matches2 (l : Launch) (Γ : Gm) (b M : Nat) (mem : Nat → va_E) {cd nd cz wz iz vz md wh sd sk ps fc : Nat} {d : Nat} {tz : Nat → Nat} {tf : Nat → Nat → UInt32} {vf : Nat → UInt32}  (hM : 138 ≤ M) (fM : mem 115 = .inr (9, [.int (nI cd), .int (nI nd), .ref (b + 116), .ref (b + 117), .ref (b + 118), .ref (b + 119), .int (nI cz), .ref (b + 120), .int (nI wz), .int (nI iz), .int (nI vz), .ref (b + 121), .ref (b + 122), .ref (b + 123), .ref (b + 124), .ref (b + 125), .ref (b + 126), .ref (b + 127), .ref (b + 128), .ref (b + 129), .int (nI md), .ref (b + 130), .ref (b + 131), .int (nI wh), .ref (b + 132), .ref (b + 133), .int (nI sd), .int (nI sk), .int (nI ps), .int (nI fc), .ref (b + 134), .ref (b + 135)])) (g118 : mem 118 = aN Γ 16 tz) (hd : d < 16) (htz : ∀ d, tz d ≤ 4) (hvz : vz ≤ 3) : Ct l yX10_matches (.code yX10_matches cX10_matches 5 (some .boolean)) ({ frames := 0, cells := 0, slots := 0, locals := 0 } : Room) Γ b M [.ref (b + 115), .int (nI 2), .int (nI d)] mem (fun u => u = mem) (some (.int (bI (decide (0 < tz d ∧ 0 < vz))))) := by
  refine mm_enter (cc := cX10_matches) (by decide) (Nat.le_of_ble_eq_true rfl) ?_
  intro p e s m args below meth c ls hx hb hml hown hr hlocks hname hE hh hl
  have hl : lv_has ls 5 [(0, .ref (b + 115)), (1, .int (nI 2)), (2, .int (nI d))] := hl
  have htd := htz d
  refine lv_iload_n hx hb dX10_matches_0 rfl (lv_at hl 1 rfl) ?_
  refine lv_iconst (v := (nI 2)) hx hb dX10_matches_1 (by decide) ?_
  refine nn_icmp_ne (tgt := 27) hx hb dX10_matches_2 (by decide) (by omega) (by omega) (fun h1 => ?_) (fun h1 => ?_)
  ·
    exact absurd h1 (by decide)
  ·
    refine lv_aload_n hx hb dX10_matches_5 rfl (lv_at hl 0 rfl) ?_
    refine gf_X10_tokens hx hb hE hown hh (by omega) fM rfl dX10_matches_6 ?_
    refine lv_iload_n hx hb dX10_matches_9 rfl (lv_at hl 2 rfl) ?_
    refine mm_iald hx hb hE hh (by omega) g118 (by omega) (by decide) dX10_matches_10 ?_
    refine nn_if_le (tgt := 25) hx hb dX10_matches_11 (by decide) (by omega) (fun h2 => ?_) (fun h2 => ?_)
    ·
      refine lv_iconst (v := (nI 0)) hx hb dX10_matches_25 (by decide) ?_
      exact mm_zret hx hb hr hlocks hE hh (by simp_all [bI, nI]) (rfl) rfl dX10_matches_26
    ·
      refine lv_aload_n hx hb dX10_matches_14 rfl (lv_at hl 0 rfl) ?_
      refine gf_X10_vectors hx hb hE hown hh (by omega) fM rfl dX10_matches_15 ?_
      refine nn_if_le (tgt := 25) hx hb dX10_matches_18 (by decide) (by omega) (fun h3 => ?_) (fun h3 => ?_)
      ·
        refine lv_iconst (v := (nI 0)) hx hb dX10_matches_25 (by decide) ?_
        exact mm_zret hx hb hr hlocks hE hh (by simp_all [bI, nI]) (rfl) rfl dX10_matches_26
      ·
        refine lv_iconst (v := (nI 1)) hx hb dX10_matches_21 (by decide) ?_
        refine lv_goto (tgt := 26) hx hb dX10_matches_22 (by decide) ?_
        exact mm_zret hx hb hr hlocks hE hh (by simp_all [bI, nI]) (rfl) rfl dX10_matches_26
set_option maxHeartbeats 4000000 in
set_option maxRecDepth 100000 in
/-- reference: greater -/
theorem c_X10_greater (l : Launch) (Γ : Gm) (b M : Nat) (mem : Nat → va_E) {x y : UInt32} (hx1 : fb 250 x) (hy1 : fb 250 y) : Ct l yX10_greater (.code yX10_greater cX10_greater 2 (some .float)) ({ frames := 0, cells := 0, slots := 0, locals := 0 } : Room) Γ b M [.float x, .float y] mem (fun u => u = mem) (some (.float (gtF x y))) := by
  refine mm_enter (cc := cX10_greater) (by decide) (Nat.le_of_ble_eq_true rfl) ?_
  intro p e s m args below meth c ls hx hb hml hown hr hlocks hname hE hh hl
  have hl : lv_has ls 2 [(0, .float x), (1, .float y)] := hl
  refine lv_fload_n hx hb dX10_greater_0 rfl (lv_at hl 0 rfl) ?_
  refine lv_fload_n hx hb dX10_greater_1 rfl (lv_at hl 1 rfl) ?_
  refine lv_fcmp hx hb dX10_greater_2 ?_
  refine nn_cl_le (tgt := 8) hx hb dX10_greater_3 (by decide) (fun h1 => ?_) (fun h1 => ?_)
  ·
    refine lv_fload_n hx hb dX10_greater_8 rfl (lv_at hl 1 rfl) ?_
    refine lv_fload_n hx hb dX10_greater_9 rfl (lv_at hl 0 rfl) ?_
    refine lv_fcmp hx hb dX10_greater_10 ?_
    refine nn_cl_le (tgt := 16) hx hb dX10_greater_11 (by decide) (fun h2 => ?_) (fun h2 => ?_)
    ·
      refine lv_fload_n hx hb dX10_greater_16 rfl (lv_at hl 0 rfl) ?_
      refine lv_fconst0 hx hb dX10_greater_17 ?_
      refine lv_fcmp hx hb dX10_greater_18 ?_
      refine nn_cl_ne (tgt := 28) hx hb dX10_greater_19 (by decide) (fun h3 => ?_) (fun h3 => ?_)
      ·
        refine lv_fload_n hx hb dX10_greater_28 rfl (lv_at hl 0 rfl) ?_
        exact mm_fret hx hb hr hlocks hE hh (by simp_all [gtF]) (rfl) dX10_greater_29
      ·
        refine lv_fload_n hx hb dX10_greater_22 rfl (lv_at hl 0 rfl) ?_
        refine lv_fload_n hx hb dX10_greater_23 rfl (lv_at hl 1 rfl) ?_
        refine lv_fadd hx hb dX10_greater_24 ((hx1.add hy1 (by decide)).n (by decide)) ?_
        refine lv_goto (tgt := 29) hx hb dX10_greater_25 (by decide) ?_
        exact mm_fret hx hb hr hlocks hE hh (by simp_all [gtF]) (rfl) dX10_greater_29
    ·
      refine lv_fload_n hx hb dX10_greater_14 rfl (lv_at hl 1 rfl) ?_
      exact mm_fret hx hb hr hlocks hE hh (by simp_all [gtF]) (rfl) dX10_greater_15
  ·
    refine lv_fload_n hx hb dX10_greater_6 rfl (lv_at hl 0 rfl) ?_
    exact mm_fret hx hb hr hlocks hE hh (by simp_all [gtF]) (rfl) dX10_greater_7
set_option maxHeartbeats 4000000 in
set_option maxRecDepth 100000 in
/-- reference: scoreOf 2 -/
theorem m_scoreOf2 (l : Launch) (Γ : Gm) (b M : Nat) (mem : Nat → va_E) {cd nd cz wz iz vz md wh sd sk ps fc : Nat} {d : Nat} {tz : Nat → Nat} {tf : Nat → Nat → UInt32} {vf : Nat → UInt32}  (hM : 138 ≤ M) (fM : mem 115 = .inr (9, [.int (nI cd), .int (nI nd), .ref (b + 116), .ref (b + 117), .ref (b + 118), .ref (b + 119), .int (nI cz), .ref (b + 120), .int (nI wz), .int (nI iz), .int (nI vz), .ref (b + 121), .ref (b + 122), .ref (b + 123), .ref (b + 124), .ref (b + 125), .ref (b + 126), .ref (b + 127), .ref (b + 128), .ref (b + 129), .int (nI md), .ref (b + 130), .ref (b + 131), .int (nI wh), .ref (b + 132), .ref (b + 133), .int (nI sd), .int (nI sk), .int (nI ps), .int (nI fc), .ref (b + 134), .ref (b + 135)])) (g118 : mem 118 = aN Γ 16 tz) (g119 : mem 119 = aF Γ 256 (fl16 tf)) (g124 : mem 124 = aF Γ 12 vf) (hd : d < 16) (htz : ∀ d, tz d ≤ 4) (hvz : vz ≤ 3) (hvf : gdF vf) (htf : ∀ d, gdF (tf d)) (htp : 0 < tz d) : Ct l yX10_scoreOf (.code yX10_scoreOf cX10_scoreOf 9 (some .double)) ({ frames := 1, cells := 0, slots := 0, locals := 25 } : Room) Γ b M [.ref (b + 115), .int (nI 2), .int (nI d)] mem (fun u => u = mem) (some (.double (vsF vf (tf d) (tz d) vz))) := by
  refine mm_enter (cc := cX10_scoreOf) (by decide) (Nat.le_of_ble_eq_true rfl) ?_
  intro p e s m args below meth c ls hx hb hml hown hr hlocks hname hE hh hl
  have hl : lv_has ls 9 [(0, .ref (b + 115)), (1, .int (nI 2)), (2, .int (nI d))] := hl
  have htd := htz d
  refine lv_dconst0 hx hb dX10_scoreOf_0 ?_
  refine lv_dstore_n (lv' := [(3, .double FP.dconst0), (0, .ref (b + 115)), (1, .int (nI 2)), (2, .int (nI d))]) hx hb dX10_scoreOf_1 rfl hl (by decide) rfl (fun ls hl => ?_)
  refine lv_iconst (v := (nI 0)) hx hb dX10_scoreOf_2 (by decide) ?_
  refine lv_istore (lv' := [(5, .int (nI 0)), (3, .double FP.dconst0), (0, .ref (b + 115)), (1, .int (nI 2)), (2, .int (nI d))]) hx hb dX10_scoreOf_3 hl (by decide) rfl (fun ls hl => ?_)
  refine lv_iload_n hx hb dX10_scoreOf_5 rfl (lv_at hl 3 rfl) ?_
  refine lv_iconst (v := (nI 2)) hx hb dX10_scoreOf_6 (by decide) ?_
  refine nn_icmp_eq (tgt := 52) hx hb dX10_scoreOf_7 (by decide) (by omega) (by omega) (fun h1 => ?_) (fun h1 => ?_)
  ·
    refine lv_iload_n hx hb dX10_scoreOf_52 rfl (lv_at hl 3 rfl) ?_
    refine lv_iconst (v := (nI 2)) hx hb dX10_scoreOf_53 (by decide) ?_
    refine nn_icmp_eq (tgt := 59) hx hb dX10_scoreOf_54 (by decide) (by omega) (by omega) (fun h2 => ?_) (fun h2 => ?_)
    ·
      refine lv_fconst0 hx hb dX10_scoreOf_59 ?_
      refine lv_fstore (lv' := [(5, .float FP.fconst0), (3, .double FP.dconst0), (0, .ref (b + 115)), (1, .int (nI 2)), (2, .int (nI d))]) hx hb dX10_scoreOf_60 hl (by decide) rfl (fun ls hl => ?_)
      refine lv_iconst (v := (nI 0)) hx hb dX10_scoreOf_62 (by decide) ?_
      refine lv_istore (lv' := [(6, .int (nI 0)), (5, .float FP.fconst0), (3, .double FP.dconst0), (0, .ref (b + 115)), (1, .int (nI 2)), (2, .int (nI d))]) hx hb dX10_scoreOf_63 hl (by decide) rfl (fun ls hl => ?_)
      have loop65 : ∀ (n9 : Nat) (v : Nat), (vz - v) < n9 → (v ≤ vz) → ∀ (H : Heap) (locs : List Loc), GH Γ b M mem s H locs → ∀ (ls : Array Slot), lv_has ls 9 [(6, .int (nI v)), (5, .float (scF (gqF vf (tf d) (tz d)) v)), (0, .ref (b + 115)), (1, .int (nI 2)), (2, .int (nI d))] → W p l e ({ frames := 1, cells := 0, slots := 0, locals := 25 } : Room) s m args below meth c H locs 0 0 (MQ below (QC Γ b M (fun u => u = mem) (some (.double (vsF vf (tf d) (tz d) vz)))) args s 0 0 (fun q => b ≤ q)) (F0 m 65 ls []) := by
        intro n9
        induction n9 with
        | zero => intro v hn; exact absurd hn (Nat.not_lt_zero _)
        | succ n9 ih =>
          intro v hn hv H locs hh ls hl
          have ih3 := ih
          refine lv_iload hx hb dX10_scoreOf_65 (lv_at hl 0 rfl) ?_
          refine lv_aload_n hx hb dX10_scoreOf_67 rfl (lv_at hl 2 rfl) ?_
          refine gf_X10_vectors hx hb hE hown hh (by omega) fM rfl dX10_scoreOf_68 ?_
          refine nn_icmp_ge (tgt := 159) hx hb dX10_scoreOf_71 (by decide) (by omega) (by omega) (fun h4 => ?_) (fun h4 => ?_)
          ·
            obtain rfl : vz = v := by omega
            refine lv_fload hx hb dX10_scoreOf_159 (lv_at hl 1 rfl) ?_
            refine lv_f2d hx hb dX10_scoreOf_161 (f2d_n ((scF_fb (gqF_fb hvf (htf d) htd) vz (by omega)).n (by omega))) ?_
            exact mm_dret hx hb hr hlocks hE hh (rfl) (rfl) dX10_scoreOf_162
          ·
            refine lv_aload_n hx hb dX10_scoreOf_74 rfl (lv_at hl 2 rfl) ?_
            refine gf_X10_vector hx hb hE hown hh (by omega) fM rfl dX10_scoreOf_75 ?_
            refine lv_iconst (v := (nI 4)) hx hb dX10_scoreOf_78 (by decide) ?_
            refine lv_iload hx hb dX10_scoreOf_79 (lv_at hl 0 rfl) ?_
            refine nn_imul hx hb dX10_scoreOf_81 ?_
            refine lv_aload_n hx hb dX10_scoreOf_82 rfl (lv_at hl 2 rfl) ?_
            refine gf_X10_parts hx hb hE hown hh (by omega) fM rfl dX10_scoreOf_83 ?_
            refine lv_bipush (v := (nI 16)) hx hb dX10_scoreOf_86 (by decide) ?_
            refine lv_iload_n hx hb dX10_scoreOf_88 rfl (lv_at hl 4 rfl) ?_
            refine nn_imul hx hb dX10_scoreOf_89 ?_
            refine mm_S0r (As := [.ref (b + 124), .int (nI (4 * v)), .ref (b + 119), .int (nI (16 * d))]) (rest := []) hx hb hml hown hE hl.1 hh (kc_X10_169 hE.2.1 ⟨Nat.le_of_ble_eq_true rfl, Nat.le_of_ble_eq_true rfl⟩) (c_X10_product l Γ b M mem (a := 124) (a2 := 119) (i := 4 * v) (j := 16 * d) (L := 12) (L2 := 256) (f := vf) (g := fl16 tf) (by omega) (by omega) g124 g119 (by omega) (by omega) (by omega) (by omega) (hvf) (fl16_gd htf)) rfl rfl (Nat.le_of_ble_eq_true rfl) dX10_scoreOf_90 rfl rfl (fun H locs hh => ?_)
            have hp93 : pr4 vf (4 * v) (fl16 tf) (16 * d) 4 = (prJ vf (v * 4) (tf d)) 0 := by
              show _ = pr4 vf (v * 4) (tf d) (0 * 4) 4
              rw [show 4 * v = v * 4 by omega, ← pr4_fl vf tf (v * 4) d (0 * 4) (by omega) 4 (Nat.le_refl 4)]
              congr 1 <;> omega
            rw [hp93]
            refine lv_fstore (lv' := [(7, .float ((prJ vf (v * 4) (tf d)) 0)), (6, .int (nI v)), (5, .float (scF (gqF vf (tf d) (tz d)) v)), (0, .ref (b + 115)), (1, .int (nI 2)), (2, .int (nI d))]) hx hb dX10_scoreOf_93 hl (by decide) rfl (fun ls hl => ?_)
            refine lv_iconst (v := (nI 1)) hx hb dX10_scoreOf_95 (by decide) ?_
            refine lv_istore (lv' := [(8, .int (nI 1)), (7, .float ((prJ vf (v * 4) (tf d)) 0)), (6, .int (nI v)), (5, .float (scF (gqF vf (tf d) (tz d)) v)), (0, .ref (b + 115)), (1, .int (nI 2)), (2, .int (nI d))]) hx hb dX10_scoreOf_96 hl (by decide) rfl (fun ls hl => ?_)
            have loop98 : ∀ (n9 : Nat) (t : Nat), (tz d - t) < n9 → (t + 1 ≤ tz d) → ∀ (H : Heap) (locs : List Loc), GH Γ b M mem s H locs → ∀ (ls : Array Slot), lv_has ls 9 [(8, .int (nI (t + 1))), (7, .float (gpF (prJ vf (v * 4) (tf d)) t)), (6, .int (nI v)), (5, .float (scF (gqF vf (tf d) (tz d)) v)), (0, .ref (b + 115)), (1, .int (nI 2)), (2, .int (nI d))] → W p l e ({ frames := 1, cells := 0, slots := 0, locals := 25 } : Room) s m args below meth c H locs 0 0 (MQ below (QC Γ b M (fun u => u = mem) (some (.double (vsF vf (tf d) (tz d) vz)))) args s 0 0 (fun q => b ≤ q)) (F0 m 98 ls []) := by
              intro n9
              induction n9 with
              | zero => intro t hn; exact absurd hn (Nat.not_lt_zero _)
              | succ n9 ih =>
                intro t hn ht H locs hh ls hl
                have ih5 := ih
                refine lv_iload hx hb dX10_scoreOf_98 (lv_at hl 0 rfl) ?_
                refine lv_aload_n hx hb dX10_scoreOf_100 rfl (lv_at hl 4 rfl) ?_
                refine gf_X10_tokens hx hb hE hown hh (by omega) fM rfl dX10_scoreOf_101 ?_
                refine lv_iload_n hx hb dX10_scoreOf_104 rfl (lv_at hl 6 rfl) ?_
                refine mm_iald hx hb hE hh (by omega) g118 (by omega) (by decide) dX10_scoreOf_105 ?_
                refine nn_icmp_ge (tgt := 146) hx hb dX10_scoreOf_106 (by decide) (by omega) (by omega) (fun h6 => ?_) (fun h6 => ?_)
                ·
                  have hgq : gpF (prJ vf (v * 4) (tf d)) t = (gqF vf (tf d) (tz d)) v := by
                    show _ = gpZ (prJ vf (v * 4) (tf d)) (tz d)
                    rw [show tz d = t + 1 by omega]
                    rfl
                  rw [hgq] at hl
                  refine lv_fload hx hb dX10_scoreOf_146 (lv_at hl 3 rfl) ?_
                  refine lv_fload hx hb dX10_scoreOf_148 (lv_at hl 1 rfl) ?_
                  refine lv_fadd hx hb dX10_scoreOf_150 ((scF_fb (gqF_fb hvf (htf d) htd) (v + 1) (by omega)).n (by omega)) ?_
                  refine lv_fstore (lv' := [(5, .float (FP.fadd (scF (gqF vf (tf d) (tz d)) v) ((gqF vf (tf d) (tz d)) v))), (8, .int (nI (t + 1))), (7, .float ((gqF vf (tf d) (tz d)) v)), (6, .int (nI v)), (0, .ref (b + 115)), (1, .int (nI 2)), (2, .int (nI d))]) hx hb dX10_scoreOf_151 hl (by decide) rfl (fun ls hl => ?_)
                  refine nn_iinc (x := v) (d := 1) (lv' := [(6, .int (nI (v + 1))), (5, .float (FP.fadd (scF (gqF vf (tf d) (tz d)) v) ((gqF vf (tf d) (tz d)) v))), (8, .int (nI (t + 1))), (7, .float ((gqF vf (tf d) (tz d)) v)), (0, .ref (b + 115)), (1, .int (nI 2)), (2, .int (nI d))]) hx hb dX10_scoreOf_153 hl (k := 3) rfl (by decide) (by decide) rfl (fun ls hl => ?_)
                  refine lv_goto (tgt := 65) hx hb dX10_scoreOf_156 (by decide) ?_
                  exact ih3 (v + 1) (by omega) (by omega) _ _ hh ls (lv_sub hl [0, 1, 4, 5, 6] rfl)
                ·
                  refine lv_fload hx hb dX10_scoreOf_109 (lv_at hl 1 rfl) ?_
                  refine lv_aload_n hx hb dX10_scoreOf_111 rfl (lv_at hl 4 rfl) ?_
                  refine gf_X10_vector hx hb hE hown hh (by omega) fM rfl dX10_scoreOf_112 ?_
                  refine lv_iconst (v := (nI 4)) hx hb dX10_scoreOf_115 (by decide) ?_
                  refine lv_iload hx hb dX10_scoreOf_116 (lv_at hl 2 rfl) ?_
                  refine nn_imul hx hb dX10_scoreOf_118 ?_
                  refine lv_aload_n hx hb dX10_scoreOf_119 rfl (lv_at hl 4 rfl) ?_
                  refine gf_X10_parts hx hb hE hown hh (by omega) fM rfl dX10_scoreOf_120 ?_
                  refine lv_bipush (v := (nI 16)) hx hb dX10_scoreOf_123 (by decide) ?_
                  refine lv_iload_n hx hb dX10_scoreOf_125 rfl (lv_at hl 6 rfl) ?_
                  refine nn_imul hx hb dX10_scoreOf_126 ?_
                  refine lv_iconst (v := (nI 4)) hx hb dX10_scoreOf_127 (by decide) ?_
                  refine lv_iload hx hb dX10_scoreOf_128 (lv_at hl 0 rfl) ?_
                  refine nn_imul hx hb dX10_scoreOf_130 ?_
                  refine nn_iadd hx hb dX10_scoreOf_131 ?_
                  refine mm_S0r (As := [.ref (b + 124), .int (nI (4 * v)), .ref (b + 119), .int (nI ((16 * d) + (4 * (t + 1))))]) (rest := [.float (gpF (prJ vf (v * 4) (tf d)) t)]) hx hb hml hown hE hl.1 hh (kc_X10_169 hE.2.1 ⟨Nat.le_of_ble_eq_true rfl, Nat.le_of_ble_eq_true rfl⟩) (c_X10_product l Γ b M mem (a := 124) (a2 := 119) (i := 4 * v) (j := (16 * d) + (4 * (t + 1))) (L := 12) (L2 := 256) (f := vf) (g := fl16 tf) (by omega) (by omega) g124 g119 (by omega) (by omega) (by omega) (by omega) (hvf) (fl16_gd htf)) rfl rfl (Nat.le_of_ble_eq_true rfl) dX10_scoreOf_132 rfl rfl (fun H locs hh => ?_)
                  have hp135 : pr4 vf (4 * v) (fl16 tf) ((16 * d) + (4 * (t + 1))) 4 = (prJ vf (v * 4) (tf d)) (t + 1) := by
                    show _ = pr4 vf (v * 4) (tf d) ((t + 1) * 4) 4
                    rw [show 4 * v = v * 4 by omega, ← pr4_fl vf tf (v * 4) d ((t + 1) * 4) (by omega) 4 (Nat.le_refl 4)]
                    congr 1 <;> omega
                  rw [hp135]
                  refine mm_S0r (As := [.float (gpF (prJ vf (v * 4) (tf d)) t), .float ((prJ vf (v * 4) (tf d)) (t + 1))]) (rest := []) hx hb hml hown hE hl.1 hh (kc_X10_173 hE.2.1 ⟨Nat.le_of_ble_eq_true rfl, Nat.le_of_ble_eq_true rfl⟩) (c_X10_greater l Γ b M mem (x := gpF (prJ vf (v * 4) (tf d)) t) (y := (prJ vf (v * 4) (tf d)) (t + 1)) ((gpF_fb (fun j => prJ_fb hvf (htf d) _ j) t (by omega)).up (by omega)) ((prJ_fb hvf (htf d) _ _).up (by decide))) rfl rfl (Nat.le_of_ble_eq_true rfl) dX10_scoreOf_135 rfl rfl (fun H locs hh => ?_)
                  refine lv_fstore (lv' := [(7, .float (gtF (gpF (prJ vf (v * 4) (tf d)) t) ((prJ vf (v * 4) (tf d)) (t + 1)))), (8, .int (nI (t + 1))), (6, .int (nI v)), (5, .float (scF (gqF vf (tf d) (tz d)) v)), (0, .ref (b + 115)), (1, .int (nI 2)), (2, .int (nI d))]) hx hb dX10_scoreOf_138 hl (by decide) rfl (fun ls hl => ?_)
                  refine nn_iinc (x := (t + 1)) (d := 1) (lv' := [(8, .int (nI (t + 1 + 1))), (7, .float (gtF (gpF (prJ vf (v * 4) (tf d)) t) ((prJ vf (v * 4) (tf d)) (t + 1)))), (6, .int (nI v)), (5, .float (scF (gqF vf (tf d) (tz d)) v)), (0, .ref (b + 115)), (1, .int (nI 2)), (2, .int (nI d))]) hx hb dX10_scoreOf_140 hl (k := 1) rfl (by decide) (by decide) rfl (fun ls hl => ?_)
                  refine lv_goto (tgt := 98) hx hb dX10_scoreOf_143 (by decide) ?_
                  exact ih5 (t + 1) (by omega) (by omega) _ _ hh ls (lv_sub hl [0, 1, 2, 3, 4, 5, 6] rfl)
            exact loop98 ((tz d - 0) + 1) 0 (by omega) (by omega) _ _ hh ls (lv_sub hl [0, 1, 2, 3, 4, 5, 6] rfl)
      exact loop65 ((vz - 0) + 1) 0 (by omega) (by omega) _ _ hh ls (lv_sub hl [0, 1, 3, 4, 5] rfl)
    ·
      exact absurd h2 (by decide)
  ·
    exact absurd h1 (by decide)
