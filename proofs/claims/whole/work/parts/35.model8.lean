def lfN (f : Nat → Nat) (v : Nat) : Nat → Nat := fun k => f (20 * v + k)
def lfD (f : Nat → UInt64) (v : Nat) : Nat → UInt64 := fun k => f (20 * v + k)
/-- the last place of d among the first n, or -1 -/
def rkF (f : Nat → Nat) (d : Nat) : Nat → Int32
  | 0 => -1
  | k + 1 => if f k = d then nI k else rkF f d k
theorem sh_gt {sc : Nat → UInt64} {sz : Nat} (h : scOK sc sz) (hz : 0 < sz) (hn : ¬ FP.dcmp (sc 0) (sc (sz - 1)) = some .eq) : FP.dcmp (sc 0) (sc (sz - 1)) = some .gt := by
  have h0 := h.1 0 (by omega)
  have hl := h.1 (sz - 1) (by omega)
  have h1 := h.2 0 (sz - 1) (by omega) (by omega)
  have h2 := mt (FP.Core.dcmp_eq_key (h0.1.fin (by decide)).ne_nan (hl.1.fin (by decide)).ne_nan).mpr hn
  exact (gt_key h0 hl).mpr (by omega)
theorem i2d_60 : FP.i2d (nI 60) = 4633641066610819072 := by decide +kernel
theorem sh_w0 {sc : Nat → UInt64} {sz a : Nat} (ha : a < 20) : FP.ddiv FP.dconst1 (FP.dadd 4633641066610819072 (FP.i2d (nI (a + 1)))) = shF 0 sc sz a := by
  show _ = FP.ddiv FP.dconst1 (FP.i2d (nI (60 + (a + 1))))
  rw [← i2d_60, i2d_add (by omega)]

set_option maxHeartbeats 4000000 in
set_option maxRecDepth 100000 in
/-- reference: rankOf -/
theorem m_rankOf (l : Launch) (Γ : Gm) (b M : Nat) (mem : Nat → va_E) {cd nd cz wz iz vz md wh sd sk ps fc : Nat} {mh : Nat → Bool} {ml : Nat → Nat} {mli : Nat → Nat} {v d : Nat}  (hM : 138 ≤ M) (fM : mem 115 = .inr (9, [.int (nI cd), .int (nI nd), .ref (b + 116), .ref (b + 117), .ref (b + 118), .ref (b + 119), .int (nI cz), .ref (b + 120), .int (nI wz), .int (nI iz), .int (nI vz), .ref (b + 121), .ref (b + 122), .ref (b + 123), .ref (b + 124), .ref (b + 125), .ref (b + 126), .ref (b + 127), .ref (b + 128), .ref (b + 129), .int (nI md), .ref (b + 130), .ref (b + 131), .int (nI wh), .ref (b + 132), .ref (b + 133), .int (nI sd), .int (nI sk), .int (nI ps), .int (nI fc), .ref (b + 134), .ref (b + 135)])) (g125 : mem 125 = aB Γ 3 mh) (g126 : mem 126 = aN Γ 3 ml) (g127 : mem 127 = aN Γ 60 mli) (hv : v < 3) (hmh : mh v = true) (hmlv : ml v ≤ 20) (hli : ∀ k, k < ml v → mli (20 * v + k) < 16) (hd : d < 16) : Ct l yX10_rankOf (.code yX10_rankOf cX10_rankOf 5 (some .int)) ({ frames := 0, cells := 0, slots := 0, locals := 0 } : Room) Γ b M [.ref (b + 115), .int (nI v), .int (nI d)] mem (fun u => u = mem) (some (.int (rkF (lfN mli v) d (ml v)))) := by
  refine mm_enter (cc := cX10_rankOf) (by decide) (Nat.le_of_ble_eq_true rfl) ?_
  intro p e s m args below meth c ls hx hb hml hown hr hlocks hname hE hh hl
  have hl : lv_has ls 5 [(0, .ref (b + 115)), (1, .int (nI v)), (2, .int (nI d))] := hl
  refine lv_iconst (v := (-1)) hx hb dX10_rankOf_0 (by decide) ?_
  refine lv_istore_n (lv' := [(3, .int (-1)), (0, .ref (b + 115)), (1, .int (nI v)), (2, .int (nI d))]) hx hb dX10_rankOf_1 rfl hl (by decide) rfl (fun ls hl => ?_)
  refine lv_iconst (v := (nI 0)) hx hb dX10_rankOf_2 (by decide) ?_
  refine lv_istore (lv' := [(4, .int (nI 0)), (3, .int (-1)), (0, .ref (b + 115)), (1, .int (nI v)), (2, .int (nI d))]) hx hb dX10_rankOf_3 hl (by decide) rfl (fun ls hl => ?_)
  have loop5 : ∀ (n9 : Nat) (k : Nat), (ml v - k) < n9 → (k ≤ ml v) → ∀ (H : Heap) (locs : List Loc), GH Γ b M mem s H locs → ∀ (ls : Array Slot), lv_has ls 5 [(4, .int (nI k)), (3, .int (rkF (lfN mli v) d k)), (0, .ref (b + 115)), (1, .int (nI v)), (2, .int (nI d))] → W p l e ({ frames := 0, cells := 0, slots := 0, locals := 0 } : Room) s m args below meth c H locs 0 0 (MQ below (QC Γ b M (fun u => u = mem) (some (.int (rkF (lfN mli v) d (ml v))))) args s 0 0 (fun q => b ≤ q)) (F0 m 5 ls []) := by
    intro n9
    induction n9 with
    | zero => intro k hn; exact absurd hn (Nat.not_lt_zero _)
    | succ n9 ih =>
      intro k hn hk H locs hh ls hl
      have ih1 := ih
      refine lv_aload_n hx hb dX10_rankOf_5 rfl (lv_at hl 2 rfl) ?_
      refine gf_X10_has hx hb hE hown hh (by omega) fM rfl dX10_rankOf_6 ?_
      refine lv_iload_n hx hb dX10_rankOf_9 rfl (lv_at hl 3 rfl) ?_
      refine mm_zald hx hb hE hh (by omega) g125 (by omega) (by decide) dX10_rankOf_10 ?_
      refine nn_beq (tgt := 54) hx hb dX10_rankOf_11 (by decide) (fun h2 => ?_) (fun h2 => ?_)
      ·
        exact (no_tf hmh h2).elim
      ·
        refine lv_iload hx hb dX10_rankOf_14 (lv_at hl 0 rfl) ?_
        refine lv_aload_n hx hb dX10_rankOf_16 rfl (lv_at hl 2 rfl) ?_
        refine gf_X10_length hx hb hE hown hh (by omega) fM rfl dX10_rankOf_17 ?_
        refine lv_iload_n hx hb dX10_rankOf_20 rfl (lv_at hl 3 rfl) ?_
        refine mm_iald hx hb hE hh (by omega) g126 (by omega) (by decide) dX10_rankOf_21 ?_
        refine nn_icmp_ge (tgt := 54) hx hb dX10_rankOf_22 (by decide) (by omega) (by omega) (fun h3 => ?_) (fun h3 => ?_)
        ·
          have hke : k = ml v := by omega
          refine lv_iload_n hx hb dX10_rankOf_54 rfl (lv_at hl 1 rfl) ?_
          exact mm_iret hx hb hr hlocks hE hh (by rw [hke]) (rfl) dX10_rankOf_55
        ·
          have hlk := hli k (by omega)
          refine lv_aload_n hx hb dX10_rankOf_25 rfl (lv_at hl 2 rfl) ?_
          refine gf_X10_list hx hb hE hown hh (by omega) fM rfl dX10_rankOf_26 ?_
          refine lv_bipush (v := (nI 20)) hx hb dX10_rankOf_29 (by decide) ?_
          refine lv_iload_n hx hb dX10_rankOf_31 rfl (lv_at hl 3 rfl) ?_
          refine nn_imul hx hb dX10_rankOf_32 ?_
          refine lv_iload hx hb dX10_rankOf_33 (lv_at hl 0 rfl) ?_
          refine nn_iadd hx hb dX10_rankOf_35 ?_
          refine mm_iald hx hb hE hh (by omega) g127 (by omega) (by decide) dX10_rankOf_36 ?_
          refine lv_iload_n hx hb dX10_rankOf_37 rfl (lv_at hl 4 rfl) ?_
          refine nn_icmp_ne (tgt := 46) hx hb dX10_rankOf_38 (by decide) (by omega) (by omega) (fun h4 => ?_) (fun h4 => ?_)
          ·
            have hq : (rkF (lfN mli v) d (k + 1)) = (rkF (lfN mli v) d k) := if_neg h4
            refine lv_iload_n hx hb dX10_rankOf_46 rfl (lv_at hl 1 rfl) ?_
            refine lv_istore_n (lv' := [(3, .int (rkF (lfN mli v) d k)), (4, .int (nI k)), (0, .ref (b + 115)), (1, .int (nI v)), (2, .int (nI d))]) hx hb dX10_rankOf_47 rfl hl (by decide) rfl (fun ls hl => ?_)
            refine nn_iinc (x := k) (d := 1) (lv' := [(4, .int (nI (k + 1))), (3, .int (rkF (lfN mli v) d k)), (0, .ref (b + 115)), (1, .int (nI v)), (2, .int (nI d))]) hx hb dX10_rankOf_48 hl (k := 1) rfl (by decide) (by decide) rfl (fun ls hl => ?_)
            refine lv_goto (tgt := 5) hx hb dX10_rankOf_51 (by decide) ?_
            exact ih1 (k + 1) (by omega) (by omega) _ _ hh ls (lv_sub hl [0, 1, 2, 3, 4] (by rw [hq]; rfl))
          ·
            have hq : (rkF (lfN mli v) d (k + 1)) = nI k := if_pos h4
            refine lv_iload hx hb dX10_rankOf_41 (lv_at hl 0 rfl) ?_
            refine lv_goto (tgt := 47) hx hb dX10_rankOf_43 (by decide) ?_
            refine lv_istore_n (lv' := [(3, .int (nI k)), (4, .int (nI k)), (0, .ref (b + 115)), (1, .int (nI v)), (2, .int (nI d))]) hx hb dX10_rankOf_47 rfl hl (by decide) rfl (fun ls hl => ?_)
            refine nn_iinc (x := k) (d := 1) (lv' := [(4, .int (nI (k + 1))), (3, .int (nI k)), (0, .ref (b + 115)), (1, .int (nI v)), (2, .int (nI d))]) hx hb dX10_rankOf_48 hl (k := 1) rfl (by decide) (by decide) rfl (fun ls hl => ?_)
            refine lv_goto (tgt := 5) hx hb dX10_rankOf_51 (by decide) ?_
            exact ih1 (k + 1) (by omega) (by omega) _ _ hh ls (lv_sub hl [0, 1, 2, 3, 4] (by rw [hq]; rfl))
  exact loop5 ((ml v - 0) + 1) 0 (by omega) (by omega) _ _ hh ls (lv_sub hl [0, 1, 2, 3, 4] rfl)
set_option maxHeartbeats 4000000 in
set_option maxRecDepth 100000 in
/-- reference: rankOf, no list -/
theorem m_rankOf_n (l : Launch) (Γ : Gm) (b M : Nat) (mem : Nat → va_E) {cd nd cz wz iz vz md wh sd sk ps fc : Nat} {mh : Nat → Bool} {ml : Nat → Nat} {v d : Nat}  (hM : 138 ≤ M) (fM : mem 115 = .inr (9, [.int (nI cd), .int (nI nd), .ref (b + 116), .ref (b + 117), .ref (b + 118), .ref (b + 119), .int (nI cz), .ref (b + 120), .int (nI wz), .int (nI iz), .int (nI vz), .ref (b + 121), .ref (b + 122), .ref (b + 123), .ref (b + 124), .ref (b + 125), .ref (b + 126), .ref (b + 127), .ref (b + 128), .ref (b + 129), .int (nI md), .ref (b + 130), .ref (b + 131), .int (nI wh), .ref (b + 132), .ref (b + 133), .int (nI sd), .int (nI sk), .int (nI ps), .int (nI fc), .ref (b + 134), .ref (b + 135)])) (g125 : mem 125 = aB Γ 3 mh) (hv : v < 3) (hmh : mh v = false) : Ct l yX10_rankOf (.code yX10_rankOf cX10_rankOf 5 (some .int)) ({ frames := 0, cells := 0, slots := 0, locals := 0 } : Room) Γ b M [.ref (b + 115), .int (nI v), .int (nI d)] mem (fun u => u = mem) (some (.int (-1))) := by
  refine mm_enter (cc := cX10_rankOf) (by decide) (Nat.le_of_ble_eq_true rfl) ?_
  intro p e s m args below meth c ls hx hb hml hown hr hlocks hname hE hh hl
  have hl : lv_has ls 5 [(0, .ref (b + 115)), (1, .int (nI v)), (2, .int (nI d))] := hl
  refine lv_iconst (v := (-1)) hx hb dX10_rankOf_0 (by decide) ?_
  refine lv_istore_n (lv' := [(3, .int (-1)), (0, .ref (b + 115)), (1, .int (nI v)), (2, .int (nI d))]) hx hb dX10_rankOf_1 rfl hl (by decide) rfl (fun ls hl => ?_)
  refine lv_iconst (v := (nI 0)) hx hb dX10_rankOf_2 (by decide) ?_
  refine lv_istore (lv' := [(4, .int (nI 0)), (3, .int (-1)), (0, .ref (b + 115)), (1, .int (nI v)), (2, .int (nI d))]) hx hb dX10_rankOf_3 hl (by decide) rfl (fun ls hl => ?_)
  have loop5 : ∀ (n9 : Nat) (k : Nat), k < n9 → ∀ (H : Heap) (locs : List Loc), GH Γ b M mem s H locs → ∀ (ls : Array Slot), lv_has ls 5 [(4, .int (nI k)), (3, .int (-1)), (0, .ref (b + 115)), (1, .int (nI v)), (2, .int (nI d))] → W p l e ({ frames := 0, cells := 0, slots := 0, locals := 0 } : Room) s m args below meth c H locs 0 0 (MQ below (QC Γ b M (fun u => u = mem) (some (.int (-1)))) args s 0 0 (fun q => b ≤ q)) (F0 m 5 ls []) := by
    intro n9
    induction n9 with
    | zero => intro k hn; exact absurd hn (Nat.not_lt_zero _)
    | succ n9 ih =>
      intro k hn  H locs hh ls hl
      have ih1 := ih
      refine lv_aload_n hx hb dX10_rankOf_5 rfl (lv_at hl 2 rfl) ?_
      refine gf_X10_has hx hb hE hown hh (by omega) fM rfl dX10_rankOf_6 ?_
      refine lv_iload_n hx hb dX10_rankOf_9 rfl (lv_at hl 3 rfl) ?_
      refine mm_zald hx hb hE hh (by omega) g125 (by omega) (by decide) dX10_rankOf_10 ?_
      refine nn_beq (tgt := 54) hx hb dX10_rankOf_11 (by decide) (fun h2 => ?_) (fun h2 => ?_)
      ·
        refine lv_iload_n hx hb dX10_rankOf_54 rfl (lv_at hl 1 rfl) ?_
        exact mm_iret hx hb hr hlocks hE hh (rfl) (rfl) dX10_rankOf_55
      ·
        exact (no_tf h2 hmh).elim
  exact loop5 (0 + 1) 0 (by omega) _ _ hh ls (lv_sub hl [0, 1, 2, 3, 4] rfl)
set_option maxHeartbeats 4000000 in
set_option maxRecDepth 100000 in
/-- reference: share 0 -/
theorem m_share0 (l : Launch) (Γ : Gm) (b M : Nat) (mem : Nat → va_E) {cd nd cz wz iz vz md wh sd sk ps fc : Nat} {ml : Nat → Nat} {msc : Nat → UInt64} {v a : Nat}  (hM : 138 ≤ M) (fM : mem 115 = .inr (9, [.int (nI cd), .int (nI nd), .ref (b + 116), .ref (b + 117), .ref (b + 118), .ref (b + 119), .int (nI cz), .ref (b + 120), .int (nI wz), .int (nI iz), .int (nI vz), .ref (b + 121), .ref (b + 122), .ref (b + 123), .ref (b + 124), .ref (b + 125), .ref (b + 126), .ref (b + 127), .ref (b + 128), .ref (b + 129), .int (nI md), .ref (b + 130), .ref (b + 131), .int (nI wh), .ref (b + 132), .ref (b + 133), .int (nI sd), .int (nI sk), .int (nI ps), .int (nI fc), .ref (b + 134), .ref (b + 135)])) (g126 : mem 126 = aN Γ 3 ml) (g128 : mem 128 = aD Γ 60 msc) (hv : v < 3) (hmlv : ml v ≤ 20) (ha : a < ml v) (hs : scOK (lfD msc v) (ml v)) : Ct l yX10_share (.code yX10_share cX10_share 8 (some .double)) ({ frames := 0, cells := 0, slots := 0, locals := 0 } : Room) Γ b M [.ref (b + 115), .int (nI 0), .int (nI v), .int (nI a)] mem (fun u => u = mem) (some (.double (shF 0 (lfD msc v) (ml v) a))) := by
  refine mm_enter (cc := cX10_share) (by decide) (Nat.le_of_ble_eq_true rfl) ?_
  intro p e s m args below meth c ls hx hb hml hown hr hlocks hname hE hh hl
  have hl : lv_has ls 8 [(0, .ref (b + 115)), (1, .int (nI 0)), (2, .int (nI v)), (3, .int (nI a))] := hl
  refine lv_iload_n hx hb dX10_share_0 rfl (lv_at hl 1 rfl) ?_
  refine nn_if_ne (tgt := 15) hx hb dX10_share_1 (by decide) (by omega) (fun h1 => ?_) (fun h1 => ?_)
  ·
    exact absurd h1 (by decide)
  ·
    refine lv_dconst1 hx hb dX10_share_4 ?_
    refine lv_ldc2d hx hb hown (wk_X10_234 hE.2.1 args) dX10_share_5 ?_
    refine lv_iload_n hx hb dX10_share_8 rfl (lv_at hl 3 rfl) ?_
    refine lv_iconst (v := (nI 1)) hx hb dX10_share_9 (by decide) ?_
    refine nn_iadd hx hb dX10_share_10 ?_
    refine lv_i2d hx hb dX10_share_11 ?_
    refine lv_dadd hx hb dX10_share_12 (((show db 1056 4633641066610819072 by unfold db; decide).add (db_i2d _) (by decide)).n (by decide)) ?_
    refine lv_ddiv hx hb dX10_share_13 (by rw [sh_w0 (sc := (lfD msc v)) (sz := ml v) (by omega)]; exact (shF_n hs ha hmlv).2) ?_
    exact mm_dret hx hb hr hlocks hE hh (by rw [sh_w0 (sc := (lfD msc v)) (sz := ml v) (by omega)]) (rfl) dX10_share_14
set_option maxHeartbeats 4000000 in
set_option maxRecDepth 100000 in
/-- reference: share -/
theorem m_share (l : Launch) (Γ : Gm) (b M : Nat) (mem : Nat → va_E) {cd nd cz wz iz vz md wh sd sk ps fc : Nat} {ml : Nat → Nat} {msc : Nat → UInt64} {v a : Nat} {way : Nat}  (hM : 138 ≤ M) (fM : mem 115 = .inr (9, [.int (nI cd), .int (nI nd), .ref (b + 116), .ref (b + 117), .ref (b + 118), .ref (b + 119), .int (nI cz), .ref (b + 120), .int (nI wz), .int (nI iz), .int (nI vz), .ref (b + 121), .ref (b + 122), .ref (b + 123), .ref (b + 124), .ref (b + 125), .ref (b + 126), .ref (b + 127), .ref (b + 128), .ref (b + 129), .int (nI md), .ref (b + 130), .ref (b + 131), .int (nI wh), .ref (b + 132), .ref (b + 133), .int (nI sd), .int (nI sk), .int (nI ps), .int (nI fc), .ref (b + 134), .ref (b + 135)])) (g126 : mem 126 = aN Γ 3 ml) (g128 : mem 128 = aD Γ 60 msc) (hv : v < 3) (hmlv : ml v ≤ 20) (ha : a < ml v) (hs : scOK (lfD msc v) (ml v)) (hw : 0 < way ∧ way < 3) : Ct l yX10_share (.code yX10_share cX10_share 8 (some .double)) ({ frames := 0, cells := 0, slots := 0, locals := 0 } : Room) Γ b M [.ref (b + 115), .int (nI way), .int (nI v), .int (nI a)] mem (fun u => u = mem) (some (.double (shF way (lfD msc v) (ml v) a))) := by
  refine mm_enter (cc := cX10_share) (by decide) (Nat.le_of_ble_eq_true rfl) ?_
  intro p e s m args below meth c ls hx hb hml hown hr hlocks hname hE hh hl
  have hl : lv_has ls 8 [(0, .ref (b + 115)), (1, .int (nI way)), (2, .int (nI v)), (3, .int (nI a))] := hl
  refine lv_iload_n hx hb dX10_share_0 rfl (lv_at hl 1 rfl) ?_
  refine nn_if_ne (tgt := 15) hx hb dX10_share_1 (by decide) (by omega) (fun h1 => ?_) (fun h1 => ?_)
  ·
    refine lv_aload_n hx hb dX10_share_15 rfl (lv_at hl 0 rfl) ?_
    refine gf_X10_scores hx hb hE hown hh (by omega) fM rfl dX10_share_16 ?_
    refine lv_bipush (v := (nI 20)) hx hb dX10_share_19 (by decide) ?_
    refine lv_iload_n hx hb dX10_share_21 rfl (lv_at hl 2 rfl) ?_
    refine nn_imul hx hb dX10_share_22 ?_
    refine mm_dald hx hb hE hh (by omega) g128 (by omega) (by decide) dX10_share_23 ?_
    have hv23 : msc (20 * v) = (lfD msc v) 0 := rfl
    rw [hv23]
    refine lv_dstore (lv' := [(4, .double ((lfD msc v) 0)), (0, .ref (b + 115)), (1, .int (nI way)), (2, .int (nI v)), (3, .int (nI a))]) hx hb dX10_share_24 hl (by decide) rfl (fun ls hl => ?_)
    refine lv_aload_n hx hb dX10_share_26 rfl (lv_at hl 1 rfl) ?_
    refine gf_X10_scores hx hb hE hown hh (by omega) fM rfl dX10_share_27 ?_
    refine lv_bipush (v := (nI 20)) hx hb dX10_share_30 (by decide) ?_
    refine lv_iload_n hx hb dX10_share_32 rfl (lv_at hl 3 rfl) ?_
    refine nn_imul hx hb dX10_share_33 ?_
    refine lv_aload_n hx hb dX10_share_34 rfl (lv_at hl 1 rfl) ?_
    refine gf_X10_length hx hb hE hown hh (by omega) fM rfl dX10_share_35 ?_
    refine lv_iload_n hx hb dX10_share_38 rfl (lv_at hl 3 rfl) ?_
    refine mm_iald hx hb hE hh (by omega) g126 (by omega) (by decide) dX10_share_39 ?_
    refine nn_iadd hx hb dX10_share_40 ?_
    refine lv_iconst (v := (nI 1)) hx hb dX10_share_41 (by decide) ?_
    refine nn_isub hx hb (by omega) dX10_share_42 ?_
    refine mm_dald hx hb hE hh (by omega) g128 (by omega) (by decide) dX10_share_43 ?_
    have hv43 : msc (((20 * v) + (ml v)) - 1) = (lfD msc v) (ml v - 1) := by show _ = msc (20 * v + (ml v - 1)); congr 1; omega
    rw [hv43]
    refine lv_dstore (lv' := [(6, .double ((lfD msc v) (ml v - 1))), (4, .double ((lfD msc v) 0)), (0, .ref (b + 115)), (1, .int (nI way)), (2, .int (nI v)), (3, .int (nI a))]) hx hb dX10_share_44 hl (by decide) rfl (fun ls hl => ?_)
    refine lv_dload hx hb dX10_share_46 (lv_at hl 1 rfl) ?_
    refine lv_dload hx hb dX10_share_48 (lv_at hl 0 rfl) ?_
    refine lv_dcmp hx hb dX10_share_50 ?_
    refine nn_cl_ne (tgt := 58) hx hb dX10_share_51 (by decide) (fun h2 => ?_) (fun h2 => ?_)
    ·
      have g1 := sh_gt hs (by omega) h2
      have hq : shA (lfD msc v) (ml v) a = _ := if_pos g1
      have a0 := key_ge_sub (hs.1 a ha) (hs.1 (ml v - 1) (by omega)) (hs.2 a (ml v - 1) (by omega) (by omega))
      have b0 := key_ge_sub (hs.1 0 (by omega)) (hs.1 (ml v - 1) (by omega)) (hs.2 0 (ml v - 1) (by omega) (by omega))
      have hw0 : shF way (lfD msc v) (ml v) a = shA (lfD msc v) (ml v) a := if_neg (by omega)
      refine lv_aload_n hx hb dX10_share_58 rfl (lv_at hl 2 rfl) ?_
      refine gf_X10_scores hx hb hE hown hh (by omega) fM rfl dX10_share_59 ?_
      refine lv_bipush (v := (nI 20)) hx hb dX10_share_62 (by decide) ?_
      refine lv_iload_n hx hb dX10_share_64 rfl (lv_at hl 4 rfl) ?_
      refine nn_imul hx hb dX10_share_65 ?_
      refine lv_iload_n hx hb dX10_share_66 rfl (lv_at hl 5 rfl) ?_
      refine nn_iadd hx hb dX10_share_67 ?_
      refine mm_dald hx hb hE hh (by omega) g128 (by omega) (by decide) dX10_share_68 ?_
      have hv68 : msc ((20 * v) + a) = (lfD msc v) a := rfl
      rw [hv68]
      refine lv_dload hx hb dX10_share_69 (lv_at hl 0 rfl) ?_
      refine lv_dsub hx hb dX10_share_71 (a0.2.1.n (by decide)) ?_
      refine lv_dload hx hb dX10_share_72 (lv_at hl 1 rfl) ?_
      refine lv_dload hx hb dX10_share_74 (lv_at hl 0 rfl) ?_
      refine lv_dsub hx hb dX10_share_76 (b0.2.1.n (by decide)) ?_
      refine lv_ddiv hx hb dX10_share_77 ((shA_q hs ha g1).2) ?_
      exact mm_dret hx hb hr hlocks hE hh (by rw [hw0, hq]) (rfl) dX10_share_78
    ·
      have hw0 : shF way (lfD msc v) (ml v) a = shA (lfD msc v) (ml v) a := if_neg (by omega)
      have hq : shA (lfD msc v) (ml v) a = FP.dconst1 := if_neg (by rw [Classical.not_not.mp h2]; decide)
      refine lv_dconst1 hx hb dX10_share_54 ?_
      refine lv_goto (tgt := 78) hx hb dX10_share_55 (by decide) ?_
      exact mm_dret hx hb hr hlocks hE hh (by rw [hw0, hq]) (rfl) dX10_share_78
  ·
    exact absurd h1 (by omega)
