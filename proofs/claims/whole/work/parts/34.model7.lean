theorem pr4_fl1 (tf : Nat → Nat → UInt32) (g : Nat → UInt32) (d j k : Nat) (hj : j + 4 ≤ 16) : ∀ n, n ≤ 4 → pr4 (fl16 tf) (16 * d + j) g k n = pr4 (tf d) j g k n
  | 0, _ => rfl
  | n + 1, hn => by
    unfold pr4
    rw [pr4_fl1 tf g d j k hj n (by omega), show 16 * d + j + n = 16 * d + (j + n) by omega, fl16_at tf (show j + n < 16 by omega)]
theorem prJ_fl1 (tf : Nat → Nat → UInt32) (cf : Nat → UInt32) (d t : Nat) (ht : t < 4) : prJ (fl16 tf) (16 * d + 4 * t) cf = prJ (tf d) (t * 4) cf := by
  funext j
  unfold prJ
  rw [pr4_fl1 tf cf d (4 * t) _ (by omega) 4 (Nat.le_refl 4), Nat.mul_comm]
def cd1 (a : Nat) (nv : Nat → Nat) : Nat → Bool
  | 0 => false
  | v + 1 => cd1 a nv v || decide (a = nv v)
def cd2 (nt nv : Nat → Nat) (vz : Nat) : Nat → Bool
  | 0 => false
  | t + 1 => cd2 nt nv vz t || cd1 (nt t) nv vz
theorem cd_y {x y z : Bool} (h : (x || y) = true) : (x || (y || z)) = true := by cases x <;> cases y <;> simp_all
theorem cd_t {x y z : Bool} (h : z = true) : (x || (y || z)) = true := by subst h; cases x <;> cases y <;> rfl
theorem cd_f {x y z : Bool} (h : (x || y) = false) (h2 : z = false) : (x || (y || z)) = false := by cases x <;> cases y <;> simp_all
theorem cd_0 (x : Bool) : x = (x || false) := by cases x <;> rfl

set_option maxHeartbeats 4000000 in
set_option maxRecDepth 100000 in
/-- reference: nearest -/
theorem c_X10_nearest (l : Launch) (Γ : Gm) (b M : Nat) (mem : Nat → va_E) {cd nd cz wz iz vz md wh sd sk ps fc : Nat} {a i L : Nat} {f cf : Nat → UInt32} (hM : 138 ≤ M) (hMa : a < M) (fM : mem 115 = .inr (9, [.int (nI cd), .int (nI nd), .ref (b + 116), .ref (b + 117), .ref (b + 118), .ref (b + 119), .int (nI cz), .ref (b + 120), .int (nI wz), .int (nI iz), .int (nI vz), .ref (b + 121), .ref (b + 122), .ref (b + 123), .ref (b + 124), .ref (b + 125), .ref (b + 126), .ref (b + 127), .ref (b + 128), .ref (b + 129), .int (nI md), .ref (b + 130), .ref (b + 131), .int (nI wh), .ref (b + 132), .ref (b + 133), .int (nI sd), .int (nI sk), .int (nI ps), .int (nI fc), .ref (b + 134), .ref (b + 135)])) (g120 : mem 120 = aF Γ 16 cf) (fa : mem a = aF Γ L f) (hi : i + 4 ≤ L) (hL : L ≤ 256) (hcz : cz ≤ 4) (hf : gdF f) (hcf : gdF cf) : Ct l yX10_nearest (.code yX10_nearest cX10_nearest 5 (some .int)) ({ frames := 1, cells := 0, slots := 0, locals := 25 } : Room) Γ b M [.ref (b + 115), .ref (b + a), .int (nI i)] mem (fun u => u = mem) (some (.int (nI (nrs (prJ f i cf) (cz - 1))))) := by
  refine mm_enter (cc := cX10_nearest) (by decide) (Nat.le_of_ble_eq_true rfl) ?_
  intro p e s m args below meth c ls hx hb hml hown hr hlocks hname hE hh hl
  have hl : lv_has ls 5 [(0, .ref (b + 115)), (1, .ref (b + a)), (2, .int (nI i))] := hl
  refine lv_iconst (v := (nI 0)) hx hb dX10_nearest_0 (by decide) ?_
  refine lv_istore_n (lv' := [(3, .int (nI 0)), (0, .ref (b + 115)), (1, .ref (b + a)), (2, .int (nI i))]) hx hb dX10_nearest_1 rfl hl (by decide) rfl (fun ls hl => ?_)
  refine lv_iconst (v := (nI 1)) hx hb dX10_nearest_2 (by decide) ?_
  refine lv_istore (lv' := [(4, .int (nI 1)), (3, .int (nI 0)), (0, .ref (b + 115)), (1, .ref (b + a)), (2, .int (nI i))]) hx hb dX10_nearest_3 hl (by decide) rfl (fun ls hl => ?_)
  have loop5 : ∀ (n9 : Nat) (c9 : Nat), (cz - c9) < n9 → (c9 = 0 ∨ c9 + 1 ≤ cz) → ∀ (H : Heap) (locs : List Loc), GH Γ b M mem s H locs → ∀ (ls : Array Slot), lv_has ls 5 [(4, .int (nI (c9 + 1))), (3, .int (nI (nrs (prJ f i cf) c9))), (0, .ref (b + 115)), (1, .ref (b + a)), (2, .int (nI i))] → W p l e ({ frames := 1, cells := 0, slots := 0, locals := 25 } : Room) s m args below meth c H locs 0 0 (MQ below (QC Γ b M (fun u => u = mem) (some (.int (nI (nrs (prJ f i cf) (cz - 1)))))) args s 0 0 (fun q => b ≤ q)) (F0 m 5 ls []) := by
    intro n9
    induction n9 with
    | zero => intro c9 hn; exact absurd hn (Nat.not_lt_zero _)
    | succ n9 ih =>
      intro c9 hn hc H locs hh ls hl
      have hnl := nrs_le (prJ f i cf) c9
      have ih1 := ih
      refine lv_iload hx hb dX10_nearest_5 (lv_at hl 0 rfl) ?_
      refine lv_aload_n hx hb dX10_nearest_7 rfl (lv_at hl 2 rfl) ?_
      refine gf_X10_centroids hx hb hE hown hh (by omega) fM rfl dX10_nearest_8 ?_
      refine nn_icmp_ge (tgt := 56) hx hb dX10_nearest_11 (by decide) (by omega) (by omega) (fun h2 => ?_) (fun h2 => ?_)
      ·
        have hcc : c9 = cz - 1 := by omega
        refine lv_iload_n hx hb dX10_nearest_56 rfl (lv_at hl 1 rfl) ?_
        exact mm_iret hx hb hr hlocks hE hh (by rw [hcc]) (rfl) dX10_nearest_57
      ·
        refine lv_aload_n hx hb dX10_nearest_14 rfl (lv_at hl 3 rfl) ?_
        refine lv_iload_n hx hb dX10_nearest_15 rfl (lv_at hl 4 rfl) ?_
        refine lv_aload_n hx hb dX10_nearest_16 rfl (lv_at hl 2 rfl) ?_
        refine gf_X10_centres hx hb hE hown hh (by omega) fM rfl dX10_nearest_17 ?_
        refine lv_iconst (v := (nI 4)) hx hb dX10_nearest_20 (by decide) ?_
        refine lv_iload hx hb dX10_nearest_21 (lv_at hl 0 rfl) ?_
        refine nn_imul hx hb dX10_nearest_23 ?_
        refine mm_S0r (As := [.ref (b + a), .int (nI i), .ref (b + 120), .int (nI (4 * (c9 + 1)))]) (rest := []) hx hb hml hown hE hl.1 hh (kc_X10_169 hE.2.1 ⟨Nat.le_of_ble_eq_true rfl, Nat.le_of_ble_eq_true rfl⟩) (c_X10_product l Γ b M mem (a := a) (a2 := 120) (i := i) (j := 4 * (c9 + 1)) (L := L) (L2 := 16) (f := f) (g := cf) (by omega) (by omega) fa g120 (by omega) (by omega) (by omega) (by omega) (hf) (hcf)) rfl rfl (Nat.le_of_ble_eq_true rfl) dX10_nearest_24 rfl rfl (fun H locs hh => ?_)
        refine lv_aload_n hx hb dX10_nearest_27 rfl (lv_at hl 3 rfl) ?_
        refine lv_iload_n hx hb dX10_nearest_28 rfl (lv_at hl 4 rfl) ?_
        refine lv_aload_n hx hb dX10_nearest_29 rfl (lv_at hl 2 rfl) ?_
        refine gf_X10_centres hx hb hE hown hh (by omega) fM rfl dX10_nearest_30 ?_
        refine lv_iconst (v := (nI 4)) hx hb dX10_nearest_33 (by decide) ?_
        refine lv_iload_n hx hb dX10_nearest_34 rfl (lv_at hl 1 rfl) ?_
        refine nn_imul hx hb dX10_nearest_35 ?_
        refine mm_S0r (As := [.ref (b + a), .int (nI i), .ref (b + 120), .int (nI (4 * (nrs (prJ f i cf) c9)))]) (rest := [.float (pr4 f i cf (4 * (c9 + 1)) 4)]) hx hb hml hown hE hl.1 hh (kc_X10_169 hE.2.1 ⟨Nat.le_of_ble_eq_true rfl, Nat.le_of_ble_eq_true rfl⟩) (c_X10_product l Γ b M mem (a := a) (a2 := 120) (i := i) (j := 4 * (nrs (prJ f i cf) c9)) (L := L) (L2 := 16) (f := f) (g := cf) (by omega) (by omega) fa g120 (by omega) (by omega) (by omega) (by omega) (hf) (hcf)) rfl rfl (Nat.le_of_ble_eq_true rfl) dX10_nearest_36 rfl rfl (fun H locs hh => ?_)
        have he1 : (prJ f i cf) (c9 + 1) = pr4 f i cf (4 * (c9 + 1)) 4 := by unfold prJ; rw [Nat.mul_comm]
        have he2 : (prJ f i cf) (nrs (prJ f i cf) c9) = pr4 f i cf (4 * nrs (prJ f i cf) c9) 4 := by show pr4 f i cf (nrs (prJ f i cf) c9 * 4) 4 = _; rw [Nat.mul_comm]
        refine lv_fcmp hx hb dX10_nearest_39 ?_
        refine nn_cl_le (tgt := 48) hx hb dX10_nearest_40 (by decide) (fun h3 => ?_) (fun h3 => ?_)
        ·
          have hq : nrs (prJ f i cf) (c9 + 1) = nrs (prJ f i cf) c9 := if_neg (by rw [he1, he2]; exact h3)
          refine lv_iload_n hx hb dX10_nearest_48 rfl (lv_at hl 1 rfl) ?_
          refine lv_istore_n (lv' := [(3, .int (nI (nrs (prJ f i cf) c9))), (4, .int (nI (c9 + 1))), (0, .ref (b + 115)), (1, .ref (b + a)), (2, .int (nI i))]) hx hb dX10_nearest_49 rfl hl (by decide) rfl (fun ls hl => ?_)
          refine nn_iinc (x := (c9 + 1)) (d := 1) (lv' := [(4, .int (nI (c9 + 1 + 1))), (3, .int (nI (nrs (prJ f i cf) c9))), (0, .ref (b + 115)), (1, .ref (b + a)), (2, .int (nI i))]) hx hb dX10_nearest_50 hl (k := 1) rfl (by decide) (by decide) rfl (fun ls hl => ?_)
          refine lv_goto (tgt := 5) hx hb dX10_nearest_53 (by decide) ?_
          exact ih1 (c9 + 1) (by omega) (by omega) _ _ hh ls (lv_sub hl [0, 1, 2, 3, 4] (by rw [hq]; rfl))
        ·
          have hq : nrs (prJ f i cf) (c9 + 1) = c9 + 1 := if_pos (by rw [he1, he2]; exact Classical.not_not.mp h3)
          refine lv_iload hx hb dX10_nearest_43 (lv_at hl 0 rfl) ?_
          refine lv_goto (tgt := 49) hx hb dX10_nearest_45 (by decide) ?_
          refine lv_istore_n (lv' := [(3, .int (nI (c9 + 1))), (4, .int (nI (c9 + 1))), (0, .ref (b + 115)), (1, .ref (b + a)), (2, .int (nI i))]) hx hb dX10_nearest_49 rfl hl (by decide) rfl (fun ls hl => ?_)
          refine nn_iinc (x := (c9 + 1)) (d := 1) (lv' := [(4, .int (nI (c9 + 1 + 1))), (3, .int (nI (c9 + 1))), (0, .ref (b + 115)), (1, .ref (b + a)), (2, .int (nI i))]) hx hb dX10_nearest_50 hl (k := 1) rfl (by decide) (by decide) rfl (fun ls hl => ?_)
          refine lv_goto (tgt := 5) hx hb dX10_nearest_53 (by decide) ?_
          exact ih1 (c9 + 1) (by omega) (by omega) _ _ hh ls (lv_sub hl [0, 1, 2, 3, 4] (by rw [hq]; rfl))
  exact loop5 ((cz - 0) + 1) 0 (by omega) (by omega) _ _ hh ls (lv_sub hl [0, 1, 2, 3, 4] rfl)
set_option maxHeartbeats 4000000 in
set_option maxRecDepth 100000 in
/-- reference: isCandidate -/
theorem c_X10_isCandidate (l : Launch) (Γ : Gm) (b M : Nat) (mem : Nat → va_E) {cd nd cz wz iz vz md wh sd sk ps fc : Nat} {d : Nat} {tz : Nat → Nat} {tf : Nat → Nat → UInt32} {vf cf : Nat → UInt32} (hM : 138 ≤ M) (fM : mem 115 = .inr (9, [.int (nI cd), .int (nI nd), .ref (b + 116), .ref (b + 117), .ref (b + 118), .ref (b + 119), .int (nI cz), .ref (b + 120), .int (nI wz), .int (nI iz), .int (nI vz), .ref (b + 121), .ref (b + 122), .ref (b + 123), .ref (b + 124), .ref (b + 125), .ref (b + 126), .ref (b + 127), .ref (b + 128), .ref (b + 129), .int (nI md), .ref (b + 130), .ref (b + 131), .int (nI wh), .ref (b + 132), .ref (b + 133), .int (nI sd), .int (nI sk), .int (nI ps), .int (nI fc), .ref (b + 134), .ref (b + 135)])) (g118 : mem 118 = aN Γ 16 tz) (g119 : mem 119 = aF Γ 256 (fl16 tf)) (g124 : mem 124 = aF Γ 12 vf) (g120 : mem 120 = aF Γ 16 cf) (hd : d < 16) (htz : ∀ d, tz d ≤ 4) (hvz : vz ≤ 3) (hcz : cz ≤ 4) (hvf : gdF vf) (htf : ∀ d, gdF (tf d)) (hcf : gdF cf) : Ct l yX10_isCandidate (.code yX10_isCandidate cX10_isCandidate 5 (some .boolean)) ({ frames := 2, cells := 0, slots := 0, locals := 49 } : Room) Γ b M [.ref (b + 115), .int (nI d)] mem (fun u => u = mem) (some (.int (bI (cd2 (nrq (tf d) cf cz) (nrq vf cf cz) vz (tz d))))) := by
  refine mm_enter (cc := cX10_isCandidate) (by decide) (Nat.le_of_ble_eq_true rfl) ?_
  intro p e s m args below meth c ls hx hb hml hown hr hlocks hname hE hh hl
  have hl : lv_has ls 5 [(0, .ref (b + 115)), (1, .int (nI d))] := hl
  have htd := htz d
  refine lv_iconst (v := (nI 0)) hx hb dX10_isCandidate_0 (by decide) ?_
  refine lv_istore_n (lv' := [(2, .int (nI 0)), (0, .ref (b + 115)), (1, .int (nI d))]) hx hb dX10_isCandidate_1 rfl hl (by decide) rfl (fun ls hl => ?_)
  refine lv_iconst (v := (nI 0)) hx hb dX10_isCandidate_2 (by decide) ?_
  refine lv_istore_n (lv' := [(3, .int (nI 0)), (2, .int (nI 0)), (0, .ref (b + 115)), (1, .int (nI d))]) hx hb dX10_isCandidate_3 rfl hl (by decide) rfl (fun ls hl => ?_)
  have loop4 : ∀ (n9 : Nat) (t : Nat), (tz d - t) < n9 → (t ≤ tz d) → ∀ (H : Heap) (locs : List Loc), GH Γ b M mem s H locs → ∀ (ls : Array Slot), lv_has ls 5 [(3, .int (nI t)), (2, .int (bI (cd2 (nrq (tf d) cf cz) (nrq vf cf cz) vz t))), (0, .ref (b + 115)), (1, .int (nI d))] → W p l e ({ frames := 2, cells := 0, slots := 0, locals := 49 } : Room) s m args below meth c H locs 0 0 (MQ below (QC Γ b M (fun u => u = mem) (some (.int (bI (cd2 (nrq (tf d) cf cz) (nrq vf cf cz) vz (tz d)))))) args s 0 0 (fun q => b ≤ q)) (F0 m 4 ls []) := by
    intro n9
    induction n9 with
    | zero => intro t hn; exact absurd hn (Nat.not_lt_zero _)
    | succ n9 ih =>
      intro t hn ht H locs hh ls hl
      have ih1 := ih
      refine lv_iload_n hx hb dX10_isCandidate_4 rfl (lv_at hl 0 rfl) ?_
      refine lv_aload_n hx hb dX10_isCandidate_5 rfl (lv_at hl 2 rfl) ?_
      refine gf_X10_tokens hx hb hE hown hh (by omega) fM rfl dX10_isCandidate_6 ?_
      refine lv_iload_n hx hb dX10_isCandidate_9 rfl (lv_at hl 3 rfl) ?_
      refine mm_iald hx hb hE hh (by omega) g118 (by omega) (by decide) dX10_isCandidate_10 ?_
      refine nn_icmp_ge (tgt := 79) hx hb dX10_isCandidate_11 (by decide) (by omega) (by omega) (fun h2 => ?_) (fun h2 => ?_)
      ·
        have hte : t = tz d := by omega
        refine lv_iload_n hx hb dX10_isCandidate_79 rfl (lv_at hl 1 rfl) ?_
        exact mm_zret hx hb hr hlocks hE hh (by rw [← hte]) (rfl) (bI_nar _) dX10_isCandidate_80
      ·
        refine lv_iconst (v := (nI 0)) hx hb dX10_isCandidate_14 (by decide) ?_
        refine lv_istore (lv' := [(4, .int (nI 0)), (3, .int (nI t)), (2, .int (bI (cd2 (nrq (tf d) cf cz) (nrq vf cf cz) vz t))), (0, .ref (b + 115)), (1, .int (nI d))]) hx hb dX10_isCandidate_15 hl (by decide) rfl (fun ls hl => ?_)
        have loop17 : ∀ (n9 : Nat) (v : Nat), (vz - v) < n9 → (v ≤ vz) → ∀ (H : Heap) (locs : List Loc), GH Γ b M mem s H locs → ∀ (ls : Array Slot), lv_has ls 5 [(4, .int (nI v)), (2, .int (bI (cd2 (nrq (tf d) cf cz) (nrq vf cf cz) vz t || cd1 ((nrq (tf d) cf cz) t) (nrq vf cf cz) v))), (3, .int (nI t)), (0, .ref (b + 115)), (1, .int (nI d))] → W p l e ({ frames := 2, cells := 0, slots := 0, locals := 49 } : Room) s m args below meth c H locs 0 0 (MQ below (QC Γ b M (fun u => u = mem) (some (.int (bI (cd2 (nrq (tf d) cf cz) (nrq vf cf cz) vz (tz d)))))) args s 0 0 (fun q => b ≤ q)) (F0 m 17 ls []) := by
          intro n9
          induction n9 with
          | zero => intro v hn; exact absurd hn (Nat.not_lt_zero _)
          | succ n9 ih =>
            intro v hn hv H locs hh ls hl
            have ih3 := ih
            refine lv_iload hx hb dX10_isCandidate_17 (lv_at hl 0 rfl) ?_
            refine lv_aload_n hx hb dX10_isCandidate_19 rfl (lv_at hl 3 rfl) ?_
            refine gf_X10_vectors hx hb hE hown hh (by omega) fM rfl dX10_isCandidate_20 ?_
            refine nn_icmp_ge (tgt := 73) hx hb dX10_isCandidate_23 (by decide) (by omega) (by omega) (fun h4 => ?_) (fun h4 => ?_)
            ·
              obtain rfl : vz = v := by omega
              refine nn_iinc (x := t) (d := 1) (lv' := [(3, .int (nI (t + 1))), (4, .int (nI vz)), (2, .int (bI (cd2 (nrq (tf d) cf cz) (nrq vf cf cz) vz t || cd1 ((nrq (tf d) cf cz) t) (nrq vf cf cz) vz))), (0, .ref (b + 115)), (1, .int (nI d))]) hx hb dX10_isCandidate_73 hl (k := 2) rfl (by decide) (by decide) rfl (fun ls hl => ?_)
              refine lv_goto (tgt := 4) hx hb dX10_isCandidate_76 (by decide) ?_
              exact ih1 (t + 1) (by omega) (by omega) _ _ hh ls (lv_sub hl [0, 2, 3, 4] rfl)
            ·
              refine lv_iload_n hx hb dX10_isCandidate_26 rfl (lv_at hl 1 rfl) ?_
              refine nn_bne (tgt := 61) hx hb dX10_isCandidate_27 (by decide) (fun h5 => ?_) (fun h5 => ?_)
              ·
                have hq : (cd2 (nrq (tf d) cf cz) (nrq vf cf cz) vz t || cd1 ((nrq (tf d) cf cz) t) (nrq vf cf cz) (v + 1)) = true := cd_y h5
                refine lv_iconst (v := (nI 1)) hx hb dX10_isCandidate_61 (by decide) ?_
                refine lv_goto (tgt := 66) hx hb dX10_isCandidate_62 (by decide) ?_
                refine lv_istore_n (lv' := [(2, .int (nI 1)), (4, .int (nI v)), (3, .int (nI t)), (0, .ref (b + 115)), (1, .int (nI d))]) hx hb dX10_isCandidate_66 rfl hl (by decide) rfl (fun ls hl => ?_)
                refine nn_iinc (x := v) (d := 1) (lv' := [(4, .int (nI (v + 1))), (2, .int (nI 1)), (3, .int (nI t)), (0, .ref (b + 115)), (1, .int (nI d))]) hx hb dX10_isCandidate_67 hl (k := 1) rfl (by decide) (by decide) rfl (fun ls hl => ?_)
                refine lv_goto (tgt := 17) hx hb dX10_isCandidate_70 (by decide) ?_
                exact ih3 (v + 1) (by omega) (by omega) _ _ hh ls (lv_sub hl [0, 1, 2, 3, 4] (by rw [hq]; rfl))
              ·
                have g1 := h5
                refine lv_aload_n hx hb dX10_isCandidate_30 rfl (lv_at hl 3 rfl) ?_
                refine lv_aload_n hx hb dX10_isCandidate_31 rfl (lv_at hl 3 rfl) ?_
                refine gf_X10_parts hx hb hE hown hh (by omega) fM rfl dX10_isCandidate_32 ?_
                refine lv_bipush (v := (nI 16)) hx hb dX10_isCandidate_35 (by decide) ?_
                refine lv_iload_n hx hb dX10_isCandidate_37 rfl (lv_at hl 4 rfl) ?_
                refine nn_imul hx hb dX10_isCandidate_38 ?_
                refine lv_iconst (v := (nI 4)) hx hb dX10_isCandidate_39 (by decide) ?_
                refine lv_iload_n hx hb dX10_isCandidate_40 rfl (lv_at hl 2 rfl) ?_
                refine nn_imul hx hb dX10_isCandidate_41 ?_
                refine nn_iadd hx hb dX10_isCandidate_42 ?_
                refine mm_V0r (As := [.ref (b + 119), .int (nI ((16 * d) + (4 * t)))]) (rest := []) hx hb hml hown hE hl.1 hh (kc_X10_213 hE.2.1 ⟨Nat.le_of_ble_eq_true rfl, Nat.le_of_ble_eq_true rfl⟩) (c_X10_nearest l Γ b M mem (cd := cd) (nd := nd) (cz := cz) (wz := wz) (iz := iz) (vz := vz) (md := md) (wh := wh) (sd := sd) (sk := sk) (ps := ps) (fc := fc) (a := 119) (i := (16 * d) + (4 * t)) (L := 256) (f := fl16 tf) (cf := cf) (by omega) (by omega) fM g120 g119 (by omega) (by omega) (by omega) (fl16_gd htf) (hcf)) rfl (by omega) fM rfl rfl (Nat.le_of_ble_eq_true rfl) dX10_isCandidate_43 rfl rfl (fun H locs hh => ?_)
                have hp1 : nrs (prJ (fl16 tf) (16 * d + 4 * t) cf) (cz - 1) = (nrq (tf d) cf cz) t := by rw [prJ_fl1 tf cf d t (by omega)]; rfl
                rw [hp1]
                have hn1 : (nrq (tf d) cf cz) t ≤ cz - 1 := nrs_le _ _
                refine lv_aload_n hx hb dX10_isCandidate_46 rfl (lv_at hl 3 rfl) ?_
                refine lv_aload_n hx hb dX10_isCandidate_47 rfl (lv_at hl 3 rfl) ?_
                refine gf_X10_vector hx hb hE hown hh (by omega) fM rfl dX10_isCandidate_48 ?_
                refine lv_iconst (v := (nI 4)) hx hb dX10_isCandidate_51 (by decide) ?_
                refine lv_iload hx hb dX10_isCandidate_52 (lv_at hl 0 rfl) ?_
                refine nn_imul hx hb dX10_isCandidate_54 ?_
                refine mm_V0r (As := [.ref (b + 124), .int (nI (4 * v))]) (rest := [.int (nI ((nrq (tf d) cf cz) t))]) hx hb hml hown hE hl.1 hh (kc_X10_213 hE.2.1 ⟨Nat.le_of_ble_eq_true rfl, Nat.le_of_ble_eq_true rfl⟩) (c_X10_nearest l Γ b M mem (cd := cd) (nd := nd) (cz := cz) (wz := wz) (iz := iz) (vz := vz) (md := md) (wh := wh) (sd := sd) (sk := sk) (ps := ps) (fc := fc) (a := 124) (i := 4 * v) (L := 12) (f := vf) (cf := cf) (by omega) (by omega) fM g120 g124 (by omega) (by omega) (by omega) (hvf) (hcf)) rfl (by omega) fM rfl rfl (Nat.le_of_ble_eq_true rfl) dX10_isCandidate_55 rfl rfl (fun H locs hh => ?_)
                have hp2 : nrs (prJ vf (4 * v) cf) (cz - 1) = (nrq vf cf cz) v := by show _ = nrs (prJ vf (v * 4) cf) (cz - 1); rw [Nat.mul_comm]
                rw [hp2]
                have hn2 : (nrq vf cf cz) v ≤ cz - 1 := nrs_le _ _
                refine nn_icmp_ne (tgt := 65) hx hb dX10_isCandidate_58 (by decide) (by omega) (by omega) (fun h6 => ?_) (fun h6 => ?_)
                ·
                  have hq : (cd2 (nrq (tf d) cf cz) (nrq vf cf cz) vz t || cd1 ((nrq (tf d) cf cz) t) (nrq vf cf cz) (v + 1)) = false := cd_f g1 (decide_eq_false h6)
                  refine lv_iconst (v := (nI 0)) hx hb dX10_isCandidate_65 (by decide) ?_
                  refine lv_istore_n (lv' := [(2, .int (nI 0)), (4, .int (nI v)), (3, .int (nI t)), (0, .ref (b + 115)), (1, .int (nI d))]) hx hb dX10_isCandidate_66 rfl hl (by decide) rfl (fun ls hl => ?_)
                  refine nn_iinc (x := v) (d := 1) (lv' := [(4, .int (nI (v + 1))), (2, .int (nI 0)), (3, .int (nI t)), (0, .ref (b + 115)), (1, .int (nI d))]) hx hb dX10_isCandidate_67 hl (k := 1) rfl (by decide) (by decide) rfl (fun ls hl => ?_)
                  refine lv_goto (tgt := 17) hx hb dX10_isCandidate_70 (by decide) ?_
                  exact ih3 (v + 1) (by omega) (by omega) _ _ hh ls (lv_sub hl [0, 1, 2, 3, 4] (by rw [hq]; rfl))
                ·
                  have hq : (cd2 (nrq (tf d) cf cz) (nrq vf cf cz) vz t || cd1 ((nrq (tf d) cf cz) t) (nrq vf cf cz) (v + 1)) = true := cd_t (decide_eq_true h6)
                  refine lv_iconst (v := (nI 1)) hx hb dX10_isCandidate_61 (by decide) ?_
                  refine lv_goto (tgt := 66) hx hb dX10_isCandidate_62 (by decide) ?_
                  refine lv_istore_n (lv' := [(2, .int (nI 1)), (4, .int (nI v)), (3, .int (nI t)), (0, .ref (b + 115)), (1, .int (nI d))]) hx hb dX10_isCandidate_66 rfl hl (by decide) rfl (fun ls hl => ?_)
                  refine nn_iinc (x := v) (d := 1) (lv' := [(4, .int (nI (v + 1))), (2, .int (nI 1)), (3, .int (nI t)), (0, .ref (b + 115)), (1, .int (nI d))]) hx hb dX10_isCandidate_67 hl (k := 1) rfl (by decide) (by decide) rfl (fun ls hl => ?_)
                  refine lv_goto (tgt := 17) hx hb dX10_isCandidate_70 (by decide) ?_
                  exact ih3 (v + 1) (by omega) (by omega) _ _ hh ls (lv_sub hl [0, 1, 2, 3, 4] (by rw [hq]; rfl))
        exact loop17 ((vz - 0) + 1) 0 (by omega) (by omega) _ _ hh ls (lv_sub hl [0, 2, 1, 3, 4] (by rw [show (cd2 (nrq (tf d) cf cz) (nrq vf cf cz) vz t || cd1 ((nrq (tf d) cf cz) t) (nrq vf cf cz) 0) = (cd2 (nrq (tf d) cf cz) (nrq vf cf cz) vz t) from (cd_0 _).symm]; rfl))
  exact loop4 ((tz d - 0) + 1) 0 (by omega) (by omega) _ _ hh ls (lv_sub hl [0, 1, 2, 3] rfl)
set_option maxHeartbeats 4000000 in
set_option maxRecDepth 100000 in
/-- reference: quantised -/
theorem m_quantised (l : Launch) (Γ : Gm) (b M : Nat) (mem : Nat → va_E) {cd nd cz wz iz vz md wh sd sk ps fc : Nat} {d t : Nat} {wt : Nat → Nat → UInt32} (hM : 138 ≤ M) (fM : mem 115 = .inr (9, [.int (nI cd), .int (nI nd), .ref (b + 116), .ref (b + 117), .ref (b + 118), .ref (b + 119), .int (nI cz), .ref (b + 120), .int (nI wz), .int (nI iz), .int (nI vz), .ref (b + 121), .ref (b + 122), .ref (b + 123), .ref (b + 124), .ref (b + 125), .ref (b + 126), .ref (b + 127), .ref (b + 128), .ref (b + 129), .int (nI md), .ref (b + 130), .ref (b + 131), .int (nI wh), .ref (b + 132), .ref (b + 133), .int (nI sd), .int (nI sk), .int (nI ps), .int (nI fc), .ref (b + 134), .ref (b + 135)])) (g117 : mem 117 = aF Γ 192 (fl12 wt)) (hnd : nd ≤ 16) (hd : d < nd) (ht : t < 12) (hwt : ∀ d t, fb 148 (wt d t)) : Ct l yX10_quantised (.code yX10_quantised cX10_quantised 3 (some .int)) ({ frames := 1, cells := 0, slots := 0, locals := 25 } : Room) Γ b M [.ref (b + 115), .int (nI d), .int (nI t)] mem (fun u => u 115 = .inr (9, [.int (nI 0), .int (nI nd), .ref (b + 116), .ref (b + 117), .ref (b + 118), .ref (b + 119), .int (nI cz), .ref (b + 120), .int (nI wz), .int (nI iz), .int (nI vz), .ref (b + 121), .ref (b + 122), .ref (b + 123), .ref (b + 124), .ref (b + 125), .ref (b + 126), .ref (b + 127), .ref (b + 128), .ref (b + 129), .int (nI md), .ref (b + 130), .ref (b + 131), .int (nI wh), .ref (b + 132), .ref (b + 133), .int (nI sd), .int (nI sk), .int (nI ps), .int (nI fc), .ref (b + 134), .ref (b + 135)]) ∧ ∀ j, j ≠ 115 → u j = mem j) (some (.int (imF (wt d t) (gwF wt nd)))) := by
  refine mm_enter (cc := cX10_quantised) (by decide) (Nat.le_of_ble_eq_true rfl) ?_
  intro p e s m args below meth c ls hx hb hml hown hr hlocks hname hE hh hl
  have hl : lv_has ls 3 [(0, .ref (b + 115)), (1, .int (nI d)), (2, .int (nI t))] := hl
  have hfr : ∀ j, j ≠ 115 → mem j = mem j := fun j _ => rfl
  refine lv_aload_n hx hb dX10_quantised_0 rfl (lv_at hl 0 rfl) ?_
  refine lv_iload_n hx hb dX10_quantised_1 rfl (lv_at hl 1 rfl) ?_
  refine lv_aload_n hx hb dX10_quantised_2 rfl (lv_at hl 0 rfl) ?_
  refine gf_X10_documents hx hb hE hown hh (by omega) fM rfl dX10_quantised_3 ?_
  refine mm_S0r (As := [.int (nI d), .int (nI nd)]) (rest := [.ref (b + 115)]) hx hb hml hown hE hl.1 hh (kc_X10_92 hE.2.1 ⟨Nat.le_of_ble_eq_true rfl, Nat.le_of_ble_eq_true rfl⟩) (c_X10_outside l Γ b M mem (v := (nI d)) (n := nd)) rfl rfl (Nat.le_of_ble_eq_true rfl) dX10_quantised_6 rfl rfl (fun H locs hh => ?_)
  refine nn_bne (tgt := 21) hx hb dX10_quantised_9 (by decide) (fun h1 => ?_) (fun h1 => ?_)
  ·
    exact (nt_tf h1 (inR_y hd (by omega))).elim
  ·
    refine lv_iload_n hx hb dX10_quantised_12 rfl (lv_at hl 2 rfl) ?_
    refine lv_bipush (v := (nI 12)) hx hb dX10_quantised_13 (by decide) ?_
    refine mm_S0r (As := [.int (nI t), .int (nI 12)]) (rest := [.ref (b + 115)]) hx hb hml hown hE hl.1 hh (kc_X10_92 hE.2.1 ⟨Nat.le_of_ble_eq_true rfl, Nat.le_of_ble_eq_true rfl⟩) (c_X10_outside l Γ b M mem (v := (nI t)) (n := 12)) rfl rfl (Nat.le_of_ble_eq_true rfl) dX10_quantised_15 rfl rfl (fun H locs hh => ?_)
    refine nn_beq (tgt := 25) hx hb dX10_quantised_18 (by decide) (fun h2 => ?_) (fun h2 => ?_)
    ·
      refine lv_iconst (v := (nI 0)) hx hb dX10_quantised_25 (by decide) ?_
      refine gp_X10_code (fs' := [.int (nI 0), .int (nI nd), .ref (b + 116), .ref (b + 117), .ref (b + 118), .ref (b + 119), .int (nI cz), .ref (b + 120), .int (nI wz), .int (nI iz), .int (nI vz), .ref (b + 121), .ref (b + 122), .ref (b + 123), .ref (b + 124), .ref (b + 125), .ref (b + 126), .ref (b + 127), .ref (b + 128), .ref (b + 129), .int (nI md), .ref (b + 130), .ref (b + 131), .int (nI wh), .ref (b + 132), .ref (b + 133), .int (nI sd), .int (nI sk), .int (nI ps), .int (nI fc), .ref (b + 134), .ref (b + 135)]) hx hb hE hown hh (by omega) fM rfl rfl (show 0 < 32 by decide) rfl dX10_quantised_26 (fun H locs mem3 f4 k5 hh => ?_)
      have hfr6 : ∀ j, j ≠ 115 → mem3 j = mem j := fun j c0 => (k5 j (by omega)).trans (hfr j c0)
      have f7 : mem3 117 = aF Γ 192 (fl12 wt) := (k5 _ (by omega)).trans g117
      refine lv_aload_n hx hb dX10_quantised_29 rfl (lv_at hl 0 rfl) ?_
      refine gf_X10_code hx hb hE hown hh (by omega) f4 rfl dX10_quantised_30 ?_
      refine nn_if_le (tgt := 40) hx hb dX10_quantised_33 (by decide) (by omega) (fun h8 => ?_) (fun h8 => ?_)
      ·
        refine lv_aload_n hx hb dX10_quantised_40 rfl (lv_at hl 0 rfl) ?_
        refine lv_iload_n hx hb dX10_quantised_41 rfl (lv_at hl 1 rfl) ?_
        refine lv_iload_n hx hb dX10_quantised_42 rfl (lv_at hl 2 rfl) ?_
        refine mm_V0r (As := [.int (nI d), .int (nI t)]) (rest := []) hx hb hml hown hE hl.1 hh (kc_X10_150 hE.2.1 ⟨Nat.le_of_ble_eq_true rfl, Nat.le_of_ble_eq_true rfl⟩) (c_X10_impactOf l Γ b M mem3 (cd := 0) (nd := nd) (cz := cz) (wz := wz) (iz := iz) (vz := vz) (md := md) (wh := wh) (sd := sd) (sk := sk) (ps := ps) (fc := fc) (d := d) (t := t) (by omega) f4 f7 (by omega) (by omega) (by omega) (hwt)) rfl (by omega) f4 rfl rfl (Nat.le_of_ble_eq_true rfl) dX10_quantised_43 rfl rfl (fun H locs hh => ?_)
        exact mm_iret hx hb hr hlocks hE hh (rfl) (⟨f4, hfr6⟩) dX10_quantised_46
      ·
        exact absurd h8 (by decide)
    ·
      exact (nt_tf h2 (inR_y ht (by decide))).elim
set_option maxHeartbeats 4000000 in
set_option maxRecDepth 100000 in
/-- reference: quantised, 1 -/
theorem m_quantised_1 (l : Launch) (Γ : Gm) (b M : Nat) (mem : Nat → va_E) {cd nd cz wz iz vz md wh sd sk ps fc : Nat} {d t : Int32} (hM : 138 ≤ M) (fM : mem 115 = .inr (9, [.int (nI cd), .int (nI nd), .ref (b + 116), .ref (b + 117), .ref (b + 118), .ref (b + 119), .int (nI cz), .ref (b + 120), .int (nI wz), .int (nI iz), .int (nI vz), .ref (b + 121), .ref (b + 122), .ref (b + 123), .ref (b + 124), .ref (b + 125), .ref (b + 126), .ref (b + 127), .ref (b + 128), .ref (b + 129), .int (nI md), .ref (b + 130), .ref (b + 131), .int (nI wh), .ref (b + 132), .ref (b + 133), .int (nI sd), .int (nI sk), .int (nI ps), .int (nI fc), .ref (b + 134), .ref (b + 135)])) (hdt : (inR d nd && inR t 12) = false) : Ct l yX10_quantised (.code yX10_quantised cX10_quantised 3 (some .int)) ({ frames := 1, cells := 0, slots := 0, locals := 21 } : Room) Γ b M [.ref (b + 115), .int d, .int t] mem (fun u => u 115 = .inr (9, [.int (nI 1), .int (nI nd), .ref (b + 116), .ref (b + 117), .ref (b + 118), .ref (b + 119), .int (nI cz), .ref (b + 120), .int (nI wz), .int (nI iz), .int (nI vz), .ref (b + 121), .ref (b + 122), .ref (b + 123), .ref (b + 124), .ref (b + 125), .ref (b + 126), .ref (b + 127), .ref (b + 128), .ref (b + 129), .int (nI md), .ref (b + 130), .ref (b + 131), .int (nI wh), .ref (b + 132), .ref (b + 133), .int (nI sd), .int (nI sk), .int (nI ps), .int (nI fc), .ref (b + 134), .ref (b + 135)]) ∧ ∀ j, j ≠ 115 → u j = mem j) (some (.int (nI 0))) := by
  refine mm_enter (cc := cX10_quantised) (by decide) (Nat.le_of_ble_eq_true rfl) ?_
  intro p e s m args below meth c ls hx hb hml hown hr hlocks hname hE hh hl
  have hl : lv_has ls 3 [(0, .ref (b + 115)), (1, .int d), (2, .int t)] := hl
  have hfr : ∀ j, j ≠ 115 → mem j = mem j := fun j _ => rfl
  refine lv_aload_n hx hb dX10_quantised_0 rfl (lv_at hl 0 rfl) ?_
  refine lv_iload_n hx hb dX10_quantised_1 rfl (lv_at hl 1 rfl) ?_
  refine lv_aload_n hx hb dX10_quantised_2 rfl (lv_at hl 0 rfl) ?_
  refine gf_X10_documents hx hb hE hown hh (by omega) fM rfl dX10_quantised_3 ?_
  refine mm_S0r (As := [.int d, .int (nI nd)]) (rest := [.ref (b + 115)]) hx hb hml hown hE hl.1 hh (kc_X10_92 hE.2.1 ⟨Nat.le_of_ble_eq_true rfl, Nat.le_of_ble_eq_true rfl⟩) (c_X10_outside l Γ b M mem (v := d) (n := nd)) rfl rfl (Nat.le_of_ble_eq_true rfl) dX10_quantised_6 rfl rfl (fun H locs hh => ?_)
  refine nn_bne (tgt := 21) hx hb dX10_quantised_9 (by decide) (fun h1 => ?_) (fun h1 => ?_)
  ·
    refine lv_iconst (v := (nI 1)) hx hb dX10_quantised_21 (by decide) ?_
    refine lv_goto (tgt := 26) hx hb dX10_quantised_22 (by decide) ?_
    refine gp_X10_code (fs' := [.int (nI 1), .int (nI nd), .ref (b + 116), .ref (b + 117), .ref (b + 118), .ref (b + 119), .int (nI cz), .ref (b + 120), .int (nI wz), .int (nI iz), .int (nI vz), .ref (b + 121), .ref (b + 122), .ref (b + 123), .ref (b + 124), .ref (b + 125), .ref (b + 126), .ref (b + 127), .ref (b + 128), .ref (b + 129), .int (nI md), .ref (b + 130), .ref (b + 131), .int (nI wh), .ref (b + 132), .ref (b + 133), .int (nI sd), .int (nI sk), .int (nI ps), .int (nI fc), .ref (b + 134), .ref (b + 135)]) hx hb hE hown hh (by omega) fM rfl rfl (show 0 < 32 by decide) rfl dX10_quantised_26 (fun H locs mem2 f3 k4 hh => ?_)
    have hfr5 : ∀ j, j ≠ 115 → mem2 j = mem j := fun j c0 => (k4 j (by omega)).trans (hfr j c0)
    refine lv_aload_n hx hb dX10_quantised_29 rfl (lv_at hl 0 rfl) ?_
    refine gf_X10_code hx hb hE hown hh (by omega) f3 rfl dX10_quantised_30 ?_
    refine nn_if_le (tgt := 40) hx hb dX10_quantised_33 (by decide) (by omega) (fun h6 => ?_) (fun h6 => ?_)
    ·
      exact absurd h6 (by decide)
    ·
      refine lv_iconst (v := (nI 0)) hx hb dX10_quantised_36 (by decide) ?_
      refine lv_goto (tgt := 46) hx hb dX10_quantised_37 (by decide) ?_
      exact mm_iret hx hb hr hlocks hE hh (rfl) (⟨f3, hfr5⟩) dX10_quantised_46
  ·
    have g1 := nf_ff h1
    refine lv_iload_n hx hb dX10_quantised_12 rfl (lv_at hl 2 rfl) ?_
    refine lv_bipush (v := (nI 12)) hx hb dX10_quantised_13 (by decide) ?_
    refine mm_S0r (As := [.int t, .int (nI 12)]) (rest := [.ref (b + 115)]) hx hb hml hown hE hl.1 hh (kc_X10_92 hE.2.1 ⟨Nat.le_of_ble_eq_true rfl, Nat.le_of_ble_eq_true rfl⟩) (c_X10_outside l Γ b M mem (v := t) (n := 12)) rfl rfl (Nat.le_of_ble_eq_true rfl) dX10_quantised_15 rfl rfl (fun H locs hh => ?_)
    refine nn_beq (tgt := 25) hx hb dX10_quantised_18 (by decide) (fun h7 => ?_) (fun h7 => ?_)
    ·
      exact absurd hdt (by rw [g1, nf_ff h7]; decide)
    ·
      refine lv_iconst (v := (nI 1)) hx hb dX10_quantised_21 (by decide) ?_
      refine lv_goto (tgt := 26) hx hb dX10_quantised_22 (by decide) ?_
      refine gp_X10_code (fs' := [.int (nI 1), .int (nI nd), .ref (b + 116), .ref (b + 117), .ref (b + 118), .ref (b + 119), .int (nI cz), .ref (b + 120), .int (nI wz), .int (nI iz), .int (nI vz), .ref (b + 121), .ref (b + 122), .ref (b + 123), .ref (b + 124), .ref (b + 125), .ref (b + 126), .ref (b + 127), .ref (b + 128), .ref (b + 129), .int (nI md), .ref (b + 130), .ref (b + 131), .int (nI wh), .ref (b + 132), .ref (b + 133), .int (nI sd), .int (nI sk), .int (nI ps), .int (nI fc), .ref (b + 134), .ref (b + 135)]) hx hb hE hown hh (by omega) fM rfl rfl (show 0 < 32 by decide) rfl dX10_quantised_26 (fun H locs mem8 f9 k10 hh => ?_)
      have hfr11 : ∀ j, j ≠ 115 → mem8 j = mem j := fun j c0 => (k10 j (by omega)).trans (hfr j c0)
      refine lv_aload_n hx hb dX10_quantised_29 rfl (lv_at hl 0 rfl) ?_
      refine gf_X10_code hx hb hE hown hh (by omega) f9 rfl dX10_quantised_30 ?_
      refine nn_if_le (tgt := 40) hx hb dX10_quantised_33 (by decide) (by omega) (fun h12 => ?_) (fun h12 => ?_)
      ·
        exact absurd h12 (by decide)
      ·
        refine lv_iconst (v := (nI 0)) hx hb dX10_quantised_36 (by decide) ?_
        refine lv_goto (tgt := 46) hx hb dX10_quantised_37 (by decide) ?_
        exact mm_iret hx hb hr hlocks hE hh (rfl) (⟨f9, hfr11⟩) dX10_quantised_46
set_option maxHeartbeats 4000000 in
set_option maxRecDepth 100000 in
/-- reference: find 0 -/
theorem m_find0 (l : Launch) (Γ : Gm) (b M : Nat) (mem : Nat → va_E) {cd nd cz wz iz vz md wh sd sk ps fc : Nat} {mh : Nat → Bool} {ml : Nat → Nat} {v i : Nat}  (hM : 138 ≤ M) (fM : mem 115 = .inr (9, [.int (nI cd), .int (nI nd), .ref (b + 116), .ref (b + 117), .ref (b + 118), .ref (b + 119), .int (nI cz), .ref (b + 120), .int (nI wz), .int (nI iz), .int (nI vz), .ref (b + 121), .ref (b + 122), .ref (b + 123), .ref (b + 124), .ref (b + 125), .ref (b + 126), .ref (b + 127), .ref (b + 128), .ref (b + 129), .int (nI md), .ref (b + 130), .ref (b + 131), .int (nI wh), .ref (b + 132), .ref (b + 133), .int (nI sd), .int (nI sk), .int (nI ps), .int (nI fc), .ref (b + 134), .ref (b + 135)])) (g125 : mem 125 = aB Γ 3 mh) (g126 : mem 126 = aN Γ 3 ml) (hv : v < 3) (hmh : mh v = true) (hi : i < ml v) (hi2 : ml v ≤ 20) : Ct l yX10_find (.code yX10_find cX10_find 3 (some .int)) ({ frames := 1, cells := 0, slots := 0, locals := 21 } : Room) Γ b M [.ref (b + 115), .int (nI v), .int (nI i)] mem (fun u => u = mem) (some (.int (nI 0))) := by
  refine mm_enter (cc := cX10_find) (by decide) (Nat.le_of_ble_eq_true rfl) ?_
  intro p e s m args below meth c ls hx hb hml hown hr hlocks hname hE hh hl
  have hl : lv_has ls 3 [(0, .ref (b + 115)), (1, .int (nI v)), (2, .int (nI i))] := hl
  refine lv_iload_n hx hb dX10_find_0 rfl (lv_at hl 1 rfl) ?_
  refine lv_iconst (v := (nI 3)) hx hb dX10_find_1 (by decide) ?_
  refine mm_S0r (As := [.int (nI v), .int (nI 3)]) (rest := []) hx hb hml hown hE hl.1 hh (kc_X10_92 hE.2.1 ⟨Nat.le_of_ble_eq_true rfl, Nat.le_of_ble_eq_true rfl⟩) (c_X10_outside l Γ b M mem (v := (nI v)) (n := 3)) rfl rfl (Nat.le_of_ble_eq_true rfl) dX10_find_2 rfl rfl (fun H locs hh => ?_)
  refine nn_beq (tgt := 12) hx hb dX10_find_5 (by decide) (fun h1 => ?_) (fun h1 => ?_)
  ·
    refine lv_aload_n hx hb dX10_find_12 rfl (lv_at hl 0 rfl) ?_
    refine gf_X10_has hx hb hE hown hh (by omega) fM rfl dX10_find_13 ?_
    refine lv_iload_n hx hb dX10_find_16 rfl (lv_at hl 1 rfl) ?_
    refine mm_zald hx hb hE hh (by omega) g125 (by omega) (by decide) dX10_find_17 ?_
    refine nn_bne (tgt := 25) hx hb dX10_find_18 (by decide) (fun h2 => ?_) (fun h2 => ?_)
    ·
      refine lv_iload_n hx hb dX10_find_25 rfl (lv_at hl 2 rfl) ?_
      refine lv_aload_n hx hb dX10_find_26 rfl (lv_at hl 0 rfl) ?_
      refine gf_X10_length hx hb hE hown hh (by omega) fM rfl dX10_find_27 ?_
      refine lv_iload_n hx hb dX10_find_30 rfl (lv_at hl 1 rfl) ?_
      refine mm_iald hx hb hE hh (by omega) g126 (by omega) (by decide) dX10_find_31 ?_
      refine mm_S0r (As := [.int (nI i), .int (nI (ml v))]) (rest := []) hx hb hml hown hE hl.1 hh (kc_X10_92 hE.2.1 ⟨Nat.le_of_ble_eq_true rfl, Nat.le_of_ble_eq_true rfl⟩) (c_X10_outside l Γ b M mem (v := (nI i)) (n := ml v)) rfl rfl (Nat.le_of_ble_eq_true rfl) dX10_find_32 rfl rfl (fun H locs hh => ?_)
      refine nn_beq (tgt := 42) hx hb dX10_find_35 (by decide) (fun h3 => ?_) (fun h3 => ?_)
      ·
        refine lv_iconst (v := (nI 0)) hx hb dX10_find_42 (by decide) ?_
        exact mm_iret hx hb hr hlocks hE hh (rfl) (rfl) dX10_find_43
      ·
        exact (nt_tf h3 (inR_y hi (by omega))).elim
    ·
      exact (no_tf hmh h2).elim
  ·
    exact (nt_tf h1 (inR_y hv (by decide))).elim
set_option maxHeartbeats 4000000 in
set_option maxRecDepth 100000 in
/-- reference: hit 0 -/
theorem m_hit (l : Launch) (Γ : Gm) (b M : Nat) (mem : Nat → va_E) {cd nd cz wz iz vz md wh sd sk ps fc : Nat} {mh : Nat → Bool} {ml : Nat → Nat} {v i : Nat} {mli : Nat → Nat}  (hM : 138 ≤ M) (fM : mem 115 = .inr (9, [.int (nI cd), .int (nI nd), .ref (b + 116), .ref (b + 117), .ref (b + 118), .ref (b + 119), .int (nI cz), .ref (b + 120), .int (nI wz), .int (nI iz), .int (nI vz), .ref (b + 121), .ref (b + 122), .ref (b + 123), .ref (b + 124), .ref (b + 125), .ref (b + 126), .ref (b + 127), .ref (b + 128), .ref (b + 129), .int (nI md), .ref (b + 130), .ref (b + 131), .int (nI wh), .ref (b + 132), .ref (b + 133), .int (nI sd), .int (nI sk), .int (nI ps), .int (nI fc), .ref (b + 134), .ref (b + 135)])) (g125 : mem 125 = aB Γ 3 mh) (g126 : mem 126 = aN Γ 3 ml) (hv : v < 3) (hmh : mh v = true) (hi : i < ml v) (hi2 : ml v ≤ 20) (g127 : mem 127 = aN Γ 60 mli) : Ct l yX10_hit (.code yX10_hit cX10_hit 3 (some .int)) ({ frames := 2, cells := 0, slots := 0, locals := 43 } : Room) Γ b M [.ref (b + 115), .int (nI v), .int (nI i)] mem (fun u => u 115 = .inr (9, [.int (nI 0), .int (nI nd), .ref (b + 116), .ref (b + 117), .ref (b + 118), .ref (b + 119), .int (nI cz), .ref (b + 120), .int (nI wz), .int (nI iz), .int (nI vz), .ref (b + 121), .ref (b + 122), .ref (b + 123), .ref (b + 124), .ref (b + 125), .ref (b + 126), .ref (b + 127), .ref (b + 128), .ref (b + 129), .int (nI md), .ref (b + 130), .ref (b + 131), .int (nI wh), .ref (b + 132), .ref (b + 133), .int (nI sd), .int (nI sk), .int (nI ps), .int (nI fc), .ref (b + 134), .ref (b + 135)]) ∧ ∀ j, j ≠ 115 → u j = mem j) (some (.int (nI (mli (20 * v + i))))) := by
  refine mm_enter (cc := cX10_hit) (by decide) (Nat.le_of_ble_eq_true rfl) ?_
  intro p e s m args below meth c ls hx hb hml hown hr hlocks hname hE hh hl
  have hl : lv_has ls 3 [(0, .ref (b + 115)), (1, .int (nI v)), (2, .int (nI i))] := hl
  have hfr : ∀ j, j ≠ 115 → mem j = mem j := fun j _ => rfl
  refine lv_aload_n hx hb dX10_hit_0 rfl (lv_at hl 0 rfl) ?_
  refine lv_aload_n hx hb dX10_hit_1 rfl (lv_at hl 0 rfl) ?_
  refine lv_iload_n hx hb dX10_hit_2 rfl (lv_at hl 1 rfl) ?_
  refine lv_iload_n hx hb dX10_hit_3 rfl (lv_at hl 2 rfl) ?_
  refine mm_V0r (As := [.int (nI v), .int (nI i)]) (rest := [.ref (b + 115)]) hx hb hml hown hE hl.1 hh (kc_X10_231 hE.2.1 ⟨Nat.le_of_ble_eq_true rfl, Nat.le_of_ble_eq_true rfl⟩) (m_find0 l Γ b M mem (cd := cd) (nd := nd) (cz := cz) (wz := wz) (iz := iz) (vz := vz) (md := md) (wh := wh) (sd := sd) (sk := sk) (ps := ps) (fc := fc) (mh := mh) (ml := ml) (v := v) (i := i) (by omega) fM g125 g126 (by omega) (by omega) (by omega) (by omega)) rfl (by omega) fM rfl rfl (Nat.le_of_ble_eq_true rfl) dX10_hit_4 rfl rfl (fun H locs hh => ?_)
  refine gp_X10_code (fs' := [.int (nI 0), .int (nI nd), .ref (b + 116), .ref (b + 117), .ref (b + 118), .ref (b + 119), .int (nI cz), .ref (b + 120), .int (nI wz), .int (nI iz), .int (nI vz), .ref (b + 121), .ref (b + 122), .ref (b + 123), .ref (b + 124), .ref (b + 125), .ref (b + 126), .ref (b + 127), .ref (b + 128), .ref (b + 129), .int (nI md), .ref (b + 130), .ref (b + 131), .int (nI wh), .ref (b + 132), .ref (b + 133), .int (nI sd), .int (nI sk), .int (nI ps), .int (nI fc), .ref (b + 134), .ref (b + 135)]) hx hb hE hown hh (by omega) fM rfl rfl (show 0 < 32 by decide) rfl dX10_hit_7 (fun H locs mem1 f2 k3 hh => ?_)
  have hfr4 : ∀ j, j ≠ 115 → mem1 j = mem j := fun j c0 => (k3 j (by omega)).trans (hfr j c0)
  have f5 : mem1 125 = aB Γ 3 mh := (k3 _ (by omega)).trans g125
  have f6 : mem1 126 = aN Γ 3 ml := (k3 _ (by omega)).trans g126
  have f7 : mem1 127 = aN Γ 60 mli := (k3 _ (by omega)).trans g127
  refine lv_aload_n hx hb dX10_hit_10 rfl (lv_at hl 0 rfl) ?_
  refine gf_X10_code hx hb hE hown hh (by omega) f2 rfl dX10_hit_11 ?_
  refine nn_if_le (tgt := 21) hx hb dX10_hit_14 (by decide) (by omega) (fun h8 => ?_) (fun h8 => ?_)
  ·
    refine lv_aload_n hx hb dX10_hit_21 rfl (lv_at hl 0 rfl) ?_
    refine gf_X10_list hx hb hE hown hh (by omega) f2 rfl dX10_hit_22 ?_
    refine lv_bipush (v := (nI 20)) hx hb dX10_hit_25 (by decide) ?_
    refine lv_iload_n hx hb dX10_hit_27 rfl (lv_at hl 1 rfl) ?_
    refine nn_imul hx hb dX10_hit_28 ?_
    refine lv_iload_n hx hb dX10_hit_29 rfl (lv_at hl 2 rfl) ?_
    refine nn_iadd hx hb dX10_hit_30 ?_
    refine mm_iald hx hb hE hh (by omega) f7 (by omega) (by decide) dX10_hit_31 ?_
    exact mm_iret hx hb hr hlocks hE hh (rfl) (⟨f2, hfr4⟩) dX10_hit_32
  ·
    exact absurd h8 (by decide)
set_option maxHeartbeats 4000000 in
set_option maxRecDepth 100000 in
/-- reference: score_ 0 -/
theorem m_score (l : Launch) (Γ : Gm) (b M : Nat) (mem : Nat → va_E) {cd nd cz wz iz vz md wh sd sk ps fc : Nat} {mh : Nat → Bool} {ml : Nat → Nat} {v i : Nat} {msc : Nat → UInt64}  (hM : 138 ≤ M) (fM : mem 115 = .inr (9, [.int (nI cd), .int (nI nd), .ref (b + 116), .ref (b + 117), .ref (b + 118), .ref (b + 119), .int (nI cz), .ref (b + 120), .int (nI wz), .int (nI iz), .int (nI vz), .ref (b + 121), .ref (b + 122), .ref (b + 123), .ref (b + 124), .ref (b + 125), .ref (b + 126), .ref (b + 127), .ref (b + 128), .ref (b + 129), .int (nI md), .ref (b + 130), .ref (b + 131), .int (nI wh), .ref (b + 132), .ref (b + 133), .int (nI sd), .int (nI sk), .int (nI ps), .int (nI fc), .ref (b + 134), .ref (b + 135)])) (g125 : mem 125 = aB Γ 3 mh) (g126 : mem 126 = aN Γ 3 ml) (hv : v < 3) (hmh : mh v = true) (hi : i < ml v) (hi2 : ml v ≤ 20) (g128 : mem 128 = aD Γ 60 msc) : Ct l yX10_score_ (.code yX10_score_ cX10_score_ 3 (some .double)) ({ frames := 2, cells := 0, slots := 0, locals := 43 } : Room) Γ b M [.ref (b + 115), .int (nI v), .int (nI i)] mem (fun u => u 115 = .inr (9, [.int (nI 0), .int (nI nd), .ref (b + 116), .ref (b + 117), .ref (b + 118), .ref (b + 119), .int (nI cz), .ref (b + 120), .int (nI wz), .int (nI iz), .int (nI vz), .ref (b + 121), .ref (b + 122), .ref (b + 123), .ref (b + 124), .ref (b + 125), .ref (b + 126), .ref (b + 127), .ref (b + 128), .ref (b + 129), .int (nI md), .ref (b + 130), .ref (b + 131), .int (nI wh), .ref (b + 132), .ref (b + 133), .int (nI sd), .int (nI sk), .int (nI ps), .int (nI fc), .ref (b + 134), .ref (b + 135)]) ∧ ∀ j, j ≠ 115 → u j = mem j) (some (.double (msc (20 * v + i)))) := by
  refine mm_enter (cc := cX10_score_) (by decide) (Nat.le_of_ble_eq_true rfl) ?_
  intro p e s m args below meth c ls hx hb hml hown hr hlocks hname hE hh hl
  have hl : lv_has ls 3 [(0, .ref (b + 115)), (1, .int (nI v)), (2, .int (nI i))] := hl
  have hfr : ∀ j, j ≠ 115 → mem j = mem j := fun j _ => rfl
  refine lv_aload_n hx hb dX10_score__0 rfl (lv_at hl 0 rfl) ?_
  refine lv_aload_n hx hb dX10_score__1 rfl (lv_at hl 0 rfl) ?_
  refine lv_iload_n hx hb dX10_score__2 rfl (lv_at hl 1 rfl) ?_
  refine lv_iload_n hx hb dX10_score__3 rfl (lv_at hl 2 rfl) ?_
  refine mm_V0r (As := [.int (nI v), .int (nI i)]) (rest := [.ref (b + 115)]) hx hb hml hown hE hl.1 hh (kc_X10_231 hE.2.1 ⟨Nat.le_of_ble_eq_true rfl, Nat.le_of_ble_eq_true rfl⟩) (m_find0 l Γ b M mem (cd := cd) (nd := nd) (cz := cz) (wz := wz) (iz := iz) (vz := vz) (md := md) (wh := wh) (sd := sd) (sk := sk) (ps := ps) (fc := fc) (mh := mh) (ml := ml) (v := v) (i := i) (by omega) fM g125 g126 (by omega) (by omega) (by omega) (by omega)) rfl (by omega) fM rfl rfl (Nat.le_of_ble_eq_true rfl) dX10_score__4 rfl rfl (fun H locs hh => ?_)
  refine gp_X10_code (fs' := [.int (nI 0), .int (nI nd), .ref (b + 116), .ref (b + 117), .ref (b + 118), .ref (b + 119), .int (nI cz), .ref (b + 120), .int (nI wz), .int (nI iz), .int (nI vz), .ref (b + 121), .ref (b + 122), .ref (b + 123), .ref (b + 124), .ref (b + 125), .ref (b + 126), .ref (b + 127), .ref (b + 128), .ref (b + 129), .int (nI md), .ref (b + 130), .ref (b + 131), .int (nI wh), .ref (b + 132), .ref (b + 133), .int (nI sd), .int (nI sk), .int (nI ps), .int (nI fc), .ref (b + 134), .ref (b + 135)]) hx hb hE hown hh (by omega) fM rfl rfl (show 0 < 32 by decide) rfl dX10_score__7 (fun H locs mem1 f2 k3 hh => ?_)
  have hfr4 : ∀ j, j ≠ 115 → mem1 j = mem j := fun j c0 => (k3 j (by omega)).trans (hfr j c0)
  have f5 : mem1 125 = aB Γ 3 mh := (k3 _ (by omega)).trans g125
  have f6 : mem1 126 = aN Γ 3 ml := (k3 _ (by omega)).trans g126
  have f7 : mem1 128 = aD Γ 60 msc := (k3 _ (by omega)).trans g128
  refine lv_aload_n hx hb dX10_score__10 rfl (lv_at hl 0 rfl) ?_
  refine gf_X10_code hx hb hE hown hh (by omega) f2 rfl dX10_score__11 ?_
  refine nn_if_le (tgt := 21) hx hb dX10_score__14 (by decide) (by omega) (fun h8 => ?_) (fun h8 => ?_)
  ·
    refine lv_aload_n hx hb dX10_score__21 rfl (lv_at hl 0 rfl) ?_
    refine gf_X10_scores hx hb hE hown hh (by omega) f2 rfl dX10_score__22 ?_
    refine lv_bipush (v := (nI 20)) hx hb dX10_score__25 (by decide) ?_
    refine lv_iload_n hx hb dX10_score__27 rfl (lv_at hl 1 rfl) ?_
    refine nn_imul hx hb dX10_score__28 ?_
    refine lv_iload_n hx hb dX10_score__29 rfl (lv_at hl 2 rfl) ?_
    refine nn_iadd hx hb dX10_score__30 ?_
    refine mm_dald hx hb hE hh (by omega) f7 (by omega) (by decide) dX10_score__31 ?_
    exact mm_dret hx hb hr hlocks hE hh (rfl) (⟨f2, hfr4⟩) dX10_score__32
  ·
    exact absurd h8 (by decide)
set_option maxHeartbeats 4000000 in
set_option maxRecDepth 100000 in
/-- reference: find 1 -/
theorem m_find1 (l : Launch) (Γ : Gm) (b M : Nat) (mem : Nat → va_E) {cd nd cz wz iz vz md wh sd sk ps fc : Nat} {mh : Nat → Bool} {ml : Nat → Nat} {v i : Int32}  (hM : 138 ≤ M) (fM : mem 115 = .inr (9, [.int (nI cd), .int (nI nd), .ref (b + 116), .ref (b + 117), .ref (b + 118), .ref (b + 119), .int (nI cz), .ref (b + 120), .int (nI wz), .int (nI iz), .int (nI vz), .ref (b + 121), .ref (b + 122), .ref (b + 123), .ref (b + 124), .ref (b + 125), .ref (b + 126), .ref (b + 127), .ref (b + 128), .ref (b + 129), .int (nI md), .ref (b + 130), .ref (b + 131), .int (nI wh), .ref (b + 132), .ref (b + 133), .int (nI sd), .int (nI sk), .int (nI ps), .int (nI fc), .ref (b + 134), .ref (b + 135)])) (hvn : inR v 3 = false) : Ct l yX10_find (.code yX10_find cX10_find 3 (some .int)) ({ frames := 1, cells := 0, slots := 0, locals := 21 } : Room) Γ b M [.ref (b + 115), .int v, .int i] mem (fun u => u = mem) (some (.int (nI 1))) := by
  refine mm_enter (cc := cX10_find) (by decide) (Nat.le_of_ble_eq_true rfl) ?_
  intro p e s m args below meth c ls hx hb hml hown hr hlocks hname hE hh hl
  have hl : lv_has ls 3 [(0, .ref (b + 115)), (1, .int v), (2, .int i)] := hl
  refine lv_iload_n hx hb dX10_find_0 rfl (lv_at hl 1 rfl) ?_
  refine lv_iconst (v := (nI 3)) hx hb dX10_find_1 (by decide) ?_
  refine mm_S0r (As := [.int v, .int (nI 3)]) (rest := []) hx hb hml hown hE hl.1 hh (kc_X10_92 hE.2.1 ⟨Nat.le_of_ble_eq_true rfl, Nat.le_of_ble_eq_true rfl⟩) (c_X10_outside l Γ b M mem (v := v) (n := 3)) rfl rfl (Nat.le_of_ble_eq_true rfl) dX10_find_2 rfl rfl (fun H locs hh => ?_)
  refine nn_beq (tgt := 12) hx hb dX10_find_5 (by decide) (fun h1 => ?_) (fun h1 => ?_)
  ·
    exact (no_tf (nf_ff h1) hvn).elim
  ·
    refine lv_iconst (v := (nI 1)) hx hb dX10_find_8 (by decide) ?_
    refine lv_goto (tgt := 43) hx hb dX10_find_9 (by decide) ?_
    exact mm_iret hx hb hr hlocks hE hh (rfl) (rfl) dX10_find_43
set_option maxHeartbeats 4000000 in
set_option maxRecDepth 100000 in
/-- reference: hit 1 -/
theorem m_hit_1 (l : Launch) (Γ : Gm) (b M : Nat) (mem : Nat → va_E) {cd nd cz wz iz vz md wh sd sk ps fc : Nat} {mh : Nat → Bool} {ml : Nat → Nat} {v i : Int32}  (hM : 138 ≤ M) (fM : mem 115 = .inr (9, [.int (nI cd), .int (nI nd), .ref (b + 116), .ref (b + 117), .ref (b + 118), .ref (b + 119), .int (nI cz), .ref (b + 120), .int (nI wz), .int (nI iz), .int (nI vz), .ref (b + 121), .ref (b + 122), .ref (b + 123), .ref (b + 124), .ref (b + 125), .ref (b + 126), .ref (b + 127), .ref (b + 128), .ref (b + 129), .int (nI md), .ref (b + 130), .ref (b + 131), .int (nI wh), .ref (b + 132), .ref (b + 133), .int (nI sd), .int (nI sk), .int (nI ps), .int (nI fc), .ref (b + 134), .ref (b + 135)])) (hvn : inR v 3 = false) : Ct l yX10_hit (.code yX10_hit cX10_hit 3 (some .int)) ({ frames := 2, cells := 0, slots := 0, locals := 43 } : Room) Γ b M [.ref (b + 115), .int v, .int i] mem (fun u => u 115 = .inr (9, [.int (nI 1), .int (nI nd), .ref (b + 116), .ref (b + 117), .ref (b + 118), .ref (b + 119), .int (nI cz), .ref (b + 120), .int (nI wz), .int (nI iz), .int (nI vz), .ref (b + 121), .ref (b + 122), .ref (b + 123), .ref (b + 124), .ref (b + 125), .ref (b + 126), .ref (b + 127), .ref (b + 128), .ref (b + 129), .int (nI md), .ref (b + 130), .ref (b + 131), .int (nI wh), .ref (b + 132), .ref (b + 133), .int (nI sd), .int (nI sk), .int (nI ps), .int (nI fc), .ref (b + 134), .ref (b + 135)]) ∧ ∀ j, j ≠ 115 → u j = mem j) (some (.int (nI 0))) := by
  refine mm_enter (cc := cX10_hit) (by decide) (Nat.le_of_ble_eq_true rfl) ?_
  intro p e s m args below meth c ls hx hb hml hown hr hlocks hname hE hh hl
  have hl : lv_has ls 3 [(0, .ref (b + 115)), (1, .int v), (2, .int i)] := hl
  have hfr : ∀ j, j ≠ 115 → mem j = mem j := fun j _ => rfl
  refine lv_aload_n hx hb dX10_hit_0 rfl (lv_at hl 0 rfl) ?_
  refine lv_aload_n hx hb dX10_hit_1 rfl (lv_at hl 0 rfl) ?_
  refine lv_iload_n hx hb dX10_hit_2 rfl (lv_at hl 1 rfl) ?_
  refine lv_iload_n hx hb dX10_hit_3 rfl (lv_at hl 2 rfl) ?_
  refine mm_V0r (As := [.int v, .int i]) (rest := [.ref (b + 115)]) hx hb hml hown hE hl.1 hh (kc_X10_231 hE.2.1 ⟨Nat.le_of_ble_eq_true rfl, Nat.le_of_ble_eq_true rfl⟩) (m_find1 l Γ b M mem (cd := cd) (nd := nd) (cz := cz) (wz := wz) (iz := iz) (vz := vz) (md := md) (wh := wh) (sd := sd) (sk := sk) (ps := ps) (fc := fc) (mh := default) (ml := default) (v := v) (i := i) (by omega) fM (by omega)) rfl (by omega) fM rfl rfl (Nat.le_of_ble_eq_true rfl) dX10_hit_4 rfl rfl (fun H locs hh => ?_)
  refine gp_X10_code (fs' := [.int (nI 1), .int (nI nd), .ref (b + 116), .ref (b + 117), .ref (b + 118), .ref (b + 119), .int (nI cz), .ref (b + 120), .int (nI wz), .int (nI iz), .int (nI vz), .ref (b + 121), .ref (b + 122), .ref (b + 123), .ref (b + 124), .ref (b + 125), .ref (b + 126), .ref (b + 127), .ref (b + 128), .ref (b + 129), .int (nI md), .ref (b + 130), .ref (b + 131), .int (nI wh), .ref (b + 132), .ref (b + 133), .int (nI sd), .int (nI sk), .int (nI ps), .int (nI fc), .ref (b + 134), .ref (b + 135)]) hx hb hE hown hh (by omega) fM rfl rfl (show 0 < 32 by decide) rfl dX10_hit_7 (fun H locs mem1 f2 k3 hh => ?_)
  have hfr4 : ∀ j, j ≠ 115 → mem1 j = mem j := fun j c0 => (k3 j (by omega)).trans (hfr j c0)
  refine lv_aload_n hx hb dX10_hit_10 rfl (lv_at hl 0 rfl) ?_
  refine gf_X10_code hx hb hE hown hh (by omega) f2 rfl dX10_hit_11 ?_
  refine nn_if_le (tgt := 21) hx hb dX10_hit_14 (by decide) (by omega) (fun h5 => ?_) (fun h5 => ?_)
  ·
    exact absurd h5 (by decide)
  ·
    refine lv_iconst (v := (nI 0)) hx hb dX10_hit_17 (by decide) ?_
    refine lv_goto (tgt := 32) hx hb dX10_hit_18 (by decide) ?_
    exact mm_iret hx hb hr hlocks hE hh (rfl) (⟨f2, hfr4⟩) dX10_hit_32
set_option maxHeartbeats 4000000 in
set_option maxRecDepth 100000 in
/-- reference: score_ 1 -/
theorem m_score_1 (l : Launch) (Γ : Gm) (b M : Nat) (mem : Nat → va_E) {cd nd cz wz iz vz md wh sd sk ps fc : Nat} {mh : Nat → Bool} {ml : Nat → Nat} {v i : Int32}  (hM : 138 ≤ M) (fM : mem 115 = .inr (9, [.int (nI cd), .int (nI nd), .ref (b + 116), .ref (b + 117), .ref (b + 118), .ref (b + 119), .int (nI cz), .ref (b + 120), .int (nI wz), .int (nI iz), .int (nI vz), .ref (b + 121), .ref (b + 122), .ref (b + 123), .ref (b + 124), .ref (b + 125), .ref (b + 126), .ref (b + 127), .ref (b + 128), .ref (b + 129), .int (nI md), .ref (b + 130), .ref (b + 131), .int (nI wh), .ref (b + 132), .ref (b + 133), .int (nI sd), .int (nI sk), .int (nI ps), .int (nI fc), .ref (b + 134), .ref (b + 135)])) (hvn : inR v 3 = false) : Ct l yX10_score_ (.code yX10_score_ cX10_score_ 3 (some .double)) ({ frames := 2, cells := 0, slots := 0, locals := 43 } : Room) Γ b M [.ref (b + 115), .int v, .int i] mem (fun u => u 115 = .inr (9, [.int (nI 1), .int (nI nd), .ref (b + 116), .ref (b + 117), .ref (b + 118), .ref (b + 119), .int (nI cz), .ref (b + 120), .int (nI wz), .int (nI iz), .int (nI vz), .ref (b + 121), .ref (b + 122), .ref (b + 123), .ref (b + 124), .ref (b + 125), .ref (b + 126), .ref (b + 127), .ref (b + 128), .ref (b + 129), .int (nI md), .ref (b + 130), .ref (b + 131), .int (nI wh), .ref (b + 132), .ref (b + 133), .int (nI sd), .int (nI sk), .int (nI ps), .int (nI fc), .ref (b + 134), .ref (b + 135)]) ∧ ∀ j, j ≠ 115 → u j = mem j) (some (.double FP.dconst0)) := by
  refine mm_enter (cc := cX10_score_) (by decide) (Nat.le_of_ble_eq_true rfl) ?_
  intro p e s m args below meth c ls hx hb hml hown hr hlocks hname hE hh hl
  have hl : lv_has ls 3 [(0, .ref (b + 115)), (1, .int v), (2, .int i)] := hl
  have hfr : ∀ j, j ≠ 115 → mem j = mem j := fun j _ => rfl
  refine lv_aload_n hx hb dX10_score__0 rfl (lv_at hl 0 rfl) ?_
  refine lv_aload_n hx hb dX10_score__1 rfl (lv_at hl 0 rfl) ?_
  refine lv_iload_n hx hb dX10_score__2 rfl (lv_at hl 1 rfl) ?_
  refine lv_iload_n hx hb dX10_score__3 rfl (lv_at hl 2 rfl) ?_
  refine mm_V0r (As := [.int v, .int i]) (rest := [.ref (b + 115)]) hx hb hml hown hE hl.1 hh (kc_X10_231 hE.2.1 ⟨Nat.le_of_ble_eq_true rfl, Nat.le_of_ble_eq_true rfl⟩) (m_find1 l Γ b M mem (cd := cd) (nd := nd) (cz := cz) (wz := wz) (iz := iz) (vz := vz) (md := md) (wh := wh) (sd := sd) (sk := sk) (ps := ps) (fc := fc) (mh := default) (ml := default) (v := v) (i := i) (by omega) fM (by omega)) rfl (by omega) fM rfl rfl (Nat.le_of_ble_eq_true rfl) dX10_score__4 rfl rfl (fun H locs hh => ?_)
  refine gp_X10_code (fs' := [.int (nI 1), .int (nI nd), .ref (b + 116), .ref (b + 117), .ref (b + 118), .ref (b + 119), .int (nI cz), .ref (b + 120), .int (nI wz), .int (nI iz), .int (nI vz), .ref (b + 121), .ref (b + 122), .ref (b + 123), .ref (b + 124), .ref (b + 125), .ref (b + 126), .ref (b + 127), .ref (b + 128), .ref (b + 129), .int (nI md), .ref (b + 130), .ref (b + 131), .int (nI wh), .ref (b + 132), .ref (b + 133), .int (nI sd), .int (nI sk), .int (nI ps), .int (nI fc), .ref (b + 134), .ref (b + 135)]) hx hb hE hown hh (by omega) fM rfl rfl (show 0 < 32 by decide) rfl dX10_score__7 (fun H locs mem1 f2 k3 hh => ?_)
  have hfr4 : ∀ j, j ≠ 115 → mem1 j = mem j := fun j c0 => (k3 j (by omega)).trans (hfr j c0)
  refine lv_aload_n hx hb dX10_score__10 rfl (lv_at hl 0 rfl) ?_
  refine gf_X10_code hx hb hE hown hh (by omega) f2 rfl dX10_score__11 ?_
  refine nn_if_le (tgt := 21) hx hb dX10_score__14 (by decide) (by omega) (fun h5 => ?_) (fun h5 => ?_)
  ·
    exact absurd h5 (by decide)
  ·
    refine lv_dconst0 hx hb dX10_score__17 ?_
    refine lv_goto (tgt := 32) hx hb dX10_score__18 (by decide) ?_
    exact mm_dret hx hb hr hlocks hE hh (rfl) (⟨f2, hfr4⟩) dX10_score__32
set_option maxHeartbeats 4000000 in
set_option maxRecDepth 100000 in
/-- reference: find 2 -/
theorem m_find2 (l : Launch) (Γ : Gm) (b M : Nat) (mem : Nat → va_E) {cd nd cz wz iz vz md wh sd sk ps fc : Nat} {mh : Nat → Bool} {ml : Nat → Nat} {v : Nat} {i : Int32}  (hM : 138 ≤ M) (fM : mem 115 = .inr (9, [.int (nI cd), .int (nI nd), .ref (b + 116), .ref (b + 117), .ref (b + 118), .ref (b + 119), .int (nI cz), .ref (b + 120), .int (nI wz), .int (nI iz), .int (nI vz), .ref (b + 121), .ref (b + 122), .ref (b + 123), .ref (b + 124), .ref (b + 125), .ref (b + 126), .ref (b + 127), .ref (b + 128), .ref (b + 129), .int (nI md), .ref (b + 130), .ref (b + 131), .int (nI wh), .ref (b + 132), .ref (b + 133), .int (nI sd), .int (nI sk), .int (nI ps), .int (nI fc), .ref (b + 134), .ref (b + 135)])) (g125 : mem 125 = aB Γ 3 mh) (hv : v < 3) (hmh : mh v = false) : Ct l yX10_find (.code yX10_find cX10_find 3 (some .int)) ({ frames := 1, cells := 0, slots := 0, locals := 21 } : Room) Γ b M [.ref (b + 115), .int (nI v), .int i] mem (fun u => u = mem) (some (.int (nI 2))) := by
  refine mm_enter (cc := cX10_find) (by decide) (Nat.le_of_ble_eq_true rfl) ?_
  intro p e s m args below meth c ls hx hb hml hown hr hlocks hname hE hh hl
  have hl : lv_has ls 3 [(0, .ref (b + 115)), (1, .int (nI v)), (2, .int i)] := hl
  refine lv_iload_n hx hb dX10_find_0 rfl (lv_at hl 1 rfl) ?_
  refine lv_iconst (v := (nI 3)) hx hb dX10_find_1 (by decide) ?_
  refine mm_S0r (As := [.int (nI v), .int (nI 3)]) (rest := []) hx hb hml hown hE hl.1 hh (kc_X10_92 hE.2.1 ⟨Nat.le_of_ble_eq_true rfl, Nat.le_of_ble_eq_true rfl⟩) (c_X10_outside l Γ b M mem (v := (nI v)) (n := 3)) rfl rfl (Nat.le_of_ble_eq_true rfl) dX10_find_2 rfl rfl (fun H locs hh => ?_)
  refine nn_beq (tgt := 12) hx hb dX10_find_5 (by decide) (fun h1 => ?_) (fun h1 => ?_)
  ·
    refine lv_aload_n hx hb dX10_find_12 rfl (lv_at hl 0 rfl) ?_
    refine gf_X10_has hx hb hE hown hh (by omega) fM rfl dX10_find_13 ?_
    refine lv_iload_n hx hb dX10_find_16 rfl (lv_at hl 1 rfl) ?_
    refine mm_zald hx hb hE hh (by omega) g125 (by omega) (by decide) dX10_find_17 ?_
    refine nn_bne (tgt := 25) hx hb dX10_find_18 (by decide) (fun h2 => ?_) (fun h2 => ?_)
    ·
      exact (no_tf h2 hmh).elim
    ·
      refine lv_iconst (v := (nI 2)) hx hb dX10_find_21 (by decide) ?_
      refine lv_goto (tgt := 43) hx hb dX10_find_22 (by decide) ?_
      exact mm_iret hx hb hr hlocks hE hh (rfl) (rfl) dX10_find_43
  ·
    exact (nt_tf h1 (inR_y hv (by decide))).elim
set_option maxHeartbeats 4000000 in
set_option maxRecDepth 100000 in
/-- reference: hit 2 -/
theorem m_hit_2 (l : Launch) (Γ : Gm) (b M : Nat) (mem : Nat → va_E) {cd nd cz wz iz vz md wh sd sk ps fc : Nat} {mh : Nat → Bool} {ml : Nat → Nat} {v : Nat} {i : Int32}  (hM : 138 ≤ M) (fM : mem 115 = .inr (9, [.int (nI cd), .int (nI nd), .ref (b + 116), .ref (b + 117), .ref (b + 118), .ref (b + 119), .int (nI cz), .ref (b + 120), .int (nI wz), .int (nI iz), .int (nI vz), .ref (b + 121), .ref (b + 122), .ref (b + 123), .ref (b + 124), .ref (b + 125), .ref (b + 126), .ref (b + 127), .ref (b + 128), .ref (b + 129), .int (nI md), .ref (b + 130), .ref (b + 131), .int (nI wh), .ref (b + 132), .ref (b + 133), .int (nI sd), .int (nI sk), .int (nI ps), .int (nI fc), .ref (b + 134), .ref (b + 135)])) (g125 : mem 125 = aB Γ 3 mh) (hv : v < 3) (hmh : mh v = false) : Ct l yX10_hit (.code yX10_hit cX10_hit 3 (some .int)) ({ frames := 2, cells := 0, slots := 0, locals := 43 } : Room) Γ b M [.ref (b + 115), .int (nI v), .int i] mem (fun u => u 115 = .inr (9, [.int (nI 2), .int (nI nd), .ref (b + 116), .ref (b + 117), .ref (b + 118), .ref (b + 119), .int (nI cz), .ref (b + 120), .int (nI wz), .int (nI iz), .int (nI vz), .ref (b + 121), .ref (b + 122), .ref (b + 123), .ref (b + 124), .ref (b + 125), .ref (b + 126), .ref (b + 127), .ref (b + 128), .ref (b + 129), .int (nI md), .ref (b + 130), .ref (b + 131), .int (nI wh), .ref (b + 132), .ref (b + 133), .int (nI sd), .int (nI sk), .int (nI ps), .int (nI fc), .ref (b + 134), .ref (b + 135)]) ∧ ∀ j, j ≠ 115 → u j = mem j) (some (.int (nI 0))) := by
  refine mm_enter (cc := cX10_hit) (by decide) (Nat.le_of_ble_eq_true rfl) ?_
  intro p e s m args below meth c ls hx hb hml hown hr hlocks hname hE hh hl
  have hl : lv_has ls 3 [(0, .ref (b + 115)), (1, .int (nI v)), (2, .int i)] := hl
  have hfr : ∀ j, j ≠ 115 → mem j = mem j := fun j _ => rfl
  refine lv_aload_n hx hb dX10_hit_0 rfl (lv_at hl 0 rfl) ?_
  refine lv_aload_n hx hb dX10_hit_1 rfl (lv_at hl 0 rfl) ?_
  refine lv_iload_n hx hb dX10_hit_2 rfl (lv_at hl 1 rfl) ?_
  refine lv_iload_n hx hb dX10_hit_3 rfl (lv_at hl 2 rfl) ?_
  refine mm_V0r (As := [.int (nI v), .int i]) (rest := [.ref (b + 115)]) hx hb hml hown hE hl.1 hh (kc_X10_231 hE.2.1 ⟨Nat.le_of_ble_eq_true rfl, Nat.le_of_ble_eq_true rfl⟩) (m_find2 l Γ b M mem (cd := cd) (nd := nd) (cz := cz) (wz := wz) (iz := iz) (vz := vz) (md := md) (wh := wh) (sd := sd) (sk := sk) (ps := ps) (fc := fc) (mh := mh) (ml := default) (v := v) (i := i) (by omega) fM g125 (by omega) (by omega)) rfl (by omega) fM rfl rfl (Nat.le_of_ble_eq_true rfl) dX10_hit_4 rfl rfl (fun H locs hh => ?_)
  refine gp_X10_code (fs' := [.int (nI 2), .int (nI nd), .ref (b + 116), .ref (b + 117), .ref (b + 118), .ref (b + 119), .int (nI cz), .ref (b + 120), .int (nI wz), .int (nI iz), .int (nI vz), .ref (b + 121), .ref (b + 122), .ref (b + 123), .ref (b + 124), .ref (b + 125), .ref (b + 126), .ref (b + 127), .ref (b + 128), .ref (b + 129), .int (nI md), .ref (b + 130), .ref (b + 131), .int (nI wh), .ref (b + 132), .ref (b + 133), .int (nI sd), .int (nI sk), .int (nI ps), .int (nI fc), .ref (b + 134), .ref (b + 135)]) hx hb hE hown hh (by omega) fM rfl rfl (show 0 < 32 by decide) rfl dX10_hit_7 (fun H locs mem1 f2 k3 hh => ?_)
  have hfr4 : ∀ j, j ≠ 115 → mem1 j = mem j := fun j c0 => (k3 j (by omega)).trans (hfr j c0)
  have f5 : mem1 125 = aB Γ 3 mh := (k3 _ (by omega)).trans g125
  refine lv_aload_n hx hb dX10_hit_10 rfl (lv_at hl 0 rfl) ?_
  refine gf_X10_code hx hb hE hown hh (by omega) f2 rfl dX10_hit_11 ?_
  refine nn_if_le (tgt := 21) hx hb dX10_hit_14 (by decide) (by omega) (fun h6 => ?_) (fun h6 => ?_)
  ·
    exact absurd h6 (by decide)
  ·
    refine lv_iconst (v := (nI 0)) hx hb dX10_hit_17 (by decide) ?_
    refine lv_goto (tgt := 32) hx hb dX10_hit_18 (by decide) ?_
    exact mm_iret hx hb hr hlocks hE hh (rfl) (⟨f2, hfr4⟩) dX10_hit_32
set_option maxHeartbeats 4000000 in
set_option maxRecDepth 100000 in
/-- reference: score_ 2 -/
theorem m_score_2 (l : Launch) (Γ : Gm) (b M : Nat) (mem : Nat → va_E) {cd nd cz wz iz vz md wh sd sk ps fc : Nat} {mh : Nat → Bool} {ml : Nat → Nat} {v : Nat} {i : Int32}  (hM : 138 ≤ M) (fM : mem 115 = .inr (9, [.int (nI cd), .int (nI nd), .ref (b + 116), .ref (b + 117), .ref (b + 118), .ref (b + 119), .int (nI cz), .ref (b + 120), .int (nI wz), .int (nI iz), .int (nI vz), .ref (b + 121), .ref (b + 122), .ref (b + 123), .ref (b + 124), .ref (b + 125), .ref (b + 126), .ref (b + 127), .ref (b + 128), .ref (b + 129), .int (nI md), .ref (b + 130), .ref (b + 131), .int (nI wh), .ref (b + 132), .ref (b + 133), .int (nI sd), .int (nI sk), .int (nI ps), .int (nI fc), .ref (b + 134), .ref (b + 135)])) (g125 : mem 125 = aB Γ 3 mh) (hv : v < 3) (hmh : mh v = false) : Ct l yX10_score_ (.code yX10_score_ cX10_score_ 3 (some .double)) ({ frames := 2, cells := 0, slots := 0, locals := 43 } : Room) Γ b M [.ref (b + 115), .int (nI v), .int i] mem (fun u => u 115 = .inr (9, [.int (nI 2), .int (nI nd), .ref (b + 116), .ref (b + 117), .ref (b + 118), .ref (b + 119), .int (nI cz), .ref (b + 120), .int (nI wz), .int (nI iz), .int (nI vz), .ref (b + 121), .ref (b + 122), .ref (b + 123), .ref (b + 124), .ref (b + 125), .ref (b + 126), .ref (b + 127), .ref (b + 128), .ref (b + 129), .int (nI md), .ref (b + 130), .ref (b + 131), .int (nI wh), .ref (b + 132), .ref (b + 133), .int (nI sd), .int (nI sk), .int (nI ps), .int (nI fc), .ref (b + 134), .ref (b + 135)]) ∧ ∀ j, j ≠ 115 → u j = mem j) (some (.double FP.dconst0)) := by
  refine mm_enter (cc := cX10_score_) (by decide) (Nat.le_of_ble_eq_true rfl) ?_
  intro p e s m args below meth c ls hx hb hml hown hr hlocks hname hE hh hl
  have hl : lv_has ls 3 [(0, .ref (b + 115)), (1, .int (nI v)), (2, .int i)] := hl
  have hfr : ∀ j, j ≠ 115 → mem j = mem j := fun j _ => rfl
  refine lv_aload_n hx hb dX10_score__0 rfl (lv_at hl 0 rfl) ?_
  refine lv_aload_n hx hb dX10_score__1 rfl (lv_at hl 0 rfl) ?_
  refine lv_iload_n hx hb dX10_score__2 rfl (lv_at hl 1 rfl) ?_
  refine lv_iload_n hx hb dX10_score__3 rfl (lv_at hl 2 rfl) ?_
  refine mm_V0r (As := [.int (nI v), .int i]) (rest := [.ref (b + 115)]) hx hb hml hown hE hl.1 hh (kc_X10_231 hE.2.1 ⟨Nat.le_of_ble_eq_true rfl, Nat.le_of_ble_eq_true rfl⟩) (m_find2 l Γ b M mem (cd := cd) (nd := nd) (cz := cz) (wz := wz) (iz := iz) (vz := vz) (md := md) (wh := wh) (sd := sd) (sk := sk) (ps := ps) (fc := fc) (mh := mh) (ml := default) (v := v) (i := i) (by omega) fM g125 (by omega) (by omega)) rfl (by omega) fM rfl rfl (Nat.le_of_ble_eq_true rfl) dX10_score__4 rfl rfl (fun H locs hh => ?_)
  refine gp_X10_code (fs' := [.int (nI 2), .int (nI nd), .ref (b + 116), .ref (b + 117), .ref (b + 118), .ref (b + 119), .int (nI cz), .ref (b + 120), .int (nI wz), .int (nI iz), .int (nI vz), .ref (b + 121), .ref (b + 122), .ref (b + 123), .ref (b + 124), .ref (b + 125), .ref (b + 126), .ref (b + 127), .ref (b + 128), .ref (b + 129), .int (nI md), .ref (b + 130), .ref (b + 131), .int (nI wh), .ref (b + 132), .ref (b + 133), .int (nI sd), .int (nI sk), .int (nI ps), .int (nI fc), .ref (b + 134), .ref (b + 135)]) hx hb hE hown hh (by omega) fM rfl rfl (show 0 < 32 by decide) rfl dX10_score__7 (fun H locs mem1 f2 k3 hh => ?_)
  have hfr4 : ∀ j, j ≠ 115 → mem1 j = mem j := fun j c0 => (k3 j (by omega)).trans (hfr j c0)
  have f5 : mem1 125 = aB Γ 3 mh := (k3 _ (by omega)).trans g125
  refine lv_aload_n hx hb dX10_score__10 rfl (lv_at hl 0 rfl) ?_
  refine gf_X10_code hx hb hE hown hh (by omega) f2 rfl dX10_score__11 ?_
  refine nn_if_le (tgt := 21) hx hb dX10_score__14 (by decide) (by omega) (fun h6 => ?_) (fun h6 => ?_)
  ·
    exact absurd h6 (by decide)
  ·
    refine lv_dconst0 hx hb dX10_score__17 ?_
    refine lv_goto (tgt := 32) hx hb dX10_score__18 (by decide) ?_
    exact mm_dret hx hb hr hlocks hE hh (rfl) (⟨f2, hfr4⟩) dX10_score__32
set_option maxHeartbeats 4000000 in
set_option maxRecDepth 100000 in
/-- reference: find 3 -/
theorem m_find3 (l : Launch) (Γ : Gm) (b M : Nat) (mem : Nat → va_E) {cd nd cz wz iz vz md wh sd sk ps fc : Nat} {mh : Nat → Bool} {ml : Nat → Nat} {v : Nat} {i : Int32}  (hM : 138 ≤ M) (fM : mem 115 = .inr (9, [.int (nI cd), .int (nI nd), .ref (b + 116), .ref (b + 117), .ref (b + 118), .ref (b + 119), .int (nI cz), .ref (b + 120), .int (nI wz), .int (nI iz), .int (nI vz), .ref (b + 121), .ref (b + 122), .ref (b + 123), .ref (b + 124), .ref (b + 125), .ref (b + 126), .ref (b + 127), .ref (b + 128), .ref (b + 129), .int (nI md), .ref (b + 130), .ref (b + 131), .int (nI wh), .ref (b + 132), .ref (b + 133), .int (nI sd), .int (nI sk), .int (nI ps), .int (nI fc), .ref (b + 134), .ref (b + 135)])) (g125 : mem 125 = aB Γ 3 mh) (g126 : mem 126 = aN Γ 3 ml) (hv : v < 3) (hmh : mh v = true) (hin : inR i (ml v) = false) : Ct l yX10_find (.code yX10_find cX10_find 3 (some .int)) ({ frames := 1, cells := 0, slots := 0, locals := 21 } : Room) Γ b M [.ref (b + 115), .int (nI v), .int i] mem (fun u => u = mem) (some (.int (nI 3))) := by
  refine mm_enter (cc := cX10_find) (by decide) (Nat.le_of_ble_eq_true rfl) ?_
  intro p e s m args below meth c ls hx hb hml hown hr hlocks hname hE hh hl
  have hl : lv_has ls 3 [(0, .ref (b + 115)), (1, .int (nI v)), (2, .int i)] := hl
  refine lv_iload_n hx hb dX10_find_0 rfl (lv_at hl 1 rfl) ?_
  refine lv_iconst (v := (nI 3)) hx hb dX10_find_1 (by decide) ?_
  refine mm_S0r (As := [.int (nI v), .int (nI 3)]) (rest := []) hx hb hml hown hE hl.1 hh (kc_X10_92 hE.2.1 ⟨Nat.le_of_ble_eq_true rfl, Nat.le_of_ble_eq_true rfl⟩) (c_X10_outside l Γ b M mem (v := (nI v)) (n := 3)) rfl rfl (Nat.le_of_ble_eq_true rfl) dX10_find_2 rfl rfl (fun H locs hh => ?_)
  refine nn_beq (tgt := 12) hx hb dX10_find_5 (by decide) (fun h1 => ?_) (fun h1 => ?_)
  ·
    refine lv_aload_n hx hb dX10_find_12 rfl (lv_at hl 0 rfl) ?_
    refine gf_X10_has hx hb hE hown hh (by omega) fM rfl dX10_find_13 ?_
    refine lv_iload_n hx hb dX10_find_16 rfl (lv_at hl 1 rfl) ?_
    refine mm_zald hx hb hE hh (by omega) g125 (by omega) (by decide) dX10_find_17 ?_
    refine nn_bne (tgt := 25) hx hb dX10_find_18 (by decide) (fun h2 => ?_) (fun h2 => ?_)
    ·
      refine lv_iload_n hx hb dX10_find_25 rfl (lv_at hl 2 rfl) ?_
      refine lv_aload_n hx hb dX10_find_26 rfl (lv_at hl 0 rfl) ?_
      refine gf_X10_length hx hb hE hown hh (by omega) fM rfl dX10_find_27 ?_
      refine lv_iload_n hx hb dX10_find_30 rfl (lv_at hl 1 rfl) ?_
      refine mm_iald hx hb hE hh (by omega) g126 (by omega) (by decide) dX10_find_31 ?_
      refine mm_S0r (As := [.int i, .int (nI (ml v))]) (rest := []) hx hb hml hown hE hl.1 hh (kc_X10_92 hE.2.1 ⟨Nat.le_of_ble_eq_true rfl, Nat.le_of_ble_eq_true rfl⟩) (c_X10_outside l Γ b M mem (v := i) (n := ml v)) rfl rfl (Nat.le_of_ble_eq_true rfl) dX10_find_32 rfl rfl (fun H locs hh => ?_)
      refine nn_beq (tgt := 42) hx hb dX10_find_35 (by decide) (fun h3 => ?_) (fun h3 => ?_)
      ·
        exact (no_tf (nf_ff h3) hin).elim
      ·
        refine lv_iconst (v := (nI 3)) hx hb dX10_find_38 (by decide) ?_
        refine lv_goto (tgt := 43) hx hb dX10_find_39 (by decide) ?_
        exact mm_iret hx hb hr hlocks hE hh (rfl) (rfl) dX10_find_43
    ·
      exact (no_tf hmh h2).elim
  ·
    exact (nt_tf h1 (inR_y hv (by decide))).elim
set_option maxHeartbeats 4000000 in
set_option maxRecDepth 100000 in
/-- reference: hit 3 -/
theorem m_hit_3 (l : Launch) (Γ : Gm) (b M : Nat) (mem : Nat → va_E) {cd nd cz wz iz vz md wh sd sk ps fc : Nat} {mh : Nat → Bool} {ml : Nat → Nat} {v : Nat} {i : Int32}  (hM : 138 ≤ M) (fM : mem 115 = .inr (9, [.int (nI cd), .int (nI nd), .ref (b + 116), .ref (b + 117), .ref (b + 118), .ref (b + 119), .int (nI cz), .ref (b + 120), .int (nI wz), .int (nI iz), .int (nI vz), .ref (b + 121), .ref (b + 122), .ref (b + 123), .ref (b + 124), .ref (b + 125), .ref (b + 126), .ref (b + 127), .ref (b + 128), .ref (b + 129), .int (nI md), .ref (b + 130), .ref (b + 131), .int (nI wh), .ref (b + 132), .ref (b + 133), .int (nI sd), .int (nI sk), .int (nI ps), .int (nI fc), .ref (b + 134), .ref (b + 135)])) (g125 : mem 125 = aB Γ 3 mh) (g126 : mem 126 = aN Γ 3 ml) (hv : v < 3) (hmh : mh v = true) (hin : inR i (ml v) = false) : Ct l yX10_hit (.code yX10_hit cX10_hit 3 (some .int)) ({ frames := 2, cells := 0, slots := 0, locals := 43 } : Room) Γ b M [.ref (b + 115), .int (nI v), .int i] mem (fun u => u 115 = .inr (9, [.int (nI 3), .int (nI nd), .ref (b + 116), .ref (b + 117), .ref (b + 118), .ref (b + 119), .int (nI cz), .ref (b + 120), .int (nI wz), .int (nI iz), .int (nI vz), .ref (b + 121), .ref (b + 122), .ref (b + 123), .ref (b + 124), .ref (b + 125), .ref (b + 126), .ref (b + 127), .ref (b + 128), .ref (b + 129), .int (nI md), .ref (b + 130), .ref (b + 131), .int (nI wh), .ref (b + 132), .ref (b + 133), .int (nI sd), .int (nI sk), .int (nI ps), .int (nI fc), .ref (b + 134), .ref (b + 135)]) ∧ ∀ j, j ≠ 115 → u j = mem j) (some (.int (nI 0))) := by
  refine mm_enter (cc := cX10_hit) (by decide) (Nat.le_of_ble_eq_true rfl) ?_
  intro p e s m args below meth c ls hx hb hml hown hr hlocks hname hE hh hl
  have hl : lv_has ls 3 [(0, .ref (b + 115)), (1, .int (nI v)), (2, .int i)] := hl
  have hfr : ∀ j, j ≠ 115 → mem j = mem j := fun j _ => rfl
  refine lv_aload_n hx hb dX10_hit_0 rfl (lv_at hl 0 rfl) ?_
  refine lv_aload_n hx hb dX10_hit_1 rfl (lv_at hl 0 rfl) ?_
  refine lv_iload_n hx hb dX10_hit_2 rfl (lv_at hl 1 rfl) ?_
  refine lv_iload_n hx hb dX10_hit_3 rfl (lv_at hl 2 rfl) ?_
  refine mm_V0r (As := [.int (nI v), .int i]) (rest := [.ref (b + 115)]) hx hb hml hown hE hl.1 hh (kc_X10_231 hE.2.1 ⟨Nat.le_of_ble_eq_true rfl, Nat.le_of_ble_eq_true rfl⟩) (m_find3 l Γ b M mem (cd := cd) (nd := nd) (cz := cz) (wz := wz) (iz := iz) (vz := vz) (md := md) (wh := wh) (sd := sd) (sk := sk) (ps := ps) (fc := fc) (mh := mh) (ml := ml) (v := v) (i := i) (by omega) fM g125 g126 (by omega) (by omega) (by omega)) rfl (by omega) fM rfl rfl (Nat.le_of_ble_eq_true rfl) dX10_hit_4 rfl rfl (fun H locs hh => ?_)
  refine gp_X10_code (fs' := [.int (nI 3), .int (nI nd), .ref (b + 116), .ref (b + 117), .ref (b + 118), .ref (b + 119), .int (nI cz), .ref (b + 120), .int (nI wz), .int (nI iz), .int (nI vz), .ref (b + 121), .ref (b + 122), .ref (b + 123), .ref (b + 124), .ref (b + 125), .ref (b + 126), .ref (b + 127), .ref (b + 128), .ref (b + 129), .int (nI md), .ref (b + 130), .ref (b + 131), .int (nI wh), .ref (b + 132), .ref (b + 133), .int (nI sd), .int (nI sk), .int (nI ps), .int (nI fc), .ref (b + 134), .ref (b + 135)]) hx hb hE hown hh (by omega) fM rfl rfl (show 0 < 32 by decide) rfl dX10_hit_7 (fun H locs mem1 f2 k3 hh => ?_)
  have hfr4 : ∀ j, j ≠ 115 → mem1 j = mem j := fun j c0 => (k3 j (by omega)).trans (hfr j c0)
  have f5 : mem1 125 = aB Γ 3 mh := (k3 _ (by omega)).trans g125
  have f6 : mem1 126 = aN Γ 3 ml := (k3 _ (by omega)).trans g126
  refine lv_aload_n hx hb dX10_hit_10 rfl (lv_at hl 0 rfl) ?_
  refine gf_X10_code hx hb hE hown hh (by omega) f2 rfl dX10_hit_11 ?_
  refine nn_if_le (tgt := 21) hx hb dX10_hit_14 (by decide) (by omega) (fun h7 => ?_) (fun h7 => ?_)
  ·
    exact absurd h7 (by decide)
  ·
    refine lv_iconst (v := (nI 0)) hx hb dX10_hit_17 (by decide) ?_
    refine lv_goto (tgt := 32) hx hb dX10_hit_18 (by decide) ?_
    exact mm_iret hx hb hr hlocks hE hh (rfl) (⟨f2, hfr4⟩) dX10_hit_32
set_option maxHeartbeats 4000000 in
set_option maxRecDepth 100000 in
/-- reference: score_ 3 -/
theorem m_score_3 (l : Launch) (Γ : Gm) (b M : Nat) (mem : Nat → va_E) {cd nd cz wz iz vz md wh sd sk ps fc : Nat} {mh : Nat → Bool} {ml : Nat → Nat} {v : Nat} {i : Int32}  (hM : 138 ≤ M) (fM : mem 115 = .inr (9, [.int (nI cd), .int (nI nd), .ref (b + 116), .ref (b + 117), .ref (b + 118), .ref (b + 119), .int (nI cz), .ref (b + 120), .int (nI wz), .int (nI iz), .int (nI vz), .ref (b + 121), .ref (b + 122), .ref (b + 123), .ref (b + 124), .ref (b + 125), .ref (b + 126), .ref (b + 127), .ref (b + 128), .ref (b + 129), .int (nI md), .ref (b + 130), .ref (b + 131), .int (nI wh), .ref (b + 132), .ref (b + 133), .int (nI sd), .int (nI sk), .int (nI ps), .int (nI fc), .ref (b + 134), .ref (b + 135)])) (g125 : mem 125 = aB Γ 3 mh) (g126 : mem 126 = aN Γ 3 ml) (hv : v < 3) (hmh : mh v = true) (hin : inR i (ml v) = false) : Ct l yX10_score_ (.code yX10_score_ cX10_score_ 3 (some .double)) ({ frames := 2, cells := 0, slots := 0, locals := 43 } : Room) Γ b M [.ref (b + 115), .int (nI v), .int i] mem (fun u => u 115 = .inr (9, [.int (nI 3), .int (nI nd), .ref (b + 116), .ref (b + 117), .ref (b + 118), .ref (b + 119), .int (nI cz), .ref (b + 120), .int (nI wz), .int (nI iz), .int (nI vz), .ref (b + 121), .ref (b + 122), .ref (b + 123), .ref (b + 124), .ref (b + 125), .ref (b + 126), .ref (b + 127), .ref (b + 128), .ref (b + 129), .int (nI md), .ref (b + 130), .ref (b + 131), .int (nI wh), .ref (b + 132), .ref (b + 133), .int (nI sd), .int (nI sk), .int (nI ps), .int (nI fc), .ref (b + 134), .ref (b + 135)]) ∧ ∀ j, j ≠ 115 → u j = mem j) (some (.double FP.dconst0)) := by
  refine mm_enter (cc := cX10_score_) (by decide) (Nat.le_of_ble_eq_true rfl) ?_
  intro p e s m args below meth c ls hx hb hml hown hr hlocks hname hE hh hl
  have hl : lv_has ls 3 [(0, .ref (b + 115)), (1, .int (nI v)), (2, .int i)] := hl
  have hfr : ∀ j, j ≠ 115 → mem j = mem j := fun j _ => rfl
  refine lv_aload_n hx hb dX10_score__0 rfl (lv_at hl 0 rfl) ?_
  refine lv_aload_n hx hb dX10_score__1 rfl (lv_at hl 0 rfl) ?_
  refine lv_iload_n hx hb dX10_score__2 rfl (lv_at hl 1 rfl) ?_
  refine lv_iload_n hx hb dX10_score__3 rfl (lv_at hl 2 rfl) ?_
  refine mm_V0r (As := [.int (nI v), .int i]) (rest := [.ref (b + 115)]) hx hb hml hown hE hl.1 hh (kc_X10_231 hE.2.1 ⟨Nat.le_of_ble_eq_true rfl, Nat.le_of_ble_eq_true rfl⟩) (m_find3 l Γ b M mem (cd := cd) (nd := nd) (cz := cz) (wz := wz) (iz := iz) (vz := vz) (md := md) (wh := wh) (sd := sd) (sk := sk) (ps := ps) (fc := fc) (mh := mh) (ml := ml) (v := v) (i := i) (by omega) fM g125 g126 (by omega) (by omega) (by omega)) rfl (by omega) fM rfl rfl (Nat.le_of_ble_eq_true rfl) dX10_score__4 rfl rfl (fun H locs hh => ?_)
  refine gp_X10_code (fs' := [.int (nI 3), .int (nI nd), .ref (b + 116), .ref (b + 117), .ref (b + 118), .ref (b + 119), .int (nI cz), .ref (b + 120), .int (nI wz), .int (nI iz), .int (nI vz), .ref (b + 121), .ref (b + 122), .ref (b + 123), .ref (b + 124), .ref (b + 125), .ref (b + 126), .ref (b + 127), .ref (b + 128), .ref (b + 129), .int (nI md), .ref (b + 130), .ref (b + 131), .int (nI wh), .ref (b + 132), .ref (b + 133), .int (nI sd), .int (nI sk), .int (nI ps), .int (nI fc), .ref (b + 134), .ref (b + 135)]) hx hb hE hown hh (by omega) fM rfl rfl (show 0 < 32 by decide) rfl dX10_score__7 (fun H locs mem1 f2 k3 hh => ?_)
  have hfr4 : ∀ j, j ≠ 115 → mem1 j = mem j := fun j c0 => (k3 j (by omega)).trans (hfr j c0)
  have f5 : mem1 125 = aB Γ 3 mh := (k3 _ (by omega)).trans g125
  have f6 : mem1 126 = aN Γ 3 ml := (k3 _ (by omega)).trans g126
  refine lv_aload_n hx hb dX10_score__10 rfl (lv_at hl 0 rfl) ?_
  refine gf_X10_code hx hb hE hown hh (by omega) f2 rfl dX10_score__11 ?_
  refine nn_if_le (tgt := 21) hx hb dX10_score__14 (by decide) (by omega) (fun h7 => ?_) (fun h7 => ?_)
  ·
    exact absurd h7 (by decide)
  ·
    refine lv_dconst0 hx hb dX10_score__17 ?_
    refine lv_goto (tgt := 32) hx hb dX10_score__18 (by decide) ?_
    exact mm_dret hx hb hr hlocks hE hh (rfl) (⟨f2, hfr4⟩) dX10_score__32
set_option maxHeartbeats 4000000 in
set_option maxRecDepth 100000 in
/-- reference: work -/
theorem m_work (l : Launch) (Γ : Gm) (b M : Nat) (mem : Nat → va_E) {cd nd cz wz iz vz md wh sd sk ps fc : Nat} {mh : Nat → Bool} {mwk : Nat → Nat} {v w : Nat}  (hM : 138 ≤ M) (fM : mem 115 = .inr (9, [.int (nI cd), .int (nI nd), .ref (b + 116), .ref (b + 117), .ref (b + 118), .ref (b + 119), .int (nI cz), .ref (b + 120), .int (nI wz), .int (nI iz), .int (nI vz), .ref (b + 121), .ref (b + 122), .ref (b + 123), .ref (b + 124), .ref (b + 125), .ref (b + 126), .ref (b + 127), .ref (b + 128), .ref (b + 129), .int (nI md), .ref (b + 130), .ref (b + 131), .int (nI wh), .ref (b + 132), .ref (b + 133), .int (nI sd), .int (nI sk), .int (nI ps), .int (nI fc), .ref (b + 134), .ref (b + 135)])) (g125 : mem 125 = aB Γ 3 mh) (g129 : mem 129 = aN Γ 9 mwk) (hv : v < 3) (hw : w < 3) (hmh : mh v = true) : Ct l yX10_work (.code yX10_work cX10_work 3 (some .int)) ({ frames := 1, cells := 0, slots := 0, locals := 21 } : Room) Γ b M [.ref (b + 115), .int (nI v), .int (nI w)] mem (fun u => u 115 = .inr (9, [.int (nI 0), .int (nI nd), .ref (b + 116), .ref (b + 117), .ref (b + 118), .ref (b + 119), .int (nI cz), .ref (b + 120), .int (nI wz), .int (nI iz), .int (nI vz), .ref (b + 121), .ref (b + 122), .ref (b + 123), .ref (b + 124), .ref (b + 125), .ref (b + 126), .ref (b + 127), .ref (b + 128), .ref (b + 129), .int (nI md), .ref (b + 130), .ref (b + 131), .int (nI wh), .ref (b + 132), .ref (b + 133), .int (nI sd), .int (nI sk), .int (nI ps), .int (nI fc), .ref (b + 134), .ref (b + 135)]) ∧ ∀ j, j ≠ 115 → u j = mem j) (some (.int (nI (mwk (3 * v + w))))) := by
  refine mm_enter (cc := cX10_work) (by decide) (Nat.le_of_ble_eq_true rfl) ?_
  intro p e s m args below meth c ls hx hb hml hown hr hlocks hname hE hh hl
  have hl : lv_has ls 3 [(0, .ref (b + 115)), (1, .int (nI v)), (2, .int (nI w))] := hl
  have hfr : ∀ j, j ≠ 115 → mem j = mem j := fun j _ => rfl
  refine lv_aload_n hx hb dX10_work_0 rfl (lv_at hl 0 rfl) ?_
  refine lv_iload_n hx hb dX10_work_1 rfl (lv_at hl 1 rfl) ?_
  refine lv_iconst (v := (nI 3)) hx hb dX10_work_2 (by decide) ?_
  refine mm_S0r (As := [.int (nI v), .int (nI 3)]) (rest := [.ref (b + 115)]) hx hb hml hown hE hl.1 hh (kc_X10_92 hE.2.1 ⟨Nat.le_of_ble_eq_true rfl, Nat.le_of_ble_eq_true rfl⟩) (c_X10_outside l Γ b M mem (v := (nI v)) (n := 3)) rfl rfl (Nat.le_of_ble_eq_true rfl) dX10_work_3 rfl rfl (fun H locs hh => ?_)
  refine nn_bne (tgt := 17) hx hb dX10_work_6 (by decide) (fun h1 => ?_) (fun h1 => ?_)
  ·
    exact (nt_tf h1 (inR_y hv (by decide))).elim
  ·
    refine lv_iload_n hx hb dX10_work_9 rfl (lv_at hl 2 rfl) ?_
    refine lv_iconst (v := (nI 3)) hx hb dX10_work_10 (by decide) ?_
    refine mm_S0r (As := [.int (nI w), .int (nI 3)]) (rest := [.ref (b + 115)]) hx hb hml hown hE hl.1 hh (kc_X10_92 hE.2.1 ⟨Nat.le_of_ble_eq_true rfl, Nat.le_of_ble_eq_true rfl⟩) (c_X10_outside l Γ b M mem (v := (nI w)) (n := 3)) rfl rfl (Nat.le_of_ble_eq_true rfl) dX10_work_11 rfl rfl (fun H locs hh => ?_)
    refine nn_beq (tgt := 21) hx hb dX10_work_14 (by decide) (fun h2 => ?_) (fun h2 => ?_)
    ·
      refine lv_aload_n hx hb dX10_work_21 rfl (lv_at hl 0 rfl) ?_
      refine gf_X10_has hx hb hE hown hh (by omega) fM rfl dX10_work_22 ?_
      refine lv_iload_n hx hb dX10_work_25 rfl (lv_at hl 1 rfl) ?_
      refine mm_zald hx hb hE hh (by omega) g125 (by omega) (by decide) dX10_work_26 ?_
      refine nn_bne (tgt := 34) hx hb dX10_work_27 (by decide) (fun h3 => ?_) (fun h3 => ?_)
      ·
        refine lv_iconst (v := (nI 0)) hx hb dX10_work_34 (by decide) ?_
        refine gp_X10_code (fs' := [.int (nI 0), .int (nI nd), .ref (b + 116), .ref (b + 117), .ref (b + 118), .ref (b + 119), .int (nI cz), .ref (b + 120), .int (nI wz), .int (nI iz), .int (nI vz), .ref (b + 121), .ref (b + 122), .ref (b + 123), .ref (b + 124), .ref (b + 125), .ref (b + 126), .ref (b + 127), .ref (b + 128), .ref (b + 129), .int (nI md), .ref (b + 130), .ref (b + 131), .int (nI wh), .ref (b + 132), .ref (b + 133), .int (nI sd), .int (nI sk), .int (nI ps), .int (nI fc), .ref (b + 134), .ref (b + 135)]) hx hb hE hown hh (by omega) fM rfl rfl (show 0 < 32 by decide) rfl dX10_work_35 (fun H locs mem4 f5 k6 hh => ?_)
        have hfr7 : ∀ j, j ≠ 115 → mem4 j = mem j := fun j c0 => (k6 j (by omega)).trans (hfr j c0)
        have f8 : mem4 125 = aB Γ 3 mh := (k6 _ (by omega)).trans g125
        have f9 : mem4 129 = aN Γ 9 mwk := (k6 _ (by omega)).trans g129
        refine lv_aload_n hx hb dX10_work_38 rfl (lv_at hl 0 rfl) ?_
        refine gf_X10_code hx hb hE hown hh (by omega) f5 rfl dX10_work_39 ?_
        refine nn_if_le (tgt := 49) hx hb dX10_work_42 (by decide) (by omega) (fun h10 => ?_) (fun h10 => ?_)
        ·
          refine lv_aload_n hx hb dX10_work_49 rfl (lv_at hl 0 rfl) ?_
          refine gf_X10_work hx hb hE hown hh (by omega) f5 rfl dX10_work_50 ?_
          refine lv_iconst (v := (nI 3)) hx hb dX10_work_53 (by decide) ?_
          refine lv_iload_n hx hb dX10_work_54 rfl (lv_at hl 1 rfl) ?_
          refine nn_imul hx hb dX10_work_55 ?_
          refine lv_iload_n hx hb dX10_work_56 rfl (lv_at hl 2 rfl) ?_
          refine nn_iadd hx hb dX10_work_57 ?_
          refine mm_iald hx hb hE hh (by omega) f9 (by omega) (by decide) dX10_work_58 ?_
          exact mm_iret hx hb hr hlocks hE hh (rfl) (⟨f5, hfr7⟩) dX10_work_59
        ·
          exact absurd h10 (by decide)
      ·
        exact (no_tf hmh h3).elim
    ·
      exact (nt_tf h2 (inR_y hw (by decide))).elim
set_option maxHeartbeats 4000000 in
set_option maxRecDepth 100000 in
/-- reference: work, 1 -/
theorem m_work_1 (l : Launch) (Γ : Gm) (b M : Nat) (mem : Nat → va_E) {cd nd cz wz iz vz md wh sd sk ps fc : Nat} {v w : Int32}  (hM : 138 ≤ M) (fM : mem 115 = .inr (9, [.int (nI cd), .int (nI nd), .ref (b + 116), .ref (b + 117), .ref (b + 118), .ref (b + 119), .int (nI cz), .ref (b + 120), .int (nI wz), .int (nI iz), .int (nI vz), .ref (b + 121), .ref (b + 122), .ref (b + 123), .ref (b + 124), .ref (b + 125), .ref (b + 126), .ref (b + 127), .ref (b + 128), .ref (b + 129), .int (nI md), .ref (b + 130), .ref (b + 131), .int (nI wh), .ref (b + 132), .ref (b + 133), .int (nI sd), .int (nI sk), .int (nI ps), .int (nI fc), .ref (b + 134), .ref (b + 135)])) (hvw : (inR v 3 && inR w 3) = false) : Ct l yX10_work (.code yX10_work cX10_work 3 (some .int)) ({ frames := 1, cells := 0, slots := 0, locals := 21 } : Room) Γ b M [.ref (b + 115), .int v, .int w] mem (fun u => u 115 = .inr (9, [.int (nI 1), .int (nI nd), .ref (b + 116), .ref (b + 117), .ref (b + 118), .ref (b + 119), .int (nI cz), .ref (b + 120), .int (nI wz), .int (nI iz), .int (nI vz), .ref (b + 121), .ref (b + 122), .ref (b + 123), .ref (b + 124), .ref (b + 125), .ref (b + 126), .ref (b + 127), .ref (b + 128), .ref (b + 129), .int (nI md), .ref (b + 130), .ref (b + 131), .int (nI wh), .ref (b + 132), .ref (b + 133), .int (nI sd), .int (nI sk), .int (nI ps), .int (nI fc), .ref (b + 134), .ref (b + 135)]) ∧ ∀ j, j ≠ 115 → u j = mem j) (some (.int (nI 0))) := by
  refine mm_enter (cc := cX10_work) (by decide) (Nat.le_of_ble_eq_true rfl) ?_
  intro p e s m args below meth c ls hx hb hml hown hr hlocks hname hE hh hl
  have hl : lv_has ls 3 [(0, .ref (b + 115)), (1, .int v), (2, .int w)] := hl
  have hfr : ∀ j, j ≠ 115 → mem j = mem j := fun j _ => rfl
  refine lv_aload_n hx hb dX10_work_0 rfl (lv_at hl 0 rfl) ?_
  refine lv_iload_n hx hb dX10_work_1 rfl (lv_at hl 1 rfl) ?_
  refine lv_iconst (v := (nI 3)) hx hb dX10_work_2 (by decide) ?_
  refine mm_S0r (As := [.int v, .int (nI 3)]) (rest := [.ref (b + 115)]) hx hb hml hown hE hl.1 hh (kc_X10_92 hE.2.1 ⟨Nat.le_of_ble_eq_true rfl, Nat.le_of_ble_eq_true rfl⟩) (c_X10_outside l Γ b M mem (v := v) (n := 3)) rfl rfl (Nat.le_of_ble_eq_true rfl) dX10_work_3 rfl rfl (fun H locs hh => ?_)
  refine nn_bne (tgt := 17) hx hb dX10_work_6 (by decide) (fun h1 => ?_) (fun h1 => ?_)
  ·
    refine lv_iconst (v := (nI 1)) hx hb dX10_work_17 (by decide) ?_
    refine lv_goto (tgt := 35) hx hb dX10_work_18 (by decide) ?_
    refine gp_X10_code (fs' := [.int (nI 1), .int (nI nd), .ref (b + 116), .ref (b + 117), .ref (b + 118), .ref (b + 119), .int (nI cz), .ref (b + 120), .int (nI wz), .int (nI iz), .int (nI vz), .ref (b + 121), .ref (b + 122), .ref (b + 123), .ref (b + 124), .ref (b + 125), .ref (b + 126), .ref (b + 127), .ref (b + 128), .ref (b + 129), .int (nI md), .ref (b + 130), .ref (b + 131), .int (nI wh), .ref (b + 132), .ref (b + 133), .int (nI sd), .int (nI sk), .int (nI ps), .int (nI fc), .ref (b + 134), .ref (b + 135)]) hx hb hE hown hh (by omega) fM rfl rfl (show 0 < 32 by decide) rfl dX10_work_35 (fun H locs mem2 f3 k4 hh => ?_)
    have hfr5 : ∀ j, j ≠ 115 → mem2 j = mem j := fun j c0 => (k4 j (by omega)).trans (hfr j c0)
    refine lv_aload_n hx hb dX10_work_38 rfl (lv_at hl 0 rfl) ?_
    refine gf_X10_code hx hb hE hown hh (by omega) f3 rfl dX10_work_39 ?_
    refine nn_if_le (tgt := 49) hx hb dX10_work_42 (by decide) (by omega) (fun h6 => ?_) (fun h6 => ?_)
    ·
      exact absurd h6 (by decide)
    ·
      refine lv_iconst (v := (nI 0)) hx hb dX10_work_45 (by decide) ?_
      refine lv_goto (tgt := 59) hx hb dX10_work_46 (by decide) ?_
      exact mm_iret hx hb hr hlocks hE hh (rfl) (⟨f3, hfr5⟩) dX10_work_59
  ·
    have g1 := nf_ff h1
    refine lv_iload_n hx hb dX10_work_9 rfl (lv_at hl 2 rfl) ?_
    refine lv_iconst (v := (nI 3)) hx hb dX10_work_10 (by decide) ?_
    refine mm_S0r (As := [.int w, .int (nI 3)]) (rest := [.ref (b + 115)]) hx hb hml hown hE hl.1 hh (kc_X10_92 hE.2.1 ⟨Nat.le_of_ble_eq_true rfl, Nat.le_of_ble_eq_true rfl⟩) (c_X10_outside l Γ b M mem (v := w) (n := 3)) rfl rfl (Nat.le_of_ble_eq_true rfl) dX10_work_11 rfl rfl (fun H locs hh => ?_)
    refine nn_beq (tgt := 21) hx hb dX10_work_14 (by decide) (fun h7 => ?_) (fun h7 => ?_)
    ·
      exact absurd hvw (by rw [g1, nf_ff h7]; decide)
    ·
      refine lv_iconst (v := (nI 1)) hx hb dX10_work_17 (by decide) ?_
      refine lv_goto (tgt := 35) hx hb dX10_work_18 (by decide) ?_
      refine gp_X10_code (fs' := [.int (nI 1), .int (nI nd), .ref (b + 116), .ref (b + 117), .ref (b + 118), .ref (b + 119), .int (nI cz), .ref (b + 120), .int (nI wz), .int (nI iz), .int (nI vz), .ref (b + 121), .ref (b + 122), .ref (b + 123), .ref (b + 124), .ref (b + 125), .ref (b + 126), .ref (b + 127), .ref (b + 128), .ref (b + 129), .int (nI md), .ref (b + 130), .ref (b + 131), .int (nI wh), .ref (b + 132), .ref (b + 133), .int (nI sd), .int (nI sk), .int (nI ps), .int (nI fc), .ref (b + 134), .ref (b + 135)]) hx hb hE hown hh (by omega) fM rfl rfl (show 0 < 32 by decide) rfl dX10_work_35 (fun H locs mem8 f9 k10 hh => ?_)
      have hfr11 : ∀ j, j ≠ 115 → mem8 j = mem j := fun j c0 => (k10 j (by omega)).trans (hfr j c0)
      refine lv_aload_n hx hb dX10_work_38 rfl (lv_at hl 0 rfl) ?_
      refine gf_X10_code hx hb hE hown hh (by omega) f9 rfl dX10_work_39 ?_
      refine nn_if_le (tgt := 49) hx hb dX10_work_42 (by decide) (by omega) (fun h12 => ?_) (fun h12 => ?_)
      ·
        exact absurd h12 (by decide)
      ·
        refine lv_iconst (v := (nI 0)) hx hb dX10_work_45 (by decide) ?_
        refine lv_goto (tgt := 59) hx hb dX10_work_46 (by decide) ?_
        exact mm_iret hx hb hr hlocks hE hh (rfl) (⟨f9, hfr11⟩) dX10_work_59
set_option maxHeartbeats 4000000 in
set_option maxRecDepth 100000 in
/-- reference: work, 2 -/
theorem m_work_2 (l : Launch) (Γ : Gm) (b M : Nat) (mem : Nat → va_E) {cd nd cz wz iz vz md wh sd sk ps fc : Nat} {mh : Nat → Bool} {v w : Nat}  (hM : 138 ≤ M) (fM : mem 115 = .inr (9, [.int (nI cd), .int (nI nd), .ref (b + 116), .ref (b + 117), .ref (b + 118), .ref (b + 119), .int (nI cz), .ref (b + 120), .int (nI wz), .int (nI iz), .int (nI vz), .ref (b + 121), .ref (b + 122), .ref (b + 123), .ref (b + 124), .ref (b + 125), .ref (b + 126), .ref (b + 127), .ref (b + 128), .ref (b + 129), .int (nI md), .ref (b + 130), .ref (b + 131), .int (nI wh), .ref (b + 132), .ref (b + 133), .int (nI sd), .int (nI sk), .int (nI ps), .int (nI fc), .ref (b + 134), .ref (b + 135)])) (g125 : mem 125 = aB Γ 3 mh) (hv : v < 3) (hw : w < 3) (hmh : mh v = false) : Ct l yX10_work (.code yX10_work cX10_work 3 (some .int)) ({ frames := 1, cells := 0, slots := 0, locals := 21 } : Room) Γ b M [.ref (b + 115), .int (nI v), .int (nI w)] mem (fun u => u 115 = .inr (9, [.int (nI 2), .int (nI nd), .ref (b + 116), .ref (b + 117), .ref (b + 118), .ref (b + 119), .int (nI cz), .ref (b + 120), .int (nI wz), .int (nI iz), .int (nI vz), .ref (b + 121), .ref (b + 122), .ref (b + 123), .ref (b + 124), .ref (b + 125), .ref (b + 126), .ref (b + 127), .ref (b + 128), .ref (b + 129), .int (nI md), .ref (b + 130), .ref (b + 131), .int (nI wh), .ref (b + 132), .ref (b + 133), .int (nI sd), .int (nI sk), .int (nI ps), .int (nI fc), .ref (b + 134), .ref (b + 135)]) ∧ ∀ j, j ≠ 115 → u j = mem j) (some (.int (nI 0))) := by
  refine mm_enter (cc := cX10_work) (by decide) (Nat.le_of_ble_eq_true rfl) ?_
  intro p e s m args below meth c ls hx hb hml hown hr hlocks hname hE hh hl
  have hl : lv_has ls 3 [(0, .ref (b + 115)), (1, .int (nI v)), (2, .int (nI w))] := hl
  have hfr : ∀ j, j ≠ 115 → mem j = mem j := fun j _ => rfl
  refine lv_aload_n hx hb dX10_work_0 rfl (lv_at hl 0 rfl) ?_
  refine lv_iload_n hx hb dX10_work_1 rfl (lv_at hl 1 rfl) ?_
  refine lv_iconst (v := (nI 3)) hx hb dX10_work_2 (by decide) ?_
  refine mm_S0r (As := [.int (nI v), .int (nI 3)]) (rest := [.ref (b + 115)]) hx hb hml hown hE hl.1 hh (kc_X10_92 hE.2.1 ⟨Nat.le_of_ble_eq_true rfl, Nat.le_of_ble_eq_true rfl⟩) (c_X10_outside l Γ b M mem (v := (nI v)) (n := 3)) rfl rfl (Nat.le_of_ble_eq_true rfl) dX10_work_3 rfl rfl (fun H locs hh => ?_)
  refine nn_bne (tgt := 17) hx hb dX10_work_6 (by decide) (fun h1 => ?_) (fun h1 => ?_)
  ·
    exact (nt_tf h1 (inR_y hv (by decide))).elim
  ·
    refine lv_iload_n hx hb dX10_work_9 rfl (lv_at hl 2 rfl) ?_
    refine lv_iconst (v := (nI 3)) hx hb dX10_work_10 (by decide) ?_
    refine mm_S0r (As := [.int (nI w), .int (nI 3)]) (rest := [.ref (b + 115)]) hx hb hml hown hE hl.1 hh (kc_X10_92 hE.2.1 ⟨Nat.le_of_ble_eq_true rfl, Nat.le_of_ble_eq_true rfl⟩) (c_X10_outside l Γ b M mem (v := (nI w)) (n := 3)) rfl rfl (Nat.le_of_ble_eq_true rfl) dX10_work_11 rfl rfl (fun H locs hh => ?_)
    refine nn_beq (tgt := 21) hx hb dX10_work_14 (by decide) (fun h2 => ?_) (fun h2 => ?_)
    ·
      refine lv_aload_n hx hb dX10_work_21 rfl (lv_at hl 0 rfl) ?_
      refine gf_X10_has hx hb hE hown hh (by omega) fM rfl dX10_work_22 ?_
      refine lv_iload_n hx hb dX10_work_25 rfl (lv_at hl 1 rfl) ?_
      refine mm_zald hx hb hE hh (by omega) g125 (by omega) (by decide) dX10_work_26 ?_
      refine nn_bne (tgt := 34) hx hb dX10_work_27 (by decide) (fun h3 => ?_) (fun h3 => ?_)
      ·
        exact (no_tf h3 hmh).elim
      ·
        refine lv_iconst (v := (nI 2)) hx hb dX10_work_30 (by decide) ?_
        refine lv_goto (tgt := 35) hx hb dX10_work_31 (by decide) ?_
        refine gp_X10_code (fs' := [.int (nI 2), .int (nI nd), .ref (b + 116), .ref (b + 117), .ref (b + 118), .ref (b + 119), .int (nI cz), .ref (b + 120), .int (nI wz), .int (nI iz), .int (nI vz), .ref (b + 121), .ref (b + 122), .ref (b + 123), .ref (b + 124), .ref (b + 125), .ref (b + 126), .ref (b + 127), .ref (b + 128), .ref (b + 129), .int (nI md), .ref (b + 130), .ref (b + 131), .int (nI wh), .ref (b + 132), .ref (b + 133), .int (nI sd), .int (nI sk), .int (nI ps), .int (nI fc), .ref (b + 134), .ref (b + 135)]) hx hb hE hown hh (by omega) fM rfl rfl (show 0 < 32 by decide) rfl dX10_work_35 (fun H locs mem4 f5 k6 hh => ?_)
        have hfr7 : ∀ j, j ≠ 115 → mem4 j = mem j := fun j c0 => (k6 j (by omega)).trans (hfr j c0)
        have f8 : mem4 125 = aB Γ 3 mh := (k6 _ (by omega)).trans g125
        refine lv_aload_n hx hb dX10_work_38 rfl (lv_at hl 0 rfl) ?_
        refine gf_X10_code hx hb hE hown hh (by omega) f5 rfl dX10_work_39 ?_
        refine nn_if_le (tgt := 49) hx hb dX10_work_42 (by decide) (by omega) (fun h9 => ?_) (fun h9 => ?_)
        ·
          exact absurd h9 (by decide)
        ·
          refine lv_iconst (v := (nI 0)) hx hb dX10_work_45 (by decide) ?_
          refine lv_goto (tgt := 59) hx hb dX10_work_46 (by decide) ?_
          exact mm_iret hx hb hr hlocks hE hh (rfl) (⟨f5, hfr7⟩) dX10_work_59
    ·
      exact (nt_tf h2 (inR_y hw (by decide))).elim
set_option maxHeartbeats 4000000 in
set_option maxRecDepth 100000 in
/-- reference: fused -/
theorem m_fused (l : Launch) (Γ : Gm) (b M : Nat) (mem : Nat → va_E) {cd nd cz wz iz vz md wh sd sk ps fc : Nat} {mf : Nat → Nat} {i : Nat}  (hM : 138 ≤ M) (fM : mem 115 = .inr (9, [.int (nI cd), .int (nI nd), .ref (b + 116), .ref (b + 117), .ref (b + 118), .ref (b + 119), .int (nI cz), .ref (b + 120), .int (nI wz), .int (nI iz), .int (nI vz), .ref (b + 121), .ref (b + 122), .ref (b + 123), .ref (b + 124), .ref (b + 125), .ref (b + 126), .ref (b + 127), .ref (b + 128), .ref (b + 129), .int (nI md), .ref (b + 130), .ref (b + 131), .int (nI wh), .ref (b + 132), .ref (b + 133), .int (nI sd), .int (nI sk), .int (nI ps), .int (nI fc), .ref (b + 134), .ref (b + 135)])) (g134 : mem 134 = aN Γ 17 mf) (hi : i < fc) (hfc : fc ≤ 16) : Ct l yX10_fused (.code yX10_fused cX10_fused 2 (some .int)) ({ frames := 1, cells := 0, slots := 0, locals := 21 } : Room) Γ b M [.ref (b + 115), .int (nI i)] mem (fun u => u 115 = .inr (9, [.int (nI 0), .int (nI nd), .ref (b + 116), .ref (b + 117), .ref (b + 118), .ref (b + 119), .int (nI cz), .ref (b + 120), .int (nI wz), .int (nI iz), .int (nI vz), .ref (b + 121), .ref (b + 122), .ref (b + 123), .ref (b + 124), .ref (b + 125), .ref (b + 126), .ref (b + 127), .ref (b + 128), .ref (b + 129), .int (nI md), .ref (b + 130), .ref (b + 131), .int (nI wh), .ref (b + 132), .ref (b + 133), .int (nI sd), .int (nI sk), .int (nI ps), .int (nI fc), .ref (b + 134), .ref (b + 135)]) ∧ ∀ j, j ≠ 115 → u j = mem j) (some (.int (nI (mf i)))) := by
  refine mm_enter (cc := cX10_fused) (by decide) (Nat.le_of_ble_eq_true rfl) ?_
  intro p e s m args below meth c ls hx hb hml hown hr hlocks hname hE hh hl
  have hl : lv_has ls 2 [(0, .ref (b + 115)), (1, .int (nI i))] := hl
  have hfr : ∀ j, j ≠ 115 → mem j = mem j := fun j _ => rfl
  refine lv_aload_n hx hb dX10_fused_0 rfl (lv_at hl 0 rfl) ?_
  refine lv_iload_n hx hb dX10_fused_1 rfl (lv_at hl 1 rfl) ?_
  refine lv_aload_n hx hb dX10_fused_2 rfl (lv_at hl 0 rfl) ?_
  refine gf_X10_fusedCount hx hb hE hown hh (by omega) fM rfl dX10_fused_3 ?_
  refine mm_S0r (As := [.int (nI i), .int (nI fc)]) (rest := [.ref (b + 115)]) hx hb hml hown hE hl.1 hh (kc_X10_92 hE.2.1 ⟨Nat.le_of_ble_eq_true rfl, Nat.le_of_ble_eq_true rfl⟩) (c_X10_outside l Γ b M mem (v := (nI i)) (n := fc)) rfl rfl (Nat.le_of_ble_eq_true rfl) dX10_fused_6 rfl rfl (fun H locs hh => ?_)
  refine nn_beq (tgt := 16) hx hb dX10_fused_9 (by decide) (fun h1 => ?_) (fun h1 => ?_)
  ·
    refine lv_iconst (v := (nI 0)) hx hb dX10_fused_16 (by decide) ?_
    refine gp_X10_code (fs' := [.int (nI 0), .int (nI nd), .ref (b + 116), .ref (b + 117), .ref (b + 118), .ref (b + 119), .int (nI cz), .ref (b + 120), .int (nI wz), .int (nI iz), .int (nI vz), .ref (b + 121), .ref (b + 122), .ref (b + 123), .ref (b + 124), .ref (b + 125), .ref (b + 126), .ref (b + 127), .ref (b + 128), .ref (b + 129), .int (nI md), .ref (b + 130), .ref (b + 131), .int (nI wh), .ref (b + 132), .ref (b + 133), .int (nI sd), .int (nI sk), .int (nI ps), .int (nI fc), .ref (b + 134), .ref (b + 135)]) hx hb hE hown hh (by omega) fM rfl rfl (show 0 < 32 by decide) rfl dX10_fused_17 (fun H locs mem2 f3 k4 hh => ?_)
    have hfr5 : ∀ j, j ≠ 115 → mem2 j = mem j := fun j c0 => (k4 j (by omega)).trans (hfr j c0)
    have f6 : mem2 134 = aN Γ 17 mf := (k4 _ (by omega)).trans g134
    refine lv_aload_n hx hb dX10_fused_20 rfl (lv_at hl 0 rfl) ?_
    refine gf_X10_code hx hb hE hown hh (by omega) f3 rfl dX10_fused_21 ?_
    refine nn_if_le (tgt := 31) hx hb dX10_fused_24 (by decide) (by omega) (fun h7 => ?_) (fun h7 => ?_)
    ·
      refine lv_aload_n hx hb dX10_fused_31 rfl (lv_at hl 0 rfl) ?_
      refine gf_X10_fusedRow hx hb hE hown hh (by omega) f3 rfl dX10_fused_32 ?_
      refine lv_iload_n hx hb dX10_fused_35 rfl (lv_at hl 1 rfl) ?_
      refine mm_iald hx hb hE hh (by omega) f6 (by omega) (by decide) dX10_fused_36 ?_
      exact mm_iret hx hb hr hlocks hE hh (rfl) (⟨f3, hfr5⟩) dX10_fused_37
    ·
      exact absurd h7 (by decide)
  ·
    exact (nt_tf h1 (inR_y hi (by omega))).elim
set_option maxHeartbeats 4000000 in
set_option maxRecDepth 100000 in
/-- reference: fused, 1 -/
theorem m_fused_1 (l : Launch) (Γ : Gm) (b M : Nat) (mem : Nat → va_E) {cd nd cz wz iz vz md wh sd sk ps fc : Nat} {i : Int32}  (hM : 138 ≤ M) (fM : mem 115 = .inr (9, [.int (nI cd), .int (nI nd), .ref (b + 116), .ref (b + 117), .ref (b + 118), .ref (b + 119), .int (nI cz), .ref (b + 120), .int (nI wz), .int (nI iz), .int (nI vz), .ref (b + 121), .ref (b + 122), .ref (b + 123), .ref (b + 124), .ref (b + 125), .ref (b + 126), .ref (b + 127), .ref (b + 128), .ref (b + 129), .int (nI md), .ref (b + 130), .ref (b + 131), .int (nI wh), .ref (b + 132), .ref (b + 133), .int (nI sd), .int (nI sk), .int (nI ps), .int (nI fc), .ref (b + 134), .ref (b + 135)])) (hin : inR i fc = false) : Ct l yX10_fused (.code yX10_fused cX10_fused 2 (some .int)) ({ frames := 1, cells := 0, slots := 0, locals := 21 } : Room) Γ b M [.ref (b + 115), .int i] mem (fun u => u 115 = .inr (9, [.int (nI 1), .int (nI nd), .ref (b + 116), .ref (b + 117), .ref (b + 118), .ref (b + 119), .int (nI cz), .ref (b + 120), .int (nI wz), .int (nI iz), .int (nI vz), .ref (b + 121), .ref (b + 122), .ref (b + 123), .ref (b + 124), .ref (b + 125), .ref (b + 126), .ref (b + 127), .ref (b + 128), .ref (b + 129), .int (nI md), .ref (b + 130), .ref (b + 131), .int (nI wh), .ref (b + 132), .ref (b + 133), .int (nI sd), .int (nI sk), .int (nI ps), .int (nI fc), .ref (b + 134), .ref (b + 135)]) ∧ ∀ j, j ≠ 115 → u j = mem j) (some (.int (nI 0))) := by
  refine mm_enter (cc := cX10_fused) (by decide) (Nat.le_of_ble_eq_true rfl) ?_
  intro p e s m args below meth c ls hx hb hml hown hr hlocks hname hE hh hl
  have hl : lv_has ls 2 [(0, .ref (b + 115)), (1, .int i)] := hl
  have hfr : ∀ j, j ≠ 115 → mem j = mem j := fun j _ => rfl
  refine lv_aload_n hx hb dX10_fused_0 rfl (lv_at hl 0 rfl) ?_
  refine lv_iload_n hx hb dX10_fused_1 rfl (lv_at hl 1 rfl) ?_
  refine lv_aload_n hx hb dX10_fused_2 rfl (lv_at hl 0 rfl) ?_
  refine gf_X10_fusedCount hx hb hE hown hh (by omega) fM rfl dX10_fused_3 ?_
  refine mm_S0r (As := [.int i, .int (nI fc)]) (rest := [.ref (b + 115)]) hx hb hml hown hE hl.1 hh (kc_X10_92 hE.2.1 ⟨Nat.le_of_ble_eq_true rfl, Nat.le_of_ble_eq_true rfl⟩) (c_X10_outside l Γ b M mem (v := i) (n := fc)) rfl rfl (Nat.le_of_ble_eq_true rfl) dX10_fused_6 rfl rfl (fun H locs hh => ?_)
  refine nn_beq (tgt := 16) hx hb dX10_fused_9 (by decide) (fun h1 => ?_) (fun h1 => ?_)
  ·
    exact (no_tf (nf_ff h1) hin).elim
  ·
    refine lv_iconst (v := (nI 1)) hx hb dX10_fused_12 (by decide) ?_
    refine lv_goto (tgt := 17) hx hb dX10_fused_13 (by decide) ?_
    refine gp_X10_code (fs' := [.int (nI 1), .int (nI nd), .ref (b + 116), .ref (b + 117), .ref (b + 118), .ref (b + 119), .int (nI cz), .ref (b + 120), .int (nI wz), .int (nI iz), .int (nI vz), .ref (b + 121), .ref (b + 122), .ref (b + 123), .ref (b + 124), .ref (b + 125), .ref (b + 126), .ref (b + 127), .ref (b + 128), .ref (b + 129), .int (nI md), .ref (b + 130), .ref (b + 131), .int (nI wh), .ref (b + 132), .ref (b + 133), .int (nI sd), .int (nI sk), .int (nI ps), .int (nI fc), .ref (b + 134), .ref (b + 135)]) hx hb hE hown hh (by omega) fM rfl rfl (show 0 < 32 by decide) rfl dX10_fused_17 (fun H locs mem2 f3 k4 hh => ?_)
    have hfr5 : ∀ j, j ≠ 115 → mem2 j = mem j := fun j c0 => (k4 j (by omega)).trans (hfr j c0)
    refine lv_aload_n hx hb dX10_fused_20 rfl (lv_at hl 0 rfl) ?_
    refine gf_X10_code hx hb hE hown hh (by omega) f3 rfl dX10_fused_21 ?_
    refine nn_if_le (tgt := 31) hx hb dX10_fused_24 (by decide) (by omega) (fun h6 => ?_) (fun h6 => ?_)
    ·
      exact absurd h6 (by decide)
    ·
      refine lv_iconst (v := (nI 0)) hx hb dX10_fused_27 (by decide) ?_
      refine lv_goto (tgt := 37) hx hb dX10_fused_28 (by decide) ?_
      exact mm_iret hx hb hr hlocks hE hh (rfl) (⟨f3, hfr5⟩) dX10_fused_37
set_option maxHeartbeats 4000000 in
set_option maxRecDepth 100000 in
/-- reference: rating -/
theorem m_rating (l : Launch) (Γ : Gm) (b M : Nat) (mem : Nat → va_E) {cd nd cz wz iz vz md wh sd sk ps fc : Nat} {mfs : Nat → UInt64} {i : Nat}  (hM : 138 ≤ M) (fM : mem 115 = .inr (9, [.int (nI cd), .int (nI nd), .ref (b + 116), .ref (b + 117), .ref (b + 118), .ref (b + 119), .int (nI cz), .ref (b + 120), .int (nI wz), .int (nI iz), .int (nI vz), .ref (b + 121), .ref (b + 122), .ref (b + 123), .ref (b + 124), .ref (b + 125), .ref (b + 126), .ref (b + 127), .ref (b + 128), .ref (b + 129), .int (nI md), .ref (b + 130), .ref (b + 131), .int (nI wh), .ref (b + 132), .ref (b + 133), .int (nI sd), .int (nI sk), .int (nI ps), .int (nI fc), .ref (b + 134), .ref (b + 135)])) (g135 : mem 135 = aD Γ 17 mfs) (hi : i < fc) (hfc : fc ≤ 16) : Ct l yX10_rating (.code yX10_rating cX10_rating 2 (some .double)) ({ frames := 1, cells := 0, slots := 0, locals := 21 } : Room) Γ b M [.ref (b + 115), .int (nI i)] mem (fun u => u 115 = .inr (9, [.int (nI 0), .int (nI nd), .ref (b + 116), .ref (b + 117), .ref (b + 118), .ref (b + 119), .int (nI cz), .ref (b + 120), .int (nI wz), .int (nI iz), .int (nI vz), .ref (b + 121), .ref (b + 122), .ref (b + 123), .ref (b + 124), .ref (b + 125), .ref (b + 126), .ref (b + 127), .ref (b + 128), .ref (b + 129), .int (nI md), .ref (b + 130), .ref (b + 131), .int (nI wh), .ref (b + 132), .ref (b + 133), .int (nI sd), .int (nI sk), .int (nI ps), .int (nI fc), .ref (b + 134), .ref (b + 135)]) ∧ ∀ j, j ≠ 115 → u j = mem j) (some (.double (mfs i))) := by
  refine mm_enter (cc := cX10_rating) (by decide) (Nat.le_of_ble_eq_true rfl) ?_
  intro p e s m args below meth c ls hx hb hml hown hr hlocks hname hE hh hl
  have hl : lv_has ls 2 [(0, .ref (b + 115)), (1, .int (nI i))] := hl
  have hfr : ∀ j, j ≠ 115 → mem j = mem j := fun j _ => rfl
  refine lv_aload_n hx hb dX10_rating_0 rfl (lv_at hl 0 rfl) ?_
  refine lv_iload_n hx hb dX10_rating_1 rfl (lv_at hl 1 rfl) ?_
  refine lv_aload_n hx hb dX10_rating_2 rfl (lv_at hl 0 rfl) ?_
  refine gf_X10_fusedCount hx hb hE hown hh (by omega) fM rfl dX10_rating_3 ?_
  refine mm_S0r (As := [.int (nI i), .int (nI fc)]) (rest := [.ref (b + 115)]) hx hb hml hown hE hl.1 hh (kc_X10_92 hE.2.1 ⟨Nat.le_of_ble_eq_true rfl, Nat.le_of_ble_eq_true rfl⟩) (c_X10_outside l Γ b M mem (v := (nI i)) (n := fc)) rfl rfl (Nat.le_of_ble_eq_true rfl) dX10_rating_6 rfl rfl (fun H locs hh => ?_)
  refine nn_beq (tgt := 16) hx hb dX10_rating_9 (by decide) (fun h1 => ?_) (fun h1 => ?_)
  ·
    refine lv_iconst (v := (nI 0)) hx hb dX10_rating_16 (by decide) ?_
    refine gp_X10_code (fs' := [.int (nI 0), .int (nI nd), .ref (b + 116), .ref (b + 117), .ref (b + 118), .ref (b + 119), .int (nI cz), .ref (b + 120), .int (nI wz), .int (nI iz), .int (nI vz), .ref (b + 121), .ref (b + 122), .ref (b + 123), .ref (b + 124), .ref (b + 125), .ref (b + 126), .ref (b + 127), .ref (b + 128), .ref (b + 129), .int (nI md), .ref (b + 130), .ref (b + 131), .int (nI wh), .ref (b + 132), .ref (b + 133), .int (nI sd), .int (nI sk), .int (nI ps), .int (nI fc), .ref (b + 134), .ref (b + 135)]) hx hb hE hown hh (by omega) fM rfl rfl (show 0 < 32 by decide) rfl dX10_rating_17 (fun H locs mem2 f3 k4 hh => ?_)
    have hfr5 : ∀ j, j ≠ 115 → mem2 j = mem j := fun j c0 => (k4 j (by omega)).trans (hfr j c0)
    have f6 : mem2 135 = aD Γ 17 mfs := (k4 _ (by omega)).trans g135
    refine lv_aload_n hx hb dX10_rating_20 rfl (lv_at hl 0 rfl) ?_
    refine gf_X10_code hx hb hE hown hh (by omega) f3 rfl dX10_rating_21 ?_
    refine nn_if_le (tgt := 31) hx hb dX10_rating_24 (by decide) (by omega) (fun h7 => ?_) (fun h7 => ?_)
    ·
      refine lv_aload_n hx hb dX10_rating_31 rfl (lv_at hl 0 rfl) ?_
      refine gf_X10_fusedScore hx hb hE hown hh (by omega) f3 rfl dX10_rating_32 ?_
      refine lv_iload_n hx hb dX10_rating_35 rfl (lv_at hl 1 rfl) ?_
      refine mm_dald hx hb hE hh (by omega) f6 (by omega) (by decide) dX10_rating_36 ?_
      exact mm_dret hx hb hr hlocks hE hh (rfl) (⟨f3, hfr5⟩) dX10_rating_37
    ·
      exact absurd h7 (by decide)
  ·
    exact (nt_tf h1 (inR_y hi (by omega))).elim
set_option maxHeartbeats 4000000 in
set_option maxRecDepth 100000 in
/-- reference: rating, 1 -/
theorem m_rating_1 (l : Launch) (Γ : Gm) (b M : Nat) (mem : Nat → va_E) {cd nd cz wz iz vz md wh sd sk ps fc : Nat} {i : Int32}  (hM : 138 ≤ M) (fM : mem 115 = .inr (9, [.int (nI cd), .int (nI nd), .ref (b + 116), .ref (b + 117), .ref (b + 118), .ref (b + 119), .int (nI cz), .ref (b + 120), .int (nI wz), .int (nI iz), .int (nI vz), .ref (b + 121), .ref (b + 122), .ref (b + 123), .ref (b + 124), .ref (b + 125), .ref (b + 126), .ref (b + 127), .ref (b + 128), .ref (b + 129), .int (nI md), .ref (b + 130), .ref (b + 131), .int (nI wh), .ref (b + 132), .ref (b + 133), .int (nI sd), .int (nI sk), .int (nI ps), .int (nI fc), .ref (b + 134), .ref (b + 135)])) (hin : inR i fc = false) : Ct l yX10_rating (.code yX10_rating cX10_rating 2 (some .double)) ({ frames := 1, cells := 0, slots := 0, locals := 21 } : Room) Γ b M [.ref (b + 115), .int i] mem (fun u => u 115 = .inr (9, [.int (nI 1), .int (nI nd), .ref (b + 116), .ref (b + 117), .ref (b + 118), .ref (b + 119), .int (nI cz), .ref (b + 120), .int (nI wz), .int (nI iz), .int (nI vz), .ref (b + 121), .ref (b + 122), .ref (b + 123), .ref (b + 124), .ref (b + 125), .ref (b + 126), .ref (b + 127), .ref (b + 128), .ref (b + 129), .int (nI md), .ref (b + 130), .ref (b + 131), .int (nI wh), .ref (b + 132), .ref (b + 133), .int (nI sd), .int (nI sk), .int (nI ps), .int (nI fc), .ref (b + 134), .ref (b + 135)]) ∧ ∀ j, j ≠ 115 → u j = mem j) (some (.double FP.dconst0)) := by
  refine mm_enter (cc := cX10_rating) (by decide) (Nat.le_of_ble_eq_true rfl) ?_
  intro p e s m args below meth c ls hx hb hml hown hr hlocks hname hE hh hl
  have hl : lv_has ls 2 [(0, .ref (b + 115)), (1, .int i)] := hl
  have hfr : ∀ j, j ≠ 115 → mem j = mem j := fun j _ => rfl
  refine lv_aload_n hx hb dX10_rating_0 rfl (lv_at hl 0 rfl) ?_
  refine lv_iload_n hx hb dX10_rating_1 rfl (lv_at hl 1 rfl) ?_
  refine lv_aload_n hx hb dX10_rating_2 rfl (lv_at hl 0 rfl) ?_
  refine gf_X10_fusedCount hx hb hE hown hh (by omega) fM rfl dX10_rating_3 ?_
  refine mm_S0r (As := [.int i, .int (nI fc)]) (rest := [.ref (b + 115)]) hx hb hml hown hE hl.1 hh (kc_X10_92 hE.2.1 ⟨Nat.le_of_ble_eq_true rfl, Nat.le_of_ble_eq_true rfl⟩) (c_X10_outside l Γ b M mem (v := i) (n := fc)) rfl rfl (Nat.le_of_ble_eq_true rfl) dX10_rating_6 rfl rfl (fun H locs hh => ?_)
  refine nn_beq (tgt := 16) hx hb dX10_rating_9 (by decide) (fun h1 => ?_) (fun h1 => ?_)
  ·
    exact (no_tf (nf_ff h1) hin).elim
  ·
    refine lv_iconst (v := (nI 1)) hx hb dX10_rating_12 (by decide) ?_
    refine lv_goto (tgt := 17) hx hb dX10_rating_13 (by decide) ?_
    refine gp_X10_code (fs' := [.int (nI 1), .int (nI nd), .ref (b + 116), .ref (b + 117), .ref (b + 118), .ref (b + 119), .int (nI cz), .ref (b + 120), .int (nI wz), .int (nI iz), .int (nI vz), .ref (b + 121), .ref (b + 122), .ref (b + 123), .ref (b + 124), .ref (b + 125), .ref (b + 126), .ref (b + 127), .ref (b + 128), .ref (b + 129), .int (nI md), .ref (b + 130), .ref (b + 131), .int (nI wh), .ref (b + 132), .ref (b + 133), .int (nI sd), .int (nI sk), .int (nI ps), .int (nI fc), .ref (b + 134), .ref (b + 135)]) hx hb hE hown hh (by omega) fM rfl rfl (show 0 < 32 by decide) rfl dX10_rating_17 (fun H locs mem2 f3 k4 hh => ?_)
    have hfr5 : ∀ j, j ≠ 115 → mem2 j = mem j := fun j c0 => (k4 j (by omega)).trans (hfr j c0)
    refine lv_aload_n hx hb dX10_rating_20 rfl (lv_at hl 0 rfl) ?_
    refine gf_X10_code hx hb hE hown hh (by omega) f3 rfl dX10_rating_21 ?_
    refine nn_if_le (tgt := 31) hx hb dX10_rating_24 (by decide) (by omega) (fun h6 => ?_) (fun h6 => ?_)
    ·
      exact absurd h6 (by decide)
    ·
      refine lv_dconst0 hx hb dX10_rating_27 ?_
      refine lv_goto (tgt := 37) hx hb dX10_rating_28 (by decide) ?_
      exact mm_dret hx hb hr hlocks hE hh (rfl) (⟨f3, hfr5⟩) dX10_rating_37
