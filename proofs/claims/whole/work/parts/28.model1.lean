/-! THE REFERENCE: flat arrays -/
def fl12 {α : Type} (f : Nat → Nat → α) : Nat → α := fun k => f (k / 12) (k % 12)
def fl16 {α : Type} (f : Nat → Nat → α) : Nat → α := fun k => f (k / 16) (k % 16)
theorem fl12_at {α : Type} (f : Nat → Nat → α) {d t : Nat} (h : t < 12) : fl12 f (12 * d + t) = f d t := by
  unfold fl12
  rw [show (12 * d + t) / 12 = d by omega, show (12 * d + t) % 12 = t by omega]
theorem fl16_at {α : Type} (f : Nat → Nat → α) {d t : Nat} (h : t < 16) : fl16 f (16 * d + t) = f d t := by
  unfold fl16
  rw [show (16 * d + t) / 16 = d by omega, show (16 * d + t) % 16 = t by omega]
theorem fl12_up {α : Type} (f : Nat → Nat → α) {d t : Nat} (v : α) (h : t < 12) : va_up (fl12 f) (12 * d + t) v = fl12 (va_up f d (va_up (f d) t v)) := by
  funext k
  unfold fl12 va_up
  by_cases e : k = 12 * d + t
  · rw [if_pos e, if_pos (show k / 12 = d by omega), if_pos (show k % 12 = t by omega)]
  · rw [if_neg e]
    by_cases e2 : k / 12 = d
    · rw [if_pos e2, if_neg (show ¬ k % 12 = t by omega)]
      show f (k / 12) (k % 12) = _
      rw [e2]
    · rw [if_neg e2]
theorem fl16_up {α : Type} (f : Nat → Nat → α) {d t : Nat} (v : α) (h : t < 16) : va_up (fl16 f) (16 * d + t) v = fl16 (va_up f d (va_up (f d) t v)) := by
  funext k
  unfold fl16 va_up
  by_cases e : k = 16 * d + t
  · rw [if_pos e, if_pos (show k / 16 = d by omega), if_pos (show k % 16 = t by omega)]
  · rw [if_neg e]
    by_cases e2 : k / 16 = d
    · rw [if_pos e2, if_neg (show ¬ k % 16 = t by omega)]
      show f (k / 16) (k % 16) = _
      rw [e2]
    · rw [if_neg e2]
theorem up_up {α : Type} (f : Nat → α) (d : Nat) (x y : α) : va_up (va_up f d x) d y = va_up f d y := by
  funext k
  unfold va_up
  split <;> rfl
theorem fl16_up4 (f : Nat → Nat → UInt32) {d t : Nat} (v0 v1 v2 v3 : UInt32) (h : t + 4 ≤ 16) : up4 (fl16 f) (16 * d + t) v0 v1 v2 v3 = fl16 (va_up f d (up4 (f d) t v0 v1 v2 v3)) := by
  unfold up4
  rw [fl16_up f v0 (by omega), show 16 * d + t + 1 = 16 * d + (t + 1) by omega, fl16_up _ v1 (by omega), show 16 * d + t + 2 = 16 * d + (t + 2) by omega, fl16_up _ v2 (by omega), show 16 * d + t + 3 = 16 * d + (t + 3) by omega, fl16_up _ v3 (by omega)]
  simp only [va_up_self, up_up]
theorem nt_tf {x : Bool} (h1 : (!x) = true) (h2 : x = true) : False := by rw [h2] at h1; exact absurd h1 (by decide)
theorem nf_ff {x : Bool} (h1 : (!x) = false) : x = true := by cases x <;> simp_all
theorem nt_ff {x : Bool} (h1 : (!x) = true) : x = false := by cases x <;> simp_all

set_option maxHeartbeats 4000000 in
set_option maxRecDepth 100000 in
/-- reference: thrown -/
theorem c_X10_thrown (l : Launch) (Γ : Gm) (b M : Nat) (mem : Nat → va_E) {cd nd cz wz iz vz md wh sd sk ps fc : Nat}  (hM : 138 ≤ M) (fM : mem 115 = .inr (9, [.int (nI cd), .int (nI nd), .ref (b + 116), .ref (b + 117), .ref (b + 118), .ref (b + 119), .int (nI cz), .ref (b + 120), .int (nI wz), .int (nI iz), .int (nI vz), .ref (b + 121), .ref (b + 122), .ref (b + 123), .ref (b + 124), .ref (b + 125), .ref (b + 126), .ref (b + 127), .ref (b + 128), .ref (b + 129), .int (nI md), .ref (b + 130), .ref (b + 131), .int (nI wh), .ref (b + 132), .ref (b + 133), .int (nI sd), .int (nI sk), .int (nI ps), .int (nI fc), .ref (b + 134), .ref (b + 135)])) : Ct l yX10_thrown (.code yX10_thrown cX10_thrown 1 (some .int)) ({ frames := 0, cells := 0, slots := 0, locals := 0 } : Room) Γ b M [.ref (b + 115)] mem (fun u => u = mem) (some (.int (nI cd))) := by
  refine mm_enter (cc := cX10_thrown) (by decide) (Nat.le_of_ble_eq_true rfl) ?_
  intro p e s m args below meth c ls hx hb hml hown hr hlocks hname hE hh hl
  have hl : lv_has ls 1 [(0, .ref (b + 115))] := hl
  refine lv_aload_n hx hb dX10_thrown_0 rfl (lv_at hl 0 rfl) ?_
  refine gf_X10_code hx hb hE hown hh (by omega) fM rfl dX10_thrown_1 ?_
  exact mm_iret hx hb hr hlocks hE hh (rfl) (rfl) dX10_thrown_4
set_option maxHeartbeats 4000000 in
set_option maxRecDepth 100000 in
/-- reference: fail -/
theorem c_X10_fail (l : Launch) (Γ : Gm) (b M : Nat) (mem : Nat → va_E) {cd nd cz wz iz vz md wh sd sk ps fc : Nat} {k : Nat} (hM : 138 ≤ M) (fM : mem 115 = .inr (9, [.int (nI cd), .int (nI nd), .ref (b + 116), .ref (b + 117), .ref (b + 118), .ref (b + 119), .int (nI cz), .ref (b + 120), .int (nI wz), .int (nI iz), .int (nI vz), .ref (b + 121), .ref (b + 122), .ref (b + 123), .ref (b + 124), .ref (b + 125), .ref (b + 126), .ref (b + 127), .ref (b + 128), .ref (b + 129), .int (nI md), .ref (b + 130), .ref (b + 131), .int (nI wh), .ref (b + 132), .ref (b + 133), .int (nI sd), .int (nI sk), .int (nI ps), .int (nI fc), .ref (b + 134), .ref (b + 135)])) : Ct l yX10_fail (.code yX10_fail cX10_fail 2 (some .int)) ({ frames := 0, cells := 0, slots := 0, locals := 0 } : Room) Γ b M [.ref (b + 115), .int (nI k)] mem (fun u => u 115 = .inr (9, [.int (nI k), .int (nI nd), .ref (b + 116), .ref (b + 117), .ref (b + 118), .ref (b + 119), .int (nI cz), .ref (b + 120), .int (nI wz), .int (nI iz), .int (nI vz), .ref (b + 121), .ref (b + 122), .ref (b + 123), .ref (b + 124), .ref (b + 125), .ref (b + 126), .ref (b + 127), .ref (b + 128), .ref (b + 129), .int (nI md), .ref (b + 130), .ref (b + 131), .int (nI wh), .ref (b + 132), .ref (b + 133), .int (nI sd), .int (nI sk), .int (nI ps), .int (nI fc), .ref (b + 134), .ref (b + 135)]) ∧ ∀ j, j ≠ 115 → u j = mem j) (some (.int (nI 0))) := by
  refine mm_enter (cc := cX10_fail) (by decide) (Nat.le_of_ble_eq_true rfl) ?_
  intro p e s m args below meth c ls hx hb hml hown hr hlocks hname hE hh hl
  have hl : lv_has ls 2 [(0, .ref (b + 115)), (1, .int (nI k))] := hl
  have hfr : ∀ j, j ≠ 115 → mem j = mem j := fun j _ => rfl
  refine lv_aload_n hx hb dX10_fail_0 rfl (lv_at hl 0 rfl) ?_
  refine lv_iload_n hx hb dX10_fail_1 rfl (lv_at hl 1 rfl) ?_
  refine gp_X10_code (fs' := [.int (nI k), .int (nI nd), .ref (b + 116), .ref (b + 117), .ref (b + 118), .ref (b + 119), .int (nI cz), .ref (b + 120), .int (nI wz), .int (nI iz), .int (nI vz), .ref (b + 121), .ref (b + 122), .ref (b + 123), .ref (b + 124), .ref (b + 125), .ref (b + 126), .ref (b + 127), .ref (b + 128), .ref (b + 129), .int (nI md), .ref (b + 130), .ref (b + 131), .int (nI wh), .ref (b + 132), .ref (b + 133), .int (nI sd), .int (nI sk), .int (nI ps), .int (nI fc), .ref (b + 134), .ref (b + 135)]) hx hb hE hown hh (by omega) fM rfl rfl (show 0 < 32 by decide) rfl dX10_fail_2 (fun H locs mem1 f2 k3 hh => ?_)
  have hfr4 : ∀ j, j ≠ 115 → mem1 j = mem j := fun j c0 => (k3 j (by omega)).trans (hfr j c0)
  refine lv_iconst (v := (nI 0)) hx hb dX10_fail_5 (by decide) ?_
  exact mm_iret hx hb hr hlocks hE hh (rfl) (⟨f2, hfr4⟩) dX10_fail_6
set_option maxHeartbeats 4000000 in
set_option maxRecDepth 100000 in
/-- reference: outside -/
theorem c_X10_outside (l : Launch) (Γ : Gm) (b M : Nat) (mem : Nat → va_E) {v : Int32} {n : Nat}  : Ct l yX10_outside (.code yX10_outside cX10_outside 2 (some .boolean)) ({ frames := 0, cells := 0, slots := 0, locals := 0 } : Room) Γ b M [.int v, .int (nI n)] mem (fun u => u = mem) (some (.int (bI (!(inR v n))))) := by
  refine mm_enter (cc := cX10_outside) (by decide) (Nat.le_of_ble_eq_true rfl) ?_
  intro p e s m args below meth c ls hx hb hml hown hr hlocks hname hE hh hl
  have hl : lv_has ls 2 [(0, .int v), (1, .int (nI n))] := hl
  refine lv_iload_n hx hb dX10_outside_0 rfl (lv_at hl 0 rfl) ?_
  refine lv_if_lt (tgt := 9) hx hb dX10_outside_1 (by decide) (fun h1 => ?_) (fun h1 => ?_)
  ·
    refine lv_iconst (v := (nI 1)) hx hb dX10_outside_9 (by decide) ?_
    refine lv_goto (tgt := 14) hx hb dX10_outside_10 (by decide) ?_
    exact mm_zret hx hb hr hlocks hE hh (by simp_all [bI, nI, inR]) (rfl) rfl dX10_outside_14
  ·
    refine lv_iload_n hx hb dX10_outside_4 rfl (lv_at hl 0 rfl) ?_
    refine lv_iload_n hx hb dX10_outside_5 rfl (lv_at hl 1 rfl) ?_
    refine lv_icmp_lt (tgt := 13) hx hb dX10_outside_6 (by decide) (fun h2 => ?_) (fun h2 => ?_)
    ·
      refine lv_iconst (v := (nI 0)) hx hb dX10_outside_13 (by decide) ?_
      exact mm_zret hx hb hr hlocks hE hh (by simp_all [bI, nI, inR]) (rfl) rfl dX10_outside_14
    ·
      refine lv_iconst (v := (nI 1)) hx hb dX10_outside_9 (by decide) ?_
      refine lv_goto (tgt := 14) hx hb dX10_outside_10 (by decide) ?_
      exact mm_zret hx hb hr hlocks hE hh (by simp_all [bI, nI, inR]) (rfl) rfl dX10_outside_14
set_option maxHeartbeats 4000000 in
set_option maxRecDepth 100000 in
/-- reference: isGood -/
theorem c_X10_isGood (l : Launch) (Γ : Gm) (b M : Nat) (mem : Nat → va_E) {x : UInt32}  : Ct l yX10_isGood (.code yX10_isGood cX10_isGood 1 (some .boolean)) ({ frames := 0, cells := 0, slots := 0, locals := 0 } : Room) Γ b M [.float x] mem (fun u => u = mem) (some (.int (bI (okF x)))) := by
  refine mm_enter (cc := cX10_isGood) (by decide) (Nat.le_of_ble_eq_true rfl) ?_
  intro p e s m args below meth c ls hx hb hml hown hr hlocks hname hE hh hl
  have hl : lv_has ls 1 [(0, .float x)] := hl
  refine lv_fload_n hx hb dX10_isGood_0 rfl (lv_at hl 0 rfl) ?_
  refine lv_ldcf hx hb hown (wk_X10_77 hE.2.1 args) dX10_isGood_1 ?_
  refine lv_fcmp hx hb dX10_isGood_3 ?_
  refine nn_cl_lt (tgt := 18) hx hb dX10_isGood_4 (by decide) (fun h1 => ?_) (fun h1 => ?_)
  ·
    have hq : okF x = false := decide_eq_false (fun q => h1 q.1)
    refine lv_iconst (v := (nI 0)) hx hb dX10_isGood_18 (by decide) ?_
    exact mm_zret hx hb hr hlocks hE hh (by rw [hq]; rfl) (rfl) rfl dX10_isGood_19
  ·
    have h5 := Classical.not_not.mp h1
    refine lv_fload_n hx hb dX10_isGood_7 rfl (lv_at hl 0 rfl) ?_
    refine lv_ldcf hx hb hown (wk_X10_78 hE.2.1 args) dX10_isGood_8 ?_
    refine lv_fcmp hx hb dX10_isGood_10 ?_
    refine nn_cg_gt (tgt := 18) hx hb dX10_isGood_11 (by decide) (fun h2 => ?_) (fun h2 => ?_)
    ·
      have hq : okF x = false := decide_eq_false (fun q => h2 q.2)
      refine lv_iconst (v := (nI 0)) hx hb dX10_isGood_18 (by decide) ?_
      exact mm_zret hx hb hr hlocks hE hh (by rw [hq]; rfl) (rfl) rfl dX10_isGood_19
    ·
      have hq : okF x = true := decide_eq_true ⟨h5, Classical.not_not.mp h2⟩
      refine lv_iconst (v := (nI 1)) hx hb dX10_isGood_14 (by decide) ?_
      refine lv_goto (tgt := 19) hx hb dX10_isGood_15 (by decide) ?_
      exact mm_zret hx hb hr hlocks hE hh (by rw [hq]; rfl) (rfl) rfl dX10_isGood_19
set_option maxHeartbeats 4000000 in
set_option maxRecDepth 100000 in
/-- reference: lose -/
theorem c_X10_lose (l : Launch) (Γ : Gm) (b M : Nat) (mem : Nat → va_E) {cd nd cz wz iz vz md wh sd sk ps fc : Nat} {v : Nat} {mh : Nat → Bool} (hM : 138 ≤ M) (fM : mem 115 = .inr (9, [.int (nI cd), .int (nI nd), .ref (b + 116), .ref (b + 117), .ref (b + 118), .ref (b + 119), .int (nI cz), .ref (b + 120), .int (nI wz), .int (nI iz), .int (nI vz), .ref (b + 121), .ref (b + 122), .ref (b + 123), .ref (b + 124), .ref (b + 125), .ref (b + 126), .ref (b + 127), .ref (b + 128), .ref (b + 129), .int (nI md), .ref (b + 130), .ref (b + 131), .int (nI wh), .ref (b + 132), .ref (b + 133), .int (nI sd), .int (nI sk), .int (nI ps), .int (nI fc), .ref (b + 134), .ref (b + 135)])) (g125 : mem 125 = aB Γ 3 mh) (hv : v < 3) : Ct l yX10_lose (.code yX10_lose cX10_lose 2 none) ({ frames := 0, cells := 0, slots := 0, locals := 0 } : Room) Γ b M [.ref (b + 115), .int (nI v)] mem (fun u => u 115 = .inr (9, [.int (nI cd), .int (nI nd), .ref (b + 116), .ref (b + 117), .ref (b + 118), .ref (b + 119), .int (nI cz), .ref (b + 120), .int (nI wz), .int (nI iz), .int (nI vz), .ref (b + 121), .ref (b + 122), .ref (b + 123), .ref (b + 124), .ref (b + 125), .ref (b + 126), .ref (b + 127), .ref (b + 128), .ref (b + 129), .int (nI md), .ref (b + 130), .ref (b + 131), .int (nI wh), .ref (b + 132), .ref (b + 133), .int (nI sd), .int (nI sk), .int (nI ps), .int (nI 0), .ref (b + 134), .ref (b + 135)]) ∧ u 125 = aB Γ 3 (va_up mh v false) ∧ ∀ j, j ≠ 115 → j ≠ 125 → u j = mem j) none := by
  refine mm_enter (cc := cX10_lose) (by decide) (Nat.le_of_ble_eq_true rfl) ?_
  intro p e s m args below meth c ls hx hb hml hown hr hlocks hname hE hh hl
  have hl : lv_has ls 2 [(0, .ref (b + 115)), (1, .int (nI v))] := hl
  have hfr : ∀ j, j ≠ 115 → j ≠ 125 → mem j = mem j := fun j _ _ => rfl
  refine lv_aload_n hx hb dX10_lose_0 rfl (lv_at hl 0 rfl) ?_
  refine lv_iconst (v := (nI 0)) hx hb dX10_lose_1 (by decide) ?_
  refine gp_X10_fusedCount (fs' := [.int (nI cd), .int (nI nd), .ref (b + 116), .ref (b + 117), .ref (b + 118), .ref (b + 119), .int (nI cz), .ref (b + 120), .int (nI wz), .int (nI iz), .int (nI vz), .ref (b + 121), .ref (b + 122), .ref (b + 123), .ref (b + 124), .ref (b + 125), .ref (b + 126), .ref (b + 127), .ref (b + 128), .ref (b + 129), .int (nI md), .ref (b + 130), .ref (b + 131), .int (nI wh), .ref (b + 132), .ref (b + 133), .int (nI sd), .int (nI sk), .int (nI ps), .int (nI 0), .ref (b + 134), .ref (b + 135)]) hx hb hE hown hh (by omega) fM rfl rfl (show 29 < 32 by decide) rfl dX10_lose_2 (fun H locs mem1 f2 k3 hh => ?_)
  have hfr4 : ∀ j, j ≠ 115 → j ≠ 125 → mem1 j = mem j := fun j c0 c1 => (k3 j (by omega)).trans (hfr j c0 c1)
  have f5 : mem1 125 = aB Γ 3 mh := (k3 _ (by omega)).trans g125
  refine lv_aload_n hx hb dX10_lose_5 rfl (lv_at hl 0 rfl) ?_
  refine gf_X10_has hx hb hE hown hh (by omega) f2 rfl dX10_lose_6 ?_
  refine lv_iload_n hx hb dX10_lose_9 rfl (lv_at hl 1 rfl) ?_
  refine lv_iconst (v := (nI 0)) hx hb dX10_lose_10 (by decide) ?_
  refine mm_zast hx hb hE hh (by omega) f5 (by omega) (by decide) rfl dX10_lose_11 (fun H locs mem6 f7 k8 hh => ?_)
  rw [show nI 0 = bI false from rfl] at f7
  rw [va_up_bI] at f7
  have hfr9 : ∀ j, j ≠ 115 → j ≠ 125 → mem6 j = mem j := fun j c0 c1 => (k8 j (by omega)).trans (hfr4 j c0 c1)
  have f10 : mem6 115 = .inr (9, [.int (nI cd), .int (nI nd), .ref (b + 116), .ref (b + 117), .ref (b + 118), .ref (b + 119), .int (nI cz), .ref (b + 120), .int (nI wz), .int (nI iz), .int (nI vz), .ref (b + 121), .ref (b + 122), .ref (b + 123), .ref (b + 124), .ref (b + 125), .ref (b + 126), .ref (b + 127), .ref (b + 128), .ref (b + 129), .int (nI md), .ref (b + 130), .ref (b + 131), .int (nI wh), .ref (b + 132), .ref (b + 133), .int (nI sd), .int (nI sk), .int (nI ps), .int (nI 0), .ref (b + 134), .ref (b + 135)]) := (k8 _ (by omega)).trans f2
  exact mm_vret hx hb hr hlocks hE hh (⟨f10, f7, hfr9⟩) dX10_lose_12
set_option maxHeartbeats 4000000 in
set_option maxRecDepth 100000 in
/-- reference: loseAll -/
theorem c_X10_loseAll (l : Launch) (Γ : Gm) (b M : Nat) (mem : Nat → va_E) {cd nd cz wz iz vz md wh sd sk ps fc : Nat} {mh : Nat → Bool} (hM : 138 ≤ M) (fM : mem 115 = .inr (9, [.int (nI cd), .int (nI nd), .ref (b + 116), .ref (b + 117), .ref (b + 118), .ref (b + 119), .int (nI cz), .ref (b + 120), .int (nI wz), .int (nI iz), .int (nI vz), .ref (b + 121), .ref (b + 122), .ref (b + 123), .ref (b + 124), .ref (b + 125), .ref (b + 126), .ref (b + 127), .ref (b + 128), .ref (b + 129), .int (nI md), .ref (b + 130), .ref (b + 131), .int (nI wh), .ref (b + 132), .ref (b + 133), .int (nI sd), .int (nI sk), .int (nI ps), .int (nI fc), .ref (b + 134), .ref (b + 135)])) (g125 : mem 125 = aB Γ 3 mh) : Ct l yX10_loseAll (.code yX10_loseAll cX10_loseAll 2 none) ({ frames := 1, cells := 0, slots := 0, locals := 21 } : Room) Γ b M [.ref (b + 115)] mem (fun u => u 115 = .inr (9, [.int (nI cd), .int (nI nd), .ref (b + 116), .ref (b + 117), .ref (b + 118), .ref (b + 119), .int (nI cz), .ref (b + 120), .int (nI wz), .int (nI iz), .int (nI vz), .ref (b + 121), .ref (b + 122), .ref (b + 123), .ref (b + 124), .ref (b + 125), .ref (b + 126), .ref (b + 127), .ref (b + 128), .ref (b + 129), .int (nI md), .ref (b + 130), .ref (b + 131), .int (nI wh), .ref (b + 132), .ref (b + 133), .int (nI sd), .int (nI sk), .int (nI ps), .int (nI 0), .ref (b + 134), .ref (b + 135)]) ∧ u 125 = aB Γ 3 (zrR mh 3) ∧ ∀ j, j ≠ 115 → j ≠ 125 → u j = mem j) none := by
  refine mm_enter (cc := cX10_loseAll) (by decide) (Nat.le_of_ble_eq_true rfl) ?_
  intro p e s m args below meth c ls hx hb hml hown hr hlocks hname hE hh hl
  have hl : lv_has ls 2 [(0, .ref (b + 115))] := hl
  have hfr : ∀ j, j ≠ 115 → j ≠ 125 → mem j = mem j := fun j _ _ => rfl
  refine lv_iconst (v := (nI 0)) hx hb dX10_loseAll_0 (by decide) ?_
  refine lv_istore_n (lv' := [(1, .int (nI 0)), (0, .ref (b + 115))]) hx hb dX10_loseAll_1 rfl hl (by decide) rfl (fun ls hl => ?_)
  have loop2 : ∀ (n9 : Nat) (v fc2 : Nat), (3 - v) < n9 → (v ≤ 3) → (0 < v → fc2 = 0) → ∀ (H : Heap) (locs : List Loc) (mem2 : Nat → va_E), mem2 115 = .inr (9, [.int (nI cd), .int (nI nd), .ref (b + 116), .ref (b + 117), .ref (b + 118), .ref (b + 119), .int (nI cz), .ref (b + 120), .int (nI wz), .int (nI iz), .int (nI vz), .ref (b + 121), .ref (b + 122), .ref (b + 123), .ref (b + 124), .ref (b + 125), .ref (b + 126), .ref (b + 127), .ref (b + 128), .ref (b + 129), .int (nI md), .ref (b + 130), .ref (b + 131), .int (nI wh), .ref (b + 132), .ref (b + 133), .int (nI sd), .int (nI sk), .int (nI ps), .int (nI fc2), .ref (b + 134), .ref (b + 135)]) → mem2 125 = aB Γ 3 (zrR mh v) → (∀ j, j ≠ 115 → j ≠ 125 → mem2 j = mem j) → GH Γ b M mem2 s H locs → ∀ (ls : Array Slot), lv_has ls 2 [(1, .int (nI v)), (0, .ref (b + 115))] → W p l e ({ frames := 1, cells := 0, slots := 0, locals := 21 } : Room) s m args below meth c H locs 0 0 (MQ below (QC Γ b M (fun u => u 115 = .inr (9, [.int (nI cd), .int (nI nd), .ref (b + 116), .ref (b + 117), .ref (b + 118), .ref (b + 119), .int (nI cz), .ref (b + 120), .int (nI wz), .int (nI iz), .int (nI vz), .ref (b + 121), .ref (b + 122), .ref (b + 123), .ref (b + 124), .ref (b + 125), .ref (b + 126), .ref (b + 127), .ref (b + 128), .ref (b + 129), .int (nI md), .ref (b + 130), .ref (b + 131), .int (nI wh), .ref (b + 132), .ref (b + 133), .int (nI sd), .int (nI sk), .int (nI ps), .int (nI 0), .ref (b + 134), .ref (b + 135)]) ∧ u 125 = aB Γ 3 (zrR mh 3) ∧ ∀ j, j ≠ 115 → j ≠ 125 → u j = mem j) none) args s 0 0 (fun q => b ≤ q)) (F0 m 2 ls []) := by
    intro n9
    induction n9 with
    | zero => intro v fc2 hn; exact absurd hn (Nat.not_lt_zero _)
    | succ n9 ih =>
      intro v fc2 hn hv hvz H locs mem1 f3 f4 hfr2 hh ls hl
      have ih5 := ih
      refine lv_iload_n hx hb dX10_loseAll_2 rfl (lv_at hl 0 rfl) ?_
      refine lv_iconst (v := (nI 3)) hx hb dX10_loseAll_3 (by decide) ?_
      refine nn_icmp_ge (tgt := 18) hx hb dX10_loseAll_4 (by decide) (by omega) (by omega) (fun h6 => ?_) (fun h6 => ?_)
      ·
        obtain rfl : v = 3 := by omega
        obtain rfl := hvz (by decide)
        exact mm_vret hx hb hr hlocks hE hh (⟨f3, f4, hfr2⟩) dX10_loseAll_18
      ·
        refine lv_aload_n hx hb dX10_loseAll_7 rfl (lv_at hl 1 rfl) ?_
        refine lv_iload_n hx hb dX10_loseAll_8 rfl (lv_at hl 0 rfl) ?_
        refine mm_V0 (As := [.int (nI v)]) (rest := []) hx hb hml hown hE hl.1 hh (kc_X10_82 hE.2.1 ⟨Nat.le_of_ble_eq_true rfl, Nat.le_of_ble_eq_true rfl⟩) (c_X10_lose l Γ b M mem1 (cd := cd) (nd := nd) (cz := cz) (wz := wz) (iz := iz) (vz := vz) (md := md) (wh := wh) (sd := sd) (sk := sk) (ps := ps) (fc := fc2) (v := v) (mh := zrR mh v) (by omega) f3 f4 (by omega)) rfl (by omega) f3 rfl rfl (Nat.le_of_ble_eq_true rfl) dX10_loseAll_9 rfl rfl (fun H locs mem7 hP8 hh => ?_)
        obtain ⟨f9, f10, k11⟩ := hP8
        have hfr12 : ∀ j, j ≠ 115 → j ≠ 125 → mem7 j = mem j := fun j c0 c1 => (k11 j (by omega) (by omega)).trans (hfr2 j c0 c1)
        refine nn_iinc (x := v) (d := 1) (lv' := [(1, .int (nI (v + 1))), (0, .ref (b + 115))]) hx hb dX10_loseAll_12 hl (k := 0) rfl (by decide) (by decide) rfl (fun ls hl => ?_)
        refine lv_goto (tgt := 2) hx hb dX10_loseAll_15 (by decide) ?_
        exact ih5 (v + 1) 0 (by omega) (by omega) (fun _ => rfl) _ _ mem7 (f9) (by rw [← zrR_s]; exact f10) hfr12 hh ls (lv_sub hl [0, 1] rfl)
  exact loop2 ((3 - 0) + 1) 0 fc (by omega) (by omega) (by omega) _ _ mem (fM) (by rw [zrR_0]; exact g125) hfr hh ls (lv_sub hl [0, 1] rfl)
set_option maxHeartbeats 4000000 in
set_option maxRecDepth 100000 in
/-- reference: document -/
theorem m_document (l : Launch) (Γ : Gm) (b M : Nat) (mem : Nat → va_E) {cd nd cz wz iz vz md wh sd sk ps fc : Nat} {mh : Nat → Bool}  (hM : 138 ≤ M) (fM : mem 115 = .inr (9, [.int (nI cd), .int (nI nd), .ref (b + 116), .ref (b + 117), .ref (b + 118), .ref (b + 119), .int (nI cz), .ref (b + 120), .int (nI wz), .int (nI iz), .int (nI vz), .ref (b + 121), .ref (b + 122), .ref (b + 123), .ref (b + 124), .ref (b + 125), .ref (b + 126), .ref (b + 127), .ref (b + 128), .ref (b + 129), .int (nI md), .ref (b + 130), .ref (b + 131), .int (nI wh), .ref (b + 132), .ref (b + 133), .int (nI sd), .int (nI sk), .int (nI ps), .int (nI fc), .ref (b + 134), .ref (b + 135)])) (g125 : mem 125 = aB Γ 3 mh) (hnd : nd < 16) : Ct l yX10_document (.code yX10_document cX10_document 1 (some .int)) ({ frames := 2, cells := 0, slots := 0, locals := 42 } : Room) Γ b M [.ref (b + 115)] mem (fun u => u 115 = .inr (9, [.int (nI 0), .int (nI (nd + 1)), .ref (b + 116), .ref (b + 117), .ref (b + 118), .ref (b + 119), .int (nI cz), .ref (b + 120), .int (nI wz), .int (nI iz), .int (nI vz), .ref (b + 121), .ref (b + 122), .ref (b + 123), .ref (b + 124), .ref (b + 125), .ref (b + 126), .ref (b + 127), .ref (b + 128), .ref (b + 129), .int (nI md), .ref (b + 130), .ref (b + 131), .int (nI wh), .ref (b + 132), .ref (b + 133), .int (nI sd), .int (nI sk), .int (nI ps), .int (nI 0), .ref (b + 134), .ref (b + 135)]) ∧ u 125 = aB Γ 3 (zrR mh 3) ∧ ∀ j, j ≠ 115 → j ≠ 125 → u j = mem j) (some (.int (nI nd))) := by
  refine mm_enter (cc := cX10_document) (by decide) (Nat.le_of_ble_eq_true rfl) ?_
  intro p e s m args below meth c ls hx hb hml hown hr hlocks hname hE hh hl
  have hl : lv_has ls 1 [(0, .ref (b + 115))] := hl
  have hfr : ∀ j, j ≠ 115 → j ≠ 125 → mem j = mem j := fun j _ _ => rfl
  refine lv_aload_n hx hb dX10_document_0 rfl (lv_at hl 0 rfl) ?_
  refine lv_aload_n hx hb dX10_document_1 rfl (lv_at hl 0 rfl) ?_
  refine gf_X10_documents hx hb hE hown hh (by omega) fM rfl dX10_document_2 ?_
  refine lv_bipush (v := (nI 16)) hx hb dX10_document_5 (by decide) ?_
  refine nn_icmp_ne (tgt := 14) hx hb dX10_document_7 (by decide) (by omega) (by omega) (fun h1 => ?_) (fun h1 => ?_)
  ·
    refine lv_iconst (v := (nI 0)) hx hb dX10_document_14 (by decide) ?_
    refine gp_X10_code (fs' := [.int (nI 0), .int (nI nd), .ref (b + 116), .ref (b + 117), .ref (b + 118), .ref (b + 119), .int (nI cz), .ref (b + 120), .int (nI wz), .int (nI iz), .int (nI vz), .ref (b + 121), .ref (b + 122), .ref (b + 123), .ref (b + 124), .ref (b + 125), .ref (b + 126), .ref (b + 127), .ref (b + 128), .ref (b + 129), .int (nI md), .ref (b + 130), .ref (b + 131), .int (nI wh), .ref (b + 132), .ref (b + 133), .int (nI sd), .int (nI sk), .int (nI ps), .int (nI fc), .ref (b + 134), .ref (b + 135)]) hx hb hE hown hh (by omega) fM rfl rfl (show 0 < 32 by decide) rfl dX10_document_15 (fun H locs mem2 f3 k4 hh => ?_)
    have hfr5 : ∀ j, j ≠ 115 → j ≠ 125 → mem2 j = mem j := fun j c0 c1 => (k4 j (by omega)).trans (hfr j c0 c1)
    have f6 : mem2 125 = aB Γ 3 mh := (k4 _ (by omega)).trans g125
    refine lv_aload_n hx hb dX10_document_18 rfl (lv_at hl 0 rfl) ?_
    refine gf_X10_code hx hb hE hown hh (by omega) f3 rfl dX10_document_19 ?_
    refine nn_if_le (tgt := 27) hx hb dX10_document_22 (by decide) (by omega) (fun h7 => ?_) (fun h7 => ?_)
    ·
      refine lv_aload_n hx hb dX10_document_27 rfl (lv_at hl 0 rfl) ?_
      refine lv_dup hx hb dX10_document_28 rfl ?_
      refine gf_X10_documents hx hb hE hown hh (by omega) f3 rfl dX10_document_29 ?_
      refine lv_iconst (v := (nI 1)) hx hb dX10_document_32 (by decide) ?_
      refine nn_iadd hx hb dX10_document_33 ?_
      refine gp_X10_documents (fs' := [.int (nI 0), .int (nI (nd + 1)), .ref (b + 116), .ref (b + 117), .ref (b + 118), .ref (b + 119), .int (nI cz), .ref (b + 120), .int (nI wz), .int (nI iz), .int (nI vz), .ref (b + 121), .ref (b + 122), .ref (b + 123), .ref (b + 124), .ref (b + 125), .ref (b + 126), .ref (b + 127), .ref (b + 128), .ref (b + 129), .int (nI md), .ref (b + 130), .ref (b + 131), .int (nI wh), .ref (b + 132), .ref (b + 133), .int (nI sd), .int (nI sk), .int (nI ps), .int (nI fc), .ref (b + 134), .ref (b + 135)]) hx hb hE hown hh (by omega) f3 rfl rfl (show 1 < 32 by decide) rfl dX10_document_34 (fun H locs mem8 f9 k10 hh => ?_)
      have hfr11 : ∀ j, j ≠ 115 → j ≠ 125 → mem8 j = mem j := fun j c0 c1 => (k10 j (by omega)).trans (hfr5 j c0 c1)
      have f12 : mem8 125 = aB Γ 3 mh := (k10 _ (by omega)).trans f6
      refine lv_aload_n hx hb dX10_document_37 rfl (lv_at hl 0 rfl) ?_
      refine mm_V0 (As := []) (rest := []) hx hb hml hown hE hl.1 hh (kc_X10_89 hE.2.1 ⟨Nat.le_of_ble_eq_true rfl, Nat.le_of_ble_eq_true rfl⟩) (c_X10_loseAll l Γ b M mem8 (cd := 0) (nd := nd + 1) (cz := cz) (wz := wz) (iz := iz) (vz := vz) (md := md) (wh := wh) (sd := sd) (sk := sk) (ps := ps) (fc := fc) (mh := mh) (by omega) f9 f12) rfl (by omega) f9 rfl rfl (Nat.le_of_ble_eq_true rfl) dX10_document_38 rfl rfl (fun H locs mem13 hP14 hh => ?_)
      obtain ⟨f15, f16, k17⟩ := hP14
      have hfr18 : ∀ j, j ≠ 115 → j ≠ 125 → mem13 j = mem j := fun j c0 c1 => (k17 j (by omega) (by omega)).trans (hfr11 j c0 c1)
      refine lv_aload_n hx hb dX10_document_41 rfl (lv_at hl 0 rfl) ?_
      refine gf_X10_documents hx hb hE hown hh (by omega) f15 rfl dX10_document_42 ?_
      refine lv_iconst (v := (nI 1)) hx hb dX10_document_45 (by decide) ?_
      refine nn_isub hx hb (by omega) dX10_document_46 ?_
      exact mm_iret hx hb hr hlocks hE hh (rfl) (⟨f15, f16, hfr18⟩) dX10_document_47
    ·
      exact absurd h7 (by decide)
  ·
    exact absurd h1 (by omega)
set_option maxHeartbeats 4000000 in
set_option maxRecDepth 100000 in
/-- reference: document, 1 -/
theorem m_document_1 (l : Launch) (Γ : Gm) (b M : Nat) (mem : Nat → va_E) {cd nd cz wz iz vz md wh sd sk ps fc : Nat}  (hM : 138 ≤ M) (fM : mem 115 = .inr (9, [.int (nI cd), .int (nI nd), .ref (b + 116), .ref (b + 117), .ref (b + 118), .ref (b + 119), .int (nI cz), .ref (b + 120), .int (nI wz), .int (nI iz), .int (nI vz), .ref (b + 121), .ref (b + 122), .ref (b + 123), .ref (b + 124), .ref (b + 125), .ref (b + 126), .ref (b + 127), .ref (b + 128), .ref (b + 129), .int (nI md), .ref (b + 130), .ref (b + 131), .int (nI wh), .ref (b + 132), .ref (b + 133), .int (nI sd), .int (nI sk), .int (nI ps), .int (nI fc), .ref (b + 134), .ref (b + 135)])) (hnd : nd = 16) : Ct l yX10_document (.code yX10_document cX10_document 1 (some .int)) ({ frames := 0, cells := 0, slots := 0, locals := 0 } : Room) Γ b M [.ref (b + 115)] mem (fun u => u 115 = .inr (9, [.int (nI 1), .int (nI nd), .ref (b + 116), .ref (b + 117), .ref (b + 118), .ref (b + 119), .int (nI cz), .ref (b + 120), .int (nI wz), .int (nI iz), .int (nI vz), .ref (b + 121), .ref (b + 122), .ref (b + 123), .ref (b + 124), .ref (b + 125), .ref (b + 126), .ref (b + 127), .ref (b + 128), .ref (b + 129), .int (nI md), .ref (b + 130), .ref (b + 131), .int (nI wh), .ref (b + 132), .ref (b + 133), .int (nI sd), .int (nI sk), .int (nI ps), .int (nI fc), .ref (b + 134), .ref (b + 135)]) ∧ ∀ j, j ≠ 115 → u j = mem j) (some (.int (nI 0))) := by
  refine mm_enter (cc := cX10_document) (by decide) (Nat.le_of_ble_eq_true rfl) ?_
  intro p e s m args below meth c ls hx hb hml hown hr hlocks hname hE hh hl
  have hl : lv_has ls 1 [(0, .ref (b + 115))] := hl
  have hfr : ∀ j, j ≠ 115 → mem j = mem j := fun j _ => rfl
  refine lv_aload_n hx hb dX10_document_0 rfl (lv_at hl 0 rfl) ?_
  refine lv_aload_n hx hb dX10_document_1 rfl (lv_at hl 0 rfl) ?_
  refine gf_X10_documents hx hb hE hown hh (by omega) fM rfl dX10_document_2 ?_
  refine lv_bipush (v := (nI 16)) hx hb dX10_document_5 (by decide) ?_
  refine nn_icmp_ne (tgt := 14) hx hb dX10_document_7 (by decide) (by omega) (by omega) (fun h1 => ?_) (fun h1 => ?_)
  ·
    exact absurd hnd h1
  ·
    refine lv_iconst (v := (nI 1)) hx hb dX10_document_10 (by decide) ?_
    refine lv_goto (tgt := 15) hx hb dX10_document_11 (by decide) ?_
    refine gp_X10_code (fs' := [.int (nI 1), .int (nI nd), .ref (b + 116), .ref (b + 117), .ref (b + 118), .ref (b + 119), .int (nI cz), .ref (b + 120), .int (nI wz), .int (nI iz), .int (nI vz), .ref (b + 121), .ref (b + 122), .ref (b + 123), .ref (b + 124), .ref (b + 125), .ref (b + 126), .ref (b + 127), .ref (b + 128), .ref (b + 129), .int (nI md), .ref (b + 130), .ref (b + 131), .int (nI wh), .ref (b + 132), .ref (b + 133), .int (nI sd), .int (nI sk), .int (nI ps), .int (nI fc), .ref (b + 134), .ref (b + 135)]) hx hb hE hown hh (by omega) fM rfl rfl (show 0 < 32 by decide) rfl dX10_document_15 (fun H locs mem2 f3 k4 hh => ?_)
    have hfr5 : ∀ j, j ≠ 115 → mem2 j = mem j := fun j c0 => (k4 j (by omega)).trans (hfr j c0)
    refine lv_aload_n hx hb dX10_document_18 rfl (lv_at hl 0 rfl) ?_
    refine gf_X10_code hx hb hE hown hh (by omega) f3 rfl dX10_document_19 ?_
    refine nn_if_le (tgt := 27) hx hb dX10_document_22 (by decide) (by omega) (fun h6 => ?_) (fun h6 => ?_)
    ·
      exact absurd h6 (by decide)
    ·
      refine lv_iconst (v := (nI 0)) hx hb dX10_document_25 (by decide) ?_
      exact mm_iret hx hb hr hlocks hE hh (rfl) (⟨f3, hfr5⟩) dX10_document_26
set_option maxHeartbeats 4000000 in
set_option maxRecDepth 100000 in
/-- reference: count -/
theorem m_count (l : Launch) (Γ : Gm) (b M : Nat) (mem : Nat → va_E) {cd nd cz wz iz vz md wh sd sk ps fc : Nat} {mh : Nat → Bool} {d t : Nat} {cn : Nat → Nat → Nat}  (hM : 138 ≤ M) (fM : mem 115 = .inr (9, [.int (nI cd), .int (nI nd), .ref (b + 116), .ref (b + 117), .ref (b + 118), .ref (b + 119), .int (nI cz), .ref (b + 120), .int (nI wz), .int (nI iz), .int (nI vz), .ref (b + 121), .ref (b + 122), .ref (b + 123), .ref (b + 124), .ref (b + 125), .ref (b + 126), .ref (b + 127), .ref (b + 128), .ref (b + 129), .int (nI md), .ref (b + 130), .ref (b + 131), .int (nI wh), .ref (b + 132), .ref (b + 133), .int (nI sd), .int (nI sk), .int (nI ps), .int (nI fc), .ref (b + 134), .ref (b + 135)])) (g125 : mem 125 = aB Γ 3 mh) (g116 : mem 116 = aN Γ 192 (fl12 cn)) (hnd : nd ≤ 16) (hd : d < nd) (ht : t < 12) (hc : cn d t < 1000) : Ct l yX10_count (.code yX10_count cX10_count 3 (some .int)) ({ frames := 2, cells := 0, slots := 0, locals := 42 } : Room) Γ b M [.ref (b + 115), .int (nI d), .int (nI t)] mem (fun u => u 115 = .inr (9, [.int (nI 0), .int (nI nd), .ref (b + 116), .ref (b + 117), .ref (b + 118), .ref (b + 119), .int (nI cz), .ref (b + 120), .int (nI wz), .int (nI iz), .int (nI vz), .ref (b + 121), .ref (b + 122), .ref (b + 123), .ref (b + 124), .ref (b + 125), .ref (b + 126), .ref (b + 127), .ref (b + 128), .ref (b + 129), .int (nI md), .ref (b + 130), .ref (b + 131), .int (nI wh), .ref (b + 132), .ref (b + 133), .int (nI sd), .int (nI sk), .int (nI ps), .int (nI 0), .ref (b + 134), .ref (b + 135)]) ∧ u 116 = aN Γ 192 (fl12 (va_up cn d (va_up (cn d) t (cn d t + 1)))) ∧ u 125 = aB Γ 3 (zrR mh 3) ∧ ∀ j, j ≠ 115 → j ≠ 116 → j ≠ 125 → u j = mem j) (some (.int (nI (cn d t + 1)))) := by
  refine mm_enter (cc := cX10_count) (by decide) (Nat.le_of_ble_eq_true rfl) ?_
  intro p e s m args below meth c ls hx hb hml hown hr hlocks hname hE hh hl
  have hl : lv_has ls 3 [(0, .ref (b + 115)), (1, .int (nI d)), (2, .int (nI t))] := hl
  have hfr : ∀ j, j ≠ 115 → j ≠ 116 → j ≠ 125 → mem j = mem j := fun j _ _ _ => rfl
  refine lv_aload_n hx hb dX10_count_0 rfl (lv_at hl 0 rfl) ?_
  refine lv_iload_n hx hb dX10_count_1 rfl (lv_at hl 1 rfl) ?_
  refine lv_aload_n hx hb dX10_count_2 rfl (lv_at hl 0 rfl) ?_
  refine gf_X10_documents hx hb hE hown hh (by omega) fM rfl dX10_count_3 ?_
  refine mm_S0r (As := [.int (nI d), .int (nI nd)]) (rest := [.ref (b + 115)]) hx hb hml hown hE hl.1 hh (kc_X10_92 hE.2.1 ⟨Nat.le_of_ble_eq_true rfl, Nat.le_of_ble_eq_true rfl⟩) (c_X10_outside l Γ b M mem (v := (nI d)) (n := nd)) rfl rfl (Nat.le_of_ble_eq_true rfl) dX10_count_6 rfl rfl (fun H locs hh => ?_)
  refine nn_bne (tgt := 21) hx hb dX10_count_9 (by decide) (fun h1 => ?_) (fun h1 => ?_)
  ·
    exact (nt_tf h1 (inR_y hd (by omega))).elim
  ·
    refine lv_iload_n hx hb dX10_count_12 rfl (lv_at hl 2 rfl) ?_
    refine lv_bipush (v := (nI 12)) hx hb dX10_count_13 (by decide) ?_
    refine mm_S0r (As := [.int (nI t), .int (nI 12)]) (rest := [.ref (b + 115)]) hx hb hml hown hE hl.1 hh (kc_X10_92 hE.2.1 ⟨Nat.le_of_ble_eq_true rfl, Nat.le_of_ble_eq_true rfl⟩) (c_X10_outside l Γ b M mem (v := (nI t)) (n := 12)) rfl rfl (Nat.le_of_ble_eq_true rfl) dX10_count_15 rfl rfl (fun H locs hh => ?_)
    refine nn_beq (tgt := 25) hx hb dX10_count_18 (by decide) (fun h2 => ?_) (fun h2 => ?_)
    ·
      refine lv_aload_n hx hb dX10_count_25 rfl (lv_at hl 0 rfl) ?_
      refine gf_X10_counts hx hb hE hown hh (by omega) fM rfl dX10_count_26 ?_
      refine lv_bipush (v := (nI 12)) hx hb dX10_count_29 (by decide) ?_
      refine lv_iload_n hx hb dX10_count_31 rfl (lv_at hl 1 rfl) ?_
      refine nn_imul hx hb dX10_count_32 ?_
      refine lv_iload_n hx hb dX10_count_33 rfl (lv_at hl 2 rfl) ?_
      refine nn_iadd hx hb dX10_count_34 ?_
      refine mm_iald hx hb hE hh (by omega) g116 (by omega) (by decide) dX10_count_35 ?_
      have hv35 : (fl12 cn) ((12 * d) + t) = cn d t := fl12_at _ (by omega)
      rw [hv35]
      refine lv_sipush (v := (nI 1000)) hx hb dX10_count_36 (by decide) ?_
      refine nn_icmp_ne (tgt := 46) hx hb dX10_count_39 (by decide) (by omega) (by omega) (fun h3 => ?_) (fun h3 => ?_)
      ·
        refine lv_iconst (v := (nI 0)) hx hb dX10_count_46 (by decide) ?_
        refine gp_X10_code (fs' := [.int (nI 0), .int (nI nd), .ref (b + 116), .ref (b + 117), .ref (b + 118), .ref (b + 119), .int (nI cz), .ref (b + 120), .int (nI wz), .int (nI iz), .int (nI vz), .ref (b + 121), .ref (b + 122), .ref (b + 123), .ref (b + 124), .ref (b + 125), .ref (b + 126), .ref (b + 127), .ref (b + 128), .ref (b + 129), .int (nI md), .ref (b + 130), .ref (b + 131), .int (nI wh), .ref (b + 132), .ref (b + 133), .int (nI sd), .int (nI sk), .int (nI ps), .int (nI fc), .ref (b + 134), .ref (b + 135)]) hx hb hE hown hh (by omega) fM rfl rfl (show 0 < 32 by decide) rfl dX10_count_47 (fun H locs mem4 f5 k6 hh => ?_)
        have hfr7 : ∀ j, j ≠ 115 → j ≠ 116 → j ≠ 125 → mem4 j = mem j := fun j c0 c1 c2 => (k6 j (by omega)).trans (hfr j c0 c1 c2)
        have f8 : mem4 125 = aB Γ 3 mh := (k6 _ (by omega)).trans g125
        have f9 : mem4 116 = aN Γ 192 (fl12 cn) := (k6 _ (by omega)).trans g116
        refine lv_aload_n hx hb dX10_count_50 rfl (lv_at hl 0 rfl) ?_
        refine gf_X10_code hx hb hE hown hh (by omega) f5 rfl dX10_count_51 ?_
        refine nn_if_le (tgt := 59) hx hb dX10_count_54 (by decide) (by omega) (fun h10 => ?_) (fun h10 => ?_)
        ·
          refine lv_aload_n hx hb dX10_count_59 rfl (lv_at hl 0 rfl) ?_
          refine gf_X10_counts hx hb hE hown hh (by omega) f5 rfl dX10_count_60 ?_
          refine lv_bipush (v := (nI 12)) hx hb dX10_count_63 (by decide) ?_
          refine lv_iload_n hx hb dX10_count_65 rfl (lv_at hl 1 rfl) ?_
          refine nn_imul hx hb dX10_count_66 ?_
          refine lv_iload_n hx hb dX10_count_67 rfl (lv_at hl 2 rfl) ?_
          refine nn_iadd hx hb dX10_count_68 ?_
          refine lv_dup2_11 hx hb dX10_count_69 rfl rfl ?_
          refine mm_iald hx hb hE hh (by omega) f9 (by omega) (by decide) dX10_count_70 ?_
          have hv70 : (fl12 cn) ((12 * d) + t) = cn d t := fl12_at _ (by omega)
          rw [hv70]
          refine lv_iconst (v := (nI 1)) hx hb dX10_count_71 (by decide) ?_
          refine nn_iadd hx hb dX10_count_72 ?_
          refine mm_iast hx hb hE hh (by omega) f9 (by omega) (by decide) dX10_count_73 (fun H locs mem11 f12 k13 hh => ?_)
          rw [va_up_nI] at f12
          have hfr14 : ∀ j, j ≠ 115 → j ≠ 116 → j ≠ 125 → mem11 j = mem j := fun j c0 c1 c2 => (k13 j (by omega)).trans (hfr7 j c0 c1 c2)
          have f15 : mem11 115 = .inr (9, [.int (nI 0), .int (nI nd), .ref (b + 116), .ref (b + 117), .ref (b + 118), .ref (b + 119), .int (nI cz), .ref (b + 120), .int (nI wz), .int (nI iz), .int (nI vz), .ref (b + 121), .ref (b + 122), .ref (b + 123), .ref (b + 124), .ref (b + 125), .ref (b + 126), .ref (b + 127), .ref (b + 128), .ref (b + 129), .int (nI md), .ref (b + 130), .ref (b + 131), .int (nI wh), .ref (b + 132), .ref (b + 133), .int (nI sd), .int (nI sk), .int (nI ps), .int (nI fc), .ref (b + 134), .ref (b + 135)]) := (k13 _ (by omega)).trans f5
          have f16 : mem11 125 = aB Γ 3 mh := (k13 _ (by omega)).trans f8
          refine lv_aload_n hx hb dX10_count_74 rfl (lv_at hl 0 rfl) ?_
          refine mm_V0 (As := []) (rest := []) hx hb hml hown hE hl.1 hh (kc_X10_89 hE.2.1 ⟨Nat.le_of_ble_eq_true rfl, Nat.le_of_ble_eq_true rfl⟩) (c_X10_loseAll l Γ b M mem11 (cd := 0) (nd := nd) (cz := cz) (wz := wz) (iz := iz) (vz := vz) (md := md) (wh := wh) (sd := sd) (sk := sk) (ps := ps) (fc := fc) (mh := mh) (by omega) f15 f16) rfl (by omega) f15 rfl rfl (Nat.le_of_ble_eq_true rfl) dX10_count_75 rfl rfl (fun H locs mem17 hP18 hh => ?_)
          obtain ⟨f19, f20, k21⟩ := hP18
          have hfr22 : ∀ j, j ≠ 115 → j ≠ 116 → j ≠ 125 → mem17 j = mem j := fun j c0 c1 c2 => (k21 j (by omega) (by omega)).trans (hfr14 j c0 c1 c2)
          have f23 : mem17 116 = aN Γ 192 (va_up (fl12 cn) ((12 * d) + t) ((cn d t) + 1)) := (k21 _ (by omega) (by omega)).trans f12
          refine lv_aload_n hx hb dX10_count_78 rfl (lv_at hl 0 rfl) ?_
          refine gf_X10_counts hx hb hE hown hh (by omega) f19 rfl dX10_count_79 ?_
          refine lv_bipush (v := (nI 12)) hx hb dX10_count_82 (by decide) ?_
          refine lv_iload_n hx hb dX10_count_84 rfl (lv_at hl 1 rfl) ?_
          refine nn_imul hx hb dX10_count_85 ?_
          refine lv_iload_n hx hb dX10_count_86 rfl (lv_at hl 2 rfl) ?_
          refine nn_iadd hx hb dX10_count_87 ?_
          refine mm_iald hx hb hE hh (by omega) f23 (by omega) (by decide) dX10_count_88 ?_
          have hv88 : (va_up (fl12 cn) ((12 * d) + t) ((cn d t) + 1)) ((12 * d) + t) = cn d t + 1 := va_up_self _ _ _
          rw [hv88]
          exact mm_iret hx hb hr hlocks hE hh (rfl) (⟨f19, by rw [← fl12_up cn _ ht]; exact f23, f20, hfr22⟩) dX10_count_89
        ·
          exact absurd h10 (by decide)
      ·
        exact absurd h3 (by omega)
    ·
      exact (nt_tf h2 (inR_y ht (by decide))).elim
set_option maxHeartbeats 4000000 in
set_option maxRecDepth 100000 in
/-- reference: count, 1 -/
theorem m_count_1 (l : Launch) (Γ : Gm) (b M : Nat) (mem : Nat → va_E) {cd nd cz wz iz vz md wh sd sk ps fc : Nat} {d t : Int32} (hM : 138 ≤ M) (fM : mem 115 = .inr (9, [.int (nI cd), .int (nI nd), .ref (b + 116), .ref (b + 117), .ref (b + 118), .ref (b + 119), .int (nI cz), .ref (b + 120), .int (nI wz), .int (nI iz), .int (nI vz), .ref (b + 121), .ref (b + 122), .ref (b + 123), .ref (b + 124), .ref (b + 125), .ref (b + 126), .ref (b + 127), .ref (b + 128), .ref (b + 129), .int (nI md), .ref (b + 130), .ref (b + 131), .int (nI wh), .ref (b + 132), .ref (b + 133), .int (nI sd), .int (nI sk), .int (nI ps), .int (nI fc), .ref (b + 134), .ref (b + 135)])) (hdt : (inR d nd && inR t 12) = false) : Ct l yX10_count (.code yX10_count cX10_count 3 (some .int)) ({ frames := 1, cells := 0, slots := 0, locals := 21 } : Room) Γ b M [.ref (b + 115), .int d, .int t] mem (fun u => u 115 = .inr (9, [.int (nI 1), .int (nI nd), .ref (b + 116), .ref (b + 117), .ref (b + 118), .ref (b + 119), .int (nI cz), .ref (b + 120), .int (nI wz), .int (nI iz), .int (nI vz), .ref (b + 121), .ref (b + 122), .ref (b + 123), .ref (b + 124), .ref (b + 125), .ref (b + 126), .ref (b + 127), .ref (b + 128), .ref (b + 129), .int (nI md), .ref (b + 130), .ref (b + 131), .int (nI wh), .ref (b + 132), .ref (b + 133), .int (nI sd), .int (nI sk), .int (nI ps), .int (nI fc), .ref (b + 134), .ref (b + 135)]) ∧ ∀ j, j ≠ 115 → u j = mem j) (some (.int (nI 0))) := by
  refine mm_enter (cc := cX10_count) (by decide) (Nat.le_of_ble_eq_true rfl) ?_
  intro p e s m args below meth c ls hx hb hml hown hr hlocks hname hE hh hl
  have hl : lv_has ls 3 [(0, .ref (b + 115)), (1, .int d), (2, .int t)] := hl
  have hfr : ∀ j, j ≠ 115 → mem j = mem j := fun j _ => rfl
  refine lv_aload_n hx hb dX10_count_0 rfl (lv_at hl 0 rfl) ?_
  refine lv_iload_n hx hb dX10_count_1 rfl (lv_at hl 1 rfl) ?_
  refine lv_aload_n hx hb dX10_count_2 rfl (lv_at hl 0 rfl) ?_
  refine gf_X10_documents hx hb hE hown hh (by omega) fM rfl dX10_count_3 ?_
  refine mm_S0r (As := [.int d, .int (nI nd)]) (rest := [.ref (b + 115)]) hx hb hml hown hE hl.1 hh (kc_X10_92 hE.2.1 ⟨Nat.le_of_ble_eq_true rfl, Nat.le_of_ble_eq_true rfl⟩) (c_X10_outside l Γ b M mem (v := d) (n := nd)) rfl rfl (Nat.le_of_ble_eq_true rfl) dX10_count_6 rfl rfl (fun H locs hh => ?_)
  refine nn_bne (tgt := 21) hx hb dX10_count_9 (by decide) (fun h1 => ?_) (fun h1 => ?_)
  ·
    refine lv_iconst (v := (nI 1)) hx hb dX10_count_21 (by decide) ?_
    refine lv_goto (tgt := 47) hx hb dX10_count_22 (by decide) ?_
    refine gp_X10_code (fs' := [.int (nI 1), .int (nI nd), .ref (b + 116), .ref (b + 117), .ref (b + 118), .ref (b + 119), .int (nI cz), .ref (b + 120), .int (nI wz), .int (nI iz), .int (nI vz), .ref (b + 121), .ref (b + 122), .ref (b + 123), .ref (b + 124), .ref (b + 125), .ref (b + 126), .ref (b + 127), .ref (b + 128), .ref (b + 129), .int (nI md), .ref (b + 130), .ref (b + 131), .int (nI wh), .ref (b + 132), .ref (b + 133), .int (nI sd), .int (nI sk), .int (nI ps), .int (nI fc), .ref (b + 134), .ref (b + 135)]) hx hb hE hown hh (by omega) fM rfl rfl (show 0 < 32 by decide) rfl dX10_count_47 (fun H locs mem2 f3 k4 hh => ?_)
    have hfr5 : ∀ j, j ≠ 115 → mem2 j = mem j := fun j c0 => (k4 j (by omega)).trans (hfr j c0)
    refine lv_aload_n hx hb dX10_count_50 rfl (lv_at hl 0 rfl) ?_
    refine gf_X10_code hx hb hE hown hh (by omega) f3 rfl dX10_count_51 ?_
    refine nn_if_le (tgt := 59) hx hb dX10_count_54 (by decide) (by omega) (fun h6 => ?_) (fun h6 => ?_)
    ·
      exact absurd h6 (by decide)
    ·
      refine lv_iconst (v := (nI 0)) hx hb dX10_count_57 (by decide) ?_
      exact mm_iret hx hb hr hlocks hE hh (rfl) (⟨f3, hfr5⟩) dX10_count_58
  ·
    have g1 := nf_ff h1
    refine lv_iload_n hx hb dX10_count_12 rfl (lv_at hl 2 rfl) ?_
    refine lv_bipush (v := (nI 12)) hx hb dX10_count_13 (by decide) ?_
    refine mm_S0r (As := [.int t, .int (nI 12)]) (rest := [.ref (b + 115)]) hx hb hml hown hE hl.1 hh (kc_X10_92 hE.2.1 ⟨Nat.le_of_ble_eq_true rfl, Nat.le_of_ble_eq_true rfl⟩) (c_X10_outside l Γ b M mem (v := t) (n := 12)) rfl rfl (Nat.le_of_ble_eq_true rfl) dX10_count_15 rfl rfl (fun H locs hh => ?_)
    refine nn_beq (tgt := 25) hx hb dX10_count_18 (by decide) (fun h7 => ?_) (fun h7 => ?_)
    ·
      exact absurd hdt (by rw [g1, nf_ff h7]; decide)
    ·
      refine lv_iconst (v := (nI 1)) hx hb dX10_count_21 (by decide) ?_
      refine lv_goto (tgt := 47) hx hb dX10_count_22 (by decide) ?_
      refine gp_X10_code (fs' := [.int (nI 1), .int (nI nd), .ref (b + 116), .ref (b + 117), .ref (b + 118), .ref (b + 119), .int (nI cz), .ref (b + 120), .int (nI wz), .int (nI iz), .int (nI vz), .ref (b + 121), .ref (b + 122), .ref (b + 123), .ref (b + 124), .ref (b + 125), .ref (b + 126), .ref (b + 127), .ref (b + 128), .ref (b + 129), .int (nI md), .ref (b + 130), .ref (b + 131), .int (nI wh), .ref (b + 132), .ref (b + 133), .int (nI sd), .int (nI sk), .int (nI ps), .int (nI fc), .ref (b + 134), .ref (b + 135)]) hx hb hE hown hh (by omega) fM rfl rfl (show 0 < 32 by decide) rfl dX10_count_47 (fun H locs mem8 f9 k10 hh => ?_)
      have hfr11 : ∀ j, j ≠ 115 → mem8 j = mem j := fun j c0 => (k10 j (by omega)).trans (hfr j c0)
      refine lv_aload_n hx hb dX10_count_50 rfl (lv_at hl 0 rfl) ?_
      refine gf_X10_code hx hb hE hown hh (by omega) f9 rfl dX10_count_51 ?_
      refine nn_if_le (tgt := 59) hx hb dX10_count_54 (by decide) (by omega) (fun h12 => ?_) (fun h12 => ?_)
      ·
        exact absurd h12 (by decide)
      ·
        refine lv_iconst (v := (nI 0)) hx hb dX10_count_57 (by decide) ?_
        exact mm_iret hx hb hr hlocks hE hh (rfl) (⟨f9, hfr11⟩) dX10_count_58
set_option maxHeartbeats 4000000 in
set_option maxRecDepth 100000 in
/-- reference: count, 2 -/
theorem m_count_2 (l : Launch) (Γ : Gm) (b M : Nat) (mem : Nat → va_E) {cd nd cz wz iz vz md wh sd sk ps fc : Nat} {d t : Nat} {cn : Nat → Nat → Nat}  (hM : 138 ≤ M) (fM : mem 115 = .inr (9, [.int (nI cd), .int (nI nd), .ref (b + 116), .ref (b + 117), .ref (b + 118), .ref (b + 119), .int (nI cz), .ref (b + 120), .int (nI wz), .int (nI iz), .int (nI vz), .ref (b + 121), .ref (b + 122), .ref (b + 123), .ref (b + 124), .ref (b + 125), .ref (b + 126), .ref (b + 127), .ref (b + 128), .ref (b + 129), .int (nI md), .ref (b + 130), .ref (b + 131), .int (nI wh), .ref (b + 132), .ref (b + 133), .int (nI sd), .int (nI sk), .int (nI ps), .int (nI fc), .ref (b + 134), .ref (b + 135)])) (g116 : mem 116 = aN Γ 192 (fl12 cn)) (hnd : nd ≤ 16) (hd : d < nd) (ht : t < 12) (hc : fl12 cn (12 * d + t) = 1000) : Ct l yX10_count (.code yX10_count cX10_count 3 (some .int)) ({ frames := 1, cells := 0, slots := 0, locals := 21 } : Room) Γ b M [.ref (b + 115), .int (nI d), .int (nI t)] mem (fun u => u 115 = .inr (9, [.int (nI 2), .int (nI nd), .ref (b + 116), .ref (b + 117), .ref (b + 118), .ref (b + 119), .int (nI cz), .ref (b + 120), .int (nI wz), .int (nI iz), .int (nI vz), .ref (b + 121), .ref (b + 122), .ref (b + 123), .ref (b + 124), .ref (b + 125), .ref (b + 126), .ref (b + 127), .ref (b + 128), .ref (b + 129), .int (nI md), .ref (b + 130), .ref (b + 131), .int (nI wh), .ref (b + 132), .ref (b + 133), .int (nI sd), .int (nI sk), .int (nI ps), .int (nI fc), .ref (b + 134), .ref (b + 135)]) ∧ ∀ j, j ≠ 115 → u j = mem j) (some (.int (nI 0))) := by
  refine mm_enter (cc := cX10_count) (by decide) (Nat.le_of_ble_eq_true rfl) ?_
  intro p e s m args below meth c ls hx hb hml hown hr hlocks hname hE hh hl
  have hl : lv_has ls 3 [(0, .ref (b + 115)), (1, .int (nI d)), (2, .int (nI t))] := hl
  have hfr : ∀ j, j ≠ 115 → mem j = mem j := fun j _ => rfl
  refine lv_aload_n hx hb dX10_count_0 rfl (lv_at hl 0 rfl) ?_
  refine lv_iload_n hx hb dX10_count_1 rfl (lv_at hl 1 rfl) ?_
  refine lv_aload_n hx hb dX10_count_2 rfl (lv_at hl 0 rfl) ?_
  refine gf_X10_documents hx hb hE hown hh (by omega) fM rfl dX10_count_3 ?_
  refine mm_S0r (As := [.int (nI d), .int (nI nd)]) (rest := [.ref (b + 115)]) hx hb hml hown hE hl.1 hh (kc_X10_92 hE.2.1 ⟨Nat.le_of_ble_eq_true rfl, Nat.le_of_ble_eq_true rfl⟩) (c_X10_outside l Γ b M mem (v := (nI d)) (n := nd)) rfl rfl (Nat.le_of_ble_eq_true rfl) dX10_count_6 rfl rfl (fun H locs hh => ?_)
  refine nn_bne (tgt := 21) hx hb dX10_count_9 (by decide) (fun h1 => ?_) (fun h1 => ?_)
  ·
    exact (nt_tf h1 (inR_y hd (by omega))).elim
  ·
    refine lv_iload_n hx hb dX10_count_12 rfl (lv_at hl 2 rfl) ?_
    refine lv_bipush (v := (nI 12)) hx hb dX10_count_13 (by decide) ?_
    refine mm_S0r (As := [.int (nI t), .int (nI 12)]) (rest := [.ref (b + 115)]) hx hb hml hown hE hl.1 hh (kc_X10_92 hE.2.1 ⟨Nat.le_of_ble_eq_true rfl, Nat.le_of_ble_eq_true rfl⟩) (c_X10_outside l Γ b M mem (v := (nI t)) (n := 12)) rfl rfl (Nat.le_of_ble_eq_true rfl) dX10_count_15 rfl rfl (fun H locs hh => ?_)
    refine nn_beq (tgt := 25) hx hb dX10_count_18 (by decide) (fun h2 => ?_) (fun h2 => ?_)
    ·
      refine lv_aload_n hx hb dX10_count_25 rfl (lv_at hl 0 rfl) ?_
      refine gf_X10_counts hx hb hE hown hh (by omega) fM rfl dX10_count_26 ?_
      refine lv_bipush (v := (nI 12)) hx hb dX10_count_29 (by decide) ?_
      refine lv_iload_n hx hb dX10_count_31 rfl (lv_at hl 1 rfl) ?_
      refine nn_imul hx hb dX10_count_32 ?_
      refine lv_iload_n hx hb dX10_count_33 rfl (lv_at hl 2 rfl) ?_
      refine nn_iadd hx hb dX10_count_34 ?_
      refine mm_iald hx hb hE hh (by omega) g116 (by omega) (by decide) dX10_count_35 ?_
      refine lv_sipush (v := (nI 1000)) hx hb dX10_count_36 (by decide) ?_
      refine nn_icmp_ne (tgt := 46) hx hb dX10_count_39 (by decide) (by omega) (by omega) (fun h3 => ?_) (fun h3 => ?_)
      ·
        exact absurd hc h3
      ·
        refine lv_iconst (v := (nI 2)) hx hb dX10_count_42 (by decide) ?_
        refine lv_goto (tgt := 47) hx hb dX10_count_43 (by decide) ?_
        refine gp_X10_code (fs' := [.int (nI 2), .int (nI nd), .ref (b + 116), .ref (b + 117), .ref (b + 118), .ref (b + 119), .int (nI cz), .ref (b + 120), .int (nI wz), .int (nI iz), .int (nI vz), .ref (b + 121), .ref (b + 122), .ref (b + 123), .ref (b + 124), .ref (b + 125), .ref (b + 126), .ref (b + 127), .ref (b + 128), .ref (b + 129), .int (nI md), .ref (b + 130), .ref (b + 131), .int (nI wh), .ref (b + 132), .ref (b + 133), .int (nI sd), .int (nI sk), .int (nI ps), .int (nI fc), .ref (b + 134), .ref (b + 135)]) hx hb hE hown hh (by omega) fM rfl rfl (show 0 < 32 by decide) rfl dX10_count_47 (fun H locs mem4 f5 k6 hh => ?_)
        have hfr7 : ∀ j, j ≠ 115 → mem4 j = mem j := fun j c0 => (k6 j (by omega)).trans (hfr j c0)
        have f8 : mem4 116 = aN Γ 192 (fl12 cn) := (k6 _ (by omega)).trans g116
        refine lv_aload_n hx hb dX10_count_50 rfl (lv_at hl 0 rfl) ?_
        refine gf_X10_code hx hb hE hown hh (by omega) f5 rfl dX10_count_51 ?_
        refine nn_if_le (tgt := 59) hx hb dX10_count_54 (by decide) (by omega) (fun h9 => ?_) (fun h9 => ?_)
        ·
          exact absurd h9 (by decide)
        ·
          refine lv_iconst (v := (nI 0)) hx hb dX10_count_57 (by decide) ?_
          exact mm_iret hx hb hr hlocks hE hh (rfl) (⟨f5, hfr7⟩) dX10_count_58
    ·
      exact (nt_tf h2 (inR_y ht (by decide))).elim
set_option maxHeartbeats 4000000 in
set_option maxRecDepth 100000 in
/-- reference: weigh -/
theorem m_weigh (l : Launch) (Γ : Gm) (b M : Nat) (mem : Nat → va_E) {cd nd cz wz iz vz md wh sd sk ps fc : Nat} {mh : Nat → Bool} {d t : Nat} {x : UInt32} {wt : Nat → Nat → UInt32}  (hM : 138 ≤ M) (fM : mem 115 = .inr (9, [.int (nI cd), .int (nI nd), .ref (b + 116), .ref (b + 117), .ref (b + 118), .ref (b + 119), .int (nI cz), .ref (b + 120), .int (nI wz), .int (nI iz), .int (nI vz), .ref (b + 121), .ref (b + 122), .ref (b + 123), .ref (b + 124), .ref (b + 125), .ref (b + 126), .ref (b + 127), .ref (b + 128), .ref (b + 129), .int (nI md), .ref (b + 130), .ref (b + 131), .int (nI wh), .ref (b + 132), .ref (b + 133), .int (nI sd), .int (nI sk), .int (nI ps), .int (nI fc), .ref (b + 134), .ref (b + 135)])) (g125 : mem 125 = aB Γ 3 mh) (g117 : mem 117 = aF Γ 192 (fl12 wt)) (hnd : nd ≤ 16) (hd : d < nd) (ht : t < 12) (hx1 : okF x = true) (hx2 : rge (FP.fcmp x FP.fconst0)) : Ct l yX10_weigh (.code yX10_weigh cX10_weigh 4 none) ({ frames := 2, cells := 0, slots := 0, locals := 42 } : Room) Γ b M [.ref (b + 115), .int (nI d), .int (nI t), .float x] mem (fun u => u 115 = .inr (9, [.int (nI 0), .int (nI nd), .ref (b + 116), .ref (b + 117), .ref (b + 118), .ref (b + 119), .int (nI cz), .ref (b + 120), .int (nI wz), .int (nI iz), .int (nI vz), .ref (b + 121), .ref (b + 122), .ref (b + 123), .ref (b + 124), .ref (b + 125), .ref (b + 126), .ref (b + 127), .ref (b + 128), .ref (b + 129), .int (nI md), .ref (b + 130), .ref (b + 131), .int (nI wh), .ref (b + 132), .ref (b + 133), .int (nI sd), .int (nI sk), .int (nI ps), .int (nI 0), .ref (b + 134), .ref (b + 135)]) ∧ u 117 = aF Γ 192 (fl12 (va_up wt d (va_up (wt d) t x))) ∧ u 125 = aB Γ 3 (zrR mh 3) ∧ ∀ j, j ≠ 115 → j ≠ 117 → j ≠ 125 → u j = mem j) none := by
  refine mm_enter (cc := cX10_weigh) (by decide) (Nat.le_of_ble_eq_true rfl) ?_
  intro p e s m args below meth c ls hx hb hml hown hr hlocks hname hE hh hl
  have hl : lv_has ls 4 [(0, .ref (b + 115)), (1, .int (nI d)), (2, .int (nI t)), (3, .float x)] := hl
  have hfr : ∀ j, j ≠ 115 → j ≠ 117 → j ≠ 125 → mem j = mem j := fun j _ _ _ => rfl
  refine lv_aload_n hx hb dX10_weigh_0 rfl (lv_at hl 0 rfl) ?_
  refine lv_iload_n hx hb dX10_weigh_1 rfl (lv_at hl 1 rfl) ?_
  refine lv_aload_n hx hb dX10_weigh_2 rfl (lv_at hl 0 rfl) ?_
  refine gf_X10_documents hx hb hE hown hh (by omega) fM rfl dX10_weigh_3 ?_
  refine mm_S0r (As := [.int (nI d), .int (nI nd)]) (rest := [.ref (b + 115)]) hx hb hml hown hE hl.1 hh (kc_X10_92 hE.2.1 ⟨Nat.le_of_ble_eq_true rfl, Nat.le_of_ble_eq_true rfl⟩) (c_X10_outside l Γ b M mem (v := (nI d)) (n := nd)) rfl rfl (Nat.le_of_ble_eq_true rfl) dX10_weigh_6 rfl rfl (fun H locs hh => ?_)
  refine nn_bne (tgt := 21) hx hb dX10_weigh_9 (by decide) (fun h1 => ?_) (fun h1 => ?_)
  ·
    exact (nt_tf h1 (inR_y hd (by omega))).elim
  ·
    refine lv_iload_n hx hb dX10_weigh_12 rfl (lv_at hl 2 rfl) ?_
    refine lv_bipush (v := (nI 12)) hx hb dX10_weigh_13 (by decide) ?_
    refine mm_S0r (As := [.int (nI t), .int (nI 12)]) (rest := [.ref (b + 115)]) hx hb hml hown hE hl.1 hh (kc_X10_92 hE.2.1 ⟨Nat.le_of_ble_eq_true rfl, Nat.le_of_ble_eq_true rfl⟩) (c_X10_outside l Γ b M mem (v := (nI t)) (n := 12)) rfl rfl (Nat.le_of_ble_eq_true rfl) dX10_weigh_15 rfl rfl (fun H locs hh => ?_)
    refine nn_beq (tgt := 25) hx hb dX10_weigh_18 (by decide) (fun h2 => ?_) (fun h2 => ?_)
    ·
      refine lv_fload_n hx hb dX10_weigh_25 rfl (lv_at hl 3 rfl) ?_
      refine mm_S0r (As := [.float x]) (rest := [.ref (b + 115)]) hx hb hml hown hE hl.1 hh (kc_X10_96 hE.2.1 ⟨Nat.le_of_ble_eq_true rfl, Nat.le_of_ble_eq_true rfl⟩) (c_X10_isGood l Γ b M mem (x := x)) rfl rfl (Nat.le_of_ble_eq_true rfl) dX10_weigh_26 rfl rfl (fun H locs hh => ?_)
      refine nn_beq (tgt := 42) hx hb dX10_weigh_29 (by decide) (fun h3 => ?_) (fun h3 => ?_)
      ·
        exact (no_tf hx1 h3).elim
      ·
        refine lv_fload_n hx hb dX10_weigh_32 rfl (lv_at hl 3 rfl) ?_
        refine lv_fconst0 hx hb dX10_weigh_33 ?_
        refine lv_fcmp hx hb dX10_weigh_34 ?_
        refine nn_cl_lt (tgt := 42) hx hb dX10_weigh_35 (by decide) (fun h4 => ?_) (fun h4 => ?_)
        ·
          exact absurd hx2 h4
        ·
          refine lv_iconst (v := (nI 0)) hx hb dX10_weigh_38 (by decide) ?_
          refine lv_goto (tgt := 43) hx hb dX10_weigh_39 (by decide) ?_
          refine gp_X10_code (fs' := [.int (nI 0), .int (nI nd), .ref (b + 116), .ref (b + 117), .ref (b + 118), .ref (b + 119), .int (nI cz), .ref (b + 120), .int (nI wz), .int (nI iz), .int (nI vz), .ref (b + 121), .ref (b + 122), .ref (b + 123), .ref (b + 124), .ref (b + 125), .ref (b + 126), .ref (b + 127), .ref (b + 128), .ref (b + 129), .int (nI md), .ref (b + 130), .ref (b + 131), .int (nI wh), .ref (b + 132), .ref (b + 133), .int (nI sd), .int (nI sk), .int (nI ps), .int (nI fc), .ref (b + 134), .ref (b + 135)]) hx hb hE hown hh (by omega) fM rfl rfl (show 0 < 32 by decide) rfl dX10_weigh_43 (fun H locs mem5 f6 k7 hh => ?_)
          have hfr8 : ∀ j, j ≠ 115 → j ≠ 117 → j ≠ 125 → mem5 j = mem j := fun j c0 c1 c2 => (k7 j (by omega)).trans (hfr j c0 c1 c2)
          have f9 : mem5 125 = aB Γ 3 mh := (k7 _ (by omega)).trans g125
          have f10 : mem5 117 = aF Γ 192 (fl12 wt) := (k7 _ (by omega)).trans g117
          refine lv_aload_n hx hb dX10_weigh_46 rfl (lv_at hl 0 rfl) ?_
          refine gf_X10_code hx hb hE hown hh (by omega) f6 rfl dX10_weigh_47 ?_
          refine nn_if_le (tgt := 54) hx hb dX10_weigh_50 (by decide) (by omega) (fun h11 => ?_) (fun h11 => ?_)
          ·
            refine lv_aload_n hx hb dX10_weigh_54 rfl (lv_at hl 0 rfl) ?_
            refine gf_X10_weights hx hb hE hown hh (by omega) f6 rfl dX10_weigh_55 ?_
            refine lv_bipush (v := (nI 12)) hx hb dX10_weigh_58 (by decide) ?_
            refine lv_iload_n hx hb dX10_weigh_60 rfl (lv_at hl 1 rfl) ?_
            refine nn_imul hx hb dX10_weigh_61 ?_
            refine lv_iload_n hx hb dX10_weigh_62 rfl (lv_at hl 2 rfl) ?_
            refine nn_iadd hx hb dX10_weigh_63 ?_
            refine lv_fload_n hx hb dX10_weigh_64 rfl (lv_at hl 3 rfl) ?_
            refine mm_fast hx hb hE hh (by omega) f10 (by omega) (by decide) dX10_weigh_65 (fun H locs mem12 f13 k14 hh => ?_)
            have hfr15 : ∀ j, j ≠ 115 → j ≠ 117 → j ≠ 125 → mem12 j = mem j := fun j c0 c1 c2 => (k14 j (by omega)).trans (hfr8 j c0 c1 c2)
            have f16 : mem12 115 = .inr (9, [.int (nI 0), .int (nI nd), .ref (b + 116), .ref (b + 117), .ref (b + 118), .ref (b + 119), .int (nI cz), .ref (b + 120), .int (nI wz), .int (nI iz), .int (nI vz), .ref (b + 121), .ref (b + 122), .ref (b + 123), .ref (b + 124), .ref (b + 125), .ref (b + 126), .ref (b + 127), .ref (b + 128), .ref (b + 129), .int (nI md), .ref (b + 130), .ref (b + 131), .int (nI wh), .ref (b + 132), .ref (b + 133), .int (nI sd), .int (nI sk), .int (nI ps), .int (nI fc), .ref (b + 134), .ref (b + 135)]) := (k14 _ (by omega)).trans f6
            have f17 : mem12 125 = aB Γ 3 mh := (k14 _ (by omega)).trans f9
            refine lv_aload_n hx hb dX10_weigh_66 rfl (lv_at hl 0 rfl) ?_
            refine mm_V0 (As := []) (rest := []) hx hb hml hown hE hl.1 hh (kc_X10_89 hE.2.1 ⟨Nat.le_of_ble_eq_true rfl, Nat.le_of_ble_eq_true rfl⟩) (c_X10_loseAll l Γ b M mem12 (cd := 0) (nd := nd) (cz := cz) (wz := wz) (iz := iz) (vz := vz) (md := md) (wh := wh) (sd := sd) (sk := sk) (ps := ps) (fc := fc) (mh := mh) (by omega) f16 f17) rfl (by omega) f16 rfl rfl (Nat.le_of_ble_eq_true rfl) dX10_weigh_67 rfl rfl (fun H locs mem18 hP19 hh => ?_)
            obtain ⟨f20, f21, k22⟩ := hP19
            have hfr23 : ∀ j, j ≠ 115 → j ≠ 117 → j ≠ 125 → mem18 j = mem j := fun j c0 c1 c2 => (k22 j (by omega) (by omega)).trans (hfr15 j c0 c1 c2)
            have f24 : mem18 117 = aF Γ 192 (va_up (fl12 wt) ((12 * d) + t) x) := (k22 _ (by omega) (by omega)).trans f13
            exact mm_vret hx hb hr hlocks hE hh (⟨f20, by rw [← fl12_up wt _ ht]; exact f24, f21, hfr23⟩) dX10_weigh_70
          ·
            exact absurd h11 (by decide)
    ·
      exact (nt_tf h2 (inR_y ht (by decide))).elim
set_option maxHeartbeats 4000000 in
set_option maxRecDepth 100000 in
/-- reference: weigh, 1 -/
theorem m_weigh_1 (l : Launch) (Γ : Gm) (b M : Nat) (mem : Nat → va_E) {cd nd cz wz iz vz md wh sd sk ps fc : Nat} {d t : Int32} {x : UInt32} (hM : 138 ≤ M) (fM : mem 115 = .inr (9, [.int (nI cd), .int (nI nd), .ref (b + 116), .ref (b + 117), .ref (b + 118), .ref (b + 119), .int (nI cz), .ref (b + 120), .int (nI wz), .int (nI iz), .int (nI vz), .ref (b + 121), .ref (b + 122), .ref (b + 123), .ref (b + 124), .ref (b + 125), .ref (b + 126), .ref (b + 127), .ref (b + 128), .ref (b + 129), .int (nI md), .ref (b + 130), .ref (b + 131), .int (nI wh), .ref (b + 132), .ref (b + 133), .int (nI sd), .int (nI sk), .int (nI ps), .int (nI fc), .ref (b + 134), .ref (b + 135)])) (hdt : (inR d nd && inR t 12) = false) : Ct l yX10_weigh (.code yX10_weigh cX10_weigh 4 none) ({ frames := 1, cells := 0, slots := 0, locals := 21 } : Room) Γ b M [.ref (b + 115), .int d, .int t, .float x] mem (fun u => u 115 = .inr (9, [.int (nI 1), .int (nI nd), .ref (b + 116), .ref (b + 117), .ref (b + 118), .ref (b + 119), .int (nI cz), .ref (b + 120), .int (nI wz), .int (nI iz), .int (nI vz), .ref (b + 121), .ref (b + 122), .ref (b + 123), .ref (b + 124), .ref (b + 125), .ref (b + 126), .ref (b + 127), .ref (b + 128), .ref (b + 129), .int (nI md), .ref (b + 130), .ref (b + 131), .int (nI wh), .ref (b + 132), .ref (b + 133), .int (nI sd), .int (nI sk), .int (nI ps), .int (nI fc), .ref (b + 134), .ref (b + 135)]) ∧ ∀ j, j ≠ 115 → u j = mem j) none := by
  refine mm_enter (cc := cX10_weigh) (by decide) (Nat.le_of_ble_eq_true rfl) ?_
  intro p e s m args below meth c ls hx hb hml hown hr hlocks hname hE hh hl
  have hl : lv_has ls 4 [(0, .ref (b + 115)), (1, .int d), (2, .int t), (3, .float x)] := hl
  have hfr : ∀ j, j ≠ 115 → mem j = mem j := fun j _ => rfl
  refine lv_aload_n hx hb dX10_weigh_0 rfl (lv_at hl 0 rfl) ?_
  refine lv_iload_n hx hb dX10_weigh_1 rfl (lv_at hl 1 rfl) ?_
  refine lv_aload_n hx hb dX10_weigh_2 rfl (lv_at hl 0 rfl) ?_
  refine gf_X10_documents hx hb hE hown hh (by omega) fM rfl dX10_weigh_3 ?_
  refine mm_S0r (As := [.int d, .int (nI nd)]) (rest := [.ref (b + 115)]) hx hb hml hown hE hl.1 hh (kc_X10_92 hE.2.1 ⟨Nat.le_of_ble_eq_true rfl, Nat.le_of_ble_eq_true rfl⟩) (c_X10_outside l Γ b M mem (v := d) (n := nd)) rfl rfl (Nat.le_of_ble_eq_true rfl) dX10_weigh_6 rfl rfl (fun H locs hh => ?_)
  refine nn_bne (tgt := 21) hx hb dX10_weigh_9 (by decide) (fun h1 => ?_) (fun h1 => ?_)
  ·
    refine lv_iconst (v := (nI 1)) hx hb dX10_weigh_21 (by decide) ?_
    refine lv_goto (tgt := 43) hx hb dX10_weigh_22 (by decide) ?_
    refine gp_X10_code (fs' := [.int (nI 1), .int (nI nd), .ref (b + 116), .ref (b + 117), .ref (b + 118), .ref (b + 119), .int (nI cz), .ref (b + 120), .int (nI wz), .int (nI iz), .int (nI vz), .ref (b + 121), .ref (b + 122), .ref (b + 123), .ref (b + 124), .ref (b + 125), .ref (b + 126), .ref (b + 127), .ref (b + 128), .ref (b + 129), .int (nI md), .ref (b + 130), .ref (b + 131), .int (nI wh), .ref (b + 132), .ref (b + 133), .int (nI sd), .int (nI sk), .int (nI ps), .int (nI fc), .ref (b + 134), .ref (b + 135)]) hx hb hE hown hh (by omega) fM rfl rfl (show 0 < 32 by decide) rfl dX10_weigh_43 (fun H locs mem2 f3 k4 hh => ?_)
    have hfr5 : ∀ j, j ≠ 115 → mem2 j = mem j := fun j c0 => (k4 j (by omega)).trans (hfr j c0)
    refine lv_aload_n hx hb dX10_weigh_46 rfl (lv_at hl 0 rfl) ?_
    refine gf_X10_code hx hb hE hown hh (by omega) f3 rfl dX10_weigh_47 ?_
    refine nn_if_le (tgt := 54) hx hb dX10_weigh_50 (by decide) (by omega) (fun h6 => ?_) (fun h6 => ?_)
    ·
      exact absurd h6 (by decide)
    ·
      exact mm_vret hx hb hr hlocks hE hh (⟨f3, hfr5⟩) dX10_weigh_53
  ·
    have g1 := nf_ff h1
    refine lv_iload_n hx hb dX10_weigh_12 rfl (lv_at hl 2 rfl) ?_
    refine lv_bipush (v := (nI 12)) hx hb dX10_weigh_13 (by decide) ?_
    refine mm_S0r (As := [.int t, .int (nI 12)]) (rest := [.ref (b + 115)]) hx hb hml hown hE hl.1 hh (kc_X10_92 hE.2.1 ⟨Nat.le_of_ble_eq_true rfl, Nat.le_of_ble_eq_true rfl⟩) (c_X10_outside l Γ b M mem (v := t) (n := 12)) rfl rfl (Nat.le_of_ble_eq_true rfl) dX10_weigh_15 rfl rfl (fun H locs hh => ?_)
    refine nn_beq (tgt := 25) hx hb dX10_weigh_18 (by decide) (fun h7 => ?_) (fun h7 => ?_)
    ·
      exact absurd hdt (by rw [g1, nf_ff h7]; decide)
    ·
      refine lv_iconst (v := (nI 1)) hx hb dX10_weigh_21 (by decide) ?_
      refine lv_goto (tgt := 43) hx hb dX10_weigh_22 (by decide) ?_
      refine gp_X10_code (fs' := [.int (nI 1), .int (nI nd), .ref (b + 116), .ref (b + 117), .ref (b + 118), .ref (b + 119), .int (nI cz), .ref (b + 120), .int (nI wz), .int (nI iz), .int (nI vz), .ref (b + 121), .ref (b + 122), .ref (b + 123), .ref (b + 124), .ref (b + 125), .ref (b + 126), .ref (b + 127), .ref (b + 128), .ref (b + 129), .int (nI md), .ref (b + 130), .ref (b + 131), .int (nI wh), .ref (b + 132), .ref (b + 133), .int (nI sd), .int (nI sk), .int (nI ps), .int (nI fc), .ref (b + 134), .ref (b + 135)]) hx hb hE hown hh (by omega) fM rfl rfl (show 0 < 32 by decide) rfl dX10_weigh_43 (fun H locs mem8 f9 k10 hh => ?_)
      have hfr11 : ∀ j, j ≠ 115 → mem8 j = mem j := fun j c0 => (k10 j (by omega)).trans (hfr j c0)
      refine lv_aload_n hx hb dX10_weigh_46 rfl (lv_at hl 0 rfl) ?_
      refine gf_X10_code hx hb hE hown hh (by omega) f9 rfl dX10_weigh_47 ?_
      refine nn_if_le (tgt := 54) hx hb dX10_weigh_50 (by decide) (by omega) (fun h12 => ?_) (fun h12 => ?_)
      ·
        exact absurd h12 (by decide)
      ·
        exact mm_vret hx hb hr hlocks hE hh (⟨f9, hfr11⟩) dX10_weigh_53
set_option maxHeartbeats 4000000 in
set_option maxRecDepth 100000 in
/-- reference: weigh, 2 -/
theorem m_weigh_2 (l : Launch) (Γ : Gm) (b M : Nat) (mem : Nat → va_E) {cd nd cz wz iz vz md wh sd sk ps fc : Nat} {d t : Nat} {x : UInt32} (hM : 138 ≤ M) (fM : mem 115 = .inr (9, [.int (nI cd), .int (nI nd), .ref (b + 116), .ref (b + 117), .ref (b + 118), .ref (b + 119), .int (nI cz), .ref (b + 120), .int (nI wz), .int (nI iz), .int (nI vz), .ref (b + 121), .ref (b + 122), .ref (b + 123), .ref (b + 124), .ref (b + 125), .ref (b + 126), .ref (b + 127), .ref (b + 128), .ref (b + 129), .int (nI md), .ref (b + 130), .ref (b + 131), .int (nI wh), .ref (b + 132), .ref (b + 133), .int (nI sd), .int (nI sk), .int (nI ps), .int (nI fc), .ref (b + 134), .ref (b + 135)])) (hnd : nd ≤ 16) (hd : d < nd) (ht : t < 12) (hx2 : okF x = true → ¬ rge (FP.fcmp x FP.fconst0)) : Ct l yX10_weigh (.code yX10_weigh cX10_weigh 4 none) ({ frames := 1, cells := 0, slots := 0, locals := 21 } : Room) Γ b M [.ref (b + 115), .int (nI d), .int (nI t), .float x] mem (fun u => u 115 = .inr (9, [.int (nI 2), .int (nI nd), .ref (b + 116), .ref (b + 117), .ref (b + 118), .ref (b + 119), .int (nI cz), .ref (b + 120), .int (nI wz), .int (nI iz), .int (nI vz), .ref (b + 121), .ref (b + 122), .ref (b + 123), .ref (b + 124), .ref (b + 125), .ref (b + 126), .ref (b + 127), .ref (b + 128), .ref (b + 129), .int (nI md), .ref (b + 130), .ref (b + 131), .int (nI wh), .ref (b + 132), .ref (b + 133), .int (nI sd), .int (nI sk), .int (nI ps), .int (nI fc), .ref (b + 134), .ref (b + 135)]) ∧ ∀ j, j ≠ 115 → u j = mem j) none := by
  refine mm_enter (cc := cX10_weigh) (by decide) (Nat.le_of_ble_eq_true rfl) ?_
  intro p e s m args below meth c ls hx hb hml hown hr hlocks hname hE hh hl
  have hl : lv_has ls 4 [(0, .ref (b + 115)), (1, .int (nI d)), (2, .int (nI t)), (3, .float x)] := hl
  have hfr : ∀ j, j ≠ 115 → mem j = mem j := fun j _ => rfl
  refine lv_aload_n hx hb dX10_weigh_0 rfl (lv_at hl 0 rfl) ?_
  refine lv_iload_n hx hb dX10_weigh_1 rfl (lv_at hl 1 rfl) ?_
  refine lv_aload_n hx hb dX10_weigh_2 rfl (lv_at hl 0 rfl) ?_
  refine gf_X10_documents hx hb hE hown hh (by omega) fM rfl dX10_weigh_3 ?_
  refine mm_S0r (As := [.int (nI d), .int (nI nd)]) (rest := [.ref (b + 115)]) hx hb hml hown hE hl.1 hh (kc_X10_92 hE.2.1 ⟨Nat.le_of_ble_eq_true rfl, Nat.le_of_ble_eq_true rfl⟩) (c_X10_outside l Γ b M mem (v := (nI d)) (n := nd)) rfl rfl (Nat.le_of_ble_eq_true rfl) dX10_weigh_6 rfl rfl (fun H locs hh => ?_)
  refine nn_bne (tgt := 21) hx hb dX10_weigh_9 (by decide) (fun h1 => ?_) (fun h1 => ?_)
  ·
    exact (nt_tf h1 (inR_y hd (by omega))).elim
  ·
    refine lv_iload_n hx hb dX10_weigh_12 rfl (lv_at hl 2 rfl) ?_
    refine lv_bipush (v := (nI 12)) hx hb dX10_weigh_13 (by decide) ?_
    refine mm_S0r (As := [.int (nI t), .int (nI 12)]) (rest := [.ref (b + 115)]) hx hb hml hown hE hl.1 hh (kc_X10_92 hE.2.1 ⟨Nat.le_of_ble_eq_true rfl, Nat.le_of_ble_eq_true rfl⟩) (c_X10_outside l Γ b M mem (v := (nI t)) (n := 12)) rfl rfl (Nat.le_of_ble_eq_true rfl) dX10_weigh_15 rfl rfl (fun H locs hh => ?_)
    refine nn_beq (tgt := 25) hx hb dX10_weigh_18 (by decide) (fun h2 => ?_) (fun h2 => ?_)
    ·
      refine lv_fload_n hx hb dX10_weigh_25 rfl (lv_at hl 3 rfl) ?_
      refine mm_S0r (As := [.float x]) (rest := [.ref (b + 115)]) hx hb hml hown hE hl.1 hh (kc_X10_96 hE.2.1 ⟨Nat.le_of_ble_eq_true rfl, Nat.le_of_ble_eq_true rfl⟩) (c_X10_isGood l Γ b M mem (x := x)) rfl rfl (Nat.le_of_ble_eq_true rfl) dX10_weigh_26 rfl rfl (fun H locs hh => ?_)
      refine nn_beq (tgt := 42) hx hb dX10_weigh_29 (by decide) (fun h3 => ?_) (fun h3 => ?_)
      ·
        refine lv_iconst (v := (nI 2)) hx hb dX10_weigh_42 (by decide) ?_
        refine gp_X10_code (fs' := [.int (nI 2), .int (nI nd), .ref (b + 116), .ref (b + 117), .ref (b + 118), .ref (b + 119), .int (nI cz), .ref (b + 120), .int (nI wz), .int (nI iz), .int (nI vz), .ref (b + 121), .ref (b + 122), .ref (b + 123), .ref (b + 124), .ref (b + 125), .ref (b + 126), .ref (b + 127), .ref (b + 128), .ref (b + 129), .int (nI md), .ref (b + 130), .ref (b + 131), .int (nI wh), .ref (b + 132), .ref (b + 133), .int (nI sd), .int (nI sk), .int (nI ps), .int (nI fc), .ref (b + 134), .ref (b + 135)]) hx hb hE hown hh (by omega) fM rfl rfl (show 0 < 32 by decide) rfl dX10_weigh_43 (fun H locs mem4 f5 k6 hh => ?_)
        have hfr7 : ∀ j, j ≠ 115 → mem4 j = mem j := fun j c0 => (k6 j (by omega)).trans (hfr j c0)
        refine lv_aload_n hx hb dX10_weigh_46 rfl (lv_at hl 0 rfl) ?_
        refine gf_X10_code hx hb hE hown hh (by omega) f5 rfl dX10_weigh_47 ?_
        refine nn_if_le (tgt := 54) hx hb dX10_weigh_50 (by decide) (by omega) (fun h8 => ?_) (fun h8 => ?_)
        ·
          exact absurd h8 (by decide)
        ·
          exact mm_vret hx hb hr hlocks hE hh (⟨f5, hfr7⟩) dX10_weigh_53
      ·
        have g1 := hx2 h3
        refine lv_fload_n hx hb dX10_weigh_32 rfl (lv_at hl 3 rfl) ?_
        refine lv_fconst0 hx hb dX10_weigh_33 ?_
        refine lv_fcmp hx hb dX10_weigh_34 ?_
        refine nn_cl_lt (tgt := 42) hx hb dX10_weigh_35 (by decide) (fun h9 => ?_) (fun h9 => ?_)
        ·
          refine lv_iconst (v := (nI 2)) hx hb dX10_weigh_42 (by decide) ?_
          refine gp_X10_code (fs' := [.int (nI 2), .int (nI nd), .ref (b + 116), .ref (b + 117), .ref (b + 118), .ref (b + 119), .int (nI cz), .ref (b + 120), .int (nI wz), .int (nI iz), .int (nI vz), .ref (b + 121), .ref (b + 122), .ref (b + 123), .ref (b + 124), .ref (b + 125), .ref (b + 126), .ref (b + 127), .ref (b + 128), .ref (b + 129), .int (nI md), .ref (b + 130), .ref (b + 131), .int (nI wh), .ref (b + 132), .ref (b + 133), .int (nI sd), .int (nI sk), .int (nI ps), .int (nI fc), .ref (b + 134), .ref (b + 135)]) hx hb hE hown hh (by omega) fM rfl rfl (show 0 < 32 by decide) rfl dX10_weigh_43 (fun H locs mem10 f11 k12 hh => ?_)
          have hfr13 : ∀ j, j ≠ 115 → mem10 j = mem j := fun j c0 => (k12 j (by omega)).trans (hfr j c0)
          refine lv_aload_n hx hb dX10_weigh_46 rfl (lv_at hl 0 rfl) ?_
          refine gf_X10_code hx hb hE hown hh (by omega) f11 rfl dX10_weigh_47 ?_
          refine nn_if_le (tgt := 54) hx hb dX10_weigh_50 (by decide) (by omega) (fun h14 => ?_) (fun h14 => ?_)
          ·
            exact absurd h14 (by decide)
          ·
            exact mm_vret hx hb hr hlocks hE hh (⟨f11, hfr13⟩) dX10_weigh_53
        ·
          exact absurd g1 h9
    ·
      exact (nt_tf h2 (inR_y ht (by decide))).elim
set_option maxHeartbeats 4000000 in
set_option maxRecDepth 100000 in
/-- reference: put -/
theorem c_X10_put (l : Launch) (Γ : Gm) (b M : Nat) (mem : Nat → va_E) {a L i : Nat} {f : Nat → UInt32} {v0 v1 v2 v3 : UInt32} (hM : a < M) (fa : mem a = aF Γ L f) (hi : i + 4 ≤ L) (hL : L ≤ 256) : Ct l yX10_put (.code yX10_put cX10_put 6 none) ({ frames := 0, cells := 0, slots := 0, locals := 0 } : Room) Γ b M [.ref (b + a), .int (nI i), .float v0, .float v1, .float v2, .float v3] mem (fun u => u a = aF Γ L (up4 f i v0 v1 v2 v3) ∧ ∀ j, j ≠ a → u j = mem j) none := by
  refine mm_enter (cc := cX10_put) (by decide) (Nat.le_of_ble_eq_true rfl) ?_
  intro p e s m args below meth c ls hx hb hml hown hr hlocks hname hE hh hl
  have hl : lv_has ls 6 [(0, .ref (b + a)), (1, .int (nI i)), (2, .float v0), (3, .float v1), (4, .float v2), (5, .float v3)] := hl
  have hfr : ∀ j, j ≠ a → mem j = mem j := fun j _ => rfl
  refine lv_aload_n hx hb dX10_put_0 rfl (lv_at hl 0 rfl) ?_
  refine lv_iload_n hx hb dX10_put_1 rfl (lv_at hl 1 rfl) ?_
  refine lv_fload_n hx hb dX10_put_2 rfl (lv_at hl 2 rfl) ?_
  refine mm_fast hx hb hE hh (by omega) fa (by omega) (by omega) dX10_put_3 (fun H locs mem1 f2 k3 hh => ?_)
  have hfr4 : ∀ j, j ≠ a → mem1 j = mem j := fun j c0 => (k3 j (by omega)).trans (hfr j c0)
  refine lv_aload_n hx hb dX10_put_4 rfl (lv_at hl 0 rfl) ?_
  refine lv_iload_n hx hb dX10_put_5 rfl (lv_at hl 1 rfl) ?_
  refine lv_iconst (v := (nI 1)) hx hb dX10_put_6 (by decide) ?_
  refine nn_iadd hx hb dX10_put_7 ?_
  refine lv_fload_n hx hb dX10_put_8 rfl (lv_at hl 3 rfl) ?_
  refine mm_fast hx hb hE hh (by omega) f2 (by omega) (by omega) dX10_put_9 (fun H locs mem5 f6 k7 hh => ?_)
  have hfr8 : ∀ j, j ≠ a → mem5 j = mem j := fun j c0 => (k7 j (by omega)).trans (hfr4 j c0)
  refine lv_aload_n hx hb dX10_put_10 rfl (lv_at hl 0 rfl) ?_
  refine lv_iload_n hx hb dX10_put_11 rfl (lv_at hl 1 rfl) ?_
  refine lv_iconst (v := (nI 2)) hx hb dX10_put_12 (by decide) ?_
  refine nn_iadd hx hb dX10_put_13 ?_
  refine lv_fload hx hb dX10_put_14 (lv_at hl 4 rfl) ?_
  refine mm_fast hx hb hE hh (by omega) f6 (by omega) (by omega) dX10_put_16 (fun H locs mem9 f10 k11 hh => ?_)
  have hfr12 : ∀ j, j ≠ a → mem9 j = mem j := fun j c0 => (k11 j (by omega)).trans (hfr8 j c0)
  refine lv_aload_n hx hb dX10_put_17 rfl (lv_at hl 0 rfl) ?_
  refine lv_iload_n hx hb dX10_put_18 rfl (lv_at hl 1 rfl) ?_
  refine lv_iconst (v := (nI 3)) hx hb dX10_put_19 (by decide) ?_
  refine nn_iadd hx hb dX10_put_20 ?_
  refine lv_fload hx hb dX10_put_21 (lv_at hl 5 rfl) ?_
  refine mm_fast hx hb hE hh (by omega) f10 (by omega) (by omega) dX10_put_23 (fun H locs mem13 f14 k15 hh => ?_)
  have hfr16 : ∀ j, j ≠ a → mem13 j = mem j := fun j c0 => (k15 j (by omega)).trans (hfr12 j c0)
  exact mm_vret hx hb hr hlocks hE hh (⟨f14, hfr16⟩) dX10_put_24
set_option maxHeartbeats 4000000 in
set_option maxRecDepth 100000 in
/-- reference: centroid -/
theorem m_centroid (l : Launch) (Γ : Gm) (b M : Nat) (mem : Nat → va_E) {cd nd cz wz iz vz md wh sd sk ps fc : Nat} {mh : Nat → Bool} {v0 v1 v2 v3 : UInt32} {cf : Nat → UInt32}  (hM : 138 ≤ M) (fM : mem 115 = .inr (9, [.int (nI cd), .int (nI nd), .ref (b + 116), .ref (b + 117), .ref (b + 118), .ref (b + 119), .int (nI cz), .ref (b + 120), .int (nI wz), .int (nI iz), .int (nI vz), .ref (b + 121), .ref (b + 122), .ref (b + 123), .ref (b + 124), .ref (b + 125), .ref (b + 126), .ref (b + 127), .ref (b + 128), .ref (b + 129), .int (nI md), .ref (b + 130), .ref (b + 131), .int (nI wh), .ref (b + 132), .ref (b + 133), .int (nI sd), .int (nI sk), .int (nI ps), .int (nI fc), .ref (b + 134), .ref (b + 135)])) (g125 : mem 125 = aB Γ 3 mh) (g120 : mem 120 = aF Γ 16 cf) (h4 : (okF v0 && okF v1 && okF v2 && okF v3) = true) (hcz : cz < 4) : Ct l yX10_centroid (.code yX10_centroid cX10_centroid 5 (some .int)) ({ frames := 2, cells := 0, slots := 0, locals := 42 } : Room) Γ b M [.ref (b + 115), .float v0, .float v1, .float v2, .float v3] mem (fun u => u 115 = .inr (9, [.int (nI 0), .int (nI nd), .ref (b + 116), .ref (b + 117), .ref (b + 118), .ref (b + 119), .int (nI (cz + 1)), .ref (b + 120), .int (nI wz), .int (nI iz), .int (nI vz), .ref (b + 121), .ref (b + 122), .ref (b + 123), .ref (b + 124), .ref (b + 125), .ref (b + 126), .ref (b + 127), .ref (b + 128), .ref (b + 129), .int (nI md), .ref (b + 130), .ref (b + 131), .int (nI wh), .ref (b + 132), .ref (b + 133), .int (nI sd), .int (nI sk), .int (nI ps), .int (nI 0), .ref (b + 134), .ref (b + 135)]) ∧ u 120 = aF Γ 16 (up4 cf (4 * cz) v0 v1 v2 v3) ∧ u 125 = aB Γ 3 (zrR mh 3) ∧ ∀ j, j ≠ 115 → j ≠ 120 → j ≠ 125 → u j = mem j) (some (.int (nI cz))) := by
  refine mm_enter (cc := cX10_centroid) (by decide) (Nat.le_of_ble_eq_true rfl) ?_
  intro p e s m args below meth c ls hx hb hml hown hr hlocks hname hE hh hl
  have hl : lv_has ls 5 [(0, .ref (b + 115)), (1, .float v0), (2, .float v1), (3, .float v2), (4, .float v3)] := hl
  have hfr : ∀ j, j ≠ 115 → j ≠ 120 → j ≠ 125 → mem j = mem j := fun j _ _ _ => rfl
  have k4 : okF v0 = true ∧ okF v1 = true ∧ okF v2 = true ∧ okF v3 = true := by simpa [and_assoc] using h4
  refine lv_aload_n hx hb dX10_centroid_0 rfl (lv_at hl 0 rfl) ?_
  refine lv_fload_n hx hb dX10_centroid_1 rfl (lv_at hl 1 rfl) ?_
  refine mm_S0r (As := [.float v0]) (rest := [.ref (b + 115)]) hx hb hml hown hE hl.1 hh (kc_X10_96 hE.2.1 ⟨Nat.le_of_ble_eq_true rfl, Nat.le_of_ble_eq_true rfl⟩) (c_X10_isGood l Γ b M mem (x := v0)) rfl rfl (Nat.le_of_ble_eq_true rfl) dX10_centroid_2 rfl rfl (fun H locs hh => ?_)
  refine nn_beq (tgt := 30) hx hb dX10_centroid_5 (by decide) (fun h1 => ?_) (fun h1 => ?_)
  ·
    exact (no_tf k4.1 h1).elim
  ·
    refine lv_fload_n hx hb dX10_centroid_8 rfl (lv_at hl 2 rfl) ?_
    refine mm_S0r (As := [.float v1]) (rest := [.ref (b + 115)]) hx hb hml hown hE hl.1 hh (kc_X10_96 hE.2.1 ⟨Nat.le_of_ble_eq_true rfl, Nat.le_of_ble_eq_true rfl⟩) (c_X10_isGood l Γ b M mem (x := v1)) rfl rfl (Nat.le_of_ble_eq_true rfl) dX10_centroid_9 rfl rfl (fun H locs hh => ?_)
    refine nn_beq (tgt := 30) hx hb dX10_centroid_12 (by decide) (fun h2 => ?_) (fun h2 => ?_)
    ·
      exact (no_tf k4.2.1 h2).elim
    ·
      refine lv_fload_n hx hb dX10_centroid_15 rfl (lv_at hl 3 rfl) ?_
      refine mm_S0r (As := [.float v2]) (rest := [.ref (b + 115)]) hx hb hml hown hE hl.1 hh (kc_X10_96 hE.2.1 ⟨Nat.le_of_ble_eq_true rfl, Nat.le_of_ble_eq_true rfl⟩) (c_X10_isGood l Γ b M mem (x := v2)) rfl rfl (Nat.le_of_ble_eq_true rfl) dX10_centroid_16 rfl rfl (fun H locs hh => ?_)
      refine nn_beq (tgt := 30) hx hb dX10_centroid_19 (by decide) (fun h3 => ?_) (fun h3 => ?_)
      ·
        exact (no_tf k4.2.2.1 h3).elim
      ·
        refine lv_fload hx hb dX10_centroid_22 (lv_at hl 4 rfl) ?_
        refine mm_S0r (As := [.float v3]) (rest := [.ref (b + 115)]) hx hb hml hown hE hl.1 hh (kc_X10_96 hE.2.1 ⟨Nat.le_of_ble_eq_true rfl, Nat.le_of_ble_eq_true rfl⟩) (c_X10_isGood l Γ b M mem (x := v3)) rfl rfl (Nat.le_of_ble_eq_true rfl) dX10_centroid_24 rfl rfl (fun H locs hh => ?_)
        refine nn_bne (tgt := 34) hx hb dX10_centroid_27 (by decide) (fun h4 => ?_) (fun h4 => ?_)
        ·
          refine lv_aload_n hx hb dX10_centroid_34 rfl (lv_at hl 0 rfl) ?_
          refine gf_X10_centroids hx hb hE hown hh (by omega) fM rfl dX10_centroid_35 ?_
          refine lv_iconst (v := (nI 4)) hx hb dX10_centroid_38 (by decide) ?_
          refine nn_icmp_ne (tgt := 46) hx hb dX10_centroid_39 (by decide) (by omega) (by omega) (fun h5 => ?_) (fun h5 => ?_)
          ·
            refine lv_iconst (v := (nI 0)) hx hb dX10_centroid_46 (by decide) ?_
            refine gp_X10_code (fs' := [.int (nI 0), .int (nI nd), .ref (b + 116), .ref (b + 117), .ref (b + 118), .ref (b + 119), .int (nI cz), .ref (b + 120), .int (nI wz), .int (nI iz), .int (nI vz), .ref (b + 121), .ref (b + 122), .ref (b + 123), .ref (b + 124), .ref (b + 125), .ref (b + 126), .ref (b + 127), .ref (b + 128), .ref (b + 129), .int (nI md), .ref (b + 130), .ref (b + 131), .int (nI wh), .ref (b + 132), .ref (b + 133), .int (nI sd), .int (nI sk), .int (nI ps), .int (nI fc), .ref (b + 134), .ref (b + 135)]) hx hb hE hown hh (by omega) fM rfl rfl (show 0 < 32 by decide) rfl dX10_centroid_47 (fun H locs mem6 f7 k8 hh => ?_)
            have hfr9 : ∀ j, j ≠ 115 → j ≠ 120 → j ≠ 125 → mem6 j = mem j := fun j c0 c1 c2 => (k8 j (by omega)).trans (hfr j c0 c1 c2)
            have f10 : mem6 125 = aB Γ 3 mh := (k8 _ (by omega)).trans g125
            have f11 : mem6 120 = aF Γ 16 cf := (k8 _ (by omega)).trans g120
            refine lv_aload_n hx hb dX10_centroid_50 rfl (lv_at hl 0 rfl) ?_
            refine gf_X10_code hx hb hE hown hh (by omega) f7 rfl dX10_centroid_51 ?_
            refine nn_if_le (tgt := 59) hx hb dX10_centroid_54 (by decide) (by omega) (fun h12 => ?_) (fun h12 => ?_)
            ·
              refine lv_aload_n hx hb dX10_centroid_59 rfl (lv_at hl 0 rfl) ?_
              refine gf_X10_centres hx hb hE hown hh (by omega) f7 rfl dX10_centroid_60 ?_
              refine lv_iconst (v := (nI 4)) hx hb dX10_centroid_63 (by decide) ?_
              refine lv_aload_n hx hb dX10_centroid_64 rfl (lv_at hl 0 rfl) ?_
              refine gf_X10_centroids hx hb hE hown hh (by omega) f7 rfl dX10_centroid_65 ?_
              refine nn_imul hx hb dX10_centroid_68 ?_
              refine lv_fload_n hx hb dX10_centroid_69 rfl (lv_at hl 1 rfl) ?_
              refine lv_fload_n hx hb dX10_centroid_70 rfl (lv_at hl 2 rfl) ?_
              refine lv_fload_n hx hb dX10_centroid_71 rfl (lv_at hl 3 rfl) ?_
              refine lv_fload hx hb dX10_centroid_72 (lv_at hl 4 rfl) ?_
              refine mm_S0 (As := [.ref (b + 120), .int (nI (4 * cz)), .float v0, .float v1, .float v2, .float v3]) (rest := []) hx hb hml hown hE hl.1 hh (kc_X10_100 hE.2.1 ⟨Nat.le_of_ble_eq_true rfl, Nat.le_of_ble_eq_true rfl⟩) (c_X10_put l Γ b M mem6 (a := 120) (L := 16) (i := 4 * cz) (f := cf) (v0 := v0) (v1 := v1) (v2 := v2) (v3 := v3) (by omega) f11 (by omega) (by omega)) rfl rfl (Nat.le_of_ble_eq_true rfl) dX10_centroid_74 rfl rfl (fun H locs mem13 hP14 hh => ?_)
              obtain ⟨f15, k16⟩ := hP14
              have hfr17 : ∀ j, j ≠ 115 → j ≠ 120 → j ≠ 125 → mem13 j = mem j := fun j c0 c1 c2 => (k16 j (by omega)).trans (hfr9 j c0 c1 c2)
              have f18 : mem13 115 = .inr (9, [.int (nI 0), .int (nI nd), .ref (b + 116), .ref (b + 117), .ref (b + 118), .ref (b + 119), .int (nI cz), .ref (b + 120), .int (nI wz), .int (nI iz), .int (nI vz), .ref (b + 121), .ref (b + 122), .ref (b + 123), .ref (b + 124), .ref (b + 125), .ref (b + 126), .ref (b + 127), .ref (b + 128), .ref (b + 129), .int (nI md), .ref (b + 130), .ref (b + 131), .int (nI wh), .ref (b + 132), .ref (b + 133), .int (nI sd), .int (nI sk), .int (nI ps), .int (nI fc), .ref (b + 134), .ref (b + 135)]) := (k16 _ (by omega)).trans f7
              have f19 : mem13 125 = aB Γ 3 mh := (k16 _ (by omega)).trans f10
              refine lv_aload_n hx hb dX10_centroid_77 rfl (lv_at hl 0 rfl) ?_
              refine lv_dup hx hb dX10_centroid_78 rfl ?_
              refine gf_X10_centroids hx hb hE hown hh (by omega) f18 rfl dX10_centroid_79 ?_
              refine lv_iconst (v := (nI 1)) hx hb dX10_centroid_82 (by decide) ?_
              refine nn_iadd hx hb dX10_centroid_83 ?_
              refine gp_X10_centroids (fs' := [.int (nI 0), .int (nI nd), .ref (b + 116), .ref (b + 117), .ref (b + 118), .ref (b + 119), .int (nI (cz + 1)), .ref (b + 120), .int (nI wz), .int (nI iz), .int (nI vz), .ref (b + 121), .ref (b + 122), .ref (b + 123), .ref (b + 124), .ref (b + 125), .ref (b + 126), .ref (b + 127), .ref (b + 128), .ref (b + 129), .int (nI md), .ref (b + 130), .ref (b + 131), .int (nI wh), .ref (b + 132), .ref (b + 133), .int (nI sd), .int (nI sk), .int (nI ps), .int (nI fc), .ref (b + 134), .ref (b + 135)]) hx hb hE hown hh (by omega) f18 rfl rfl (show 6 < 32 by decide) rfl dX10_centroid_84 (fun H locs mem20 f21 k22 hh => ?_)
              have hfr23 : ∀ j, j ≠ 115 → j ≠ 120 → j ≠ 125 → mem20 j = mem j := fun j c0 c1 c2 => (k22 j (by omega)).trans (hfr17 j c0 c1 c2)
              have f24 : mem20 125 = aB Γ 3 mh := (k22 _ (by omega)).trans f19
              have f25 : mem20 120 = aF Γ 16 (up4 cf (4 * cz) v0 v1 v2 v3) := (k22 _ (by omega)).trans f15
              refine lv_aload_n hx hb dX10_centroid_87 rfl (lv_at hl 0 rfl) ?_
              refine mm_V0 (As := []) (rest := []) hx hb hml hown hE hl.1 hh (kc_X10_89 hE.2.1 ⟨Nat.le_of_ble_eq_true rfl, Nat.le_of_ble_eq_true rfl⟩) (c_X10_loseAll l Γ b M mem20 (cd := 0) (nd := nd) (cz := cz + 1) (wz := wz) (iz := iz) (vz := vz) (md := md) (wh := wh) (sd := sd) (sk := sk) (ps := ps) (fc := fc) (mh := mh) (by omega) f21 f24) rfl (by omega) f21 rfl rfl (Nat.le_of_ble_eq_true rfl) dX10_centroid_88 rfl rfl (fun H locs mem26 hP27 hh => ?_)
              obtain ⟨f28, f29, k30⟩ := hP27
              have hfr31 : ∀ j, j ≠ 115 → j ≠ 120 → j ≠ 125 → mem26 j = mem j := fun j c0 c1 c2 => (k30 j (by omega) (by omega)).trans (hfr23 j c0 c1 c2)
              have f32 : mem26 120 = aF Γ 16 (up4 cf (4 * cz) v0 v1 v2 v3) := (k30 _ (by omega) (by omega)).trans f25
              refine lv_aload_n hx hb dX10_centroid_91 rfl (lv_at hl 0 rfl) ?_
              refine gf_X10_centroids hx hb hE hown hh (by omega) f28 rfl dX10_centroid_92 ?_
              refine lv_iconst (v := (nI 1)) hx hb dX10_centroid_95 (by decide) ?_
              refine nn_isub hx hb (by omega) dX10_centroid_96 ?_
              exact mm_iret hx hb hr hlocks hE hh (rfl) (⟨f28, f32, f29, hfr31⟩) dX10_centroid_97
            ·
              exact absurd h12 (by decide)
          ·
            exact absurd h5 (by omega)
        ·
          exact (no_tf k4.2.2.2 h4).elim
set_option maxHeartbeats 4000000 in
set_option maxRecDepth 100000 in
/-- reference: centroid, 1 -/
theorem m_centroid_1 (l : Launch) (Γ : Gm) (b M : Nat) (mem : Nat → va_E) {cd nd cz wz iz vz md wh sd sk ps fc : Nat} {v0 v1 v2 v3 : UInt32}  (hM : 138 ≤ M) (fM : mem 115 = .inr (9, [.int (nI cd), .int (nI nd), .ref (b + 116), .ref (b + 117), .ref (b + 118), .ref (b + 119), .int (nI cz), .ref (b + 120), .int (nI wz), .int (nI iz), .int (nI vz), .ref (b + 121), .ref (b + 122), .ref (b + 123), .ref (b + 124), .ref (b + 125), .ref (b + 126), .ref (b + 127), .ref (b + 128), .ref (b + 129), .int (nI md), .ref (b + 130), .ref (b + 131), .int (nI wh), .ref (b + 132), .ref (b + 133), .int (nI sd), .int (nI sk), .int (nI ps), .int (nI fc), .ref (b + 134), .ref (b + 135)])) (h4 : (okF v0 && okF v1 && okF v2 && okF v3) = false) : Ct l yX10_centroid (.code yX10_centroid cX10_centroid 5 (some .int)) ({ frames := 1, cells := 0, slots := 0, locals := 20 } : Room) Γ b M [.ref (b + 115), .float v0, .float v1, .float v2, .float v3] mem (fun u => u 115 = .inr (9, [.int (nI 1), .int (nI nd), .ref (b + 116), .ref (b + 117), .ref (b + 118), .ref (b + 119), .int (nI cz), .ref (b + 120), .int (nI wz), .int (nI iz), .int (nI vz), .ref (b + 121), .ref (b + 122), .ref (b + 123), .ref (b + 124), .ref (b + 125), .ref (b + 126), .ref (b + 127), .ref (b + 128), .ref (b + 129), .int (nI md), .ref (b + 130), .ref (b + 131), .int (nI wh), .ref (b + 132), .ref (b + 133), .int (nI sd), .int (nI sk), .int (nI ps), .int (nI fc), .ref (b + 134), .ref (b + 135)]) ∧ ∀ j, j ≠ 115 → u j = mem j) (some (.int (nI 0))) := by
  refine mm_enter (cc := cX10_centroid) (by decide) (Nat.le_of_ble_eq_true rfl) ?_
  intro p e s m args below meth c ls hx hb hml hown hr hlocks hname hE hh hl
  have hl : lv_has ls 5 [(0, .ref (b + 115)), (1, .float v0), (2, .float v1), (3, .float v2), (4, .float v3)] := hl
  have hfr : ∀ j, j ≠ 115 → mem j = mem j := fun j _ => rfl
  refine lv_aload_n hx hb dX10_centroid_0 rfl (lv_at hl 0 rfl) ?_
  refine lv_fload_n hx hb dX10_centroid_1 rfl (lv_at hl 1 rfl) ?_
  refine mm_S0r (As := [.float v0]) (rest := [.ref (b + 115)]) hx hb hml hown hE hl.1 hh (kc_X10_96 hE.2.1 ⟨Nat.le_of_ble_eq_true rfl, Nat.le_of_ble_eq_true rfl⟩) (c_X10_isGood l Γ b M mem (x := v0)) rfl rfl (Nat.le_of_ble_eq_true rfl) dX10_centroid_2 rfl rfl (fun H locs hh => ?_)
  refine nn_beq (tgt := 30) hx hb dX10_centroid_5 (by decide) (fun h1 => ?_) (fun h1 => ?_)
  ·
    refine lv_iconst (v := (nI 1)) hx hb dX10_centroid_30 (by decide) ?_
    refine lv_goto (tgt := 47) hx hb dX10_centroid_31 (by decide) ?_
    refine gp_X10_code (fs' := [.int (nI 1), .int (nI nd), .ref (b + 116), .ref (b + 117), .ref (b + 118), .ref (b + 119), .int (nI cz), .ref (b + 120), .int (nI wz), .int (nI iz), .int (nI vz), .ref (b + 121), .ref (b + 122), .ref (b + 123), .ref (b + 124), .ref (b + 125), .ref (b + 126), .ref (b + 127), .ref (b + 128), .ref (b + 129), .int (nI md), .ref (b + 130), .ref (b + 131), .int (nI wh), .ref (b + 132), .ref (b + 133), .int (nI sd), .int (nI sk), .int (nI ps), .int (nI fc), .ref (b + 134), .ref (b + 135)]) hx hb hE hown hh (by omega) fM rfl rfl (show 0 < 32 by decide) rfl dX10_centroid_47 (fun H locs mem2 f3 k4 hh => ?_)
    have hfr5 : ∀ j, j ≠ 115 → mem2 j = mem j := fun j c0 => (k4 j (by omega)).trans (hfr j c0)
    refine lv_aload_n hx hb dX10_centroid_50 rfl (lv_at hl 0 rfl) ?_
    refine gf_X10_code hx hb hE hown hh (by omega) f3 rfl dX10_centroid_51 ?_
    refine nn_if_le (tgt := 59) hx hb dX10_centroid_54 (by decide) (by omega) (fun h6 => ?_) (fun h6 => ?_)
    ·
      exact absurd h6 (by decide)
    ·
      refine lv_iconst (v := (nI 0)) hx hb dX10_centroid_57 (by decide) ?_
      exact mm_iret hx hb hr hlocks hE hh (rfl) (⟨f3, hfr5⟩) dX10_centroid_58
  ·
    have e0 := h1
    refine lv_fload_n hx hb dX10_centroid_8 rfl (lv_at hl 2 rfl) ?_
    refine mm_S0r (As := [.float v1]) (rest := [.ref (b + 115)]) hx hb hml hown hE hl.1 hh (kc_X10_96 hE.2.1 ⟨Nat.le_of_ble_eq_true rfl, Nat.le_of_ble_eq_true rfl⟩) (c_X10_isGood l Γ b M mem (x := v1)) rfl rfl (Nat.le_of_ble_eq_true rfl) dX10_centroid_9 rfl rfl (fun H locs hh => ?_)
    refine nn_beq (tgt := 30) hx hb dX10_centroid_12 (by decide) (fun h7 => ?_) (fun h7 => ?_)
    ·
      refine lv_iconst (v := (nI 1)) hx hb dX10_centroid_30 (by decide) ?_
      refine lv_goto (tgt := 47) hx hb dX10_centroid_31 (by decide) ?_
      refine gp_X10_code (fs' := [.int (nI 1), .int (nI nd), .ref (b + 116), .ref (b + 117), .ref (b + 118), .ref (b + 119), .int (nI cz), .ref (b + 120), .int (nI wz), .int (nI iz), .int (nI vz), .ref (b + 121), .ref (b + 122), .ref (b + 123), .ref (b + 124), .ref (b + 125), .ref (b + 126), .ref (b + 127), .ref (b + 128), .ref (b + 129), .int (nI md), .ref (b + 130), .ref (b + 131), .int (nI wh), .ref (b + 132), .ref (b + 133), .int (nI sd), .int (nI sk), .int (nI ps), .int (nI fc), .ref (b + 134), .ref (b + 135)]) hx hb hE hown hh (by omega) fM rfl rfl (show 0 < 32 by decide) rfl dX10_centroid_47 (fun H locs mem8 f9 k10 hh => ?_)
      have hfr11 : ∀ j, j ≠ 115 → mem8 j = mem j := fun j c0 => (k10 j (by omega)).trans (hfr j c0)
      refine lv_aload_n hx hb dX10_centroid_50 rfl (lv_at hl 0 rfl) ?_
      refine gf_X10_code hx hb hE hown hh (by omega) f9 rfl dX10_centroid_51 ?_
      refine nn_if_le (tgt := 59) hx hb dX10_centroid_54 (by decide) (by omega) (fun h12 => ?_) (fun h12 => ?_)
      ·
        exact absurd h12 (by decide)
      ·
        refine lv_iconst (v := (nI 0)) hx hb dX10_centroid_57 (by decide) ?_
        exact mm_iret hx hb hr hlocks hE hh (rfl) (⟨f9, hfr11⟩) dX10_centroid_58
    ·
      have e1 := h7
      refine lv_fload_n hx hb dX10_centroid_15 rfl (lv_at hl 3 rfl) ?_
      refine mm_S0r (As := [.float v2]) (rest := [.ref (b + 115)]) hx hb hml hown hE hl.1 hh (kc_X10_96 hE.2.1 ⟨Nat.le_of_ble_eq_true rfl, Nat.le_of_ble_eq_true rfl⟩) (c_X10_isGood l Γ b M mem (x := v2)) rfl rfl (Nat.le_of_ble_eq_true rfl) dX10_centroid_16 rfl rfl (fun H locs hh => ?_)
      refine nn_beq (tgt := 30) hx hb dX10_centroid_19 (by decide) (fun h13 => ?_) (fun h13 => ?_)
      ·
        refine lv_iconst (v := (nI 1)) hx hb dX10_centroid_30 (by decide) ?_
        refine lv_goto (tgt := 47) hx hb dX10_centroid_31 (by decide) ?_
        refine gp_X10_code (fs' := [.int (nI 1), .int (nI nd), .ref (b + 116), .ref (b + 117), .ref (b + 118), .ref (b + 119), .int (nI cz), .ref (b + 120), .int (nI wz), .int (nI iz), .int (nI vz), .ref (b + 121), .ref (b + 122), .ref (b + 123), .ref (b + 124), .ref (b + 125), .ref (b + 126), .ref (b + 127), .ref (b + 128), .ref (b + 129), .int (nI md), .ref (b + 130), .ref (b + 131), .int (nI wh), .ref (b + 132), .ref (b + 133), .int (nI sd), .int (nI sk), .int (nI ps), .int (nI fc), .ref (b + 134), .ref (b + 135)]) hx hb hE hown hh (by omega) fM rfl rfl (show 0 < 32 by decide) rfl dX10_centroid_47 (fun H locs mem14 f15 k16 hh => ?_)
        have hfr17 : ∀ j, j ≠ 115 → mem14 j = mem j := fun j c0 => (k16 j (by omega)).trans (hfr j c0)
        refine lv_aload_n hx hb dX10_centroid_50 rfl (lv_at hl 0 rfl) ?_
        refine gf_X10_code hx hb hE hown hh (by omega) f15 rfl dX10_centroid_51 ?_
        refine nn_if_le (tgt := 59) hx hb dX10_centroid_54 (by decide) (by omega) (fun h18 => ?_) (fun h18 => ?_)
        ·
          exact absurd h18 (by decide)
        ·
          refine lv_iconst (v := (nI 0)) hx hb dX10_centroid_57 (by decide) ?_
          exact mm_iret hx hb hr hlocks hE hh (rfl) (⟨f15, hfr17⟩) dX10_centroid_58
      ·
        have e2 := h13
        refine lv_fload hx hb dX10_centroid_22 (lv_at hl 4 rfl) ?_
        refine mm_S0r (As := [.float v3]) (rest := [.ref (b + 115)]) hx hb hml hown hE hl.1 hh (kc_X10_96 hE.2.1 ⟨Nat.le_of_ble_eq_true rfl, Nat.le_of_ble_eq_true rfl⟩) (c_X10_isGood l Γ b M mem (x := v3)) rfl rfl (Nat.le_of_ble_eq_true rfl) dX10_centroid_24 rfl rfl (fun H locs hh => ?_)
        refine nn_bne (tgt := 34) hx hb dX10_centroid_27 (by decide) (fun h19 => ?_) (fun h19 => ?_)
        ·
          exact absurd h4 (by rw [e0, e1, e2, h19]; decide)
        ·
          refine lv_iconst (v := (nI 1)) hx hb dX10_centroid_30 (by decide) ?_
          refine lv_goto (tgt := 47) hx hb dX10_centroid_31 (by decide) ?_
          refine gp_X10_code (fs' := [.int (nI 1), .int (nI nd), .ref (b + 116), .ref (b + 117), .ref (b + 118), .ref (b + 119), .int (nI cz), .ref (b + 120), .int (nI wz), .int (nI iz), .int (nI vz), .ref (b + 121), .ref (b + 122), .ref (b + 123), .ref (b + 124), .ref (b + 125), .ref (b + 126), .ref (b + 127), .ref (b + 128), .ref (b + 129), .int (nI md), .ref (b + 130), .ref (b + 131), .int (nI wh), .ref (b + 132), .ref (b + 133), .int (nI sd), .int (nI sk), .int (nI ps), .int (nI fc), .ref (b + 134), .ref (b + 135)]) hx hb hE hown hh (by omega) fM rfl rfl (show 0 < 32 by decide) rfl dX10_centroid_47 (fun H locs mem20 f21 k22 hh => ?_)
          have hfr23 : ∀ j, j ≠ 115 → mem20 j = mem j := fun j c0 => (k22 j (by omega)).trans (hfr j c0)
          refine lv_aload_n hx hb dX10_centroid_50 rfl (lv_at hl 0 rfl) ?_
          refine gf_X10_code hx hb hE hown hh (by omega) f21 rfl dX10_centroid_51 ?_
          refine nn_if_le (tgt := 59) hx hb dX10_centroid_54 (by decide) (by omega) (fun h24 => ?_) (fun h24 => ?_)
          ·
            exact absurd h24 (by decide)
          ·
            refine lv_iconst (v := (nI 0)) hx hb dX10_centroid_57 (by decide) ?_
            exact mm_iret hx hb hr hlocks hE hh (rfl) (⟨f21, hfr23⟩) dX10_centroid_58
set_option maxHeartbeats 4000000 in
set_option maxRecDepth 100000 in
/-- reference: centroid, 2 -/
theorem m_centroid_2 (l : Launch) (Γ : Gm) (b M : Nat) (mem : Nat → va_E) {cd nd cz wz iz vz md wh sd sk ps fc : Nat} {v0 v1 v2 v3 : UInt32}  (hM : 138 ≤ M) (fM : mem 115 = .inr (9, [.int (nI cd), .int (nI nd), .ref (b + 116), .ref (b + 117), .ref (b + 118), .ref (b + 119), .int (nI cz), .ref (b + 120), .int (nI wz), .int (nI iz), .int (nI vz), .ref (b + 121), .ref (b + 122), .ref (b + 123), .ref (b + 124), .ref (b + 125), .ref (b + 126), .ref (b + 127), .ref (b + 128), .ref (b + 129), .int (nI md), .ref (b + 130), .ref (b + 131), .int (nI wh), .ref (b + 132), .ref (b + 133), .int (nI sd), .int (nI sk), .int (nI ps), .int (nI fc), .ref (b + 134), .ref (b + 135)])) (h4 : (okF v0 && okF v1 && okF v2 && okF v3) = true) (hcz : cz = 4) : Ct l yX10_centroid (.code yX10_centroid cX10_centroid 5 (some .int)) ({ frames := 1, cells := 0, slots := 0, locals := 20 } : Room) Γ b M [.ref (b + 115), .float v0, .float v1, .float v2, .float v3] mem (fun u => u 115 = .inr (9, [.int (nI 2), .int (nI nd), .ref (b + 116), .ref (b + 117), .ref (b + 118), .ref (b + 119), .int (nI cz), .ref (b + 120), .int (nI wz), .int (nI iz), .int (nI vz), .ref (b + 121), .ref (b + 122), .ref (b + 123), .ref (b + 124), .ref (b + 125), .ref (b + 126), .ref (b + 127), .ref (b + 128), .ref (b + 129), .int (nI md), .ref (b + 130), .ref (b + 131), .int (nI wh), .ref (b + 132), .ref (b + 133), .int (nI sd), .int (nI sk), .int (nI ps), .int (nI fc), .ref (b + 134), .ref (b + 135)]) ∧ ∀ j, j ≠ 115 → u j = mem j) (some (.int (nI 0))) := by
  refine mm_enter (cc := cX10_centroid) (by decide) (Nat.le_of_ble_eq_true rfl) ?_
  intro p e s m args below meth c ls hx hb hml hown hr hlocks hname hE hh hl
  have hl : lv_has ls 5 [(0, .ref (b + 115)), (1, .float v0), (2, .float v1), (3, .float v2), (4, .float v3)] := hl
  have hfr : ∀ j, j ≠ 115 → mem j = mem j := fun j _ => rfl
  have k4 : okF v0 = true ∧ okF v1 = true ∧ okF v2 = true ∧ okF v3 = true := by simpa [and_assoc] using h4
  refine lv_aload_n hx hb dX10_centroid_0 rfl (lv_at hl 0 rfl) ?_
  refine lv_fload_n hx hb dX10_centroid_1 rfl (lv_at hl 1 rfl) ?_
  refine mm_S0r (As := [.float v0]) (rest := [.ref (b + 115)]) hx hb hml hown hE hl.1 hh (kc_X10_96 hE.2.1 ⟨Nat.le_of_ble_eq_true rfl, Nat.le_of_ble_eq_true rfl⟩) (c_X10_isGood l Γ b M mem (x := v0)) rfl rfl (Nat.le_of_ble_eq_true rfl) dX10_centroid_2 rfl rfl (fun H locs hh => ?_)
  refine nn_beq (tgt := 30) hx hb dX10_centroid_5 (by decide) (fun h1 => ?_) (fun h1 => ?_)
  ·
    exact (no_tf k4.1 h1).elim
  ·
    refine lv_fload_n hx hb dX10_centroid_8 rfl (lv_at hl 2 rfl) ?_
    refine mm_S0r (As := [.float v1]) (rest := [.ref (b + 115)]) hx hb hml hown hE hl.1 hh (kc_X10_96 hE.2.1 ⟨Nat.le_of_ble_eq_true rfl, Nat.le_of_ble_eq_true rfl⟩) (c_X10_isGood l Γ b M mem (x := v1)) rfl rfl (Nat.le_of_ble_eq_true rfl) dX10_centroid_9 rfl rfl (fun H locs hh => ?_)
    refine nn_beq (tgt := 30) hx hb dX10_centroid_12 (by decide) (fun h2 => ?_) (fun h2 => ?_)
    ·
      exact (no_tf k4.2.1 h2).elim
    ·
      refine lv_fload_n hx hb dX10_centroid_15 rfl (lv_at hl 3 rfl) ?_
      refine mm_S0r (As := [.float v2]) (rest := [.ref (b + 115)]) hx hb hml hown hE hl.1 hh (kc_X10_96 hE.2.1 ⟨Nat.le_of_ble_eq_true rfl, Nat.le_of_ble_eq_true rfl⟩) (c_X10_isGood l Γ b M mem (x := v2)) rfl rfl (Nat.le_of_ble_eq_true rfl) dX10_centroid_16 rfl rfl (fun H locs hh => ?_)
      refine nn_beq (tgt := 30) hx hb dX10_centroid_19 (by decide) (fun h3 => ?_) (fun h3 => ?_)
      ·
        exact (no_tf k4.2.2.1 h3).elim
      ·
        refine lv_fload hx hb dX10_centroid_22 (lv_at hl 4 rfl) ?_
        refine mm_S0r (As := [.float v3]) (rest := [.ref (b + 115)]) hx hb hml hown hE hl.1 hh (kc_X10_96 hE.2.1 ⟨Nat.le_of_ble_eq_true rfl, Nat.le_of_ble_eq_true rfl⟩) (c_X10_isGood l Γ b M mem (x := v3)) rfl rfl (Nat.le_of_ble_eq_true rfl) dX10_centroid_24 rfl rfl (fun H locs hh => ?_)
        refine nn_bne (tgt := 34) hx hb dX10_centroid_27 (by decide) (fun h4 => ?_) (fun h4 => ?_)
        ·
          refine lv_aload_n hx hb dX10_centroid_34 rfl (lv_at hl 0 rfl) ?_
          refine gf_X10_centroids hx hb hE hown hh (by omega) fM rfl dX10_centroid_35 ?_
          refine lv_iconst (v := (nI 4)) hx hb dX10_centroid_38 (by decide) ?_
          refine nn_icmp_ne (tgt := 46) hx hb dX10_centroid_39 (by decide) (by omega) (by omega) (fun h5 => ?_) (fun h5 => ?_)
          ·
            exact absurd hcz h5
          ·
            refine lv_iconst (v := (nI 2)) hx hb dX10_centroid_42 (by decide) ?_
            refine lv_goto (tgt := 47) hx hb dX10_centroid_43 (by decide) ?_
            refine gp_X10_code (fs' := [.int (nI 2), .int (nI nd), .ref (b + 116), .ref (b + 117), .ref (b + 118), .ref (b + 119), .int (nI cz), .ref (b + 120), .int (nI wz), .int (nI iz), .int (nI vz), .ref (b + 121), .ref (b + 122), .ref (b + 123), .ref (b + 124), .ref (b + 125), .ref (b + 126), .ref (b + 127), .ref (b + 128), .ref (b + 129), .int (nI md), .ref (b + 130), .ref (b + 131), .int (nI wh), .ref (b + 132), .ref (b + 133), .int (nI sd), .int (nI sk), .int (nI ps), .int (nI fc), .ref (b + 134), .ref (b + 135)]) hx hb hE hown hh (by omega) fM rfl rfl (show 0 < 32 by decide) rfl dX10_centroid_47 (fun H locs mem6 f7 k8 hh => ?_)
            have hfr9 : ∀ j, j ≠ 115 → mem6 j = mem j := fun j c0 => (k8 j (by omega)).trans (hfr j c0)
            refine lv_aload_n hx hb dX10_centroid_50 rfl (lv_at hl 0 rfl) ?_
            refine gf_X10_code hx hb hE hown hh (by omega) f7 rfl dX10_centroid_51 ?_
            refine nn_if_le (tgt := 59) hx hb dX10_centroid_54 (by decide) (by omega) (fun h10 => ?_) (fun h10 => ?_)
            ·
              exact absurd h10 (by decide)
            ·
              refine lv_iconst (v := (nI 0)) hx hb dX10_centroid_57 (by decide) ?_
              exact mm_iret hx hb hr hlocks hE hh (rfl) (⟨f7, hfr9⟩) dX10_centroid_58
        ·
          exact (no_tf k4.2.2.2 h4).elim
set_option maxHeartbeats 4000000 in
set_option maxRecDepth 100000 in
/-- reference: vector -/
theorem m_vector (l : Launch) (Γ : Gm) (b M : Nat) (mem : Nat → va_E) {cd nd cz wz iz vz md wh sd sk ps fc : Nat} {mh : Nat → Bool} {v0 v1 v2 v3 : UInt32} {vf : Nat → UInt32}  (hM : 138 ≤ M) (fM : mem 115 = .inr (9, [.int (nI cd), .int (nI nd), .ref (b + 116), .ref (b + 117), .ref (b + 118), .ref (b + 119), .int (nI cz), .ref (b + 120), .int (nI wz), .int (nI iz), .int (nI vz), .ref (b + 121), .ref (b + 122), .ref (b + 123), .ref (b + 124), .ref (b + 125), .ref (b + 126), .ref (b + 127), .ref (b + 128), .ref (b + 129), .int (nI md), .ref (b + 130), .ref (b + 131), .int (nI wh), .ref (b + 132), .ref (b + 133), .int (nI sd), .int (nI sk), .int (nI ps), .int (nI fc), .ref (b + 134), .ref (b + 135)])) (g125 : mem 125 = aB Γ 3 mh) (g124 : mem 124 = aF Γ 12 vf) (h4 : (okF v0 && okF v1 && okF v2 && okF v3) = true) (hvz : vz < 3) : Ct l yX10_vector (.code yX10_vector cX10_vector 5 (some .int)) ({ frames := 1, cells := 0, slots := 0, locals := 25 } : Room) Γ b M [.ref (b + 115), .float v0, .float v1, .float v2, .float v3] mem (fun u => u 115 = .inr (9, [.int (nI 0), .int (nI nd), .ref (b + 116), .ref (b + 117), .ref (b + 118), .ref (b + 119), .int (nI cz), .ref (b + 120), .int (nI wz), .int (nI iz), .int (nI (vz + 1)), .ref (b + 121), .ref (b + 122), .ref (b + 123), .ref (b + 124), .ref (b + 125), .ref (b + 126), .ref (b + 127), .ref (b + 128), .ref (b + 129), .int (nI md), .ref (b + 130), .ref (b + 131), .int (nI wh), .ref (b + 132), .ref (b + 133), .int (nI sd), .int (nI sk), .int (nI ps), .int (nI 0), .ref (b + 134), .ref (b + 135)]) ∧ u 124 = aF Γ 12 (up4 vf (4 * vz) v0 v1 v2 v3) ∧ u 125 = aB Γ 3 (va_up mh 2 false) ∧ ∀ j, j ≠ 115 → j ≠ 124 → j ≠ 125 → u j = mem j) (some (.int (nI (vz + 1)))) := by
  refine mm_enter (cc := cX10_vector) (by decide) (Nat.le_of_ble_eq_true rfl) ?_
  intro p e s m args below meth c ls hx hb hml hown hr hlocks hname hE hh hl
  have hl : lv_has ls 5 [(0, .ref (b + 115)), (1, .float v0), (2, .float v1), (3, .float v2), (4, .float v3)] := hl
  have hfr : ∀ j, j ≠ 115 → j ≠ 124 → j ≠ 125 → mem j = mem j := fun j _ _ _ => rfl
  have k4 : okF v0 = true ∧ okF v1 = true ∧ okF v2 = true ∧ okF v3 = true := by simpa [and_assoc] using h4
  refine lv_aload_n hx hb dX10_vector_0 rfl (lv_at hl 0 rfl) ?_
  refine lv_fload_n hx hb dX10_vector_1 rfl (lv_at hl 1 rfl) ?_
  refine mm_S0r (As := [.float v0]) (rest := [.ref (b + 115)]) hx hb hml hown hE hl.1 hh (kc_X10_96 hE.2.1 ⟨Nat.le_of_ble_eq_true rfl, Nat.le_of_ble_eq_true rfl⟩) (c_X10_isGood l Γ b M mem (x := v0)) rfl rfl (Nat.le_of_ble_eq_true rfl) dX10_vector_2 rfl rfl (fun H locs hh => ?_)
  refine nn_beq (tgt := 30) hx hb dX10_vector_5 (by decide) (fun h1 => ?_) (fun h1 => ?_)
  ·
    exact (no_tf k4.1 h1).elim
  ·
    refine lv_fload_n hx hb dX10_vector_8 rfl (lv_at hl 2 rfl) ?_
    refine mm_S0r (As := [.float v1]) (rest := [.ref (b + 115)]) hx hb hml hown hE hl.1 hh (kc_X10_96 hE.2.1 ⟨Nat.le_of_ble_eq_true rfl, Nat.le_of_ble_eq_true rfl⟩) (c_X10_isGood l Γ b M mem (x := v1)) rfl rfl (Nat.le_of_ble_eq_true rfl) dX10_vector_9 rfl rfl (fun H locs hh => ?_)
    refine nn_beq (tgt := 30) hx hb dX10_vector_12 (by decide) (fun h2 => ?_) (fun h2 => ?_)
    ·
      exact (no_tf k4.2.1 h2).elim
    ·
      refine lv_fload_n hx hb dX10_vector_15 rfl (lv_at hl 3 rfl) ?_
      refine mm_S0r (As := [.float v2]) (rest := [.ref (b + 115)]) hx hb hml hown hE hl.1 hh (kc_X10_96 hE.2.1 ⟨Nat.le_of_ble_eq_true rfl, Nat.le_of_ble_eq_true rfl⟩) (c_X10_isGood l Γ b M mem (x := v2)) rfl rfl (Nat.le_of_ble_eq_true rfl) dX10_vector_16 rfl rfl (fun H locs hh => ?_)
      refine nn_beq (tgt := 30) hx hb dX10_vector_19 (by decide) (fun h3 => ?_) (fun h3 => ?_)
      ·
        exact (no_tf k4.2.2.1 h3).elim
      ·
        refine lv_fload hx hb dX10_vector_22 (lv_at hl 4 rfl) ?_
        refine mm_S0r (As := [.float v3]) (rest := [.ref (b + 115)]) hx hb hml hown hE hl.1 hh (kc_X10_96 hE.2.1 ⟨Nat.le_of_ble_eq_true rfl, Nat.le_of_ble_eq_true rfl⟩) (c_X10_isGood l Γ b M mem (x := v3)) rfl rfl (Nat.le_of_ble_eq_true rfl) dX10_vector_24 rfl rfl (fun H locs hh => ?_)
        refine nn_bne (tgt := 34) hx hb dX10_vector_27 (by decide) (fun h4 => ?_) (fun h4 => ?_)
        ·
          refine lv_aload_n hx hb dX10_vector_34 rfl (lv_at hl 0 rfl) ?_
          refine gf_X10_vectors hx hb hE hown hh (by omega) fM rfl dX10_vector_35 ?_
          refine lv_iconst (v := (nI 3)) hx hb dX10_vector_38 (by decide) ?_
          refine nn_icmp_ne (tgt := 46) hx hb dX10_vector_39 (by decide) (by omega) (by omega) (fun h5 => ?_) (fun h5 => ?_)
          ·
            refine lv_iconst (v := (nI 0)) hx hb dX10_vector_46 (by decide) ?_
            refine gp_X10_code (fs' := [.int (nI 0), .int (nI nd), .ref (b + 116), .ref (b + 117), .ref (b + 118), .ref (b + 119), .int (nI cz), .ref (b + 120), .int (nI wz), .int (nI iz), .int (nI vz), .ref (b + 121), .ref (b + 122), .ref (b + 123), .ref (b + 124), .ref (b + 125), .ref (b + 126), .ref (b + 127), .ref (b + 128), .ref (b + 129), .int (nI md), .ref (b + 130), .ref (b + 131), .int (nI wh), .ref (b + 132), .ref (b + 133), .int (nI sd), .int (nI sk), .int (nI ps), .int (nI fc), .ref (b + 134), .ref (b + 135)]) hx hb hE hown hh (by omega) fM rfl rfl (show 0 < 32 by decide) rfl dX10_vector_47 (fun H locs mem6 f7 k8 hh => ?_)
            have hfr9 : ∀ j, j ≠ 115 → j ≠ 124 → j ≠ 125 → mem6 j = mem j := fun j c0 c1 c2 => (k8 j (by omega)).trans (hfr j c0 c1 c2)
            have f10 : mem6 125 = aB Γ 3 mh := (k8 _ (by omega)).trans g125
            have f11 : mem6 124 = aF Γ 12 vf := (k8 _ (by omega)).trans g124
            refine lv_aload_n hx hb dX10_vector_50 rfl (lv_at hl 0 rfl) ?_
            refine gf_X10_code hx hb hE hown hh (by omega) f7 rfl dX10_vector_51 ?_
            refine nn_if_le (tgt := 59) hx hb dX10_vector_54 (by decide) (by omega) (fun h12 => ?_) (fun h12 => ?_)
            ·
              refine lv_aload_n hx hb dX10_vector_59 rfl (lv_at hl 0 rfl) ?_
              refine gf_X10_vector hx hb hE hown hh (by omega) f7 rfl dX10_vector_60 ?_
              refine lv_iconst (v := (nI 4)) hx hb dX10_vector_63 (by decide) ?_
              refine lv_aload_n hx hb dX10_vector_64 rfl (lv_at hl 0 rfl) ?_
              refine gf_X10_vectors hx hb hE hown hh (by omega) f7 rfl dX10_vector_65 ?_
              refine nn_imul hx hb dX10_vector_68 ?_
              refine lv_fload_n hx hb dX10_vector_69 rfl (lv_at hl 1 rfl) ?_
              refine lv_fload_n hx hb dX10_vector_70 rfl (lv_at hl 2 rfl) ?_
              refine lv_fload_n hx hb dX10_vector_71 rfl (lv_at hl 3 rfl) ?_
              refine lv_fload hx hb dX10_vector_72 (lv_at hl 4 rfl) ?_
              refine mm_S0 (As := [.ref (b + 124), .int (nI (4 * vz)), .float v0, .float v1, .float v2, .float v3]) (rest := []) hx hb hml hown hE hl.1 hh (kc_X10_100 hE.2.1 ⟨Nat.le_of_ble_eq_true rfl, Nat.le_of_ble_eq_true rfl⟩) (c_X10_put l Γ b M mem6 (a := 124) (L := 12) (i := 4 * vz) (f := vf) (v0 := v0) (v1 := v1) (v2 := v2) (v3 := v3) (by omega) f11 (by omega) (by omega)) rfl rfl (Nat.le_of_ble_eq_true rfl) dX10_vector_74 rfl rfl (fun H locs mem13 hP14 hh => ?_)
              obtain ⟨f15, k16⟩ := hP14
              have hfr17 : ∀ j, j ≠ 115 → j ≠ 124 → j ≠ 125 → mem13 j = mem j := fun j c0 c1 c2 => (k16 j (by omega)).trans (hfr9 j c0 c1 c2)
              have f18 : mem13 115 = .inr (9, [.int (nI 0), .int (nI nd), .ref (b + 116), .ref (b + 117), .ref (b + 118), .ref (b + 119), .int (nI cz), .ref (b + 120), .int (nI wz), .int (nI iz), .int (nI vz), .ref (b + 121), .ref (b + 122), .ref (b + 123), .ref (b + 124), .ref (b + 125), .ref (b + 126), .ref (b + 127), .ref (b + 128), .ref (b + 129), .int (nI md), .ref (b + 130), .ref (b + 131), .int (nI wh), .ref (b + 132), .ref (b + 133), .int (nI sd), .int (nI sk), .int (nI ps), .int (nI fc), .ref (b + 134), .ref (b + 135)]) := (k16 _ (by omega)).trans f7
              have f19 : mem13 125 = aB Γ 3 mh := (k16 _ (by omega)).trans f10
              refine lv_aload_n hx hb dX10_vector_77 rfl (lv_at hl 0 rfl) ?_
              refine lv_dup hx hb dX10_vector_78 rfl ?_
              refine gf_X10_vectors hx hb hE hown hh (by omega) f18 rfl dX10_vector_79 ?_
              refine lv_iconst (v := (nI 1)) hx hb dX10_vector_82 (by decide) ?_
              refine nn_iadd hx hb dX10_vector_83 ?_
              refine gp_X10_vectors (fs' := [.int (nI 0), .int (nI nd), .ref (b + 116), .ref (b + 117), .ref (b + 118), .ref (b + 119), .int (nI cz), .ref (b + 120), .int (nI wz), .int (nI iz), .int (nI (vz + 1)), .ref (b + 121), .ref (b + 122), .ref (b + 123), .ref (b + 124), .ref (b + 125), .ref (b + 126), .ref (b + 127), .ref (b + 128), .ref (b + 129), .int (nI md), .ref (b + 130), .ref (b + 131), .int (nI wh), .ref (b + 132), .ref (b + 133), .int (nI sd), .int (nI sk), .int (nI ps), .int (nI fc), .ref (b + 134), .ref (b + 135)]) hx hb hE hown hh (by omega) f18 rfl rfl (show 10 < 32 by decide) rfl dX10_vector_84 (fun H locs mem20 f21 k22 hh => ?_)
              have hfr23 : ∀ j, j ≠ 115 → j ≠ 124 → j ≠ 125 → mem20 j = mem j := fun j c0 c1 c2 => (k22 j (by omega)).trans (hfr17 j c0 c1 c2)
              have f24 : mem20 125 = aB Γ 3 mh := (k22 _ (by omega)).trans f19
              have f25 : mem20 124 = aF Γ 12 (up4 vf (4 * vz) v0 v1 v2 v3) := (k22 _ (by omega)).trans f15
              refine lv_aload_n hx hb dX10_vector_87 rfl (lv_at hl 0 rfl) ?_
              refine lv_iconst (v := (nI 2)) hx hb dX10_vector_88 (by decide) ?_
              refine mm_V0 (As := [.int (nI 2)]) (rest := []) hx hb hml hown hE hl.1 hh (kc_X10_82 hE.2.1 ⟨Nat.le_of_ble_eq_true rfl, Nat.le_of_ble_eq_true rfl⟩) (c_X10_lose l Γ b M mem20 (cd := 0) (nd := nd) (cz := cz) (wz := wz) (iz := iz) (vz := vz + 1) (md := md) (wh := wh) (sd := sd) (sk := sk) (ps := ps) (fc := fc) (v := 2) (mh := mh) (by omega) f21 f24 (by omega)) rfl (by omega) f21 rfl rfl (Nat.le_of_ble_eq_true rfl) dX10_vector_89 rfl rfl (fun H locs mem26 hP27 hh => ?_)
              obtain ⟨f28, f29, k30⟩ := hP27
              have hfr31 : ∀ j, j ≠ 115 → j ≠ 124 → j ≠ 125 → mem26 j = mem j := fun j c0 c1 c2 => (k30 j (by omega) (by omega)).trans (hfr23 j c0 c1 c2)
              have f32 : mem26 124 = aF Γ 12 (up4 vf (4 * vz) v0 v1 v2 v3) := (k30 _ (by omega) (by omega)).trans f25
              refine lv_aload_n hx hb dX10_vector_92 rfl (lv_at hl 0 rfl) ?_
              refine gf_X10_vectors hx hb hE hown hh (by omega) f28 rfl dX10_vector_93 ?_
              exact mm_iret hx hb hr hlocks hE hh (rfl) (⟨f28, f32, f29, hfr31⟩) dX10_vector_96
            ·
              exact absurd h12 (by decide)
          ·
            exact absurd h5 (by omega)
        ·
          exact (no_tf k4.2.2.2 h4).elim
set_option maxHeartbeats 4000000 in
set_option maxRecDepth 100000 in
/-- reference: vector, 1 -/
theorem m_vector_1 (l : Launch) (Γ : Gm) (b M : Nat) (mem : Nat → va_E) {cd nd cz wz iz vz md wh sd sk ps fc : Nat} {v0 v1 v2 v3 : UInt32}  (hM : 138 ≤ M) (fM : mem 115 = .inr (9, [.int (nI cd), .int (nI nd), .ref (b + 116), .ref (b + 117), .ref (b + 118), .ref (b + 119), .int (nI cz), .ref (b + 120), .int (nI wz), .int (nI iz), .int (nI vz), .ref (b + 121), .ref (b + 122), .ref (b + 123), .ref (b + 124), .ref (b + 125), .ref (b + 126), .ref (b + 127), .ref (b + 128), .ref (b + 129), .int (nI md), .ref (b + 130), .ref (b + 131), .int (nI wh), .ref (b + 132), .ref (b + 133), .int (nI sd), .int (nI sk), .int (nI ps), .int (nI fc), .ref (b + 134), .ref (b + 135)])) (h4 : (okF v0 && okF v1 && okF v2 && okF v3) = false) : Ct l yX10_vector (.code yX10_vector cX10_vector 5 (some .int)) ({ frames := 1, cells := 0, slots := 0, locals := 20 } : Room) Γ b M [.ref (b + 115), .float v0, .float v1, .float v2, .float v3] mem (fun u => u 115 = .inr (9, [.int (nI 1), .int (nI nd), .ref (b + 116), .ref (b + 117), .ref (b + 118), .ref (b + 119), .int (nI cz), .ref (b + 120), .int (nI wz), .int (nI iz), .int (nI vz), .ref (b + 121), .ref (b + 122), .ref (b + 123), .ref (b + 124), .ref (b + 125), .ref (b + 126), .ref (b + 127), .ref (b + 128), .ref (b + 129), .int (nI md), .ref (b + 130), .ref (b + 131), .int (nI wh), .ref (b + 132), .ref (b + 133), .int (nI sd), .int (nI sk), .int (nI ps), .int (nI fc), .ref (b + 134), .ref (b + 135)]) ∧ ∀ j, j ≠ 115 → u j = mem j) (some (.int (nI 0))) := by
  refine mm_enter (cc := cX10_vector) (by decide) (Nat.le_of_ble_eq_true rfl) ?_
  intro p e s m args below meth c ls hx hb hml hown hr hlocks hname hE hh hl
  have hl : lv_has ls 5 [(0, .ref (b + 115)), (1, .float v0), (2, .float v1), (3, .float v2), (4, .float v3)] := hl
  have hfr : ∀ j, j ≠ 115 → mem j = mem j := fun j _ => rfl
  refine lv_aload_n hx hb dX10_vector_0 rfl (lv_at hl 0 rfl) ?_
  refine lv_fload_n hx hb dX10_vector_1 rfl (lv_at hl 1 rfl) ?_
  refine mm_S0r (As := [.float v0]) (rest := [.ref (b + 115)]) hx hb hml hown hE hl.1 hh (kc_X10_96 hE.2.1 ⟨Nat.le_of_ble_eq_true rfl, Nat.le_of_ble_eq_true rfl⟩) (c_X10_isGood l Γ b M mem (x := v0)) rfl rfl (Nat.le_of_ble_eq_true rfl) dX10_vector_2 rfl rfl (fun H locs hh => ?_)
  refine nn_beq (tgt := 30) hx hb dX10_vector_5 (by decide) (fun h1 => ?_) (fun h1 => ?_)
  ·
    refine lv_iconst (v := (nI 1)) hx hb dX10_vector_30 (by decide) ?_
    refine lv_goto (tgt := 47) hx hb dX10_vector_31 (by decide) ?_
    refine gp_X10_code (fs' := [.int (nI 1), .int (nI nd), .ref (b + 116), .ref (b + 117), .ref (b + 118), .ref (b + 119), .int (nI cz), .ref (b + 120), .int (nI wz), .int (nI iz), .int (nI vz), .ref (b + 121), .ref (b + 122), .ref (b + 123), .ref (b + 124), .ref (b + 125), .ref (b + 126), .ref (b + 127), .ref (b + 128), .ref (b + 129), .int (nI md), .ref (b + 130), .ref (b + 131), .int (nI wh), .ref (b + 132), .ref (b + 133), .int (nI sd), .int (nI sk), .int (nI ps), .int (nI fc), .ref (b + 134), .ref (b + 135)]) hx hb hE hown hh (by omega) fM rfl rfl (show 0 < 32 by decide) rfl dX10_vector_47 (fun H locs mem2 f3 k4 hh => ?_)
    have hfr5 : ∀ j, j ≠ 115 → mem2 j = mem j := fun j c0 => (k4 j (by omega)).trans (hfr j c0)
    refine lv_aload_n hx hb dX10_vector_50 rfl (lv_at hl 0 rfl) ?_
    refine gf_X10_code hx hb hE hown hh (by omega) f3 rfl dX10_vector_51 ?_
    refine nn_if_le (tgt := 59) hx hb dX10_vector_54 (by decide) (by omega) (fun h6 => ?_) (fun h6 => ?_)
    ·
      exact absurd h6 (by decide)
    ·
      refine lv_iconst (v := (nI 0)) hx hb dX10_vector_57 (by decide) ?_
      exact mm_iret hx hb hr hlocks hE hh (rfl) (⟨f3, hfr5⟩) dX10_vector_58
  ·
    have e0 := h1
    refine lv_fload_n hx hb dX10_vector_8 rfl (lv_at hl 2 rfl) ?_
    refine mm_S0r (As := [.float v1]) (rest := [.ref (b + 115)]) hx hb hml hown hE hl.1 hh (kc_X10_96 hE.2.1 ⟨Nat.le_of_ble_eq_true rfl, Nat.le_of_ble_eq_true rfl⟩) (c_X10_isGood l Γ b M mem (x := v1)) rfl rfl (Nat.le_of_ble_eq_true rfl) dX10_vector_9 rfl rfl (fun H locs hh => ?_)
    refine nn_beq (tgt := 30) hx hb dX10_vector_12 (by decide) (fun h7 => ?_) (fun h7 => ?_)
    ·
      refine lv_iconst (v := (nI 1)) hx hb dX10_vector_30 (by decide) ?_
      refine lv_goto (tgt := 47) hx hb dX10_vector_31 (by decide) ?_
      refine gp_X10_code (fs' := [.int (nI 1), .int (nI nd), .ref (b + 116), .ref (b + 117), .ref (b + 118), .ref (b + 119), .int (nI cz), .ref (b + 120), .int (nI wz), .int (nI iz), .int (nI vz), .ref (b + 121), .ref (b + 122), .ref (b + 123), .ref (b + 124), .ref (b + 125), .ref (b + 126), .ref (b + 127), .ref (b + 128), .ref (b + 129), .int (nI md), .ref (b + 130), .ref (b + 131), .int (nI wh), .ref (b + 132), .ref (b + 133), .int (nI sd), .int (nI sk), .int (nI ps), .int (nI fc), .ref (b + 134), .ref (b + 135)]) hx hb hE hown hh (by omega) fM rfl rfl (show 0 < 32 by decide) rfl dX10_vector_47 (fun H locs mem8 f9 k10 hh => ?_)
      have hfr11 : ∀ j, j ≠ 115 → mem8 j = mem j := fun j c0 => (k10 j (by omega)).trans (hfr j c0)
      refine lv_aload_n hx hb dX10_vector_50 rfl (lv_at hl 0 rfl) ?_
      refine gf_X10_code hx hb hE hown hh (by omega) f9 rfl dX10_vector_51 ?_
      refine nn_if_le (tgt := 59) hx hb dX10_vector_54 (by decide) (by omega) (fun h12 => ?_) (fun h12 => ?_)
      ·
        exact absurd h12 (by decide)
      ·
        refine lv_iconst (v := (nI 0)) hx hb dX10_vector_57 (by decide) ?_
        exact mm_iret hx hb hr hlocks hE hh (rfl) (⟨f9, hfr11⟩) dX10_vector_58
    ·
      have e1 := h7
      refine lv_fload_n hx hb dX10_vector_15 rfl (lv_at hl 3 rfl) ?_
      refine mm_S0r (As := [.float v2]) (rest := [.ref (b + 115)]) hx hb hml hown hE hl.1 hh (kc_X10_96 hE.2.1 ⟨Nat.le_of_ble_eq_true rfl, Nat.le_of_ble_eq_true rfl⟩) (c_X10_isGood l Γ b M mem (x := v2)) rfl rfl (Nat.le_of_ble_eq_true rfl) dX10_vector_16 rfl rfl (fun H locs hh => ?_)
      refine nn_beq (tgt := 30) hx hb dX10_vector_19 (by decide) (fun h13 => ?_) (fun h13 => ?_)
      ·
        refine lv_iconst (v := (nI 1)) hx hb dX10_vector_30 (by decide) ?_
        refine lv_goto (tgt := 47) hx hb dX10_vector_31 (by decide) ?_
        refine gp_X10_code (fs' := [.int (nI 1), .int (nI nd), .ref (b + 116), .ref (b + 117), .ref (b + 118), .ref (b + 119), .int (nI cz), .ref (b + 120), .int (nI wz), .int (nI iz), .int (nI vz), .ref (b + 121), .ref (b + 122), .ref (b + 123), .ref (b + 124), .ref (b + 125), .ref (b + 126), .ref (b + 127), .ref (b + 128), .ref (b + 129), .int (nI md), .ref (b + 130), .ref (b + 131), .int (nI wh), .ref (b + 132), .ref (b + 133), .int (nI sd), .int (nI sk), .int (nI ps), .int (nI fc), .ref (b + 134), .ref (b + 135)]) hx hb hE hown hh (by omega) fM rfl rfl (show 0 < 32 by decide) rfl dX10_vector_47 (fun H locs mem14 f15 k16 hh => ?_)
        have hfr17 : ∀ j, j ≠ 115 → mem14 j = mem j := fun j c0 => (k16 j (by omega)).trans (hfr j c0)
        refine lv_aload_n hx hb dX10_vector_50 rfl (lv_at hl 0 rfl) ?_
        refine gf_X10_code hx hb hE hown hh (by omega) f15 rfl dX10_vector_51 ?_
        refine nn_if_le (tgt := 59) hx hb dX10_vector_54 (by decide) (by omega) (fun h18 => ?_) (fun h18 => ?_)
        ·
          exact absurd h18 (by decide)
        ·
          refine lv_iconst (v := (nI 0)) hx hb dX10_vector_57 (by decide) ?_
          exact mm_iret hx hb hr hlocks hE hh (rfl) (⟨f15, hfr17⟩) dX10_vector_58
      ·
        have e2 := h13
        refine lv_fload hx hb dX10_vector_22 (lv_at hl 4 rfl) ?_
        refine mm_S0r (As := [.float v3]) (rest := [.ref (b + 115)]) hx hb hml hown hE hl.1 hh (kc_X10_96 hE.2.1 ⟨Nat.le_of_ble_eq_true rfl, Nat.le_of_ble_eq_true rfl⟩) (c_X10_isGood l Γ b M mem (x := v3)) rfl rfl (Nat.le_of_ble_eq_true rfl) dX10_vector_24 rfl rfl (fun H locs hh => ?_)
        refine nn_bne (tgt := 34) hx hb dX10_vector_27 (by decide) (fun h19 => ?_) (fun h19 => ?_)
        ·
          exact absurd h4 (by rw [e0, e1, e2, h19]; decide)
        ·
          refine lv_iconst (v := (nI 1)) hx hb dX10_vector_30 (by decide) ?_
          refine lv_goto (tgt := 47) hx hb dX10_vector_31 (by decide) ?_
          refine gp_X10_code (fs' := [.int (nI 1), .int (nI nd), .ref (b + 116), .ref (b + 117), .ref (b + 118), .ref (b + 119), .int (nI cz), .ref (b + 120), .int (nI wz), .int (nI iz), .int (nI vz), .ref (b + 121), .ref (b + 122), .ref (b + 123), .ref (b + 124), .ref (b + 125), .ref (b + 126), .ref (b + 127), .ref (b + 128), .ref (b + 129), .int (nI md), .ref (b + 130), .ref (b + 131), .int (nI wh), .ref (b + 132), .ref (b + 133), .int (nI sd), .int (nI sk), .int (nI ps), .int (nI fc), .ref (b + 134), .ref (b + 135)]) hx hb hE hown hh (by omega) fM rfl rfl (show 0 < 32 by decide) rfl dX10_vector_47 (fun H locs mem20 f21 k22 hh => ?_)
          have hfr23 : ∀ j, j ≠ 115 → mem20 j = mem j := fun j c0 => (k22 j (by omega)).trans (hfr j c0)
          refine lv_aload_n hx hb dX10_vector_50 rfl (lv_at hl 0 rfl) ?_
          refine gf_X10_code hx hb hE hown hh (by omega) f21 rfl dX10_vector_51 ?_
          refine nn_if_le (tgt := 59) hx hb dX10_vector_54 (by decide) (by omega) (fun h24 => ?_) (fun h24 => ?_)
          ·
            exact absurd h24 (by decide)
          ·
            refine lv_iconst (v := (nI 0)) hx hb dX10_vector_57 (by decide) ?_
            exact mm_iret hx hb hr hlocks hE hh (rfl) (⟨f21, hfr23⟩) dX10_vector_58
set_option maxHeartbeats 4000000 in
set_option maxRecDepth 100000 in
/-- reference: vector, 2 -/
theorem m_vector_2 (l : Launch) (Γ : Gm) (b M : Nat) (mem : Nat → va_E) {cd nd cz wz iz vz md wh sd sk ps fc : Nat} {v0 v1 v2 v3 : UInt32}  (hM : 138 ≤ M) (fM : mem 115 = .inr (9, [.int (nI cd), .int (nI nd), .ref (b + 116), .ref (b + 117), .ref (b + 118), .ref (b + 119), .int (nI cz), .ref (b + 120), .int (nI wz), .int (nI iz), .int (nI vz), .ref (b + 121), .ref (b + 122), .ref (b + 123), .ref (b + 124), .ref (b + 125), .ref (b + 126), .ref (b + 127), .ref (b + 128), .ref (b + 129), .int (nI md), .ref (b + 130), .ref (b + 131), .int (nI wh), .ref (b + 132), .ref (b + 133), .int (nI sd), .int (nI sk), .int (nI ps), .int (nI fc), .ref (b + 134), .ref (b + 135)])) (h4 : (okF v0 && okF v1 && okF v2 && okF v3) = true) (hvz : vz = 3) : Ct l yX10_vector (.code yX10_vector cX10_vector 5 (some .int)) ({ frames := 1, cells := 0, slots := 0, locals := 20 } : Room) Γ b M [.ref (b + 115), .float v0, .float v1, .float v2, .float v3] mem (fun u => u 115 = .inr (9, [.int (nI 2), .int (nI nd), .ref (b + 116), .ref (b + 117), .ref (b + 118), .ref (b + 119), .int (nI cz), .ref (b + 120), .int (nI wz), .int (nI iz), .int (nI vz), .ref (b + 121), .ref (b + 122), .ref (b + 123), .ref (b + 124), .ref (b + 125), .ref (b + 126), .ref (b + 127), .ref (b + 128), .ref (b + 129), .int (nI md), .ref (b + 130), .ref (b + 131), .int (nI wh), .ref (b + 132), .ref (b + 133), .int (nI sd), .int (nI sk), .int (nI ps), .int (nI fc), .ref (b + 134), .ref (b + 135)]) ∧ ∀ j, j ≠ 115 → u j = mem j) (some (.int (nI 0))) := by
  refine mm_enter (cc := cX10_vector) (by decide) (Nat.le_of_ble_eq_true rfl) ?_
  intro p e s m args below meth c ls hx hb hml hown hr hlocks hname hE hh hl
  have hl : lv_has ls 5 [(0, .ref (b + 115)), (1, .float v0), (2, .float v1), (3, .float v2), (4, .float v3)] := hl
  have hfr : ∀ j, j ≠ 115 → mem j = mem j := fun j _ => rfl
  have k4 : okF v0 = true ∧ okF v1 = true ∧ okF v2 = true ∧ okF v3 = true := by simpa [and_assoc] using h4
  refine lv_aload_n hx hb dX10_vector_0 rfl (lv_at hl 0 rfl) ?_
  refine lv_fload_n hx hb dX10_vector_1 rfl (lv_at hl 1 rfl) ?_
  refine mm_S0r (As := [.float v0]) (rest := [.ref (b + 115)]) hx hb hml hown hE hl.1 hh (kc_X10_96 hE.2.1 ⟨Nat.le_of_ble_eq_true rfl, Nat.le_of_ble_eq_true rfl⟩) (c_X10_isGood l Γ b M mem (x := v0)) rfl rfl (Nat.le_of_ble_eq_true rfl) dX10_vector_2 rfl rfl (fun H locs hh => ?_)
  refine nn_beq (tgt := 30) hx hb dX10_vector_5 (by decide) (fun h1 => ?_) (fun h1 => ?_)
  ·
    exact (no_tf k4.1 h1).elim
  ·
    refine lv_fload_n hx hb dX10_vector_8 rfl (lv_at hl 2 rfl) ?_
    refine mm_S0r (As := [.float v1]) (rest := [.ref (b + 115)]) hx hb hml hown hE hl.1 hh (kc_X10_96 hE.2.1 ⟨Nat.le_of_ble_eq_true rfl, Nat.le_of_ble_eq_true rfl⟩) (c_X10_isGood l Γ b M mem (x := v1)) rfl rfl (Nat.le_of_ble_eq_true rfl) dX10_vector_9 rfl rfl (fun H locs hh => ?_)
    refine nn_beq (tgt := 30) hx hb dX10_vector_12 (by decide) (fun h2 => ?_) (fun h2 => ?_)
    ·
      exact (no_tf k4.2.1 h2).elim
    ·
      refine lv_fload_n hx hb dX10_vector_15 rfl (lv_at hl 3 rfl) ?_
      refine mm_S0r (As := [.float v2]) (rest := [.ref (b + 115)]) hx hb hml hown hE hl.1 hh (kc_X10_96 hE.2.1 ⟨Nat.le_of_ble_eq_true rfl, Nat.le_of_ble_eq_true rfl⟩) (c_X10_isGood l Γ b M mem (x := v2)) rfl rfl (Nat.le_of_ble_eq_true rfl) dX10_vector_16 rfl rfl (fun H locs hh => ?_)
      refine nn_beq (tgt := 30) hx hb dX10_vector_19 (by decide) (fun h3 => ?_) (fun h3 => ?_)
      ·
        exact (no_tf k4.2.2.1 h3).elim
      ·
        refine lv_fload hx hb dX10_vector_22 (lv_at hl 4 rfl) ?_
        refine mm_S0r (As := [.float v3]) (rest := [.ref (b + 115)]) hx hb hml hown hE hl.1 hh (kc_X10_96 hE.2.1 ⟨Nat.le_of_ble_eq_true rfl, Nat.le_of_ble_eq_true rfl⟩) (c_X10_isGood l Γ b M mem (x := v3)) rfl rfl (Nat.le_of_ble_eq_true rfl) dX10_vector_24 rfl rfl (fun H locs hh => ?_)
        refine nn_bne (tgt := 34) hx hb dX10_vector_27 (by decide) (fun h4 => ?_) (fun h4 => ?_)
        ·
          refine lv_aload_n hx hb dX10_vector_34 rfl (lv_at hl 0 rfl) ?_
          refine gf_X10_vectors hx hb hE hown hh (by omega) fM rfl dX10_vector_35 ?_
          refine lv_iconst (v := (nI 3)) hx hb dX10_vector_38 (by decide) ?_
          refine nn_icmp_ne (tgt := 46) hx hb dX10_vector_39 (by decide) (by omega) (by omega) (fun h5 => ?_) (fun h5 => ?_)
          ·
            exact absurd hvz h5
          ·
            refine lv_iconst (v := (nI 2)) hx hb dX10_vector_42 (by decide) ?_
            refine lv_goto (tgt := 47) hx hb dX10_vector_43 (by decide) ?_
            refine gp_X10_code (fs' := [.int (nI 2), .int (nI nd), .ref (b + 116), .ref (b + 117), .ref (b + 118), .ref (b + 119), .int (nI cz), .ref (b + 120), .int (nI wz), .int (nI iz), .int (nI vz), .ref (b + 121), .ref (b + 122), .ref (b + 123), .ref (b + 124), .ref (b + 125), .ref (b + 126), .ref (b + 127), .ref (b + 128), .ref (b + 129), .int (nI md), .ref (b + 130), .ref (b + 131), .int (nI wh), .ref (b + 132), .ref (b + 133), .int (nI sd), .int (nI sk), .int (nI ps), .int (nI fc), .ref (b + 134), .ref (b + 135)]) hx hb hE hown hh (by omega) fM rfl rfl (show 0 < 32 by decide) rfl dX10_vector_47 (fun H locs mem6 f7 k8 hh => ?_)
            have hfr9 : ∀ j, j ≠ 115 → mem6 j = mem j := fun j c0 => (k8 j (by omega)).trans (hfr j c0)
            refine lv_aload_n hx hb dX10_vector_50 rfl (lv_at hl 0 rfl) ?_
            refine gf_X10_code hx hb hE hown hh (by omega) f7 rfl dX10_vector_51 ?_
            refine nn_if_le (tgt := 59) hx hb dX10_vector_54 (by decide) (by omega) (fun h10 => ?_) (fun h10 => ?_)
            ·
              exact absurd h10 (by decide)
            ·
              refine lv_iconst (v := (nI 0)) hx hb dX10_vector_57 (by decide) ?_
              exact mm_iret hx hb hr hlocks hE hh (rfl) (⟨f7, hfr9⟩) dX10_vector_58
        ·
          exact (no_tf k4.2.2.2 h4).elim
set_option maxHeartbeats 4000000 in
set_option maxRecDepth 100000 in
/-- reference: token -/
theorem m_token (l : Launch) (Γ : Gm) (b M : Nat) (mem : Nat → va_E) {cd nd cz wz iz vz md wh sd sk ps fc : Nat} {mh : Nat → Bool} {v0 v1 v2 v3 : UInt32} {d : Nat} {tz : Nat → Nat} {tf : Nat → Nat → UInt32}  (hM : 138 ≤ M) (fM : mem 115 = .inr (9, [.int (nI cd), .int (nI nd), .ref (b + 116), .ref (b + 117), .ref (b + 118), .ref (b + 119), .int (nI cz), .ref (b + 120), .int (nI wz), .int (nI iz), .int (nI vz), .ref (b + 121), .ref (b + 122), .ref (b + 123), .ref (b + 124), .ref (b + 125), .ref (b + 126), .ref (b + 127), .ref (b + 128), .ref (b + 129), .int (nI md), .ref (b + 130), .ref (b + 131), .int (nI wh), .ref (b + 132), .ref (b + 133), .int (nI sd), .int (nI sk), .int (nI ps), .int (nI fc), .ref (b + 134), .ref (b + 135)])) (g125 : mem 125 = aB Γ 3 mh) (g118 : mem 118 = aN Γ 16 tz) (g119 : mem 119 = aF Γ 256 (fl16 tf)) (hnd : nd ≤ 16) (hd : d < nd) (h4 : (okF v0 && okF v1 && okF v2 && okF v3) = true) (htd : tz d < 4) : Ct l yX10_token (.code yX10_token cX10_token 7 (some .int)) ({ frames := 2, cells := 0, slots := 0, locals := 42 } : Room) Γ b M [.ref (b + 115), .int (nI d), .float v0, .float v1, .float v2, .float v3] mem (fun u => u 115 = .inr (9, [.int (nI 0), .int (nI nd), .ref (b + 116), .ref (b + 117), .ref (b + 118), .ref (b + 119), .int (nI cz), .ref (b + 120), .int (nI wz), .int (nI iz), .int (nI vz), .ref (b + 121), .ref (b + 122), .ref (b + 123), .ref (b + 124), .ref (b + 125), .ref (b + 126), .ref (b + 127), .ref (b + 128), .ref (b + 129), .int (nI md), .ref (b + 130), .ref (b + 131), .int (nI wh), .ref (b + 132), .ref (b + 133), .int (nI sd), .int (nI sk), .int (nI ps), .int (nI 0), .ref (b + 134), .ref (b + 135)]) ∧ u 119 = aF Γ 256 (fl16 (va_up tf d (up4 (tf d) (4 * tz d) v0 v1 v2 v3))) ∧ u 118 = aN Γ 16 (va_up tz d (tz d + 1)) ∧ u 125 = aB Γ 3 (zrR mh 3) ∧ ∀ j, j ≠ 115 → j ≠ 119 → j ≠ 118 → j ≠ 125 → u j = mem j) (some (.int (nI (tz d)))) := by
  refine mm_enter (cc := cX10_token) (by decide) (Nat.le_of_ble_eq_true rfl) ?_
  intro p e s m args below meth c ls hx hb hml hown hr hlocks hname hE hh hl
  have hl : lv_has ls 7 [(0, .ref (b + 115)), (1, .int (nI d)), (2, .float v0), (3, .float v1), (4, .float v2), (5, .float v3)] := hl
  have hfr : ∀ j, j ≠ 115 → j ≠ 119 → j ≠ 118 → j ≠ 125 → mem j = mem j := fun j _ _ _ _ => rfl
  have k4 : okF v0 = true ∧ okF v1 = true ∧ okF v2 = true ∧ okF v3 = true := by simpa [and_assoc] using h4
  refine lv_fload_n hx hb dX10_token_0 rfl (lv_at hl 2 rfl) ?_
  refine mm_S0r (As := [.float v0]) (rest := []) hx hb hml hown hE hl.1 hh (kc_X10_96 hE.2.1 ⟨Nat.le_of_ble_eq_true rfl, Nat.le_of_ble_eq_true rfl⟩) (c_X10_isGood l Γ b M mem (x := v0)) rfl rfl (Nat.le_of_ble_eq_true rfl) dX10_token_1 rfl rfl (fun H locs hh => ?_)
  refine nn_beq (tgt := 34) hx hb dX10_token_4 (by decide) (fun h1 => ?_) (fun h1 => ?_)
  ·
    exact (no_tf k4.1 h1).elim
  ·
    refine lv_fload_n hx hb dX10_token_7 rfl (lv_at hl 3 rfl) ?_
    refine mm_S0r (As := [.float v1]) (rest := []) hx hb hml hown hE hl.1 hh (kc_X10_96 hE.2.1 ⟨Nat.le_of_ble_eq_true rfl, Nat.le_of_ble_eq_true rfl⟩) (c_X10_isGood l Γ b M mem (x := v1)) rfl rfl (Nat.le_of_ble_eq_true rfl) dX10_token_8 rfl rfl (fun H locs hh => ?_)
    refine nn_beq (tgt := 34) hx hb dX10_token_11 (by decide) (fun h2 => ?_) (fun h2 => ?_)
    ·
      exact (no_tf k4.2.1 h2).elim
    ·
      refine lv_fload hx hb dX10_token_14 (lv_at hl 4 rfl) ?_
      refine mm_S0r (As := [.float v2]) (rest := []) hx hb hml hown hE hl.1 hh (kc_X10_96 hE.2.1 ⟨Nat.le_of_ble_eq_true rfl, Nat.le_of_ble_eq_true rfl⟩) (c_X10_isGood l Γ b M mem (x := v2)) rfl rfl (Nat.le_of_ble_eq_true rfl) dX10_token_16 rfl rfl (fun H locs hh => ?_)
      refine nn_beq (tgt := 34) hx hb dX10_token_19 (by decide) (fun h3 => ?_) (fun h3 => ?_)
      ·
        exact (no_tf k4.2.2.1 h3).elim
      ·
        refine lv_fload hx hb dX10_token_22 (lv_at hl 5 rfl) ?_
        refine mm_S0r (As := [.float v3]) (rest := []) hx hb hml hown hE hl.1 hh (kc_X10_96 hE.2.1 ⟨Nat.le_of_ble_eq_true rfl, Nat.le_of_ble_eq_true rfl⟩) (c_X10_isGood l Γ b M mem (x := v3)) rfl rfl (Nat.le_of_ble_eq_true rfl) dX10_token_24 rfl rfl (fun H locs hh => ?_)
        refine nn_beq (tgt := 34) hx hb dX10_token_27 (by decide) (fun h4 => ?_) (fun h4 => ?_)
        ·
          exact (no_tf k4.2.2.2 h4).elim
        ·
          refine lv_iconst (v := (nI 1)) hx hb dX10_token_30 (by decide) ?_
          refine lv_goto (tgt := 35) hx hb dX10_token_31 (by decide) ?_
          refine lv_istore (lv' := [(6, .int (nI 1)), (0, .ref (b + 115)), (1, .int (nI d)), (2, .float v0), (3, .float v1), (4, .float v2), (5, .float v3)]) hx hb dX10_token_35 hl (by decide) rfl (fun ls hl => ?_)
          refine lv_aload_n hx hb dX10_token_37 rfl (lv_at hl 1 rfl) ?_
          refine lv_iload_n hx hb dX10_token_38 rfl (lv_at hl 2 rfl) ?_
          refine lv_aload_n hx hb dX10_token_39 rfl (lv_at hl 1 rfl) ?_
          refine gf_X10_documents hx hb hE hown hh (by omega) fM rfl dX10_token_40 ?_
          refine mm_S0r (As := [.int (nI d), .int (nI nd)]) (rest := [.ref (b + 115)]) hx hb hml hown hE hl.1 hh (kc_X10_92 hE.2.1 ⟨Nat.le_of_ble_eq_true rfl, Nat.le_of_ble_eq_true rfl⟩) (c_X10_outside l Γ b M mem (v := (nI d)) (n := nd)) rfl rfl (Nat.le_of_ble_eq_true rfl) dX10_token_43 rfl rfl (fun H locs hh => ?_)
          refine nn_beq (tgt := 53) hx hb dX10_token_46 (by decide) (fun h5 => ?_) (fun h5 => ?_)
          ·
            refine lv_iload hx hb dX10_token_53 (lv_at hl 0 rfl) ?_
            refine nn_if_ne (tgt := 62) hx hb dX10_token_55 (by decide) (by omega) (fun h6 => ?_) (fun h6 => ?_)
            ·
              refine lv_aload_n hx hb dX10_token_62 rfl (lv_at hl 1 rfl) ?_
              refine gf_X10_tokens hx hb hE hown hh (by omega) fM rfl dX10_token_63 ?_
              refine lv_iload_n hx hb dX10_token_66 rfl (lv_at hl 2 rfl) ?_
              refine mm_iald hx hb hE hh (by omega) g118 (by omega) (by decide) dX10_token_67 ?_
              refine lv_iconst (v := (nI 4)) hx hb dX10_token_68 (by decide) ?_
              refine nn_icmp_ne (tgt := 76) hx hb dX10_token_69 (by decide) (by omega) (by omega) (fun h7 => ?_) (fun h7 => ?_)
              ·
                refine lv_iconst (v := (nI 0)) hx hb dX10_token_76 (by decide) ?_
                refine gp_X10_code (fs' := [.int (nI 0), .int (nI nd), .ref (b + 116), .ref (b + 117), .ref (b + 118), .ref (b + 119), .int (nI cz), .ref (b + 120), .int (nI wz), .int (nI iz), .int (nI vz), .ref (b + 121), .ref (b + 122), .ref (b + 123), .ref (b + 124), .ref (b + 125), .ref (b + 126), .ref (b + 127), .ref (b + 128), .ref (b + 129), .int (nI md), .ref (b + 130), .ref (b + 131), .int (nI wh), .ref (b + 132), .ref (b + 133), .int (nI sd), .int (nI sk), .int (nI ps), .int (nI fc), .ref (b + 134), .ref (b + 135)]) hx hb hE hown hh (by omega) fM rfl rfl (show 0 < 32 by decide) rfl dX10_token_77 (fun H locs mem8 f9 k10 hh => ?_)
                have hfr11 : ∀ j, j ≠ 115 → j ≠ 119 → j ≠ 118 → j ≠ 125 → mem8 j = mem j := fun j c0 c1 c2 c3 => (k10 j (by omega)).trans (hfr j c0 c1 c2 c3)
                have f12 : mem8 125 = aB Γ 3 mh := (k10 _ (by omega)).trans g125
                have f13 : mem8 118 = aN Γ 16 tz := (k10 _ (by omega)).trans g118
                have f14 : mem8 119 = aF Γ 256 (fl16 tf) := (k10 _ (by omega)).trans g119
                refine lv_aload_n hx hb dX10_token_80 rfl (lv_at hl 1 rfl) ?_
                refine gf_X10_code hx hb hE hown hh (by omega) f9 rfl dX10_token_81 ?_
                refine nn_if_le (tgt := 89) hx hb dX10_token_84 (by decide) (by omega) (fun h15 => ?_) (fun h15 => ?_)
                ·
                  refine lv_aload_n hx hb dX10_token_89 rfl (lv_at hl 1 rfl) ?_
                  refine gf_X10_parts hx hb hE hown hh (by omega) f9 rfl dX10_token_90 ?_
                  refine lv_bipush (v := (nI 16)) hx hb dX10_token_93 (by decide) ?_
                  refine lv_iload_n hx hb dX10_token_95 rfl (lv_at hl 2 rfl) ?_
                  refine nn_imul hx hb dX10_token_96 ?_
                  refine lv_iconst (v := (nI 4)) hx hb dX10_token_97 (by decide) ?_
                  refine lv_aload_n hx hb dX10_token_98 rfl (lv_at hl 1 rfl) ?_
                  refine gf_X10_tokens hx hb hE hown hh (by omega) f9 rfl dX10_token_99 ?_
                  refine lv_iload_n hx hb dX10_token_102 rfl (lv_at hl 2 rfl) ?_
                  refine mm_iald hx hb hE hh (by omega) f13 (by omega) (by decide) dX10_token_103 ?_
                  refine nn_imul hx hb dX10_token_104 ?_
                  refine nn_iadd hx hb dX10_token_105 ?_
                  refine lv_fload_n hx hb dX10_token_106 rfl (lv_at hl 3 rfl) ?_
                  refine lv_fload_n hx hb dX10_token_107 rfl (lv_at hl 4 rfl) ?_
                  refine lv_fload hx hb dX10_token_108 (lv_at hl 5 rfl) ?_
                  refine lv_fload hx hb dX10_token_110 (lv_at hl 6 rfl) ?_
                  refine mm_S0 (As := [.ref (b + 119), .int (nI ((16 * d) + (4 * (tz d)))), .float v0, .float v1, .float v2, .float v3]) (rest := []) hx hb hml hown hE hl.1 hh (kc_X10_100 hE.2.1 ⟨Nat.le_of_ble_eq_true rfl, Nat.le_of_ble_eq_true rfl⟩) (c_X10_put l Γ b M mem8 (a := 119) (L := 256) (i := (16 * d) + (4 * (tz d))) (f := fl16 tf) (v0 := v0) (v1 := v1) (v2 := v2) (v3 := v3) (by omega) f14 (by omega) (by omega)) rfl rfl (Nat.le_of_ble_eq_true rfl) dX10_token_112 rfl rfl (fun H locs mem16 hP17 hh => ?_)
                  obtain ⟨f18, k19⟩ := hP17
                  have hfr20 : ∀ j, j ≠ 115 → j ≠ 119 → j ≠ 118 → j ≠ 125 → mem16 j = mem j := fun j c0 c1 c2 c3 => (k19 j (by omega)).trans (hfr11 j c0 c1 c2 c3)
                  have f21 : mem16 115 = .inr (9, [.int (nI 0), .int (nI nd), .ref (b + 116), .ref (b + 117), .ref (b + 118), .ref (b + 119), .int (nI cz), .ref (b + 120), .int (nI wz), .int (nI iz), .int (nI vz), .ref (b + 121), .ref (b + 122), .ref (b + 123), .ref (b + 124), .ref (b + 125), .ref (b + 126), .ref (b + 127), .ref (b + 128), .ref (b + 129), .int (nI md), .ref (b + 130), .ref (b + 131), .int (nI wh), .ref (b + 132), .ref (b + 133), .int (nI sd), .int (nI sk), .int (nI ps), .int (nI fc), .ref (b + 134), .ref (b + 135)]) := (k19 _ (by omega)).trans f9
                  have f22 : mem16 125 = aB Γ 3 mh := (k19 _ (by omega)).trans f12
                  have f23 : mem16 118 = aN Γ 16 tz := (k19 _ (by omega)).trans f13
                  refine lv_aload_n hx hb dX10_token_115 rfl (lv_at hl 1 rfl) ?_
                  refine gf_X10_tokens hx hb hE hown hh (by omega) f21 rfl dX10_token_116 ?_
                  refine lv_iload_n hx hb dX10_token_119 rfl (lv_at hl 2 rfl) ?_
                  refine lv_dup2_11 hx hb dX10_token_120 rfl rfl ?_
                  refine mm_iald hx hb hE hh (by omega) f23 (by omega) (by decide) dX10_token_121 ?_
                  refine lv_iconst (v := (nI 1)) hx hb dX10_token_122 (by decide) ?_
                  refine nn_iadd hx hb dX10_token_123 ?_
                  refine mm_iast hx hb hE hh (by omega) f23 (by omega) (by decide) dX10_token_124 (fun H locs mem24 f25 k26 hh => ?_)
                  rw [va_up_nI] at f25
                  have hfr27 : ∀ j, j ≠ 115 → j ≠ 119 → j ≠ 118 → j ≠ 125 → mem24 j = mem j := fun j c0 c1 c2 c3 => (k26 j (by omega)).trans (hfr20 j c0 c1 c2 c3)
                  have f28 : mem24 115 = .inr (9, [.int (nI 0), .int (nI nd), .ref (b + 116), .ref (b + 117), .ref (b + 118), .ref (b + 119), .int (nI cz), .ref (b + 120), .int (nI wz), .int (nI iz), .int (nI vz), .ref (b + 121), .ref (b + 122), .ref (b + 123), .ref (b + 124), .ref (b + 125), .ref (b + 126), .ref (b + 127), .ref (b + 128), .ref (b + 129), .int (nI md), .ref (b + 130), .ref (b + 131), .int (nI wh), .ref (b + 132), .ref (b + 133), .int (nI sd), .int (nI sk), .int (nI ps), .int (nI fc), .ref (b + 134), .ref (b + 135)]) := (k26 _ (by omega)).trans f21
                  have f29 : mem24 125 = aB Γ 3 mh := (k26 _ (by omega)).trans f22
                  have f30 : mem24 119 = aF Γ 256 (up4 (fl16 tf) ((16 * d) + (4 * (tz d))) v0 v1 v2 v3) := (k26 _ (by omega)).trans f18
                  refine lv_aload_n hx hb dX10_token_125 rfl (lv_at hl 1 rfl) ?_
                  refine mm_V0 (As := []) (rest := []) hx hb hml hown hE hl.1 hh (kc_X10_89 hE.2.1 ⟨Nat.le_of_ble_eq_true rfl, Nat.le_of_ble_eq_true rfl⟩) (c_X10_loseAll l Γ b M mem24 (cd := 0) (nd := nd) (cz := cz) (wz := wz) (iz := iz) (vz := vz) (md := md) (wh := wh) (sd := sd) (sk := sk) (ps := ps) (fc := fc) (mh := mh) (by omega) f28 f29) rfl (by omega) f28 rfl rfl (Nat.le_of_ble_eq_true rfl) dX10_token_126 rfl rfl (fun H locs mem31 hP32 hh => ?_)
                  obtain ⟨f33, f34, k35⟩ := hP32
                  have hfr36 : ∀ j, j ≠ 115 → j ≠ 119 → j ≠ 118 → j ≠ 125 → mem31 j = mem j := fun j c0 c1 c2 c3 => (k35 j (by omega) (by omega)).trans (hfr27 j c0 c1 c2 c3)
                  have f37 : mem31 118 = aN Γ 16 (va_up tz d ((tz d) + 1)) := (k35 _ (by omega) (by omega)).trans f25
                  have f38 : mem31 119 = aF Γ 256 (up4 (fl16 tf) ((16 * d) + (4 * (tz d))) v0 v1 v2 v3) := (k35 _ (by omega) (by omega)).trans f30
                  refine lv_aload_n hx hb dX10_token_129 rfl (lv_at hl 1 rfl) ?_
                  refine gf_X10_tokens hx hb hE hown hh (by omega) f33 rfl dX10_token_130 ?_
                  refine lv_iload_n hx hb dX10_token_133 rfl (lv_at hl 2 rfl) ?_
                  refine mm_iald hx hb hE hh (by omega) f37 (by omega) (by decide) dX10_token_134 ?_
                  have hv134 : (va_up tz d ((tz d) + 1)) d = tz d + 1 := va_up_self _ _ _
                  rw [hv134]
                  refine lv_iconst (v := (nI 1)) hx hb dX10_token_135 (by decide) ?_
                  refine nn_isub hx hb (by omega) dX10_token_136 ?_
                  exact mm_iret hx hb hr hlocks hE hh (rfl) (⟨f33, by rw [← fl16_up4 tf v0 v1 v2 v3 (by omega)]; exact f38, f37, f34, hfr36⟩) dX10_token_137
                ·
                  exact absurd h15 (by decide)
              ·
                exact absurd h7 (by omega)
            ·
              exact absurd h6 (by decide)
          ·
            exact (nt_tf h5 (inR_y hd (by omega))).elim
set_option maxHeartbeats 4000000 in
set_option maxRecDepth 100000 in
/-- reference: token, 2 -/
theorem m_token_2 (l : Launch) (Γ : Gm) (b M : Nat) (mem : Nat → va_E) {cd nd cz wz iz vz md wh sd sk ps fc : Nat} {v0 v1 v2 v3 : UInt32} {d : Nat}  (hM : 138 ≤ M) (fM : mem 115 = .inr (9, [.int (nI cd), .int (nI nd), .ref (b + 116), .ref (b + 117), .ref (b + 118), .ref (b + 119), .int (nI cz), .ref (b + 120), .int (nI wz), .int (nI iz), .int (nI vz), .ref (b + 121), .ref (b + 122), .ref (b + 123), .ref (b + 124), .ref (b + 125), .ref (b + 126), .ref (b + 127), .ref (b + 128), .ref (b + 129), .int (nI md), .ref (b + 130), .ref (b + 131), .int (nI wh), .ref (b + 132), .ref (b + 133), .int (nI sd), .int (nI sk), .int (nI ps), .int (nI fc), .ref (b + 134), .ref (b + 135)])) (hnd : nd ≤ 16) (hd : d < nd) (h4 : (okF v0 && okF v1 && okF v2 && okF v3) = false) : Ct l yX10_token (.code yX10_token cX10_token 7 (some .int)) ({ frames := 1, cells := 0, slots := 0, locals := 21 } : Room) Γ b M [.ref (b + 115), .int (nI d), .float v0, .float v1, .float v2, .float v3] mem (fun u => u 115 = .inr (9, [.int (nI 2), .int (nI nd), .ref (b + 116), .ref (b + 117), .ref (b + 118), .ref (b + 119), .int (nI cz), .ref (b + 120), .int (nI wz), .int (nI iz), .int (nI vz), .ref (b + 121), .ref (b + 122), .ref (b + 123), .ref (b + 124), .ref (b + 125), .ref (b + 126), .ref (b + 127), .ref (b + 128), .ref (b + 129), .int (nI md), .ref (b + 130), .ref (b + 131), .int (nI wh), .ref (b + 132), .ref (b + 133), .int (nI sd), .int (nI sk), .int (nI ps), .int (nI fc), .ref (b + 134), .ref (b + 135)]) ∧ ∀ j, j ≠ 115 → u j = mem j) (some (.int (nI 0))) := by
  refine mm_enter (cc := cX10_token) (by decide) (Nat.le_of_ble_eq_true rfl) ?_
  intro p e s m args below meth c ls hx hb hml hown hr hlocks hname hE hh hl
  have hl : lv_has ls 7 [(0, .ref (b + 115)), (1, .int (nI d)), (2, .float v0), (3, .float v1), (4, .float v2), (5, .float v3)] := hl
  have hfr : ∀ j, j ≠ 115 → mem j = mem j := fun j _ => rfl
  refine lv_fload_n hx hb dX10_token_0 rfl (lv_at hl 2 rfl) ?_
  refine mm_S0r (As := [.float v0]) (rest := []) hx hb hml hown hE hl.1 hh (kc_X10_96 hE.2.1 ⟨Nat.le_of_ble_eq_true rfl, Nat.le_of_ble_eq_true rfl⟩) (c_X10_isGood l Γ b M mem (x := v0)) rfl rfl (Nat.le_of_ble_eq_true rfl) dX10_token_1 rfl rfl (fun H locs hh => ?_)
  refine nn_beq (tgt := 34) hx hb dX10_token_4 (by decide) (fun h1 => ?_) (fun h1 => ?_)
  ·
    refine lv_iconst (v := (nI 0)) hx hb dX10_token_34 (by decide) ?_
    refine lv_istore (lv' := [(6, .int (nI 0)), (0, .ref (b + 115)), (1, .int (nI d)), (2, .float v0), (3, .float v1), (4, .float v2), (5, .float v3)]) hx hb dX10_token_35 hl (by decide) rfl (fun ls hl => ?_)
    refine lv_aload_n hx hb dX10_token_37 rfl (lv_at hl 1 rfl) ?_
    refine lv_iload_n hx hb dX10_token_38 rfl (lv_at hl 2 rfl) ?_
    refine lv_aload_n hx hb dX10_token_39 rfl (lv_at hl 1 rfl) ?_
    refine gf_X10_documents hx hb hE hown hh (by omega) fM rfl dX10_token_40 ?_
    refine mm_S0r (As := [.int (nI d), .int (nI nd)]) (rest := [.ref (b + 115)]) hx hb hml hown hE hl.1 hh (kc_X10_92 hE.2.1 ⟨Nat.le_of_ble_eq_true rfl, Nat.le_of_ble_eq_true rfl⟩) (c_X10_outside l Γ b M mem (v := (nI d)) (n := nd)) rfl rfl (Nat.le_of_ble_eq_true rfl) dX10_token_43 rfl rfl (fun H locs hh => ?_)
    refine nn_beq (tgt := 53) hx hb dX10_token_46 (by decide) (fun h2 => ?_) (fun h2 => ?_)
    ·
      refine lv_iload hx hb dX10_token_53 (lv_at hl 0 rfl) ?_
      refine nn_if_ne (tgt := 62) hx hb dX10_token_55 (by decide) (by omega) (fun h3 => ?_) (fun h3 => ?_)
      ·
        exact absurd h3 (by decide)
      ·
        refine lv_iconst (v := (nI 2)) hx hb dX10_token_58 (by decide) ?_
        refine lv_goto (tgt := 77) hx hb dX10_token_59 (by decide) ?_
        refine gp_X10_code (fs' := [.int (nI 2), .int (nI nd), .ref (b + 116), .ref (b + 117), .ref (b + 118), .ref (b + 119), .int (nI cz), .ref (b + 120), .int (nI wz), .int (nI iz), .int (nI vz), .ref (b + 121), .ref (b + 122), .ref (b + 123), .ref (b + 124), .ref (b + 125), .ref (b + 126), .ref (b + 127), .ref (b + 128), .ref (b + 129), .int (nI md), .ref (b + 130), .ref (b + 131), .int (nI wh), .ref (b + 132), .ref (b + 133), .int (nI sd), .int (nI sk), .int (nI ps), .int (nI fc), .ref (b + 134), .ref (b + 135)]) hx hb hE hown hh (by omega) fM rfl rfl (show 0 < 32 by decide) rfl dX10_token_77 (fun H locs mem4 f5 k6 hh => ?_)
        have hfr7 : ∀ j, j ≠ 115 → mem4 j = mem j := fun j c0 => (k6 j (by omega)).trans (hfr j c0)
        refine lv_aload_n hx hb dX10_token_80 rfl (lv_at hl 1 rfl) ?_
        refine gf_X10_code hx hb hE hown hh (by omega) f5 rfl dX10_token_81 ?_
        refine nn_if_le (tgt := 89) hx hb dX10_token_84 (by decide) (by omega) (fun h8 => ?_) (fun h8 => ?_)
        ·
          exact absurd h8 (by decide)
        ·
          refine lv_iconst (v := (nI 0)) hx hb dX10_token_87 (by decide) ?_
          exact mm_iret hx hb hr hlocks hE hh (rfl) (⟨f5, hfr7⟩) dX10_token_88
    ·
      exact (nt_tf h2 (inR_y hd (by omega))).elim
  ·
    have e0 := h1
    refine lv_fload_n hx hb dX10_token_7 rfl (lv_at hl 3 rfl) ?_
    refine mm_S0r (As := [.float v1]) (rest := []) hx hb hml hown hE hl.1 hh (kc_X10_96 hE.2.1 ⟨Nat.le_of_ble_eq_true rfl, Nat.le_of_ble_eq_true rfl⟩) (c_X10_isGood l Γ b M mem (x := v1)) rfl rfl (Nat.le_of_ble_eq_true rfl) dX10_token_8 rfl rfl (fun H locs hh => ?_)
    refine nn_beq (tgt := 34) hx hb dX10_token_11 (by decide) (fun h9 => ?_) (fun h9 => ?_)
    ·
      refine lv_iconst (v := (nI 0)) hx hb dX10_token_34 (by decide) ?_
      refine lv_istore (lv' := [(6, .int (nI 0)), (0, .ref (b + 115)), (1, .int (nI d)), (2, .float v0), (3, .float v1), (4, .float v2), (5, .float v3)]) hx hb dX10_token_35 hl (by decide) rfl (fun ls hl => ?_)
      refine lv_aload_n hx hb dX10_token_37 rfl (lv_at hl 1 rfl) ?_
      refine lv_iload_n hx hb dX10_token_38 rfl (lv_at hl 2 rfl) ?_
      refine lv_aload_n hx hb dX10_token_39 rfl (lv_at hl 1 rfl) ?_
      refine gf_X10_documents hx hb hE hown hh (by omega) fM rfl dX10_token_40 ?_
      refine mm_S0r (As := [.int (nI d), .int (nI nd)]) (rest := [.ref (b + 115)]) hx hb hml hown hE hl.1 hh (kc_X10_92 hE.2.1 ⟨Nat.le_of_ble_eq_true rfl, Nat.le_of_ble_eq_true rfl⟩) (c_X10_outside l Γ b M mem (v := (nI d)) (n := nd)) rfl rfl (Nat.le_of_ble_eq_true rfl) dX10_token_43 rfl rfl (fun H locs hh => ?_)
      refine nn_beq (tgt := 53) hx hb dX10_token_46 (by decide) (fun h10 => ?_) (fun h10 => ?_)
      ·
        refine lv_iload hx hb dX10_token_53 (lv_at hl 0 rfl) ?_
        refine nn_if_ne (tgt := 62) hx hb dX10_token_55 (by decide) (by omega) (fun h11 => ?_) (fun h11 => ?_)
        ·
          exact absurd h11 (by decide)
        ·
          refine lv_iconst (v := (nI 2)) hx hb dX10_token_58 (by decide) ?_
          refine lv_goto (tgt := 77) hx hb dX10_token_59 (by decide) ?_
          refine gp_X10_code (fs' := [.int (nI 2), .int (nI nd), .ref (b + 116), .ref (b + 117), .ref (b + 118), .ref (b + 119), .int (nI cz), .ref (b + 120), .int (nI wz), .int (nI iz), .int (nI vz), .ref (b + 121), .ref (b + 122), .ref (b + 123), .ref (b + 124), .ref (b + 125), .ref (b + 126), .ref (b + 127), .ref (b + 128), .ref (b + 129), .int (nI md), .ref (b + 130), .ref (b + 131), .int (nI wh), .ref (b + 132), .ref (b + 133), .int (nI sd), .int (nI sk), .int (nI ps), .int (nI fc), .ref (b + 134), .ref (b + 135)]) hx hb hE hown hh (by omega) fM rfl rfl (show 0 < 32 by decide) rfl dX10_token_77 (fun H locs mem12 f13 k14 hh => ?_)
          have hfr15 : ∀ j, j ≠ 115 → mem12 j = mem j := fun j c0 => (k14 j (by omega)).trans (hfr j c0)
          refine lv_aload_n hx hb dX10_token_80 rfl (lv_at hl 1 rfl) ?_
          refine gf_X10_code hx hb hE hown hh (by omega) f13 rfl dX10_token_81 ?_
          refine nn_if_le (tgt := 89) hx hb dX10_token_84 (by decide) (by omega) (fun h16 => ?_) (fun h16 => ?_)
          ·
            exact absurd h16 (by decide)
          ·
            refine lv_iconst (v := (nI 0)) hx hb dX10_token_87 (by decide) ?_
            exact mm_iret hx hb hr hlocks hE hh (rfl) (⟨f13, hfr15⟩) dX10_token_88
      ·
        exact (nt_tf h10 (inR_y hd (by omega))).elim
    ·
      have e1 := h9
      refine lv_fload hx hb dX10_token_14 (lv_at hl 4 rfl) ?_
      refine mm_S0r (As := [.float v2]) (rest := []) hx hb hml hown hE hl.1 hh (kc_X10_96 hE.2.1 ⟨Nat.le_of_ble_eq_true rfl, Nat.le_of_ble_eq_true rfl⟩) (c_X10_isGood l Γ b M mem (x := v2)) rfl rfl (Nat.le_of_ble_eq_true rfl) dX10_token_16 rfl rfl (fun H locs hh => ?_)
      refine nn_beq (tgt := 34) hx hb dX10_token_19 (by decide) (fun h17 => ?_) (fun h17 => ?_)
      ·
        refine lv_iconst (v := (nI 0)) hx hb dX10_token_34 (by decide) ?_
        refine lv_istore (lv' := [(6, .int (nI 0)), (0, .ref (b + 115)), (1, .int (nI d)), (2, .float v0), (3, .float v1), (4, .float v2), (5, .float v3)]) hx hb dX10_token_35 hl (by decide) rfl (fun ls hl => ?_)
        refine lv_aload_n hx hb dX10_token_37 rfl (lv_at hl 1 rfl) ?_
        refine lv_iload_n hx hb dX10_token_38 rfl (lv_at hl 2 rfl) ?_
        refine lv_aload_n hx hb dX10_token_39 rfl (lv_at hl 1 rfl) ?_
        refine gf_X10_documents hx hb hE hown hh (by omega) fM rfl dX10_token_40 ?_
        refine mm_S0r (As := [.int (nI d), .int (nI nd)]) (rest := [.ref (b + 115)]) hx hb hml hown hE hl.1 hh (kc_X10_92 hE.2.1 ⟨Nat.le_of_ble_eq_true rfl, Nat.le_of_ble_eq_true rfl⟩) (c_X10_outside l Γ b M mem (v := (nI d)) (n := nd)) rfl rfl (Nat.le_of_ble_eq_true rfl) dX10_token_43 rfl rfl (fun H locs hh => ?_)
        refine nn_beq (tgt := 53) hx hb dX10_token_46 (by decide) (fun h18 => ?_) (fun h18 => ?_)
        ·
          refine lv_iload hx hb dX10_token_53 (lv_at hl 0 rfl) ?_
          refine nn_if_ne (tgt := 62) hx hb dX10_token_55 (by decide) (by omega) (fun h19 => ?_) (fun h19 => ?_)
          ·
            exact absurd h19 (by decide)
          ·
            refine lv_iconst (v := (nI 2)) hx hb dX10_token_58 (by decide) ?_
            refine lv_goto (tgt := 77) hx hb dX10_token_59 (by decide) ?_
            refine gp_X10_code (fs' := [.int (nI 2), .int (nI nd), .ref (b + 116), .ref (b + 117), .ref (b + 118), .ref (b + 119), .int (nI cz), .ref (b + 120), .int (nI wz), .int (nI iz), .int (nI vz), .ref (b + 121), .ref (b + 122), .ref (b + 123), .ref (b + 124), .ref (b + 125), .ref (b + 126), .ref (b + 127), .ref (b + 128), .ref (b + 129), .int (nI md), .ref (b + 130), .ref (b + 131), .int (nI wh), .ref (b + 132), .ref (b + 133), .int (nI sd), .int (nI sk), .int (nI ps), .int (nI fc), .ref (b + 134), .ref (b + 135)]) hx hb hE hown hh (by omega) fM rfl rfl (show 0 < 32 by decide) rfl dX10_token_77 (fun H locs mem20 f21 k22 hh => ?_)
            have hfr23 : ∀ j, j ≠ 115 → mem20 j = mem j := fun j c0 => (k22 j (by omega)).trans (hfr j c0)
            refine lv_aload_n hx hb dX10_token_80 rfl (lv_at hl 1 rfl) ?_
            refine gf_X10_code hx hb hE hown hh (by omega) f21 rfl dX10_token_81 ?_
            refine nn_if_le (tgt := 89) hx hb dX10_token_84 (by decide) (by omega) (fun h24 => ?_) (fun h24 => ?_)
            ·
              exact absurd h24 (by decide)
            ·
              refine lv_iconst (v := (nI 0)) hx hb dX10_token_87 (by decide) ?_
              exact mm_iret hx hb hr hlocks hE hh (rfl) (⟨f21, hfr23⟩) dX10_token_88
        ·
          exact (nt_tf h18 (inR_y hd (by omega))).elim
      ·
        have e2 := h17
        refine lv_fload hx hb dX10_token_22 (lv_at hl 5 rfl) ?_
        refine mm_S0r (As := [.float v3]) (rest := []) hx hb hml hown hE hl.1 hh (kc_X10_96 hE.2.1 ⟨Nat.le_of_ble_eq_true rfl, Nat.le_of_ble_eq_true rfl⟩) (c_X10_isGood l Γ b M mem (x := v3)) rfl rfl (Nat.le_of_ble_eq_true rfl) dX10_token_24 rfl rfl (fun H locs hh => ?_)
        refine nn_beq (tgt := 34) hx hb dX10_token_27 (by decide) (fun h25 => ?_) (fun h25 => ?_)
        ·
          refine lv_iconst (v := (nI 0)) hx hb dX10_token_34 (by decide) ?_
          refine lv_istore (lv' := [(6, .int (nI 0)), (0, .ref (b + 115)), (1, .int (nI d)), (2, .float v0), (3, .float v1), (4, .float v2), (5, .float v3)]) hx hb dX10_token_35 hl (by decide) rfl (fun ls hl => ?_)
          refine lv_aload_n hx hb dX10_token_37 rfl (lv_at hl 1 rfl) ?_
          refine lv_iload_n hx hb dX10_token_38 rfl (lv_at hl 2 rfl) ?_
          refine lv_aload_n hx hb dX10_token_39 rfl (lv_at hl 1 rfl) ?_
          refine gf_X10_documents hx hb hE hown hh (by omega) fM rfl dX10_token_40 ?_
          refine mm_S0r (As := [.int (nI d), .int (nI nd)]) (rest := [.ref (b + 115)]) hx hb hml hown hE hl.1 hh (kc_X10_92 hE.2.1 ⟨Nat.le_of_ble_eq_true rfl, Nat.le_of_ble_eq_true rfl⟩) (c_X10_outside l Γ b M mem (v := (nI d)) (n := nd)) rfl rfl (Nat.le_of_ble_eq_true rfl) dX10_token_43 rfl rfl (fun H locs hh => ?_)
          refine nn_beq (tgt := 53) hx hb dX10_token_46 (by decide) (fun h26 => ?_) (fun h26 => ?_)
          ·
            refine lv_iload hx hb dX10_token_53 (lv_at hl 0 rfl) ?_
            refine nn_if_ne (tgt := 62) hx hb dX10_token_55 (by decide) (by omega) (fun h27 => ?_) (fun h27 => ?_)
            ·
              exact absurd h27 (by decide)
            ·
              refine lv_iconst (v := (nI 2)) hx hb dX10_token_58 (by decide) ?_
              refine lv_goto (tgt := 77) hx hb dX10_token_59 (by decide) ?_
              refine gp_X10_code (fs' := [.int (nI 2), .int (nI nd), .ref (b + 116), .ref (b + 117), .ref (b + 118), .ref (b + 119), .int (nI cz), .ref (b + 120), .int (nI wz), .int (nI iz), .int (nI vz), .ref (b + 121), .ref (b + 122), .ref (b + 123), .ref (b + 124), .ref (b + 125), .ref (b + 126), .ref (b + 127), .ref (b + 128), .ref (b + 129), .int (nI md), .ref (b + 130), .ref (b + 131), .int (nI wh), .ref (b + 132), .ref (b + 133), .int (nI sd), .int (nI sk), .int (nI ps), .int (nI fc), .ref (b + 134), .ref (b + 135)]) hx hb hE hown hh (by omega) fM rfl rfl (show 0 < 32 by decide) rfl dX10_token_77 (fun H locs mem28 f29 k30 hh => ?_)
              have hfr31 : ∀ j, j ≠ 115 → mem28 j = mem j := fun j c0 => (k30 j (by omega)).trans (hfr j c0)
              refine lv_aload_n hx hb dX10_token_80 rfl (lv_at hl 1 rfl) ?_
              refine gf_X10_code hx hb hE hown hh (by omega) f29 rfl dX10_token_81 ?_
              refine nn_if_le (tgt := 89) hx hb dX10_token_84 (by decide) (by omega) (fun h32 => ?_) (fun h32 => ?_)
              ·
                exact absurd h32 (by decide)
              ·
                refine lv_iconst (v := (nI 0)) hx hb dX10_token_87 (by decide) ?_
                exact mm_iret hx hb hr hlocks hE hh (rfl) (⟨f29, hfr31⟩) dX10_token_88
          ·
            exact (nt_tf h26 (inR_y hd (by omega))).elim
        ·
          exact absurd h4 (by rw [e0, e1, e2, h25]; decide)
set_option maxHeartbeats 4000000 in
set_option maxRecDepth 100000 in
/-- reference: token, 3 -/
theorem m_token_3 (l : Launch) (Γ : Gm) (b M : Nat) (mem : Nat → va_E) {cd nd cz wz iz vz md wh sd sk ps fc : Nat} {v0 v1 v2 v3 : UInt32} {d : Nat} {tz : Nat → Nat}  (hM : 138 ≤ M) (fM : mem 115 = .inr (9, [.int (nI cd), .int (nI nd), .ref (b + 116), .ref (b + 117), .ref (b + 118), .ref (b + 119), .int (nI cz), .ref (b + 120), .int (nI wz), .int (nI iz), .int (nI vz), .ref (b + 121), .ref (b + 122), .ref (b + 123), .ref (b + 124), .ref (b + 125), .ref (b + 126), .ref (b + 127), .ref (b + 128), .ref (b + 129), .int (nI md), .ref (b + 130), .ref (b + 131), .int (nI wh), .ref (b + 132), .ref (b + 133), .int (nI sd), .int (nI sk), .int (nI ps), .int (nI fc), .ref (b + 134), .ref (b + 135)])) (g118 : mem 118 = aN Γ 16 tz) (hnd : nd ≤ 16) (hd : d < nd) (h4 : (okF v0 && okF v1 && okF v2 && okF v3) = true) (htd : tz d = 4) : Ct l yX10_token (.code yX10_token cX10_token 7 (some .int)) ({ frames := 1, cells := 0, slots := 0, locals := 21 } : Room) Γ b M [.ref (b + 115), .int (nI d), .float v0, .float v1, .float v2, .float v3] mem (fun u => u 115 = .inr (9, [.int (nI 3), .int (nI nd), .ref (b + 116), .ref (b + 117), .ref (b + 118), .ref (b + 119), .int (nI cz), .ref (b + 120), .int (nI wz), .int (nI iz), .int (nI vz), .ref (b + 121), .ref (b + 122), .ref (b + 123), .ref (b + 124), .ref (b + 125), .ref (b + 126), .ref (b + 127), .ref (b + 128), .ref (b + 129), .int (nI md), .ref (b + 130), .ref (b + 131), .int (nI wh), .ref (b + 132), .ref (b + 133), .int (nI sd), .int (nI sk), .int (nI ps), .int (nI fc), .ref (b + 134), .ref (b + 135)]) ∧ ∀ j, j ≠ 115 → u j = mem j) (some (.int (nI 0))) := by
  refine mm_enter (cc := cX10_token) (by decide) (Nat.le_of_ble_eq_true rfl) ?_
  intro p e s m args below meth c ls hx hb hml hown hr hlocks hname hE hh hl
  have hl : lv_has ls 7 [(0, .ref (b + 115)), (1, .int (nI d)), (2, .float v0), (3, .float v1), (4, .float v2), (5, .float v3)] := hl
  have hfr : ∀ j, j ≠ 115 → mem j = mem j := fun j _ => rfl
  have k4 : okF v0 = true ∧ okF v1 = true ∧ okF v2 = true ∧ okF v3 = true := by simpa [and_assoc] using h4
  refine lv_fload_n hx hb dX10_token_0 rfl (lv_at hl 2 rfl) ?_
  refine mm_S0r (As := [.float v0]) (rest := []) hx hb hml hown hE hl.1 hh (kc_X10_96 hE.2.1 ⟨Nat.le_of_ble_eq_true rfl, Nat.le_of_ble_eq_true rfl⟩) (c_X10_isGood l Γ b M mem (x := v0)) rfl rfl (Nat.le_of_ble_eq_true rfl) dX10_token_1 rfl rfl (fun H locs hh => ?_)
  refine nn_beq (tgt := 34) hx hb dX10_token_4 (by decide) (fun h1 => ?_) (fun h1 => ?_)
  ·
    exact (no_tf k4.1 h1).elim
  ·
    refine lv_fload_n hx hb dX10_token_7 rfl (lv_at hl 3 rfl) ?_
    refine mm_S0r (As := [.float v1]) (rest := []) hx hb hml hown hE hl.1 hh (kc_X10_96 hE.2.1 ⟨Nat.le_of_ble_eq_true rfl, Nat.le_of_ble_eq_true rfl⟩) (c_X10_isGood l Γ b M mem (x := v1)) rfl rfl (Nat.le_of_ble_eq_true rfl) dX10_token_8 rfl rfl (fun H locs hh => ?_)
    refine nn_beq (tgt := 34) hx hb dX10_token_11 (by decide) (fun h2 => ?_) (fun h2 => ?_)
    ·
      exact (no_tf k4.2.1 h2).elim
    ·
      refine lv_fload hx hb dX10_token_14 (lv_at hl 4 rfl) ?_
      refine mm_S0r (As := [.float v2]) (rest := []) hx hb hml hown hE hl.1 hh (kc_X10_96 hE.2.1 ⟨Nat.le_of_ble_eq_true rfl, Nat.le_of_ble_eq_true rfl⟩) (c_X10_isGood l Γ b M mem (x := v2)) rfl rfl (Nat.le_of_ble_eq_true rfl) dX10_token_16 rfl rfl (fun H locs hh => ?_)
      refine nn_beq (tgt := 34) hx hb dX10_token_19 (by decide) (fun h3 => ?_) (fun h3 => ?_)
      ·
        exact (no_tf k4.2.2.1 h3).elim
      ·
        refine lv_fload hx hb dX10_token_22 (lv_at hl 5 rfl) ?_
        refine mm_S0r (As := [.float v3]) (rest := []) hx hb hml hown hE hl.1 hh (kc_X10_96 hE.2.1 ⟨Nat.le_of_ble_eq_true rfl, Nat.le_of_ble_eq_true rfl⟩) (c_X10_isGood l Γ b M mem (x := v3)) rfl rfl (Nat.le_of_ble_eq_true rfl) dX10_token_24 rfl rfl (fun H locs hh => ?_)
        refine nn_beq (tgt := 34) hx hb dX10_token_27 (by decide) (fun h4 => ?_) (fun h4 => ?_)
        ·
          exact (no_tf k4.2.2.2 h4).elim
        ·
          refine lv_iconst (v := (nI 1)) hx hb dX10_token_30 (by decide) ?_
          refine lv_goto (tgt := 35) hx hb dX10_token_31 (by decide) ?_
          refine lv_istore (lv' := [(6, .int (nI 1)), (0, .ref (b + 115)), (1, .int (nI d)), (2, .float v0), (3, .float v1), (4, .float v2), (5, .float v3)]) hx hb dX10_token_35 hl (by decide) rfl (fun ls hl => ?_)
          refine lv_aload_n hx hb dX10_token_37 rfl (lv_at hl 1 rfl) ?_
          refine lv_iload_n hx hb dX10_token_38 rfl (lv_at hl 2 rfl) ?_
          refine lv_aload_n hx hb dX10_token_39 rfl (lv_at hl 1 rfl) ?_
          refine gf_X10_documents hx hb hE hown hh (by omega) fM rfl dX10_token_40 ?_
          refine mm_S0r (As := [.int (nI d), .int (nI nd)]) (rest := [.ref (b + 115)]) hx hb hml hown hE hl.1 hh (kc_X10_92 hE.2.1 ⟨Nat.le_of_ble_eq_true rfl, Nat.le_of_ble_eq_true rfl⟩) (c_X10_outside l Γ b M mem (v := (nI d)) (n := nd)) rfl rfl (Nat.le_of_ble_eq_true rfl) dX10_token_43 rfl rfl (fun H locs hh => ?_)
          refine nn_beq (tgt := 53) hx hb dX10_token_46 (by decide) (fun h5 => ?_) (fun h5 => ?_)
          ·
            refine lv_iload hx hb dX10_token_53 (lv_at hl 0 rfl) ?_
            refine nn_if_ne (tgt := 62) hx hb dX10_token_55 (by decide) (by omega) (fun h6 => ?_) (fun h6 => ?_)
            ·
              refine lv_aload_n hx hb dX10_token_62 rfl (lv_at hl 1 rfl) ?_
              refine gf_X10_tokens hx hb hE hown hh (by omega) fM rfl dX10_token_63 ?_
              refine lv_iload_n hx hb dX10_token_66 rfl (lv_at hl 2 rfl) ?_
              refine mm_iald hx hb hE hh (by omega) g118 (by omega) (by decide) dX10_token_67 ?_
              refine lv_iconst (v := (nI 4)) hx hb dX10_token_68 (by decide) ?_
              refine nn_icmp_ne (tgt := 76) hx hb dX10_token_69 (by decide) (by omega) (by omega) (fun h7 => ?_) (fun h7 => ?_)
              ·
                exact absurd htd h7
              ·
                refine lv_iconst (v := (nI 3)) hx hb dX10_token_72 (by decide) ?_
                refine lv_goto (tgt := 77) hx hb dX10_token_73 (by decide) ?_
                refine gp_X10_code (fs' := [.int (nI 3), .int (nI nd), .ref (b + 116), .ref (b + 117), .ref (b + 118), .ref (b + 119), .int (nI cz), .ref (b + 120), .int (nI wz), .int (nI iz), .int (nI vz), .ref (b + 121), .ref (b + 122), .ref (b + 123), .ref (b + 124), .ref (b + 125), .ref (b + 126), .ref (b + 127), .ref (b + 128), .ref (b + 129), .int (nI md), .ref (b + 130), .ref (b + 131), .int (nI wh), .ref (b + 132), .ref (b + 133), .int (nI sd), .int (nI sk), .int (nI ps), .int (nI fc), .ref (b + 134), .ref (b + 135)]) hx hb hE hown hh (by omega) fM rfl rfl (show 0 < 32 by decide) rfl dX10_token_77 (fun H locs mem8 f9 k10 hh => ?_)
                have hfr11 : ∀ j, j ≠ 115 → mem8 j = mem j := fun j c0 => (k10 j (by omega)).trans (hfr j c0)
                have f12 : mem8 118 = aN Γ 16 tz := (k10 _ (by omega)).trans g118
                refine lv_aload_n hx hb dX10_token_80 rfl (lv_at hl 1 rfl) ?_
                refine gf_X10_code hx hb hE hown hh (by omega) f9 rfl dX10_token_81 ?_
                refine nn_if_le (tgt := 89) hx hb dX10_token_84 (by decide) (by omega) (fun h13 => ?_) (fun h13 => ?_)
                ·
                  exact absurd h13 (by decide)
                ·
                  refine lv_iconst (v := (nI 0)) hx hb dX10_token_87 (by decide) ?_
                  exact mm_iret hx hb hr hlocks hE hh (rfl) (⟨f9, hfr11⟩) dX10_token_88
            ·
              exact absurd h6 (by decide)
          ·
            exact (nt_tf h5 (inR_y hd (by omega))).elim
set_option maxHeartbeats 4000000 in
set_option maxRecDepth 100000 in
/-- reference: token, 1 -/
theorem m_token_1 (l : Launch) (Γ : Gm) (b M : Nat) (mem : Nat → va_E) {cd nd cz wz iz vz md wh sd sk ps fc : Nat} {v0 v1 v2 v3 : UInt32} {d : Int32}  (hM : 138 ≤ M) (fM : mem 115 = .inr (9, [.int (nI cd), .int (nI nd), .ref (b + 116), .ref (b + 117), .ref (b + 118), .ref (b + 119), .int (nI cz), .ref (b + 120), .int (nI wz), .int (nI iz), .int (nI vz), .ref (b + 121), .ref (b + 122), .ref (b + 123), .ref (b + 124), .ref (b + 125), .ref (b + 126), .ref (b + 127), .ref (b + 128), .ref (b + 129), .int (nI md), .ref (b + 130), .ref (b + 131), .int (nI wh), .ref (b + 132), .ref (b + 133), .int (nI sd), .int (nI sk), .int (nI ps), .int (nI fc), .ref (b + 134), .ref (b + 135)])) (hdn : inR d nd = false) : Ct l yX10_token (.code yX10_token cX10_token 7 (some .int)) ({ frames := 1, cells := 0, slots := 0, locals := 21 } : Room) Γ b M [.ref (b + 115), .int d, .float v0, .float v1, .float v2, .float v3] mem (fun u => u 115 = .inr (9, [.int (nI 1), .int (nI nd), .ref (b + 116), .ref (b + 117), .ref (b + 118), .ref (b + 119), .int (nI cz), .ref (b + 120), .int (nI wz), .int (nI iz), .int (nI vz), .ref (b + 121), .ref (b + 122), .ref (b + 123), .ref (b + 124), .ref (b + 125), .ref (b + 126), .ref (b + 127), .ref (b + 128), .ref (b + 129), .int (nI md), .ref (b + 130), .ref (b + 131), .int (nI wh), .ref (b + 132), .ref (b + 133), .int (nI sd), .int (nI sk), .int (nI ps), .int (nI fc), .ref (b + 134), .ref (b + 135)]) ∧ ∀ j, j ≠ 115 → u j = mem j) (some (.int (nI 0))) := by
  refine mm_enter (cc := cX10_token) (by decide) (Nat.le_of_ble_eq_true rfl) ?_
  intro p e s m args below meth c ls hx hb hml hown hr hlocks hname hE hh hl
  have hl : lv_has ls 7 [(0, .ref (b + 115)), (1, .int d), (2, .float v0), (3, .float v1), (4, .float v2), (5, .float v3)] := hl
  have hfr : ∀ j, j ≠ 115 → mem j = mem j := fun j _ => rfl
  refine lv_fload_n hx hb dX10_token_0 rfl (lv_at hl 2 rfl) ?_
  refine mm_S0r (As := [.float v0]) (rest := []) hx hb hml hown hE hl.1 hh (kc_X10_96 hE.2.1 ⟨Nat.le_of_ble_eq_true rfl, Nat.le_of_ble_eq_true rfl⟩) (c_X10_isGood l Γ b M mem (x := v0)) rfl rfl (Nat.le_of_ble_eq_true rfl) dX10_token_1 rfl rfl (fun H locs hh => ?_)
  refine nn_beq (tgt := 34) hx hb dX10_token_4 (by decide) (fun h1 => ?_) (fun h1 => ?_)
  ·
    refine lv_iconst (v := (nI 0)) hx hb dX10_token_34 (by decide) ?_
    refine lv_istore (lv' := [(6, .int (nI 0)), (0, .ref (b + 115)), (1, .int d), (2, .float v0), (3, .float v1), (4, .float v2), (5, .float v3)]) hx hb dX10_token_35 hl (by decide) rfl (fun ls hl => ?_)
    refine lv_aload_n hx hb dX10_token_37 rfl (lv_at hl 1 rfl) ?_
    refine lv_iload_n hx hb dX10_token_38 rfl (lv_at hl 2 rfl) ?_
    refine lv_aload_n hx hb dX10_token_39 rfl (lv_at hl 1 rfl) ?_
    refine gf_X10_documents hx hb hE hown hh (by omega) fM rfl dX10_token_40 ?_
    refine mm_S0r (As := [.int d, .int (nI nd)]) (rest := [.ref (b + 115)]) hx hb hml hown hE hl.1 hh (kc_X10_92 hE.2.1 ⟨Nat.le_of_ble_eq_true rfl, Nat.le_of_ble_eq_true rfl⟩) (c_X10_outside l Γ b M mem (v := d) (n := nd)) rfl rfl (Nat.le_of_ble_eq_true rfl) dX10_token_43 rfl rfl (fun H locs hh => ?_)
    refine nn_beq (tgt := 53) hx hb dX10_token_46 (by decide) (fun h2 => ?_) (fun h2 => ?_)
    ·
      exact (no_tf (nf_ff h2) hdn).elim
    ·
      refine lv_iconst (v := (nI 1)) hx hb dX10_token_49 (by decide) ?_
      refine lv_goto (tgt := 77) hx hb dX10_token_50 (by decide) ?_
      refine gp_X10_code (fs' := [.int (nI 1), .int (nI nd), .ref (b + 116), .ref (b + 117), .ref (b + 118), .ref (b + 119), .int (nI cz), .ref (b + 120), .int (nI wz), .int (nI iz), .int (nI vz), .ref (b + 121), .ref (b + 122), .ref (b + 123), .ref (b + 124), .ref (b + 125), .ref (b + 126), .ref (b + 127), .ref (b + 128), .ref (b + 129), .int (nI md), .ref (b + 130), .ref (b + 131), .int (nI wh), .ref (b + 132), .ref (b + 133), .int (nI sd), .int (nI sk), .int (nI ps), .int (nI fc), .ref (b + 134), .ref (b + 135)]) hx hb hE hown hh (by omega) fM rfl rfl (show 0 < 32 by decide) rfl dX10_token_77 (fun H locs mem3 f4 k5 hh => ?_)
      have hfr6 : ∀ j, j ≠ 115 → mem3 j = mem j := fun j c0 => (k5 j (by omega)).trans (hfr j c0)
      refine lv_aload_n hx hb dX10_token_80 rfl (lv_at hl 1 rfl) ?_
      refine gf_X10_code hx hb hE hown hh (by omega) f4 rfl dX10_token_81 ?_
      refine nn_if_le (tgt := 89) hx hb dX10_token_84 (by decide) (by omega) (fun h7 => ?_) (fun h7 => ?_)
      ·
        exact absurd h7 (by decide)
      ·
        refine lv_iconst (v := (nI 0)) hx hb dX10_token_87 (by decide) ?_
        exact mm_iret hx hb hr hlocks hE hh (rfl) (⟨f4, hfr6⟩) dX10_token_88
  ·
    refine lv_fload_n hx hb dX10_token_7 rfl (lv_at hl 3 rfl) ?_
    refine mm_S0r (As := [.float v1]) (rest := []) hx hb hml hown hE hl.1 hh (kc_X10_96 hE.2.1 ⟨Nat.le_of_ble_eq_true rfl, Nat.le_of_ble_eq_true rfl⟩) (c_X10_isGood l Γ b M mem (x := v1)) rfl rfl (Nat.le_of_ble_eq_true rfl) dX10_token_8 rfl rfl (fun H locs hh => ?_)
    refine nn_beq (tgt := 34) hx hb dX10_token_11 (by decide) (fun h8 => ?_) (fun h8 => ?_)
    ·
      refine lv_iconst (v := (nI 0)) hx hb dX10_token_34 (by decide) ?_
      refine lv_istore (lv' := [(6, .int (nI 0)), (0, .ref (b + 115)), (1, .int d), (2, .float v0), (3, .float v1), (4, .float v2), (5, .float v3)]) hx hb dX10_token_35 hl (by decide) rfl (fun ls hl => ?_)
      refine lv_aload_n hx hb dX10_token_37 rfl (lv_at hl 1 rfl) ?_
      refine lv_iload_n hx hb dX10_token_38 rfl (lv_at hl 2 rfl) ?_
      refine lv_aload_n hx hb dX10_token_39 rfl (lv_at hl 1 rfl) ?_
      refine gf_X10_documents hx hb hE hown hh (by omega) fM rfl dX10_token_40 ?_
      refine mm_S0r (As := [.int d, .int (nI nd)]) (rest := [.ref (b + 115)]) hx hb hml hown hE hl.1 hh (kc_X10_92 hE.2.1 ⟨Nat.le_of_ble_eq_true rfl, Nat.le_of_ble_eq_true rfl⟩) (c_X10_outside l Γ b M mem (v := d) (n := nd)) rfl rfl (Nat.le_of_ble_eq_true rfl) dX10_token_43 rfl rfl (fun H locs hh => ?_)
      refine nn_beq (tgt := 53) hx hb dX10_token_46 (by decide) (fun h9 => ?_) (fun h9 => ?_)
      ·
        exact (no_tf (nf_ff h9) hdn).elim
      ·
        refine lv_iconst (v := (nI 1)) hx hb dX10_token_49 (by decide) ?_
        refine lv_goto (tgt := 77) hx hb dX10_token_50 (by decide) ?_
        refine gp_X10_code (fs' := [.int (nI 1), .int (nI nd), .ref (b + 116), .ref (b + 117), .ref (b + 118), .ref (b + 119), .int (nI cz), .ref (b + 120), .int (nI wz), .int (nI iz), .int (nI vz), .ref (b + 121), .ref (b + 122), .ref (b + 123), .ref (b + 124), .ref (b + 125), .ref (b + 126), .ref (b + 127), .ref (b + 128), .ref (b + 129), .int (nI md), .ref (b + 130), .ref (b + 131), .int (nI wh), .ref (b + 132), .ref (b + 133), .int (nI sd), .int (nI sk), .int (nI ps), .int (nI fc), .ref (b + 134), .ref (b + 135)]) hx hb hE hown hh (by omega) fM rfl rfl (show 0 < 32 by decide) rfl dX10_token_77 (fun H locs mem10 f11 k12 hh => ?_)
        have hfr13 : ∀ j, j ≠ 115 → mem10 j = mem j := fun j c0 => (k12 j (by omega)).trans (hfr j c0)
        refine lv_aload_n hx hb dX10_token_80 rfl (lv_at hl 1 rfl) ?_
        refine gf_X10_code hx hb hE hown hh (by omega) f11 rfl dX10_token_81 ?_
        refine nn_if_le (tgt := 89) hx hb dX10_token_84 (by decide) (by omega) (fun h14 => ?_) (fun h14 => ?_)
        ·
          exact absurd h14 (by decide)
        ·
          refine lv_iconst (v := (nI 0)) hx hb dX10_token_87 (by decide) ?_
          exact mm_iret hx hb hr hlocks hE hh (rfl) (⟨f11, hfr13⟩) dX10_token_88
    ·
      refine lv_fload hx hb dX10_token_14 (lv_at hl 4 rfl) ?_
      refine mm_S0r (As := [.float v2]) (rest := []) hx hb hml hown hE hl.1 hh (kc_X10_96 hE.2.1 ⟨Nat.le_of_ble_eq_true rfl, Nat.le_of_ble_eq_true rfl⟩) (c_X10_isGood l Γ b M mem (x := v2)) rfl rfl (Nat.le_of_ble_eq_true rfl) dX10_token_16 rfl rfl (fun H locs hh => ?_)
      refine nn_beq (tgt := 34) hx hb dX10_token_19 (by decide) (fun h15 => ?_) (fun h15 => ?_)
      ·
        refine lv_iconst (v := (nI 0)) hx hb dX10_token_34 (by decide) ?_
        refine lv_istore (lv' := [(6, .int (nI 0)), (0, .ref (b + 115)), (1, .int d), (2, .float v0), (3, .float v1), (4, .float v2), (5, .float v3)]) hx hb dX10_token_35 hl (by decide) rfl (fun ls hl => ?_)
        refine lv_aload_n hx hb dX10_token_37 rfl (lv_at hl 1 rfl) ?_
        refine lv_iload_n hx hb dX10_token_38 rfl (lv_at hl 2 rfl) ?_
        refine lv_aload_n hx hb dX10_token_39 rfl (lv_at hl 1 rfl) ?_
        refine gf_X10_documents hx hb hE hown hh (by omega) fM rfl dX10_token_40 ?_
        refine mm_S0r (As := [.int d, .int (nI nd)]) (rest := [.ref (b + 115)]) hx hb hml hown hE hl.1 hh (kc_X10_92 hE.2.1 ⟨Nat.le_of_ble_eq_true rfl, Nat.le_of_ble_eq_true rfl⟩) (c_X10_outside l Γ b M mem (v := d) (n := nd)) rfl rfl (Nat.le_of_ble_eq_true rfl) dX10_token_43 rfl rfl (fun H locs hh => ?_)
        refine nn_beq (tgt := 53) hx hb dX10_token_46 (by decide) (fun h16 => ?_) (fun h16 => ?_)
        ·
          exact (no_tf (nf_ff h16) hdn).elim
        ·
          refine lv_iconst (v := (nI 1)) hx hb dX10_token_49 (by decide) ?_
          refine lv_goto (tgt := 77) hx hb dX10_token_50 (by decide) ?_
          refine gp_X10_code (fs' := [.int (nI 1), .int (nI nd), .ref (b + 116), .ref (b + 117), .ref (b + 118), .ref (b + 119), .int (nI cz), .ref (b + 120), .int (nI wz), .int (nI iz), .int (nI vz), .ref (b + 121), .ref (b + 122), .ref (b + 123), .ref (b + 124), .ref (b + 125), .ref (b + 126), .ref (b + 127), .ref (b + 128), .ref (b + 129), .int (nI md), .ref (b + 130), .ref (b + 131), .int (nI wh), .ref (b + 132), .ref (b + 133), .int (nI sd), .int (nI sk), .int (nI ps), .int (nI fc), .ref (b + 134), .ref (b + 135)]) hx hb hE hown hh (by omega) fM rfl rfl (show 0 < 32 by decide) rfl dX10_token_77 (fun H locs mem17 f18 k19 hh => ?_)
          have hfr20 : ∀ j, j ≠ 115 → mem17 j = mem j := fun j c0 => (k19 j (by omega)).trans (hfr j c0)
          refine lv_aload_n hx hb dX10_token_80 rfl (lv_at hl 1 rfl) ?_
          refine gf_X10_code hx hb hE hown hh (by omega) f18 rfl dX10_token_81 ?_
          refine nn_if_le (tgt := 89) hx hb dX10_token_84 (by decide) (by omega) (fun h21 => ?_) (fun h21 => ?_)
          ·
            exact absurd h21 (by decide)
          ·
            refine lv_iconst (v := (nI 0)) hx hb dX10_token_87 (by decide) ?_
            exact mm_iret hx hb hr hlocks hE hh (rfl) (⟨f18, hfr20⟩) dX10_token_88
      ·
        refine lv_fload hx hb dX10_token_22 (lv_at hl 5 rfl) ?_
        refine mm_S0r (As := [.float v3]) (rest := []) hx hb hml hown hE hl.1 hh (kc_X10_96 hE.2.1 ⟨Nat.le_of_ble_eq_true rfl, Nat.le_of_ble_eq_true rfl⟩) (c_X10_isGood l Γ b M mem (x := v3)) rfl rfl (Nat.le_of_ble_eq_true rfl) dX10_token_24 rfl rfl (fun H locs hh => ?_)
        refine nn_beq (tgt := 34) hx hb dX10_token_27 (by decide) (fun h22 => ?_) (fun h22 => ?_)
        ·
          refine lv_iconst (v := (nI 0)) hx hb dX10_token_34 (by decide) ?_
          refine lv_istore (lv' := [(6, .int (nI 0)), (0, .ref (b + 115)), (1, .int d), (2, .float v0), (3, .float v1), (4, .float v2), (5, .float v3)]) hx hb dX10_token_35 hl (by decide) rfl (fun ls hl => ?_)
          refine lv_aload_n hx hb dX10_token_37 rfl (lv_at hl 1 rfl) ?_
          refine lv_iload_n hx hb dX10_token_38 rfl (lv_at hl 2 rfl) ?_
          refine lv_aload_n hx hb dX10_token_39 rfl (lv_at hl 1 rfl) ?_
          refine gf_X10_documents hx hb hE hown hh (by omega) fM rfl dX10_token_40 ?_
          refine mm_S0r (As := [.int d, .int (nI nd)]) (rest := [.ref (b + 115)]) hx hb hml hown hE hl.1 hh (kc_X10_92 hE.2.1 ⟨Nat.le_of_ble_eq_true rfl, Nat.le_of_ble_eq_true rfl⟩) (c_X10_outside l Γ b M mem (v := d) (n := nd)) rfl rfl (Nat.le_of_ble_eq_true rfl) dX10_token_43 rfl rfl (fun H locs hh => ?_)
          refine nn_beq (tgt := 53) hx hb dX10_token_46 (by decide) (fun h23 => ?_) (fun h23 => ?_)
          ·
            exact (no_tf (nf_ff h23) hdn).elim
          ·
            refine lv_iconst (v := (nI 1)) hx hb dX10_token_49 (by decide) ?_
            refine lv_goto (tgt := 77) hx hb dX10_token_50 (by decide) ?_
            refine gp_X10_code (fs' := [.int (nI 1), .int (nI nd), .ref (b + 116), .ref (b + 117), .ref (b + 118), .ref (b + 119), .int (nI cz), .ref (b + 120), .int (nI wz), .int (nI iz), .int (nI vz), .ref (b + 121), .ref (b + 122), .ref (b + 123), .ref (b + 124), .ref (b + 125), .ref (b + 126), .ref (b + 127), .ref (b + 128), .ref (b + 129), .int (nI md), .ref (b + 130), .ref (b + 131), .int (nI wh), .ref (b + 132), .ref (b + 133), .int (nI sd), .int (nI sk), .int (nI ps), .int (nI fc), .ref (b + 134), .ref (b + 135)]) hx hb hE hown hh (by omega) fM rfl rfl (show 0 < 32 by decide) rfl dX10_token_77 (fun H locs mem24 f25 k26 hh => ?_)
            have hfr27 : ∀ j, j ≠ 115 → mem24 j = mem j := fun j c0 => (k26 j (by omega)).trans (hfr j c0)
            refine lv_aload_n hx hb dX10_token_80 rfl (lv_at hl 1 rfl) ?_
            refine gf_X10_code hx hb hE hown hh (by omega) f25 rfl dX10_token_81 ?_
            refine nn_if_le (tgt := 89) hx hb dX10_token_84 (by decide) (by omega) (fun h28 => ?_) (fun h28 => ?_)
            ·
              exact absurd h28 (by decide)
            ·
              refine lv_iconst (v := (nI 0)) hx hb dX10_token_87 (by decide) ?_
              exact mm_iret hx hb hr hlocks hE hh (rfl) (⟨f25, hfr27⟩) dX10_token_88
        ·
          refine lv_iconst (v := (nI 1)) hx hb dX10_token_30 (by decide) ?_
          refine lv_goto (tgt := 35) hx hb dX10_token_31 (by decide) ?_
          refine lv_istore (lv' := [(6, .int (nI 1)), (0, .ref (b + 115)), (1, .int d), (2, .float v0), (3, .float v1), (4, .float v2), (5, .float v3)]) hx hb dX10_token_35 hl (by decide) rfl (fun ls hl => ?_)
          refine lv_aload_n hx hb dX10_token_37 rfl (lv_at hl 1 rfl) ?_
          refine lv_iload_n hx hb dX10_token_38 rfl (lv_at hl 2 rfl) ?_
          refine lv_aload_n hx hb dX10_token_39 rfl (lv_at hl 1 rfl) ?_
          refine gf_X10_documents hx hb hE hown hh (by omega) fM rfl dX10_token_40 ?_
          refine mm_S0r (As := [.int d, .int (nI nd)]) (rest := [.ref (b + 115)]) hx hb hml hown hE hl.1 hh (kc_X10_92 hE.2.1 ⟨Nat.le_of_ble_eq_true rfl, Nat.le_of_ble_eq_true rfl⟩) (c_X10_outside l Γ b M mem (v := d) (n := nd)) rfl rfl (Nat.le_of_ble_eq_true rfl) dX10_token_43 rfl rfl (fun H locs hh => ?_)
          refine nn_beq (tgt := 53) hx hb dX10_token_46 (by decide) (fun h29 => ?_) (fun h29 => ?_)
          ·
            exact (no_tf (nf_ff h29) hdn).elim
          ·
            refine lv_iconst (v := (nI 1)) hx hb dX10_token_49 (by decide) ?_
            refine lv_goto (tgt := 77) hx hb dX10_token_50 (by decide) ?_
            refine gp_X10_code (fs' := [.int (nI 1), .int (nI nd), .ref (b + 116), .ref (b + 117), .ref (b + 118), .ref (b + 119), .int (nI cz), .ref (b + 120), .int (nI wz), .int (nI iz), .int (nI vz), .ref (b + 121), .ref (b + 122), .ref (b + 123), .ref (b + 124), .ref (b + 125), .ref (b + 126), .ref (b + 127), .ref (b + 128), .ref (b + 129), .int (nI md), .ref (b + 130), .ref (b + 131), .int (nI wh), .ref (b + 132), .ref (b + 133), .int (nI sd), .int (nI sk), .int (nI ps), .int (nI fc), .ref (b + 134), .ref (b + 135)]) hx hb hE hown hh (by omega) fM rfl rfl (show 0 < 32 by decide) rfl dX10_token_77 (fun H locs mem30 f31 k32 hh => ?_)
            have hfr33 : ∀ j, j ≠ 115 → mem30 j = mem j := fun j c0 => (k32 j (by omega)).trans (hfr j c0)
            refine lv_aload_n hx hb dX10_token_80 rfl (lv_at hl 1 rfl) ?_
            refine gf_X10_code hx hb hE hown hh (by omega) f31 rfl dX10_token_81 ?_
            refine nn_if_le (tgt := 89) hx hb dX10_token_84 (by decide) (by omega) (fun h34 => ?_) (fun h34 => ?_)
            ·
              exact absurd h34 (by decide)
            ·
              refine lv_iconst (v := (nI 0)) hx hb dX10_token_87 (by decide) ?_
              exact mm_iret hx hb hr hlocks hE hh (rfl) (⟨f31, hfr33⟩) dX10_token_88
set_option maxHeartbeats 4000000 in
set_option maxRecDepth 100000 in
/-- reference: clear -/
theorem m_clear (l : Launch) (Γ : Gm) (b M : Nat) (mem : Nat → va_E) {cd nd cz wz iz vz md wh sd sk ps fc : Nat} {mh : Nat → Bool}  (hM : 138 ≤ M) (fM : mem 115 = .inr (9, [.int (nI cd), .int (nI nd), .ref (b + 116), .ref (b + 117), .ref (b + 118), .ref (b + 119), .int (nI cz), .ref (b + 120), .int (nI wz), .int (nI iz), .int (nI vz), .ref (b + 121), .ref (b + 122), .ref (b + 123), .ref (b + 124), .ref (b + 125), .ref (b + 126), .ref (b + 127), .ref (b + 128), .ref (b + 129), .int (nI md), .ref (b + 130), .ref (b + 131), .int (nI wh), .ref (b + 132), .ref (b + 133), .int (nI sd), .int (nI sk), .int (nI ps), .int (nI fc), .ref (b + 134), .ref (b + 135)])) (g125 : mem 125 = aB Γ 3 mh) : Ct l yX10_clear (.code yX10_clear cX10_clear 1 none) ({ frames := 2, cells := 0, slots := 0, locals := 42 } : Room) Γ b M [.ref (b + 115)] mem (fun u => u 115 = .inr (9, [.int (nI 0), .int (nI nd), .ref (b + 116), .ref (b + 117), .ref (b + 118), .ref (b + 119), .int (nI cz), .ref (b + 120), .int (nI 0), .int (nI 0), .int (nI 0), .ref (b + 121), .ref (b + 122), .ref (b + 123), .ref (b + 124), .ref (b + 125), .ref (b + 126), .ref (b + 127), .ref (b + 128), .ref (b + 129), .int (nI md), .ref (b + 130), .ref (b + 131), .int (nI wh), .ref (b + 132), .ref (b + 133), .int (nI sd), .int (nI sk), .int (nI ps), .int (nI 0), .ref (b + 134), .ref (b + 135)]) ∧ u 125 = aB Γ 3 (zrR mh 3) ∧ ∀ j, j ≠ 115 → j ≠ 125 → u j = mem j) none := by
  refine mm_enter (cc := cX10_clear) (by decide) (Nat.le_of_ble_eq_true rfl) ?_
  intro p e s m args below meth c ls hx hb hml hown hr hlocks hname hE hh hl
  have hl : lv_has ls 1 [(0, .ref (b + 115))] := hl
  have hfr : ∀ j, j ≠ 115 → j ≠ 125 → mem j = mem j := fun j _ _ => rfl
  refine lv_aload_n hx hb dX10_clear_0 rfl (lv_at hl 0 rfl) ?_
  refine lv_iconst (v := (nI 0)) hx hb dX10_clear_1 (by decide) ?_
  refine gp_X10_code (fs' := [.int (nI 0), .int (nI nd), .ref (b + 116), .ref (b + 117), .ref (b + 118), .ref (b + 119), .int (nI cz), .ref (b + 120), .int (nI wz), .int (nI iz), .int (nI vz), .ref (b + 121), .ref (b + 122), .ref (b + 123), .ref (b + 124), .ref (b + 125), .ref (b + 126), .ref (b + 127), .ref (b + 128), .ref (b + 129), .int (nI md), .ref (b + 130), .ref (b + 131), .int (nI wh), .ref (b + 132), .ref (b + 133), .int (nI sd), .int (nI sk), .int (nI ps), .int (nI fc), .ref (b + 134), .ref (b + 135)]) hx hb hE hown hh (by omega) fM rfl rfl (show 0 < 32 by decide) rfl dX10_clear_2 (fun H locs mem1 f2 k3 hh => ?_)
  have hfr4 : ∀ j, j ≠ 115 → j ≠ 125 → mem1 j = mem j := fun j c0 c1 => (k3 j (by omega)).trans (hfr j c0 c1)
  have f5 : mem1 125 = aB Γ 3 mh := (k3 _ (by omega)).trans g125
  refine lv_aload_n hx hb dX10_clear_5 rfl (lv_at hl 0 rfl) ?_
  refine lv_iconst (v := (nI 0)) hx hb dX10_clear_6 (by decide) ?_
  refine gp_X10_words (fs' := [.int (nI 0), .int (nI nd), .ref (b + 116), .ref (b + 117), .ref (b + 118), .ref (b + 119), .int (nI cz), .ref (b + 120), .int (nI 0), .int (nI iz), .int (nI vz), .ref (b + 121), .ref (b + 122), .ref (b + 123), .ref (b + 124), .ref (b + 125), .ref (b + 126), .ref (b + 127), .ref (b + 128), .ref (b + 129), .int (nI md), .ref (b + 130), .ref (b + 131), .int (nI wh), .ref (b + 132), .ref (b + 133), .int (nI sd), .int (nI sk), .int (nI ps), .int (nI fc), .ref (b + 134), .ref (b + 135)]) hx hb hE hown hh (by omega) f2 rfl rfl (show 8 < 32 by decide) rfl dX10_clear_7 (fun H locs mem6 f7 k8 hh => ?_)
  have hfr9 : ∀ j, j ≠ 115 → j ≠ 125 → mem6 j = mem j := fun j c0 c1 => (k8 j (by omega)).trans (hfr4 j c0 c1)
  have f10 : mem6 125 = aB Γ 3 mh := (k8 _ (by omega)).trans f5
  refine lv_aload_n hx hb dX10_clear_10 rfl (lv_at hl 0 rfl) ?_
  refine lv_iconst (v := (nI 0)) hx hb dX10_clear_11 (by decide) ?_
  refine gp_X10_impacts (fs' := [.int (nI 0), .int (nI nd), .ref (b + 116), .ref (b + 117), .ref (b + 118), .ref (b + 119), .int (nI cz), .ref (b + 120), .int (nI 0), .int (nI 0), .int (nI vz), .ref (b + 121), .ref (b + 122), .ref (b + 123), .ref (b + 124), .ref (b + 125), .ref (b + 126), .ref (b + 127), .ref (b + 128), .ref (b + 129), .int (nI md), .ref (b + 130), .ref (b + 131), .int (nI wh), .ref (b + 132), .ref (b + 133), .int (nI sd), .int (nI sk), .int (nI ps), .int (nI fc), .ref (b + 134), .ref (b + 135)]) hx hb hE hown hh (by omega) f7 rfl rfl (show 9 < 32 by decide) rfl dX10_clear_12 (fun H locs mem11 f12 k13 hh => ?_)
  have hfr14 : ∀ j, j ≠ 115 → j ≠ 125 → mem11 j = mem j := fun j c0 c1 => (k13 j (by omega)).trans (hfr9 j c0 c1)
  have f15 : mem11 125 = aB Γ 3 mh := (k13 _ (by omega)).trans f10
  refine lv_aload_n hx hb dX10_clear_15 rfl (lv_at hl 0 rfl) ?_
  refine lv_iconst (v := (nI 0)) hx hb dX10_clear_16 (by decide) ?_
  refine gp_X10_vectors (fs' := [.int (nI 0), .int (nI nd), .ref (b + 116), .ref (b + 117), .ref (b + 118), .ref (b + 119), .int (nI cz), .ref (b + 120), .int (nI 0), .int (nI 0), .int (nI 0), .ref (b + 121), .ref (b + 122), .ref (b + 123), .ref (b + 124), .ref (b + 125), .ref (b + 126), .ref (b + 127), .ref (b + 128), .ref (b + 129), .int (nI md), .ref (b + 130), .ref (b + 131), .int (nI wh), .ref (b + 132), .ref (b + 133), .int (nI sd), .int (nI sk), .int (nI ps), .int (nI fc), .ref (b + 134), .ref (b + 135)]) hx hb hE hown hh (by omega) f12 rfl rfl (show 10 < 32 by decide) rfl dX10_clear_17 (fun H locs mem16 f17 k18 hh => ?_)
  have hfr19 : ∀ j, j ≠ 115 → j ≠ 125 → mem16 j = mem j := fun j c0 c1 => (k18 j (by omega)).trans (hfr14 j c0 c1)
  have f20 : mem16 125 = aB Γ 3 mh := (k18 _ (by omega)).trans f15
  refine lv_aload_n hx hb dX10_clear_20 rfl (lv_at hl 0 rfl) ?_
  refine mm_V0 (As := []) (rest := []) hx hb hml hown hE hl.1 hh (kc_X10_89 hE.2.1 ⟨Nat.le_of_ble_eq_true rfl, Nat.le_of_ble_eq_true rfl⟩) (c_X10_loseAll l Γ b M mem16 (cd := 0) (nd := nd) (cz := cz) (wz := 0) (iz := 0) (vz := 0) (md := md) (wh := wh) (sd := sd) (sk := sk) (ps := ps) (fc := fc) (mh := mh) (by omega) f17 f20) rfl (by omega) f17 rfl rfl (Nat.le_of_ble_eq_true rfl) dX10_clear_21 rfl rfl (fun H locs mem21 hP22 hh => ?_)
  obtain ⟨f23, f24, k25⟩ := hP22
  have hfr26 : ∀ j, j ≠ 115 → j ≠ 125 → mem21 j = mem j := fun j c0 c1 => (k25 j (by omega) (by omega)).trans (hfr19 j c0 c1)
  exact mm_vret hx hb hr hlocks hE hh (⟨f23, f24, hfr26⟩) dX10_clear_24
theorem hasT_s {f : Nat → Int32} {t : Int32} {n : Nat} (h : hasT f t n = true) : hasT f t (n + 1) = true := by unfold hasT; rw [h]; rfl
set_option maxHeartbeats 4000000 in
set_option maxRecDepth 100000 in
/-- reference: isThere -/
theorem c_X10_isThere (l : Launch) (Γ : Gm) (b M : Nat) (mem : Nat → va_E) {a n : Nat} {v : Int32} {tm : Nat → Nat} (hM : a < M) (fa : mem a = aN Γ 4 tm) (hn4 : n ≤ 4) : Ct l yX10_isThere (.code yX10_isThere cX10_isThere 5 (some .boolean)) ({ frames := 0, cells := 0, slots := 0, locals := 0 } : Room) Γ b M [.ref (b + a), .int (nI n), .int v] mem (fun u => u = mem) (some (.int (bI (hasT (fun i => nI (tm i)) v n)))) := by
  refine mm_enter (cc := cX10_isThere) (by decide) (Nat.le_of_ble_eq_true rfl) ?_
  intro p e s m args below meth c ls hx hb hml hown hr hlocks hname hE hh hl
  have hl : lv_has ls 5 [(0, .ref (b + a)), (1, .int (nI n)), (2, .int v)] := hl
  refine lv_iconst (v := (nI 0)) hx hb dX10_isThere_0 (by decide) ?_
  refine lv_istore_n (lv' := [(3, .int (nI 0)), (0, .ref (b + a)), (1, .int (nI n)), (2, .int v)]) hx hb dX10_isThere_1 rfl hl (by decide) rfl (fun ls hl => ?_)
  refine lv_iconst (v := (nI 0)) hx hb dX10_isThere_2 (by decide) ?_
  refine lv_istore (lv' := [(4, .int (nI 0)), (3, .int (nI 0)), (0, .ref (b + a)), (1, .int (nI n)), (2, .int v)]) hx hb dX10_isThere_3 hl (by decide) rfl (fun ls hl => ?_)
  have loop5 : ∀ (n9 : Nat) (k : Nat), (n - k) < n9 → (k ≤ n) → ∀ (H : Heap) (locs : List Loc), GH Γ b M mem s H locs → ∀ (ls : Array Slot), lv_has ls 5 [(4, .int (nI k)), (3, .int (bI (hasT (fun i => nI (tm i)) v k))), (0, .ref (b + a)), (1, .int (nI n)), (2, .int v)] → W p l e ({ frames := 0, cells := 0, slots := 0, locals := 0 } : Room) s m args below meth c H locs 0 0 (MQ below (QC Γ b M (fun u => u = mem) (some (.int (bI (hasT (fun i => nI (tm i)) v n))))) args s 0 0 (fun q => b ≤ q)) (F0 m 5 ls []) := by
    intro n9
    induction n9 with
    | zero => intro k hn; exact absurd hn (Nat.not_lt_zero _)
    | succ n9 ih =>
      intro k hn hk H locs hh ls hl
      have ih1 := ih
      refine lv_iload hx hb dX10_isThere_5 (lv_at hl 0 rfl) ?_
      refine lv_iload_n hx hb dX10_isThere_7 rfl (lv_at hl 3 rfl) ?_
      refine nn_icmp_ge (tgt := 35) hx hb dX10_isThere_8 (by decide) (by omega) (by omega) (fun h2 => ?_) (fun h2 => ?_)
      ·
        obtain rfl : k = n := by omega
        refine lv_iload_n hx hb dX10_isThere_35 rfl (lv_at hl 1 rfl) ?_
        exact mm_zret hx hb hr hlocks hE hh (rfl) (rfl) (bI_nar _) dX10_isThere_36
      ·
        refine lv_iload_n hx hb dX10_isThere_11 rfl (lv_at hl 1 rfl) ?_
        refine nn_bne (tgt := 23) hx hb dX10_isThere_12 (by decide) (fun h3 => ?_) (fun h3 => ?_)
        ·
          have hq := hasT_s h3
          refine lv_iconst (v := (nI 1)) hx hb dX10_isThere_23 (by decide) ?_
          refine lv_goto (tgt := 28) hx hb dX10_isThere_24 (by decide) ?_
          refine lv_istore_n (lv' := [(3, .int (nI 1)), (4, .int (nI k)), (0, .ref (b + a)), (1, .int (nI n)), (2, .int v)]) hx hb dX10_isThere_28 rfl hl (by decide) rfl (fun ls hl => ?_)
          refine nn_iinc (x := k) (d := 1) (lv' := [(4, .int (nI (k + 1))), (3, .int (nI 1)), (0, .ref (b + a)), (1, .int (nI n)), (2, .int v)]) hx hb dX10_isThere_29 hl (k := 1) rfl (by decide) (by decide) rfl (fun ls hl => ?_)
          refine lv_goto (tgt := 5) hx hb dX10_isThere_32 (by decide) ?_
          exact ih1 (k + 1) (by omega) (by omega) _ _ hh ls (lv_sub hl [0, 1, 2, 3, 4] (by rw [hq]; rfl))
        ·
          have g1 := h3
          refine lv_aload_n hx hb dX10_isThere_15 rfl (lv_at hl 2 rfl) ?_
          refine lv_iload hx hb dX10_isThere_16 (lv_at hl 0 rfl) ?_
          refine mm_iald hx hb hE hh (by omega) fa (by omega) (by decide) dX10_isThere_18 ?_
          refine lv_iload_n hx hb dX10_isThere_19 rfl (lv_at hl 4 rfl) ?_
          refine lv_icmp_ne (tgt := 27) hx hb dX10_isThere_20 (by decide) (fun h4 => ?_) (fun h4 => ?_)
          ·
            have hq := hasT_no g1 h4
            refine lv_iconst (v := (nI 0)) hx hb dX10_isThere_27 (by decide) ?_
            refine lv_istore_n (lv' := [(3, .int (nI 0)), (4, .int (nI k)), (0, .ref (b + a)), (1, .int (nI n)), (2, .int v)]) hx hb dX10_isThere_28 rfl hl (by decide) rfl (fun ls hl => ?_)
            refine nn_iinc (x := k) (d := 1) (lv' := [(4, .int (nI (k + 1))), (3, .int (nI 0)), (0, .ref (b + a)), (1, .int (nI n)), (2, .int v)]) hx hb dX10_isThere_29 hl (k := 1) rfl (by decide) (by decide) rfl (fun ls hl => ?_)
            refine lv_goto (tgt := 5) hx hb dX10_isThere_32 (by decide) ?_
            exact ih1 (k + 1) (by omega) (by omega) _ _ hh ls (lv_sub hl [0, 1, 2, 3, 4] (by rw [hq]; rfl))
          ·
            have hq : (hasT (fun i => nI (tm i)) v (k + 1)) = true := hasT_yes (Nat.lt_succ_self k) h4
            refine lv_iconst (v := (nI 1)) hx hb dX10_isThere_23 (by decide) ?_
            refine lv_goto (tgt := 28) hx hb dX10_isThere_24 (by decide) ?_
            refine lv_istore_n (lv' := [(3, .int (nI 1)), (4, .int (nI k)), (0, .ref (b + a)), (1, .int (nI n)), (2, .int v)]) hx hb dX10_isThere_28 rfl hl (by decide) rfl (fun ls hl => ?_)
            refine nn_iinc (x := k) (d := 1) (lv' := [(4, .int (nI (k + 1))), (3, .int (nI 1)), (0, .ref (b + a)), (1, .int (nI n)), (2, .int v)]) hx hb dX10_isThere_29 hl (k := 1) rfl (by decide) (by decide) rfl (fun ls hl => ?_)
            refine lv_goto (tgt := 5) hx hb dX10_isThere_32 (by decide) ?_
            exact ih1 (k + 1) (by omega) (by omega) _ _ hh ls (lv_sub hl [0, 1, 2, 3, 4] (by rw [hq]; rfl))
  exact loop5 ((n - 0) + 1) 0 (by omega) (by omega) _ _ hh ls (lv_sub hl [0, 1, 2, 3, 4] rfl)
set_option maxHeartbeats 4000000 in
set_option maxRecDepth 100000 in
/-- reference: word -/
theorem m_word (l : Launch) (Γ : Gm) (b M : Nat) (mem : Nat → va_E) {cd nd cz wz iz vz md wh sd sk ps fc : Nat} {mh : Nat → Bool} {t : Nat} {wm : Nat → Nat}  (hM : 138 ≤ M) (fM : mem 115 = .inr (9, [.int (nI cd), .int (nI nd), .ref (b + 116), .ref (b + 117), .ref (b + 118), .ref (b + 119), .int (nI cz), .ref (b + 120), .int (nI wz), .int (nI iz), .int (nI vz), .ref (b + 121), .ref (b + 122), .ref (b + 123), .ref (b + 124), .ref (b + 125), .ref (b + 126), .ref (b + 127), .ref (b + 128), .ref (b + 129), .int (nI md), .ref (b + 130), .ref (b + 131), .int (nI wh), .ref (b + 132), .ref (b + 133), .int (nI sd), .int (nI sk), .int (nI ps), .int (nI fc), .ref (b + 134), .ref (b + 135)])) (g125 : mem 125 = aB Γ 3 mh) (g121 : mem 121 = aN Γ 4 wm) (ht : t < 12) (hwz : wz < 4) (hno : hasT (fun i => nI (wm i)) (nI t) wz = false) : Ct l yX10_word (.code yX10_word cX10_word 2 (some .int)) ({ frames := 1, cells := 0, slots := 0, locals := 24 } : Room) Γ b M [.ref (b + 115), .int (nI t)] mem (fun u => u 115 = .inr (9, [.int (nI 0), .int (nI nd), .ref (b + 116), .ref (b + 117), .ref (b + 118), .ref (b + 119), .int (nI cz), .ref (b + 120), .int (nI (wz + 1)), .int (nI iz), .int (nI vz), .ref (b + 121), .ref (b + 122), .ref (b + 123), .ref (b + 124), .ref (b + 125), .ref (b + 126), .ref (b + 127), .ref (b + 128), .ref (b + 129), .int (nI md), .ref (b + 130), .ref (b + 131), .int (nI wh), .ref (b + 132), .ref (b + 133), .int (nI sd), .int (nI sk), .int (nI ps), .int (nI 0), .ref (b + 134), .ref (b + 135)]) ∧ u 121 = aN Γ 4 (va_up wm wz t) ∧ u 125 = aB Γ 3 (va_up mh 0 false) ∧ ∀ j, j ≠ 115 → j ≠ 121 → j ≠ 125 → u j = mem j) (some (.int (nI (wz + 1)))) := by
  refine mm_enter (cc := cX10_word) (by decide) (Nat.le_of_ble_eq_true rfl) ?_
  intro p e s m args below meth c ls hx hb hml hown hr hlocks hname hE hh hl
  have hl : lv_has ls 2 [(0, .ref (b + 115)), (1, .int (nI t))] := hl
  have hfr : ∀ j, j ≠ 115 → j ≠ 121 → j ≠ 125 → mem j = mem j := fun j _ _ _ => rfl
  refine lv_aload_n hx hb dX10_word_0 rfl (lv_at hl 0 rfl) ?_
  refine lv_iload_n hx hb dX10_word_1 rfl (lv_at hl 1 rfl) ?_
  refine lv_bipush (v := (nI 12)) hx hb dX10_word_2 (by decide) ?_
  refine mm_S0r (As := [.int (nI t), .int (nI 12)]) (rest := [.ref (b + 115)]) hx hb hml hown hE hl.1 hh (kc_X10_92 hE.2.1 ⟨Nat.le_of_ble_eq_true rfl, Nat.le_of_ble_eq_true rfl⟩) (c_X10_outside l Γ b M mem (v := (nI t)) (n := 12)) rfl rfl (Nat.le_of_ble_eq_true rfl) dX10_word_4 rfl rfl (fun H locs hh => ?_)
  refine nn_beq (tgt := 14) hx hb dX10_word_7 (by decide) (fun h1 => ?_) (fun h1 => ?_)
  ·
    refine lv_aload_n hx hb dX10_word_14 rfl (lv_at hl 0 rfl) ?_
    refine gf_X10_word hx hb hE hown hh (by omega) fM rfl dX10_word_15 ?_
    refine lv_aload_n hx hb dX10_word_18 rfl (lv_at hl 0 rfl) ?_
    refine gf_X10_words hx hb hE hown hh (by omega) fM rfl dX10_word_19 ?_
    refine lv_iload_n hx hb dX10_word_22 rfl (lv_at hl 1 rfl) ?_
    refine mm_S0r (As := [.ref (b + 121), .int (nI wz), .int (nI t)]) (rest := [.ref (b + 115)]) hx hb hml hown hE hl.1 hh (kc_X10_116 hE.2.1 ⟨Nat.le_of_ble_eq_true rfl, Nat.le_of_ble_eq_true rfl⟩) (c_X10_isThere l Γ b M mem (a := 121) (n := wz) (v := (nI t)) (tm := wm) (by omega) g121 (by omega)) rfl rfl (Nat.le_of_ble_eq_true rfl) dX10_word_23 rfl rfl (fun H locs hh => ?_)
    refine nn_beq (tgt := 33) hx hb dX10_word_26 (by decide) (fun h2 => ?_) (fun h2 => ?_)
    ·
      refine lv_aload_n hx hb dX10_word_33 rfl (lv_at hl 0 rfl) ?_
      refine gf_X10_words hx hb hE hown hh (by omega) fM rfl dX10_word_34 ?_
      refine lv_iconst (v := (nI 4)) hx hb dX10_word_37 (by decide) ?_
      refine nn_icmp_ne (tgt := 45) hx hb dX10_word_38 (by decide) (by omega) (by omega) (fun h3 => ?_) (fun h3 => ?_)
      ·
        refine lv_iconst (v := (nI 0)) hx hb dX10_word_45 (by decide) ?_
        refine gp_X10_code (fs' := [.int (nI 0), .int (nI nd), .ref (b + 116), .ref (b + 117), .ref (b + 118), .ref (b + 119), .int (nI cz), .ref (b + 120), .int (nI wz), .int (nI iz), .int (nI vz), .ref (b + 121), .ref (b + 122), .ref (b + 123), .ref (b + 124), .ref (b + 125), .ref (b + 126), .ref (b + 127), .ref (b + 128), .ref (b + 129), .int (nI md), .ref (b + 130), .ref (b + 131), .int (nI wh), .ref (b + 132), .ref (b + 133), .int (nI sd), .int (nI sk), .int (nI ps), .int (nI fc), .ref (b + 134), .ref (b + 135)]) hx hb hE hown hh (by omega) fM rfl rfl (show 0 < 32 by decide) rfl dX10_word_46 (fun H locs mem4 f5 k6 hh => ?_)
        have hfr7 : ∀ j, j ≠ 115 → j ≠ 121 → j ≠ 125 → mem4 j = mem j := fun j c0 c1 c2 => (k6 j (by omega)).trans (hfr j c0 c1 c2)
        have f8 : mem4 125 = aB Γ 3 mh := (k6 _ (by omega)).trans g125
        have f9 : mem4 121 = aN Γ 4 wm := (k6 _ (by omega)).trans g121
        refine lv_aload_n hx hb dX10_word_49 rfl (lv_at hl 0 rfl) ?_
        refine gf_X10_code hx hb hE hown hh (by omega) f5 rfl dX10_word_50 ?_
        refine nn_if_le (tgt := 58) hx hb dX10_word_53 (by decide) (by omega) (fun h10 => ?_) (fun h10 => ?_)
        ·
          refine lv_aload_n hx hb dX10_word_58 rfl (lv_at hl 0 rfl) ?_
          refine gf_X10_word hx hb hE hown hh (by omega) f5 rfl dX10_word_59 ?_
          refine lv_aload_n hx hb dX10_word_62 rfl (lv_at hl 0 rfl) ?_
          refine gf_X10_words hx hb hE hown hh (by omega) f5 rfl dX10_word_63 ?_
          refine lv_iload_n hx hb dX10_word_66 rfl (lv_at hl 1 rfl) ?_
          refine mm_iast hx hb hE hh (by omega) f9 (by omega) (by decide) dX10_word_67 (fun H locs mem11 f12 k13 hh => ?_)
          rw [va_up_nI] at f12
          have hfr14 : ∀ j, j ≠ 115 → j ≠ 121 → j ≠ 125 → mem11 j = mem j := fun j c0 c1 c2 => (k13 j (by omega)).trans (hfr7 j c0 c1 c2)
          have f15 : mem11 115 = .inr (9, [.int (nI 0), .int (nI nd), .ref (b + 116), .ref (b + 117), .ref (b + 118), .ref (b + 119), .int (nI cz), .ref (b + 120), .int (nI wz), .int (nI iz), .int (nI vz), .ref (b + 121), .ref (b + 122), .ref (b + 123), .ref (b + 124), .ref (b + 125), .ref (b + 126), .ref (b + 127), .ref (b + 128), .ref (b + 129), .int (nI md), .ref (b + 130), .ref (b + 131), .int (nI wh), .ref (b + 132), .ref (b + 133), .int (nI sd), .int (nI sk), .int (nI ps), .int (nI fc), .ref (b + 134), .ref (b + 135)]) := (k13 _ (by omega)).trans f5
          have f16 : mem11 125 = aB Γ 3 mh := (k13 _ (by omega)).trans f8
          refine lv_aload_n hx hb dX10_word_68 rfl (lv_at hl 0 rfl) ?_
          refine lv_dup hx hb dX10_word_69 rfl ?_
          refine gf_X10_words hx hb hE hown hh (by omega) f15 rfl dX10_word_70 ?_
          refine lv_iconst (v := (nI 1)) hx hb dX10_word_73 (by decide) ?_
          refine nn_iadd hx hb dX10_word_74 ?_
          refine gp_X10_words (fs' := [.int (nI 0), .int (nI nd), .ref (b + 116), .ref (b + 117), .ref (b + 118), .ref (b + 119), .int (nI cz), .ref (b + 120), .int (nI (wz + 1)), .int (nI iz), .int (nI vz), .ref (b + 121), .ref (b + 122), .ref (b + 123), .ref (b + 124), .ref (b + 125), .ref (b + 126), .ref (b + 127), .ref (b + 128), .ref (b + 129), .int (nI md), .ref (b + 130), .ref (b + 131), .int (nI wh), .ref (b + 132), .ref (b + 133), .int (nI sd), .int (nI sk), .int (nI ps), .int (nI fc), .ref (b + 134), .ref (b + 135)]) hx hb hE hown hh (by omega) f15 rfl rfl (show 8 < 32 by decide) rfl dX10_word_75 (fun H locs mem17 f18 k19 hh => ?_)
          have hfr20 : ∀ j, j ≠ 115 → j ≠ 121 → j ≠ 125 → mem17 j = mem j := fun j c0 c1 c2 => (k19 j (by omega)).trans (hfr14 j c0 c1 c2)
          have f21 : mem17 125 = aB Γ 3 mh := (k19 _ (by omega)).trans f16
          have f22 : mem17 121 = aN Γ 4 (va_up wm wz t) := (k19 _ (by omega)).trans f12
          refine lv_aload_n hx hb dX10_word_78 rfl (lv_at hl 0 rfl) ?_
          refine lv_iconst (v := (nI 0)) hx hb dX10_word_79 (by decide) ?_
          refine mm_V0 (As := [.int (nI 0)]) (rest := []) hx hb hml hown hE hl.1 hh (kc_X10_82 hE.2.1 ⟨Nat.le_of_ble_eq_true rfl, Nat.le_of_ble_eq_true rfl⟩) (c_X10_lose l Γ b M mem17 (cd := 0) (nd := nd) (cz := cz) (wz := wz + 1) (iz := iz) (vz := vz) (md := md) (wh := wh) (sd := sd) (sk := sk) (ps := ps) (fc := fc) (v := 0) (mh := mh) (by omega) f18 f21 (by omega)) rfl (by omega) f18 rfl rfl (Nat.le_of_ble_eq_true rfl) dX10_word_80 rfl rfl (fun H locs mem23 hP24 hh => ?_)
          obtain ⟨f25, f26, k27⟩ := hP24
          have hfr28 : ∀ j, j ≠ 115 → j ≠ 121 → j ≠ 125 → mem23 j = mem j := fun j c0 c1 c2 => (k27 j (by omega) (by omega)).trans (hfr20 j c0 c1 c2)
          have f29 : mem23 121 = aN Γ 4 (va_up wm wz t) := (k27 _ (by omega) (by omega)).trans f22
          refine lv_aload_n hx hb dX10_word_83 rfl (lv_at hl 0 rfl) ?_
          refine gf_X10_words hx hb hE hown hh (by omega) f25 rfl dX10_word_84 ?_
          exact mm_iret hx hb hr hlocks hE hh (rfl) (⟨f25, f29, f26, hfr28⟩) dX10_word_87
        ·
          exact absurd h10 (by decide)
      ·
        exact absurd h3 (by omega)
    ·
      exact (no_tf h2 hno).elim
  ·
    exact (nt_tf h1 (inR_y ht (by decide))).elim
set_option maxHeartbeats 4000000 in
set_option maxRecDepth 100000 in
/-- reference: word, 1 -/
theorem m_word_1 (l : Launch) (Γ : Gm) (b M : Nat) (mem : Nat → va_E) {cd nd cz wz iz vz md wh sd sk ps fc : Nat} {t : Int32}  (hM : 138 ≤ M) (fM : mem 115 = .inr (9, [.int (nI cd), .int (nI nd), .ref (b + 116), .ref (b + 117), .ref (b + 118), .ref (b + 119), .int (nI cz), .ref (b + 120), .int (nI wz), .int (nI iz), .int (nI vz), .ref (b + 121), .ref (b + 122), .ref (b + 123), .ref (b + 124), .ref (b + 125), .ref (b + 126), .ref (b + 127), .ref (b + 128), .ref (b + 129), .int (nI md), .ref (b + 130), .ref (b + 131), .int (nI wh), .ref (b + 132), .ref (b + 133), .int (nI sd), .int (nI sk), .int (nI ps), .int (nI fc), .ref (b + 134), .ref (b + 135)])) (htn : inR t 12 = false) : Ct l yX10_word (.code yX10_word cX10_word 2 (some .int)) ({ frames := 1, cells := 0, slots := 0, locals := 21 } : Room) Γ b M [.ref (b + 115), .int t] mem (fun u => u 115 = .inr (9, [.int (nI 1), .int (nI nd), .ref (b + 116), .ref (b + 117), .ref (b + 118), .ref (b + 119), .int (nI cz), .ref (b + 120), .int (nI wz), .int (nI iz), .int (nI vz), .ref (b + 121), .ref (b + 122), .ref (b + 123), .ref (b + 124), .ref (b + 125), .ref (b + 126), .ref (b + 127), .ref (b + 128), .ref (b + 129), .int (nI md), .ref (b + 130), .ref (b + 131), .int (nI wh), .ref (b + 132), .ref (b + 133), .int (nI sd), .int (nI sk), .int (nI ps), .int (nI fc), .ref (b + 134), .ref (b + 135)]) ∧ ∀ j, j ≠ 115 → u j = mem j) (some (.int (nI 0))) := by
  refine mm_enter (cc := cX10_word) (by decide) (Nat.le_of_ble_eq_true rfl) ?_
  intro p e s m args below meth c ls hx hb hml hown hr hlocks hname hE hh hl
  have hl : lv_has ls 2 [(0, .ref (b + 115)), (1, .int t)] := hl
  have hfr : ∀ j, j ≠ 115 → mem j = mem j := fun j _ => rfl
  refine lv_aload_n hx hb dX10_word_0 rfl (lv_at hl 0 rfl) ?_
  refine lv_iload_n hx hb dX10_word_1 rfl (lv_at hl 1 rfl) ?_
  refine lv_bipush (v := (nI 12)) hx hb dX10_word_2 (by decide) ?_
  refine mm_S0r (As := [.int t, .int (nI 12)]) (rest := [.ref (b + 115)]) hx hb hml hown hE hl.1 hh (kc_X10_92 hE.2.1 ⟨Nat.le_of_ble_eq_true rfl, Nat.le_of_ble_eq_true rfl⟩) (c_X10_outside l Γ b M mem (v := t) (n := 12)) rfl rfl (Nat.le_of_ble_eq_true rfl) dX10_word_4 rfl rfl (fun H locs hh => ?_)
  refine nn_beq (tgt := 14) hx hb dX10_word_7 (by decide) (fun h1 => ?_) (fun h1 => ?_)
  ·
    exact (no_tf (nf_ff h1) htn).elim
  ·
    refine lv_iconst (v := (nI 1)) hx hb dX10_word_10 (by decide) ?_
    refine lv_goto (tgt := 46) hx hb dX10_word_11 (by decide) ?_
    refine gp_X10_code (fs' := [.int (nI 1), .int (nI nd), .ref (b + 116), .ref (b + 117), .ref (b + 118), .ref (b + 119), .int (nI cz), .ref (b + 120), .int (nI wz), .int (nI iz), .int (nI vz), .ref (b + 121), .ref (b + 122), .ref (b + 123), .ref (b + 124), .ref (b + 125), .ref (b + 126), .ref (b + 127), .ref (b + 128), .ref (b + 129), .int (nI md), .ref (b + 130), .ref (b + 131), .int (nI wh), .ref (b + 132), .ref (b + 133), .int (nI sd), .int (nI sk), .int (nI ps), .int (nI fc), .ref (b + 134), .ref (b + 135)]) hx hb hE hown hh (by omega) fM rfl rfl (show 0 < 32 by decide) rfl dX10_word_46 (fun H locs mem2 f3 k4 hh => ?_)
    have hfr5 : ∀ j, j ≠ 115 → mem2 j = mem j := fun j c0 => (k4 j (by omega)).trans (hfr j c0)
    refine lv_aload_n hx hb dX10_word_49 rfl (lv_at hl 0 rfl) ?_
    refine gf_X10_code hx hb hE hown hh (by omega) f3 rfl dX10_word_50 ?_
    refine nn_if_le (tgt := 58) hx hb dX10_word_53 (by decide) (by omega) (fun h6 => ?_) (fun h6 => ?_)
    ·
      exact absurd h6 (by decide)
    ·
      refine lv_iconst (v := (nI 0)) hx hb dX10_word_56 (by decide) ?_
      exact mm_iret hx hb hr hlocks hE hh (rfl) (⟨f3, hfr5⟩) dX10_word_57
set_option maxHeartbeats 4000000 in
set_option maxRecDepth 100000 in
/-- reference: word, 2 -/
theorem m_word_2 (l : Launch) (Γ : Gm) (b M : Nat) (mem : Nat → va_E) {cd nd cz wz iz vz md wh sd sk ps fc : Nat} {t : Nat} {wm : Nat → Nat}  (hM : 138 ≤ M) (fM : mem 115 = .inr (9, [.int (nI cd), .int (nI nd), .ref (b + 116), .ref (b + 117), .ref (b + 118), .ref (b + 119), .int (nI cz), .ref (b + 120), .int (nI wz), .int (nI iz), .int (nI vz), .ref (b + 121), .ref (b + 122), .ref (b + 123), .ref (b + 124), .ref (b + 125), .ref (b + 126), .ref (b + 127), .ref (b + 128), .ref (b + 129), .int (nI md), .ref (b + 130), .ref (b + 131), .int (nI wh), .ref (b + 132), .ref (b + 133), .int (nI sd), .int (nI sk), .int (nI ps), .int (nI fc), .ref (b + 134), .ref (b + 135)])) (g121 : mem 121 = aN Γ 4 wm) (ht : t < 12) (hwz : wz ≤ 4) (hyes : hasT (fun i => nI (wm i)) (nI t) wz = true) : Ct l yX10_word (.code yX10_word cX10_word 2 (some .int)) ({ frames := 1, cells := 0, slots := 0, locals := 24 } : Room) Γ b M [.ref (b + 115), .int (nI t)] mem (fun u => u 115 = .inr (9, [.int (nI 2), .int (nI nd), .ref (b + 116), .ref (b + 117), .ref (b + 118), .ref (b + 119), .int (nI cz), .ref (b + 120), .int (nI wz), .int (nI iz), .int (nI vz), .ref (b + 121), .ref (b + 122), .ref (b + 123), .ref (b + 124), .ref (b + 125), .ref (b + 126), .ref (b + 127), .ref (b + 128), .ref (b + 129), .int (nI md), .ref (b + 130), .ref (b + 131), .int (nI wh), .ref (b + 132), .ref (b + 133), .int (nI sd), .int (nI sk), .int (nI ps), .int (nI fc), .ref (b + 134), .ref (b + 135)]) ∧ ∀ j, j ≠ 115 → u j = mem j) (some (.int (nI 0))) := by
  refine mm_enter (cc := cX10_word) (by decide) (Nat.le_of_ble_eq_true rfl) ?_
  intro p e s m args below meth c ls hx hb hml hown hr hlocks hname hE hh hl
  have hl : lv_has ls 2 [(0, .ref (b + 115)), (1, .int (nI t))] := hl
  have hfr : ∀ j, j ≠ 115 → mem j = mem j := fun j _ => rfl
  refine lv_aload_n hx hb dX10_word_0 rfl (lv_at hl 0 rfl) ?_
  refine lv_iload_n hx hb dX10_word_1 rfl (lv_at hl 1 rfl) ?_
  refine lv_bipush (v := (nI 12)) hx hb dX10_word_2 (by decide) ?_
  refine mm_S0r (As := [.int (nI t), .int (nI 12)]) (rest := [.ref (b + 115)]) hx hb hml hown hE hl.1 hh (kc_X10_92 hE.2.1 ⟨Nat.le_of_ble_eq_true rfl, Nat.le_of_ble_eq_true rfl⟩) (c_X10_outside l Γ b M mem (v := (nI t)) (n := 12)) rfl rfl (Nat.le_of_ble_eq_true rfl) dX10_word_4 rfl rfl (fun H locs hh => ?_)
  refine nn_beq (tgt := 14) hx hb dX10_word_7 (by decide) (fun h1 => ?_) (fun h1 => ?_)
  ·
    refine lv_aload_n hx hb dX10_word_14 rfl (lv_at hl 0 rfl) ?_
    refine gf_X10_word hx hb hE hown hh (by omega) fM rfl dX10_word_15 ?_
    refine lv_aload_n hx hb dX10_word_18 rfl (lv_at hl 0 rfl) ?_
    refine gf_X10_words hx hb hE hown hh (by omega) fM rfl dX10_word_19 ?_
    refine lv_iload_n hx hb dX10_word_22 rfl (lv_at hl 1 rfl) ?_
    refine mm_S0r (As := [.ref (b + 121), .int (nI wz), .int (nI t)]) (rest := [.ref (b + 115)]) hx hb hml hown hE hl.1 hh (kc_X10_116 hE.2.1 ⟨Nat.le_of_ble_eq_true rfl, Nat.le_of_ble_eq_true rfl⟩) (c_X10_isThere l Γ b M mem (a := 121) (n := wz) (v := (nI t)) (tm := wm) (by omega) g121 (by omega)) rfl rfl (Nat.le_of_ble_eq_true rfl) dX10_word_23 rfl rfl (fun H locs hh => ?_)
    refine nn_beq (tgt := 33) hx hb dX10_word_26 (by decide) (fun h2 => ?_) (fun h2 => ?_)
    ·
      exact (no_tf hyes h2).elim
    ·
      refine lv_iconst (v := (nI 2)) hx hb dX10_word_29 (by decide) ?_
      refine lv_goto (tgt := 46) hx hb dX10_word_30 (by decide) ?_
      refine gp_X10_code (fs' := [.int (nI 2), .int (nI nd), .ref (b + 116), .ref (b + 117), .ref (b + 118), .ref (b + 119), .int (nI cz), .ref (b + 120), .int (nI wz), .int (nI iz), .int (nI vz), .ref (b + 121), .ref (b + 122), .ref (b + 123), .ref (b + 124), .ref (b + 125), .ref (b + 126), .ref (b + 127), .ref (b + 128), .ref (b + 129), .int (nI md), .ref (b + 130), .ref (b + 131), .int (nI wh), .ref (b + 132), .ref (b + 133), .int (nI sd), .int (nI sk), .int (nI ps), .int (nI fc), .ref (b + 134), .ref (b + 135)]) hx hb hE hown hh (by omega) fM rfl rfl (show 0 < 32 by decide) rfl dX10_word_46 (fun H locs mem3 f4 k5 hh => ?_)
      have hfr6 : ∀ j, j ≠ 115 → mem3 j = mem j := fun j c0 => (k5 j (by omega)).trans (hfr j c0)
      have f7 : mem3 121 = aN Γ 4 wm := (k5 _ (by omega)).trans g121
      refine lv_aload_n hx hb dX10_word_49 rfl (lv_at hl 0 rfl) ?_
      refine gf_X10_code hx hb hE hown hh (by omega) f4 rfl dX10_word_50 ?_
      refine nn_if_le (tgt := 58) hx hb dX10_word_53 (by decide) (by omega) (fun h8 => ?_) (fun h8 => ?_)
      ·
        exact absurd h8 (by decide)
      ·
        refine lv_iconst (v := (nI 0)) hx hb dX10_word_56 (by decide) ?_
        exact mm_iret hx hb hr hlocks hE hh (rfl) (⟨f4, hfr6⟩) dX10_word_57
  ·
    exact (nt_tf h1 (inR_y ht (by decide))).elim
set_option maxHeartbeats 4000000 in
set_option maxRecDepth 100000 in
/-- reference: word, 3 -/
theorem m_word_3 (l : Launch) (Γ : Gm) (b M : Nat) (mem : Nat → va_E) {cd nd cz wz iz vz md wh sd sk ps fc : Nat} {t : Nat} {wm : Nat → Nat}  (hM : 138 ≤ M) (fM : mem 115 = .inr (9, [.int (nI cd), .int (nI nd), .ref (b + 116), .ref (b + 117), .ref (b + 118), .ref (b + 119), .int (nI cz), .ref (b + 120), .int (nI wz), .int (nI iz), .int (nI vz), .ref (b + 121), .ref (b + 122), .ref (b + 123), .ref (b + 124), .ref (b + 125), .ref (b + 126), .ref (b + 127), .ref (b + 128), .ref (b + 129), .int (nI md), .ref (b + 130), .ref (b + 131), .int (nI wh), .ref (b + 132), .ref (b + 133), .int (nI sd), .int (nI sk), .int (nI ps), .int (nI fc), .ref (b + 134), .ref (b + 135)])) (g121 : mem 121 = aN Γ 4 wm) (ht : t < 12) (hwz : wz = 4) (hno : hasT (fun i => nI (wm i)) (nI t) wz = false) : Ct l yX10_word (.code yX10_word cX10_word 2 (some .int)) ({ frames := 1, cells := 0, slots := 0, locals := 24 } : Room) Γ b M [.ref (b + 115), .int (nI t)] mem (fun u => u 115 = .inr (9, [.int (nI 3), .int (nI nd), .ref (b + 116), .ref (b + 117), .ref (b + 118), .ref (b + 119), .int (nI cz), .ref (b + 120), .int (nI wz), .int (nI iz), .int (nI vz), .ref (b + 121), .ref (b + 122), .ref (b + 123), .ref (b + 124), .ref (b + 125), .ref (b + 126), .ref (b + 127), .ref (b + 128), .ref (b + 129), .int (nI md), .ref (b + 130), .ref (b + 131), .int (nI wh), .ref (b + 132), .ref (b + 133), .int (nI sd), .int (nI sk), .int (nI ps), .int (nI fc), .ref (b + 134), .ref (b + 135)]) ∧ ∀ j, j ≠ 115 → u j = mem j) (some (.int (nI 0))) := by
  refine mm_enter (cc := cX10_word) (by decide) (Nat.le_of_ble_eq_true rfl) ?_
  intro p e s m args below meth c ls hx hb hml hown hr hlocks hname hE hh hl
  have hl : lv_has ls 2 [(0, .ref (b + 115)), (1, .int (nI t))] := hl
  have hfr : ∀ j, j ≠ 115 → mem j = mem j := fun j _ => rfl
  refine lv_aload_n hx hb dX10_word_0 rfl (lv_at hl 0 rfl) ?_
  refine lv_iload_n hx hb dX10_word_1 rfl (lv_at hl 1 rfl) ?_
  refine lv_bipush (v := (nI 12)) hx hb dX10_word_2 (by decide) ?_
  refine mm_S0r (As := [.int (nI t), .int (nI 12)]) (rest := [.ref (b + 115)]) hx hb hml hown hE hl.1 hh (kc_X10_92 hE.2.1 ⟨Nat.le_of_ble_eq_true rfl, Nat.le_of_ble_eq_true rfl⟩) (c_X10_outside l Γ b M mem (v := (nI t)) (n := 12)) rfl rfl (Nat.le_of_ble_eq_true rfl) dX10_word_4 rfl rfl (fun H locs hh => ?_)
  refine nn_beq (tgt := 14) hx hb dX10_word_7 (by decide) (fun h1 => ?_) (fun h1 => ?_)
  ·
    refine lv_aload_n hx hb dX10_word_14 rfl (lv_at hl 0 rfl) ?_
    refine gf_X10_word hx hb hE hown hh (by omega) fM rfl dX10_word_15 ?_
    refine lv_aload_n hx hb dX10_word_18 rfl (lv_at hl 0 rfl) ?_
    refine gf_X10_words hx hb hE hown hh (by omega) fM rfl dX10_word_19 ?_
    refine lv_iload_n hx hb dX10_word_22 rfl (lv_at hl 1 rfl) ?_
    refine mm_S0r (As := [.ref (b + 121), .int (nI wz), .int (nI t)]) (rest := [.ref (b + 115)]) hx hb hml hown hE hl.1 hh (kc_X10_116 hE.2.1 ⟨Nat.le_of_ble_eq_true rfl, Nat.le_of_ble_eq_true rfl⟩) (c_X10_isThere l Γ b M mem (a := 121) (n := wz) (v := (nI t)) (tm := wm) (by omega) g121 (by omega)) rfl rfl (Nat.le_of_ble_eq_true rfl) dX10_word_23 rfl rfl (fun H locs hh => ?_)
    refine nn_beq (tgt := 33) hx hb dX10_word_26 (by decide) (fun h2 => ?_) (fun h2 => ?_)
    ·
      refine lv_aload_n hx hb dX10_word_33 rfl (lv_at hl 0 rfl) ?_
      refine gf_X10_words hx hb hE hown hh (by omega) fM rfl dX10_word_34 ?_
      refine lv_iconst (v := (nI 4)) hx hb dX10_word_37 (by decide) ?_
      refine nn_icmp_ne (tgt := 45) hx hb dX10_word_38 (by decide) (by omega) (by omega) (fun h3 => ?_) (fun h3 => ?_)
      ·
        exact absurd hwz h3
      ·
        refine lv_iconst (v := (nI 3)) hx hb dX10_word_41 (by decide) ?_
        refine lv_goto (tgt := 46) hx hb dX10_word_42 (by decide) ?_
        refine gp_X10_code (fs' := [.int (nI 3), .int (nI nd), .ref (b + 116), .ref (b + 117), .ref (b + 118), .ref (b + 119), .int (nI cz), .ref (b + 120), .int (nI wz), .int (nI iz), .int (nI vz), .ref (b + 121), .ref (b + 122), .ref (b + 123), .ref (b + 124), .ref (b + 125), .ref (b + 126), .ref (b + 127), .ref (b + 128), .ref (b + 129), .int (nI md), .ref (b + 130), .ref (b + 131), .int (nI wh), .ref (b + 132), .ref (b + 133), .int (nI sd), .int (nI sk), .int (nI ps), .int (nI fc), .ref (b + 134), .ref (b + 135)]) hx hb hE hown hh (by omega) fM rfl rfl (show 0 < 32 by decide) rfl dX10_word_46 (fun H locs mem4 f5 k6 hh => ?_)
        have hfr7 : ∀ j, j ≠ 115 → mem4 j = mem j := fun j c0 => (k6 j (by omega)).trans (hfr j c0)
        have f8 : mem4 121 = aN Γ 4 wm := (k6 _ (by omega)).trans g121
        refine lv_aload_n hx hb dX10_word_49 rfl (lv_at hl 0 rfl) ?_
        refine gf_X10_code hx hb hE hown hh (by omega) f5 rfl dX10_word_50 ?_
        refine nn_if_le (tgt := 58) hx hb dX10_word_53 (by decide) (by omega) (fun h9 => ?_) (fun h9 => ?_)
        ·
          exact absurd h9 (by decide)
        ·
          refine lv_iconst (v := (nI 0)) hx hb dX10_word_56 (by decide) ?_
          exact mm_iret hx hb hr hlocks hE hh (rfl) (⟨f5, hfr7⟩) dX10_word_57
    ·
      exact (no_tf h2 hno).elim
  ·
    exact (nt_tf h1 (inR_y ht (by decide))).elim
set_option maxHeartbeats 4000000 in
set_option maxRecDepth 100000 in
/-- reference: impact -/
theorem m_impact (l : Launch) (Γ : Gm) (b M : Nat) (mem : Nat → va_E) {cd nd cz wz iz vz md wh sd sk ps fc : Nat} {mh : Nat → Bool} {t x : Nat} {im iw : Nat → Nat}  (hM : 138 ≤ M) (fM : mem 115 = .inr (9, [.int (nI cd), .int (nI nd), .ref (b + 116), .ref (b + 117), .ref (b + 118), .ref (b + 119), .int (nI cz), .ref (b + 120), .int (nI wz), .int (nI iz), .int (nI vz), .ref (b + 121), .ref (b + 122), .ref (b + 123), .ref (b + 124), .ref (b + 125), .ref (b + 126), .ref (b + 127), .ref (b + 128), .ref (b + 129), .int (nI md), .ref (b + 130), .ref (b + 131), .int (nI wh), .ref (b + 132), .ref (b + 133), .int (nI sd), .int (nI sk), .int (nI ps), .int (nI fc), .ref (b + 134), .ref (b + 135)])) (g125 : mem 125 = aB Γ 3 mh) (g122 : mem 122 = aN Γ 4 im) (g123 : mem 123 = aN Γ 4 iw) (ht : t < 12) (hiz : iz < 4) (hno : hasT (fun i => nI (im i)) (nI t) iz = false) (hx1 : 1 ≤ x ∧ x ≤ 100) : Ct l yX10_impact (.code yX10_impact cX10_impact 3 (some .int)) ({ frames := 1, cells := 0, slots := 0, locals := 24 } : Room) Γ b M [.ref (b + 115), .int (nI t), .int (nI x)] mem (fun u => u 115 = .inr (9, [.int (nI 0), .int (nI nd), .ref (b + 116), .ref (b + 117), .ref (b + 118), .ref (b + 119), .int (nI cz), .ref (b + 120), .int (nI wz), .int (nI (iz + 1)), .int (nI vz), .ref (b + 121), .ref (b + 122), .ref (b + 123), .ref (b + 124), .ref (b + 125), .ref (b + 126), .ref (b + 127), .ref (b + 128), .ref (b + 129), .int (nI md), .ref (b + 130), .ref (b + 131), .int (nI wh), .ref (b + 132), .ref (b + 133), .int (nI sd), .int (nI sk), .int (nI ps), .int (nI 0), .ref (b + 134), .ref (b + 135)]) ∧ u 122 = aN Γ 4 (va_up im iz t) ∧ u 123 = aN Γ 4 (va_up iw iz x) ∧ u 125 = aB Γ 3 (va_up mh 1 false) ∧ ∀ j, j ≠ 115 → j ≠ 122 → j ≠ 123 → j ≠ 125 → u j = mem j) (some (.int (nI (iz + 1)))) := by
  refine mm_enter (cc := cX10_impact) (by decide) (Nat.le_of_ble_eq_true rfl) ?_
  intro p e s m args below meth c ls hx hb hml hown hr hlocks hname hE hh hl
  have hl : lv_has ls 3 [(0, .ref (b + 115)), (1, .int (nI t)), (2, .int (nI x))] := hl
  have hfr : ∀ j, j ≠ 115 → j ≠ 122 → j ≠ 123 → j ≠ 125 → mem j = mem j := fun j _ _ _ _ => rfl
  refine lv_aload_n hx hb dX10_impact_0 rfl (lv_at hl 0 rfl) ?_
  refine lv_iload_n hx hb dX10_impact_1 rfl (lv_at hl 1 rfl) ?_
  refine lv_bipush (v := (nI 12)) hx hb dX10_impact_2 (by decide) ?_
  refine mm_S0r (As := [.int (nI t), .int (nI 12)]) (rest := [.ref (b + 115)]) hx hb hml hown hE hl.1 hh (kc_X10_92 hE.2.1 ⟨Nat.le_of_ble_eq_true rfl, Nat.le_of_ble_eq_true rfl⟩) (c_X10_outside l Γ b M mem (v := (nI t)) (n := 12)) rfl rfl (Nat.le_of_ble_eq_true rfl) dX10_impact_4 rfl rfl (fun H locs hh => ?_)
  refine nn_beq (tgt := 14) hx hb dX10_impact_7 (by decide) (fun h1 => ?_) (fun h1 => ?_)
  ·
    refine lv_aload_n hx hb dX10_impact_14 rfl (lv_at hl 0 rfl) ?_
    refine gf_X10_impact hx hb hE hown hh (by omega) fM rfl dX10_impact_15 ?_
    refine lv_aload_n hx hb dX10_impact_18 rfl (lv_at hl 0 rfl) ?_
    refine gf_X10_impacts hx hb hE hown hh (by omega) fM rfl dX10_impact_19 ?_
    refine lv_iload_n hx hb dX10_impact_22 rfl (lv_at hl 1 rfl) ?_
    refine mm_S0r (As := [.ref (b + 122), .int (nI iz), .int (nI t)]) (rest := [.ref (b + 115)]) hx hb hml hown hE hl.1 hh (kc_X10_116 hE.2.1 ⟨Nat.le_of_ble_eq_true rfl, Nat.le_of_ble_eq_true rfl⟩) (c_X10_isThere l Γ b M mem (a := 122) (n := iz) (v := (nI t)) (tm := im) (by omega) g122 (by omega)) rfl rfl (Nat.le_of_ble_eq_true rfl) dX10_impact_23 rfl rfl (fun H locs hh => ?_)
    refine nn_bne (tgt := 40) hx hb dX10_impact_26 (by decide) (fun h2 => ?_) (fun h2 => ?_)
    ·
      exact (no_tf h2 hno).elim
    ·
      refine lv_iload_n hx hb dX10_impact_29 rfl (lv_at hl 2 rfl) ?_
      refine lv_iconst (v := (nI 1)) hx hb dX10_impact_30 (by decide) ?_
      refine nn_icmp_lt (tgt := 40) hx hb dX10_impact_31 (by decide) (by omega) (by omega) (fun h3 => ?_) (fun h3 => ?_)
      ·
        exact absurd h3 (by omega)
      ·
        refine lv_iload_n hx hb dX10_impact_34 rfl (lv_at hl 2 rfl) ?_
        refine lv_bipush (v := (nI 100)) hx hb dX10_impact_35 (by decide) ?_
        refine nn_icmp_le (tgt := 44) hx hb dX10_impact_37 (by decide) (by omega) (by omega) (fun h4 => ?_) (fun h4 => ?_)
        ·
          refine lv_aload_n hx hb dX10_impact_44 rfl (lv_at hl 0 rfl) ?_
          refine gf_X10_impacts hx hb hE hown hh (by omega) fM rfl dX10_impact_45 ?_
          refine lv_iconst (v := (nI 4)) hx hb dX10_impact_48 (by decide) ?_
          refine nn_icmp_ne (tgt := 56) hx hb dX10_impact_49 (by decide) (by omega) (by omega) (fun h5 => ?_) (fun h5 => ?_)
          ·
            refine lv_iconst (v := (nI 0)) hx hb dX10_impact_56 (by decide) ?_
            refine gp_X10_code (fs' := [.int (nI 0), .int (nI nd), .ref (b + 116), .ref (b + 117), .ref (b + 118), .ref (b + 119), .int (nI cz), .ref (b + 120), .int (nI wz), .int (nI iz), .int (nI vz), .ref (b + 121), .ref (b + 122), .ref (b + 123), .ref (b + 124), .ref (b + 125), .ref (b + 126), .ref (b + 127), .ref (b + 128), .ref (b + 129), .int (nI md), .ref (b + 130), .ref (b + 131), .int (nI wh), .ref (b + 132), .ref (b + 133), .int (nI sd), .int (nI sk), .int (nI ps), .int (nI fc), .ref (b + 134), .ref (b + 135)]) hx hb hE hown hh (by omega) fM rfl rfl (show 0 < 32 by decide) rfl dX10_impact_57 (fun H locs mem6 f7 k8 hh => ?_)
            have hfr9 : ∀ j, j ≠ 115 → j ≠ 122 → j ≠ 123 → j ≠ 125 → mem6 j = mem j := fun j c0 c1 c2 c3 => (k8 j (by omega)).trans (hfr j c0 c1 c2 c3)
            have f10 : mem6 125 = aB Γ 3 mh := (k8 _ (by omega)).trans g125
            have f11 : mem6 122 = aN Γ 4 im := (k8 _ (by omega)).trans g122
            have f12 : mem6 123 = aN Γ 4 iw := (k8 _ (by omega)).trans g123
            refine lv_aload_n hx hb dX10_impact_60 rfl (lv_at hl 0 rfl) ?_
            refine gf_X10_code hx hb hE hown hh (by omega) f7 rfl dX10_impact_61 ?_
            refine nn_if_le (tgt := 69) hx hb dX10_impact_64 (by decide) (by omega) (fun h13 => ?_) (fun h13 => ?_)
            ·
              refine lv_aload_n hx hb dX10_impact_69 rfl (lv_at hl 0 rfl) ?_
              refine gf_X10_impact hx hb hE hown hh (by omega) f7 rfl dX10_impact_70 ?_
              refine lv_aload_n hx hb dX10_impact_73 rfl (lv_at hl 0 rfl) ?_
              refine gf_X10_impacts hx hb hE hown hh (by omega) f7 rfl dX10_impact_74 ?_
              refine lv_iload_n hx hb dX10_impact_77 rfl (lv_at hl 1 rfl) ?_
              refine mm_iast hx hb hE hh (by omega) f11 (by omega) (by decide) dX10_impact_78 (fun H locs mem14 f15 k16 hh => ?_)
              rw [va_up_nI] at f15
              have hfr17 : ∀ j, j ≠ 115 → j ≠ 122 → j ≠ 123 → j ≠ 125 → mem14 j = mem j := fun j c0 c1 c2 c3 => (k16 j (by omega)).trans (hfr9 j c0 c1 c2 c3)
              have f18 : mem14 115 = .inr (9, [.int (nI 0), .int (nI nd), .ref (b + 116), .ref (b + 117), .ref (b + 118), .ref (b + 119), .int (nI cz), .ref (b + 120), .int (nI wz), .int (nI iz), .int (nI vz), .ref (b + 121), .ref (b + 122), .ref (b + 123), .ref (b + 124), .ref (b + 125), .ref (b + 126), .ref (b + 127), .ref (b + 128), .ref (b + 129), .int (nI md), .ref (b + 130), .ref (b + 131), .int (nI wh), .ref (b + 132), .ref (b + 133), .int (nI sd), .int (nI sk), .int (nI ps), .int (nI fc), .ref (b + 134), .ref (b + 135)]) := (k16 _ (by omega)).trans f7
              have f19 : mem14 125 = aB Γ 3 mh := (k16 _ (by omega)).trans f10
              have f20 : mem14 123 = aN Γ 4 iw := (k16 _ (by omega)).trans f12
              refine lv_aload_n hx hb dX10_impact_79 rfl (lv_at hl 0 rfl) ?_
              refine gf_X10_weight hx hb hE hown hh (by omega) f18 rfl dX10_impact_80 ?_
              refine lv_aload_n hx hb dX10_impact_83 rfl (lv_at hl 0 rfl) ?_
              refine gf_X10_impacts hx hb hE hown hh (by omega) f18 rfl dX10_impact_84 ?_
              refine lv_iload_n hx hb dX10_impact_87 rfl (lv_at hl 2 rfl) ?_
              refine mm_iast hx hb hE hh (by omega) f20 (by omega) (by decide) dX10_impact_88 (fun H locs mem21 f22 k23 hh => ?_)
              rw [va_up_nI] at f22
              have hfr24 : ∀ j, j ≠ 115 → j ≠ 122 → j ≠ 123 → j ≠ 125 → mem21 j = mem j := fun j c0 c1 c2 c3 => (k23 j (by omega)).trans (hfr17 j c0 c1 c2 c3)
              have f25 : mem21 115 = .inr (9, [.int (nI 0), .int (nI nd), .ref (b + 116), .ref (b + 117), .ref (b + 118), .ref (b + 119), .int (nI cz), .ref (b + 120), .int (nI wz), .int (nI iz), .int (nI vz), .ref (b + 121), .ref (b + 122), .ref (b + 123), .ref (b + 124), .ref (b + 125), .ref (b + 126), .ref (b + 127), .ref (b + 128), .ref (b + 129), .int (nI md), .ref (b + 130), .ref (b + 131), .int (nI wh), .ref (b + 132), .ref (b + 133), .int (nI sd), .int (nI sk), .int (nI ps), .int (nI fc), .ref (b + 134), .ref (b + 135)]) := (k23 _ (by omega)).trans f18
              have f26 : mem21 125 = aB Γ 3 mh := (k23 _ (by omega)).trans f19
              have f27 : mem21 122 = aN Γ 4 (va_up im iz t) := (k23 _ (by omega)).trans f15
              refine lv_aload_n hx hb dX10_impact_89 rfl (lv_at hl 0 rfl) ?_
              refine lv_dup hx hb dX10_impact_90 rfl ?_
              refine gf_X10_impacts hx hb hE hown hh (by omega) f25 rfl dX10_impact_91 ?_
              refine lv_iconst (v := (nI 1)) hx hb dX10_impact_94 (by decide) ?_
              refine nn_iadd hx hb dX10_impact_95 ?_
              refine gp_X10_impacts (fs' := [.int (nI 0), .int (nI nd), .ref (b + 116), .ref (b + 117), .ref (b + 118), .ref (b + 119), .int (nI cz), .ref (b + 120), .int (nI wz), .int (nI (iz + 1)), .int (nI vz), .ref (b + 121), .ref (b + 122), .ref (b + 123), .ref (b + 124), .ref (b + 125), .ref (b + 126), .ref (b + 127), .ref (b + 128), .ref (b + 129), .int (nI md), .ref (b + 130), .ref (b + 131), .int (nI wh), .ref (b + 132), .ref (b + 133), .int (nI sd), .int (nI sk), .int (nI ps), .int (nI fc), .ref (b + 134), .ref (b + 135)]) hx hb hE hown hh (by omega) f25 rfl rfl (show 9 < 32 by decide) rfl dX10_impact_96 (fun H locs mem28 f29 k30 hh => ?_)
              have hfr31 : ∀ j, j ≠ 115 → j ≠ 122 → j ≠ 123 → j ≠ 125 → mem28 j = mem j := fun j c0 c1 c2 c3 => (k30 j (by omega)).trans (hfr24 j c0 c1 c2 c3)
              have f32 : mem28 125 = aB Γ 3 mh := (k30 _ (by omega)).trans f26
              have f33 : mem28 122 = aN Γ 4 (va_up im iz t) := (k30 _ (by omega)).trans f27
              have f34 : mem28 123 = aN Γ 4 (va_up iw iz x) := (k30 _ (by omega)).trans f22
              refine lv_aload_n hx hb dX10_impact_99 rfl (lv_at hl 0 rfl) ?_
              refine lv_iconst (v := (nI 1)) hx hb dX10_impact_100 (by decide) ?_
              refine mm_V0 (As := [.int (nI 1)]) (rest := []) hx hb hml hown hE hl.1 hh (kc_X10_82 hE.2.1 ⟨Nat.le_of_ble_eq_true rfl, Nat.le_of_ble_eq_true rfl⟩) (c_X10_lose l Γ b M mem28 (cd := 0) (nd := nd) (cz := cz) (wz := wz) (iz := iz + 1) (vz := vz) (md := md) (wh := wh) (sd := sd) (sk := sk) (ps := ps) (fc := fc) (v := 1) (mh := mh) (by omega) f29 f32 (by omega)) rfl (by omega) f29 rfl rfl (Nat.le_of_ble_eq_true rfl) dX10_impact_101 rfl rfl (fun H locs mem35 hP36 hh => ?_)
              obtain ⟨f37, f38, k39⟩ := hP36
              have hfr40 : ∀ j, j ≠ 115 → j ≠ 122 → j ≠ 123 → j ≠ 125 → mem35 j = mem j := fun j c0 c1 c2 c3 => (k39 j (by omega) (by omega)).trans (hfr31 j c0 c1 c2 c3)
              have f41 : mem35 122 = aN Γ 4 (va_up im iz t) := (k39 _ (by omega) (by omega)).trans f33
              have f42 : mem35 123 = aN Γ 4 (va_up iw iz x) := (k39 _ (by omega) (by omega)).trans f34
              refine lv_aload_n hx hb dX10_impact_104 rfl (lv_at hl 0 rfl) ?_
              refine gf_X10_impacts hx hb hE hown hh (by omega) f37 rfl dX10_impact_105 ?_
              exact mm_iret hx hb hr hlocks hE hh (rfl) (⟨f37, f41, f42, f38, hfr40⟩) dX10_impact_108
            ·
              exact absurd h13 (by decide)
          ·
            exact absurd h5 (by omega)
        ·
          exact absurd h4 (by omega)
  ·
    exact (nt_tf h1 (inR_y ht (by decide))).elim
set_option maxHeartbeats 4000000 in
set_option maxRecDepth 100000 in
/-- reference: impact, 1 -/
theorem m_impact_1 (l : Launch) (Γ : Gm) (b M : Nat) (mem : Nat → va_E) {cd nd cz wz iz vz md wh sd sk ps fc : Nat} {t x : Int32}  (hM : 138 ≤ M) (fM : mem 115 = .inr (9, [.int (nI cd), .int (nI nd), .ref (b + 116), .ref (b + 117), .ref (b + 118), .ref (b + 119), .int (nI cz), .ref (b + 120), .int (nI wz), .int (nI iz), .int (nI vz), .ref (b + 121), .ref (b + 122), .ref (b + 123), .ref (b + 124), .ref (b + 125), .ref (b + 126), .ref (b + 127), .ref (b + 128), .ref (b + 129), .int (nI md), .ref (b + 130), .ref (b + 131), .int (nI wh), .ref (b + 132), .ref (b + 133), .int (nI sd), .int (nI sk), .int (nI ps), .int (nI fc), .ref (b + 134), .ref (b + 135)])) (htn : inR t 12 = false) : Ct l yX10_impact (.code yX10_impact cX10_impact 3 (some .int)) ({ frames := 1, cells := 0, slots := 0, locals := 21 } : Room) Γ b M [.ref (b + 115), .int t, .int x] mem (fun u => u 115 = .inr (9, [.int (nI 1), .int (nI nd), .ref (b + 116), .ref (b + 117), .ref (b + 118), .ref (b + 119), .int (nI cz), .ref (b + 120), .int (nI wz), .int (nI iz), .int (nI vz), .ref (b + 121), .ref (b + 122), .ref (b + 123), .ref (b + 124), .ref (b + 125), .ref (b + 126), .ref (b + 127), .ref (b + 128), .ref (b + 129), .int (nI md), .ref (b + 130), .ref (b + 131), .int (nI wh), .ref (b + 132), .ref (b + 133), .int (nI sd), .int (nI sk), .int (nI ps), .int (nI fc), .ref (b + 134), .ref (b + 135)]) ∧ ∀ j, j ≠ 115 → u j = mem j) (some (.int (nI 0))) := by
  refine mm_enter (cc := cX10_impact) (by decide) (Nat.le_of_ble_eq_true rfl) ?_
  intro p e s m args below meth c ls hx hb hml hown hr hlocks hname hE hh hl
  have hl : lv_has ls 3 [(0, .ref (b + 115)), (1, .int t), (2, .int x)] := hl
  have hfr : ∀ j, j ≠ 115 → mem j = mem j := fun j _ => rfl
  refine lv_aload_n hx hb dX10_impact_0 rfl (lv_at hl 0 rfl) ?_
  refine lv_iload_n hx hb dX10_impact_1 rfl (lv_at hl 1 rfl) ?_
  refine lv_bipush (v := (nI 12)) hx hb dX10_impact_2 (by decide) ?_
  refine mm_S0r (As := [.int t, .int (nI 12)]) (rest := [.ref (b + 115)]) hx hb hml hown hE hl.1 hh (kc_X10_92 hE.2.1 ⟨Nat.le_of_ble_eq_true rfl, Nat.le_of_ble_eq_true rfl⟩) (c_X10_outside l Γ b M mem (v := t) (n := 12)) rfl rfl (Nat.le_of_ble_eq_true rfl) dX10_impact_4 rfl rfl (fun H locs hh => ?_)
  refine nn_beq (tgt := 14) hx hb dX10_impact_7 (by decide) (fun h1 => ?_) (fun h1 => ?_)
  ·
    exact (no_tf (nf_ff h1) htn).elim
  ·
    refine lv_iconst (v := (nI 1)) hx hb dX10_impact_10 (by decide) ?_
    refine lv_goto (tgt := 57) hx hb dX10_impact_11 (by decide) ?_
    refine gp_X10_code (fs' := [.int (nI 1), .int (nI nd), .ref (b + 116), .ref (b + 117), .ref (b + 118), .ref (b + 119), .int (nI cz), .ref (b + 120), .int (nI wz), .int (nI iz), .int (nI vz), .ref (b + 121), .ref (b + 122), .ref (b + 123), .ref (b + 124), .ref (b + 125), .ref (b + 126), .ref (b + 127), .ref (b + 128), .ref (b + 129), .int (nI md), .ref (b + 130), .ref (b + 131), .int (nI wh), .ref (b + 132), .ref (b + 133), .int (nI sd), .int (nI sk), .int (nI ps), .int (nI fc), .ref (b + 134), .ref (b + 135)]) hx hb hE hown hh (by omega) fM rfl rfl (show 0 < 32 by decide) rfl dX10_impact_57 (fun H locs mem2 f3 k4 hh => ?_)
    have hfr5 : ∀ j, j ≠ 115 → mem2 j = mem j := fun j c0 => (k4 j (by omega)).trans (hfr j c0)
    refine lv_aload_n hx hb dX10_impact_60 rfl (lv_at hl 0 rfl) ?_
    refine gf_X10_code hx hb hE hown hh (by omega) f3 rfl dX10_impact_61 ?_
    refine nn_if_le (tgt := 69) hx hb dX10_impact_64 (by decide) (by omega) (fun h6 => ?_) (fun h6 => ?_)
    ·
      exact absurd h6 (by decide)
    ·
      refine lv_iconst (v := (nI 0)) hx hb dX10_impact_67 (by decide) ?_
      exact mm_iret hx hb hr hlocks hE hh (rfl) (⟨f3, hfr5⟩) dX10_impact_68
set_option maxHeartbeats 4000000 in
set_option maxRecDepth 100000 in
/-- reference: impact, 2 -/
theorem m_impact_2 (l : Launch) (Γ : Gm) (b M : Nat) (mem : Nat → va_E) {cd nd cz wz iz vz md wh sd sk ps fc : Nat} {t : Nat} {x : Int32} {im : Nat → Nat}  (hM : 138 ≤ M) (fM : mem 115 = .inr (9, [.int (nI cd), .int (nI nd), .ref (b + 116), .ref (b + 117), .ref (b + 118), .ref (b + 119), .int (nI cz), .ref (b + 120), .int (nI wz), .int (nI iz), .int (nI vz), .ref (b + 121), .ref (b + 122), .ref (b + 123), .ref (b + 124), .ref (b + 125), .ref (b + 126), .ref (b + 127), .ref (b + 128), .ref (b + 129), .int (nI md), .ref (b + 130), .ref (b + 131), .int (nI wh), .ref (b + 132), .ref (b + 133), .int (nI sd), .int (nI sk), .int (nI ps), .int (nI fc), .ref (b + 134), .ref (b + 135)])) (g122 : mem 122 = aN Γ 4 im) (ht : t < 12) (hiz : iz ≤ 4) (hbad : hasT (fun i => nI (im i)) (nI t) iz = false → ¬ x < nI 1 → ¬ x ≤ nI 100) : Ct l yX10_impact (.code yX10_impact cX10_impact 3 (some .int)) ({ frames := 1, cells := 0, slots := 0, locals := 24 } : Room) Γ b M [.ref (b + 115), .int (nI t), .int x] mem (fun u => u 115 = .inr (9, [.int (nI 2), .int (nI nd), .ref (b + 116), .ref (b + 117), .ref (b + 118), .ref (b + 119), .int (nI cz), .ref (b + 120), .int (nI wz), .int (nI iz), .int (nI vz), .ref (b + 121), .ref (b + 122), .ref (b + 123), .ref (b + 124), .ref (b + 125), .ref (b + 126), .ref (b + 127), .ref (b + 128), .ref (b + 129), .int (nI md), .ref (b + 130), .ref (b + 131), .int (nI wh), .ref (b + 132), .ref (b + 133), .int (nI sd), .int (nI sk), .int (nI ps), .int (nI fc), .ref (b + 134), .ref (b + 135)]) ∧ ∀ j, j ≠ 115 → u j = mem j) (some (.int (nI 0))) := by
  refine mm_enter (cc := cX10_impact) (by decide) (Nat.le_of_ble_eq_true rfl) ?_
  intro p e s m args below meth c ls hx hb hml hown hr hlocks hname hE hh hl
  have hl : lv_has ls 3 [(0, .ref (b + 115)), (1, .int (nI t)), (2, .int x)] := hl
  have hfr : ∀ j, j ≠ 115 → mem j = mem j := fun j _ => rfl
  refine lv_aload_n hx hb dX10_impact_0 rfl (lv_at hl 0 rfl) ?_
  refine lv_iload_n hx hb dX10_impact_1 rfl (lv_at hl 1 rfl) ?_
  refine lv_bipush (v := (nI 12)) hx hb dX10_impact_2 (by decide) ?_
  refine mm_S0r (As := [.int (nI t), .int (nI 12)]) (rest := [.ref (b + 115)]) hx hb hml hown hE hl.1 hh (kc_X10_92 hE.2.1 ⟨Nat.le_of_ble_eq_true rfl, Nat.le_of_ble_eq_true rfl⟩) (c_X10_outside l Γ b M mem (v := (nI t)) (n := 12)) rfl rfl (Nat.le_of_ble_eq_true rfl) dX10_impact_4 rfl rfl (fun H locs hh => ?_)
  refine nn_beq (tgt := 14) hx hb dX10_impact_7 (by decide) (fun h1 => ?_) (fun h1 => ?_)
  ·
    refine lv_aload_n hx hb dX10_impact_14 rfl (lv_at hl 0 rfl) ?_
    refine gf_X10_impact hx hb hE hown hh (by omega) fM rfl dX10_impact_15 ?_
    refine lv_aload_n hx hb dX10_impact_18 rfl (lv_at hl 0 rfl) ?_
    refine gf_X10_impacts hx hb hE hown hh (by omega) fM rfl dX10_impact_19 ?_
    refine lv_iload_n hx hb dX10_impact_22 rfl (lv_at hl 1 rfl) ?_
    refine mm_S0r (As := [.ref (b + 122), .int (nI iz), .int (nI t)]) (rest := [.ref (b + 115)]) hx hb hml hown hE hl.1 hh (kc_X10_116 hE.2.1 ⟨Nat.le_of_ble_eq_true rfl, Nat.le_of_ble_eq_true rfl⟩) (c_X10_isThere l Γ b M mem (a := 122) (n := iz) (v := (nI t)) (tm := im) (by omega) g122 (by omega)) rfl rfl (Nat.le_of_ble_eq_true rfl) dX10_impact_23 rfl rfl (fun H locs hh => ?_)
    refine nn_bne (tgt := 40) hx hb dX10_impact_26 (by decide) (fun h2 => ?_) (fun h2 => ?_)
    ·
      refine lv_iconst (v := (nI 2)) hx hb dX10_impact_40 (by decide) ?_
      refine lv_goto (tgt := 57) hx hb dX10_impact_41 (by decide) ?_
      refine gp_X10_code (fs' := [.int (nI 2), .int (nI nd), .ref (b + 116), .ref (b + 117), .ref (b + 118), .ref (b + 119), .int (nI cz), .ref (b + 120), .int (nI wz), .int (nI iz), .int (nI vz), .ref (b + 121), .ref (b + 122), .ref (b + 123), .ref (b + 124), .ref (b + 125), .ref (b + 126), .ref (b + 127), .ref (b + 128), .ref (b + 129), .int (nI md), .ref (b + 130), .ref (b + 131), .int (nI wh), .ref (b + 132), .ref (b + 133), .int (nI sd), .int (nI sk), .int (nI ps), .int (nI fc), .ref (b + 134), .ref (b + 135)]) hx hb hE hown hh (by omega) fM rfl rfl (show 0 < 32 by decide) rfl dX10_impact_57 (fun H locs mem3 f4 k5 hh => ?_)
      have hfr6 : ∀ j, j ≠ 115 → mem3 j = mem j := fun j c0 => (k5 j (by omega)).trans (hfr j c0)
      have f7 : mem3 122 = aN Γ 4 im := (k5 _ (by omega)).trans g122
      refine lv_aload_n hx hb dX10_impact_60 rfl (lv_at hl 0 rfl) ?_
      refine gf_X10_code hx hb hE hown hh (by omega) f4 rfl dX10_impact_61 ?_
      refine nn_if_le (tgt := 69) hx hb dX10_impact_64 (by decide) (by omega) (fun h8 => ?_) (fun h8 => ?_)
      ·
        exact absurd h8 (by decide)
      ·
        refine lv_iconst (v := (nI 0)) hx hb dX10_impact_67 (by decide) ?_
        exact mm_iret hx hb hr hlocks hE hh (rfl) (⟨f4, hfr6⟩) dX10_impact_68
    ·
      have g1 := hbad h2
      refine lv_iload_n hx hb dX10_impact_29 rfl (lv_at hl 2 rfl) ?_
      refine lv_iconst (v := (nI 1)) hx hb dX10_impact_30 (by decide) ?_
      refine lv_icmp_lt (tgt := 40) hx hb dX10_impact_31 (by decide) (fun h9 => ?_) (fun h9 => ?_)
      ·
        refine lv_iconst (v := (nI 2)) hx hb dX10_impact_40 (by decide) ?_
        refine lv_goto (tgt := 57) hx hb dX10_impact_41 (by decide) ?_
        refine gp_X10_code (fs' := [.int (nI 2), .int (nI nd), .ref (b + 116), .ref (b + 117), .ref (b + 118), .ref (b + 119), .int (nI cz), .ref (b + 120), .int (nI wz), .int (nI iz), .int (nI vz), .ref (b + 121), .ref (b + 122), .ref (b + 123), .ref (b + 124), .ref (b + 125), .ref (b + 126), .ref (b + 127), .ref (b + 128), .ref (b + 129), .int (nI md), .ref (b + 130), .ref (b + 131), .int (nI wh), .ref (b + 132), .ref (b + 133), .int (nI sd), .int (nI sk), .int (nI ps), .int (nI fc), .ref (b + 134), .ref (b + 135)]) hx hb hE hown hh (by omega) fM rfl rfl (show 0 < 32 by decide) rfl dX10_impact_57 (fun H locs mem10 f11 k12 hh => ?_)
        have hfr13 : ∀ j, j ≠ 115 → mem10 j = mem j := fun j c0 => (k12 j (by omega)).trans (hfr j c0)
        have f14 : mem10 122 = aN Γ 4 im := (k12 _ (by omega)).trans g122
        refine lv_aload_n hx hb dX10_impact_60 rfl (lv_at hl 0 rfl) ?_
        refine gf_X10_code hx hb hE hown hh (by omega) f11 rfl dX10_impact_61 ?_
        refine nn_if_le (tgt := 69) hx hb dX10_impact_64 (by decide) (by omega) (fun h15 => ?_) (fun h15 => ?_)
        ·
          exact absurd h15 (by decide)
        ·
          refine lv_iconst (v := (nI 0)) hx hb dX10_impact_67 (by decide) ?_
          exact mm_iret hx hb hr hlocks hE hh (rfl) (⟨f11, hfr13⟩) dX10_impact_68
      ·
        have g2 := g1 h9
        refine lv_iload_n hx hb dX10_impact_34 rfl (lv_at hl 2 rfl) ?_
        refine lv_bipush (v := (nI 100)) hx hb dX10_impact_35 (by decide) ?_
        refine lv_icmp_le (tgt := 44) hx hb dX10_impact_37 (by decide) (fun h16 => ?_) (fun h16 => ?_)
        ·
          exact absurd h16 g2
        ·
          refine lv_iconst (v := (nI 2)) hx hb dX10_impact_40 (by decide) ?_
          refine lv_goto (tgt := 57) hx hb dX10_impact_41 (by decide) ?_
          refine gp_X10_code (fs' := [.int (nI 2), .int (nI nd), .ref (b + 116), .ref (b + 117), .ref (b + 118), .ref (b + 119), .int (nI cz), .ref (b + 120), .int (nI wz), .int (nI iz), .int (nI vz), .ref (b + 121), .ref (b + 122), .ref (b + 123), .ref (b + 124), .ref (b + 125), .ref (b + 126), .ref (b + 127), .ref (b + 128), .ref (b + 129), .int (nI md), .ref (b + 130), .ref (b + 131), .int (nI wh), .ref (b + 132), .ref (b + 133), .int (nI sd), .int (nI sk), .int (nI ps), .int (nI fc), .ref (b + 134), .ref (b + 135)]) hx hb hE hown hh (by omega) fM rfl rfl (show 0 < 32 by decide) rfl dX10_impact_57 (fun H locs mem17 f18 k19 hh => ?_)
          have hfr20 : ∀ j, j ≠ 115 → mem17 j = mem j := fun j c0 => (k19 j (by omega)).trans (hfr j c0)
          have f21 : mem17 122 = aN Γ 4 im := (k19 _ (by omega)).trans g122
          refine lv_aload_n hx hb dX10_impact_60 rfl (lv_at hl 0 rfl) ?_
          refine gf_X10_code hx hb hE hown hh (by omega) f18 rfl dX10_impact_61 ?_
          refine nn_if_le (tgt := 69) hx hb dX10_impact_64 (by decide) (by omega) (fun h22 => ?_) (fun h22 => ?_)
          ·
            exact absurd h22 (by decide)
          ·
            refine lv_iconst (v := (nI 0)) hx hb dX10_impact_67 (by decide) ?_
            exact mm_iret hx hb hr hlocks hE hh (rfl) (⟨f18, hfr20⟩) dX10_impact_68
  ·
    exact (nt_tf h1 (inR_y ht (by decide))).elim
set_option maxHeartbeats 4000000 in
set_option maxRecDepth 100000 in
/-- reference: impact, 3 -/
theorem m_impact_3 (l : Launch) (Γ : Gm) (b M : Nat) (mem : Nat → va_E) {cd nd cz wz iz vz md wh sd sk ps fc : Nat} {t x : Nat} {im : Nat → Nat}  (hM : 138 ≤ M) (fM : mem 115 = .inr (9, [.int (nI cd), .int (nI nd), .ref (b + 116), .ref (b + 117), .ref (b + 118), .ref (b + 119), .int (nI cz), .ref (b + 120), .int (nI wz), .int (nI iz), .int (nI vz), .ref (b + 121), .ref (b + 122), .ref (b + 123), .ref (b + 124), .ref (b + 125), .ref (b + 126), .ref (b + 127), .ref (b + 128), .ref (b + 129), .int (nI md), .ref (b + 130), .ref (b + 131), .int (nI wh), .ref (b + 132), .ref (b + 133), .int (nI sd), .int (nI sk), .int (nI ps), .int (nI fc), .ref (b + 134), .ref (b + 135)])) (g122 : mem 122 = aN Γ 4 im) (ht : t < 12) (hiz : iz = 4) (hno : hasT (fun i => nI (im i)) (nI t) iz = false) (hx1 : 1 ≤ x ∧ x ≤ 100) : Ct l yX10_impact (.code yX10_impact cX10_impact 3 (some .int)) ({ frames := 1, cells := 0, slots := 0, locals := 24 } : Room) Γ b M [.ref (b + 115), .int (nI t), .int (nI x)] mem (fun u => u 115 = .inr (9, [.int (nI 3), .int (nI nd), .ref (b + 116), .ref (b + 117), .ref (b + 118), .ref (b + 119), .int (nI cz), .ref (b + 120), .int (nI wz), .int (nI iz), .int (nI vz), .ref (b + 121), .ref (b + 122), .ref (b + 123), .ref (b + 124), .ref (b + 125), .ref (b + 126), .ref (b + 127), .ref (b + 128), .ref (b + 129), .int (nI md), .ref (b + 130), .ref (b + 131), .int (nI wh), .ref (b + 132), .ref (b + 133), .int (nI sd), .int (nI sk), .int (nI ps), .int (nI fc), .ref (b + 134), .ref (b + 135)]) ∧ ∀ j, j ≠ 115 → u j = mem j) (some (.int (nI 0))) := by
  refine mm_enter (cc := cX10_impact) (by decide) (Nat.le_of_ble_eq_true rfl) ?_
  intro p e s m args below meth c ls hx hb hml hown hr hlocks hname hE hh hl
  have hl : lv_has ls 3 [(0, .ref (b + 115)), (1, .int (nI t)), (2, .int (nI x))] := hl
  have hfr : ∀ j, j ≠ 115 → mem j = mem j := fun j _ => rfl
  refine lv_aload_n hx hb dX10_impact_0 rfl (lv_at hl 0 rfl) ?_
  refine lv_iload_n hx hb dX10_impact_1 rfl (lv_at hl 1 rfl) ?_
  refine lv_bipush (v := (nI 12)) hx hb dX10_impact_2 (by decide) ?_
  refine mm_S0r (As := [.int (nI t), .int (nI 12)]) (rest := [.ref (b + 115)]) hx hb hml hown hE hl.1 hh (kc_X10_92 hE.2.1 ⟨Nat.le_of_ble_eq_true rfl, Nat.le_of_ble_eq_true rfl⟩) (c_X10_outside l Γ b M mem (v := (nI t)) (n := 12)) rfl rfl (Nat.le_of_ble_eq_true rfl) dX10_impact_4 rfl rfl (fun H locs hh => ?_)
  refine nn_beq (tgt := 14) hx hb dX10_impact_7 (by decide) (fun h1 => ?_) (fun h1 => ?_)
  ·
    refine lv_aload_n hx hb dX10_impact_14 rfl (lv_at hl 0 rfl) ?_
    refine gf_X10_impact hx hb hE hown hh (by omega) fM rfl dX10_impact_15 ?_
    refine lv_aload_n hx hb dX10_impact_18 rfl (lv_at hl 0 rfl) ?_
    refine gf_X10_impacts hx hb hE hown hh (by omega) fM rfl dX10_impact_19 ?_
    refine lv_iload_n hx hb dX10_impact_22 rfl (lv_at hl 1 rfl) ?_
    refine mm_S0r (As := [.ref (b + 122), .int (nI iz), .int (nI t)]) (rest := [.ref (b + 115)]) hx hb hml hown hE hl.1 hh (kc_X10_116 hE.2.1 ⟨Nat.le_of_ble_eq_true rfl, Nat.le_of_ble_eq_true rfl⟩) (c_X10_isThere l Γ b M mem (a := 122) (n := iz) (v := (nI t)) (tm := im) (by omega) g122 (by omega)) rfl rfl (Nat.le_of_ble_eq_true rfl) dX10_impact_23 rfl rfl (fun H locs hh => ?_)
    refine nn_bne (tgt := 40) hx hb dX10_impact_26 (by decide) (fun h2 => ?_) (fun h2 => ?_)
    ·
      exact (no_tf h2 hno).elim
    ·
      refine lv_iload_n hx hb dX10_impact_29 rfl (lv_at hl 2 rfl) ?_
      refine lv_iconst (v := (nI 1)) hx hb dX10_impact_30 (by decide) ?_
      refine nn_icmp_lt (tgt := 40) hx hb dX10_impact_31 (by decide) (by omega) (by omega) (fun h3 => ?_) (fun h3 => ?_)
      ·
        exact absurd h3 (by omega)
      ·
        refine lv_iload_n hx hb dX10_impact_34 rfl (lv_at hl 2 rfl) ?_
        refine lv_bipush (v := (nI 100)) hx hb dX10_impact_35 (by decide) ?_
        refine nn_icmp_le (tgt := 44) hx hb dX10_impact_37 (by decide) (by omega) (by omega) (fun h4 => ?_) (fun h4 => ?_)
        ·
          refine lv_aload_n hx hb dX10_impact_44 rfl (lv_at hl 0 rfl) ?_
          refine gf_X10_impacts hx hb hE hown hh (by omega) fM rfl dX10_impact_45 ?_
          refine lv_iconst (v := (nI 4)) hx hb dX10_impact_48 (by decide) ?_
          refine nn_icmp_ne (tgt := 56) hx hb dX10_impact_49 (by decide) (by omega) (by omega) (fun h5 => ?_) (fun h5 => ?_)
          ·
            exact absurd hiz h5
          ·
            refine lv_iconst (v := (nI 3)) hx hb dX10_impact_52 (by decide) ?_
            refine lv_goto (tgt := 57) hx hb dX10_impact_53 (by decide) ?_
            refine gp_X10_code (fs' := [.int (nI 3), .int (nI nd), .ref (b + 116), .ref (b + 117), .ref (b + 118), .ref (b + 119), .int (nI cz), .ref (b + 120), .int (nI wz), .int (nI iz), .int (nI vz), .ref (b + 121), .ref (b + 122), .ref (b + 123), .ref (b + 124), .ref (b + 125), .ref (b + 126), .ref (b + 127), .ref (b + 128), .ref (b + 129), .int (nI md), .ref (b + 130), .ref (b + 131), .int (nI wh), .ref (b + 132), .ref (b + 133), .int (nI sd), .int (nI sk), .int (nI ps), .int (nI fc), .ref (b + 134), .ref (b + 135)]) hx hb hE hown hh (by omega) fM rfl rfl (show 0 < 32 by decide) rfl dX10_impact_57 (fun H locs mem6 f7 k8 hh => ?_)
            have hfr9 : ∀ j, j ≠ 115 → mem6 j = mem j := fun j c0 => (k8 j (by omega)).trans (hfr j c0)
            have f10 : mem6 122 = aN Γ 4 im := (k8 _ (by omega)).trans g122
            refine lv_aload_n hx hb dX10_impact_60 rfl (lv_at hl 0 rfl) ?_
            refine gf_X10_code hx hb hE hown hh (by omega) f7 rfl dX10_impact_61 ?_
            refine nn_if_le (tgt := 69) hx hb dX10_impact_64 (by decide) (by omega) (fun h11 => ?_) (fun h11 => ?_)
            ·
              exact absurd h11 (by decide)
            ·
              refine lv_iconst (v := (nI 0)) hx hb dX10_impact_67 (by decide) ?_
              exact mm_iret hx hb hr hlocks hE hh (rfl) (⟨f7, hfr9⟩) dX10_impact_68
        ·
          exact absurd h4 (by omega)
  ·
    exact (nt_tf h1 (inR_y ht (by decide))).elim
