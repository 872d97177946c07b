/-! COLLECTION: pure words -/
def dwN (cn : Nat → Nat → Nat) (t : Nat) : Nat → Nat
  | 0 => 0
  | d + 1 => if 0 < cn d t then dwN cn t d + 1 else dwN cn t d
theorem dwN_le (cn : Nat → Nat → Nat) (t : Nat) : ∀ d, dwN cn t d ≤ d
  | 0 => Nat.le_refl 0
  | d + 1 => by
    have := dwN_le cn t d
    unfold dwN
    split <;> omega
def suN (ln : Nat → Nat) : Nat → Nat
  | 0 => 0
  | d + 1 => suN ln d + ln d
def avF (ln : Nat → Nat) (n : Nat) : UInt64 := if n = 0 then FP.dconst0 else FP.ddiv (FP.i2d (nI (suN ln n))) (FP.i2d (nI n))
def mxF (g w : UInt32) : UInt32 := if FP.fcmp w g = some .gt then w else g
def gwT (f : Nat → UInt32) (g : UInt32) : Nat → UInt32
  | 0 => g
  | t + 1 => mxF (gwT f g t) (f t)
def gwF (wt : Nat → Nat → UInt32) : Nat → UInt32
  | 0 => FP.fconst0
  | d + 1 => gwT (wt d) (gwF wt d) 12
def fp (x : UInt32) : Prop := x.toNat < 2 ^ 31
def imF (w g : UInt32) : Int32 := if FP.fcmp w FP.fconst0 = some .gt ∧ FP.fcmp g FP.fconst0 = some .gt then FP.f2i (FP.fadd (FP.fmul (FP.fdiv w g) 1132396544) 1056964608) else 0
theorem fb.fin {K : Nat} {x : UInt32} (h : fb K x) (hK : K ≤ 255) : FP.Core.FFin x := FP.Core.fin_of_lt32 h hK
theorem f_zero {x : UInt32} (h : x.toNat % 2 ^ 31 = 0) : x = 0 ∨ x = 2147483648 := by
  have h1 := x.toNat_lt
  have h2 : x.toNat = 0 ∨ x.toNat = 2147483648 := by omega
  rcases h2 with h2 | h2
  · exact Or.inl (UInt32.toNat_inj.mp h2)
  · exact Or.inr (UInt32.toNat_inj.mp h2)
theorem fgt0_nz {g : UInt32} (h : FP.fcmp g FP.fconst0 = some .gt) : ¬ FP.Core.FZero g := by
  intro hz
  rw [FP.Core.zero_bits232] at hz
  rcases f_zero hz with h2 | h2
  · rw [h2] at h; exact absurd h (by decide +kernel)
  · rw [h2] at h; exact absurd h (by decide +kernel)
/-- over a number not below 0, 'greater' is the plain maximum -/
theorem gtF_mx {g w : UInt32} (hg : fp g) (hgb : fb 250 g) (hwb : fb 250 w) : gtF g w = mxF g w := by
  unfold gtF mxF
  have ng := (hgb.fin (by decide)).ne_nan
  have nw := (hwb.fin (by decide)).ne_nan
  by_cases h1 : FP.fcmp g w = some .gt
  · have k1 := (FP.Core.fcmp_gt_key ng nw).mp h1
    have h2 : ¬ FP.fcmp w g = some .gt := fun h => by
      have k2 := (FP.Core.fcmp_gt_key nw ng).mp h
      omega
    rw [if_pos h1, if_neg h2]
  · rw [if_neg h1]
    by_cases h2 : FP.fcmp w g = some .gt
    · rw [if_pos h2, if_pos h2]
    · rw [if_neg h2, if_neg h2]
      by_cases h3 : FP.fcmp g FP.fconst0 = some .eq
      · rw [if_pos h3]
        have nz : FP.Core.val32 FP.fconst0 ≠ .nan := by rw [FP.Core.ne_nan32]; decide
        have k3 := (FP.Core.fcmp_eq_key ng nz).mp h3
        have k1 := mt (FP.Core.fcmp_gt_key ng nw).mpr h1
        have k2 := mt (FP.Core.fcmp_gt_key nw ng).mpr h2
        have k0 : FP.Core.fkey FP.fconst0 = 0 := by decide +kernel
        have kg : FP.Core.fkey g = (g.toNat : Int) := by
          unfold FP.Core.fkey
          rw [if_neg (by unfold fp at hg; omega)]
        have eg : g = 0 := UInt32.toNat_inj.mp (by show g.toNat = 0; omega)
        have kw : FP.Core.fkey w = 0 := by omega
        have hw0 : w.toNat % 2 ^ 31 = 0 := by
          unfold FP.Core.fkey at kw
          have := w.toNat_lt
          split at kw <;> omega
        subst eg
        rcases f_zero hw0 with h4 | h4
        · rw [h4]; decide +kernel
        · rw [h4]; decide +kernel
      · rw [if_neg h3]
theorem mxF_fb {K : Nat} {g w : UInt32} (hg : fb K g) (hw : fb K w) : fb K (mxF g w) := by unfold mxF; split <;> assumption
theorem mxF_fp {g w : UInt32} (hg : fp g) (hgb : fb 250 g) (hwb : fb 250 w) : fp (mxF g w) := by
  unfold mxF
  split
  · rename_i h
    have ng := (hgb.fin (by decide)).ne_nan
    have nw := (hwb.fin (by decide)).ne_nan
    have k := (FP.Core.fcmp_gt_key nw ng).mp h
    have kg : FP.Core.fkey g = (g.toNat : Int) := by
      unfold FP.Core.fkey
      rw [if_neg (by unfold fp at hg; omega)]
    rw [kg] at k
    unfold FP.Core.fkey at k
    unfold fp
    split at k <;> omega
  · exact hg
theorem gwT_ok {f : Nat → UInt32} {g : UInt32} (hg : fp g ∧ fb 148 g) (hf : ∀ t, fb 148 (f t)) : ∀ n, fp (gwT f g n) ∧ fb 148 (gwT f g n)
  | 0 => hg
  | n + 1 => ⟨mxF_fp (gwT_ok hg hf n).1 ((gwT_ok hg hf n).2.up (by decide)) ((hf n).up (by decide)), mxF_fb (gwT_ok hg hf n).2 (hf n)⟩
theorem gwF_ok {wt : Nat → Nat → UInt32} (hf : ∀ d t, fb 148 (wt d t)) : ∀ n, fp (gwF wt n) ∧ fb 148 (gwF wt n)
  | 0 => ⟨show fp FP.fconst0 by unfold fp; decide, show fb 148 FP.fconst0 by unfold fb; decide⟩
  | n + 1 => gwT_ok (gwF_ok hf n) (hf n) 12
theorem im_n1 {w g : UInt32} (hw : fb 250 w) (hg : fb 250 g) (h : FP.fcmp g FP.fconst0 = some .gt) : vf_n32 (FP.fdiv w g) := n32_core.mpr (FP.Core.fdiv_out (hw.fin (by decide)).notNaN (hg.fin (by decide)) (fgt0_nz h))
theorem im_n2 {x : UInt32} (h : vf_n32 x) : vf_n32 (FP.fmul x 1132396544) := n32_core.mpr (FP.Core.fmul_out' (n32_core.mp h) ((show fb 250 1132396544 by unfold fb; decide).fin (by decide)) (fgt0_nz (by decide +kernel)))
theorem im_n3 {x : UInt32} (h : vf_n32 x) : vf_n32 (FP.fadd x 1056964608) := n32_core.mpr (FP.Core.fadd_out (n32_core.mp h) ((show fb 250 1056964608 by unfold fb; decide).fin (by decide)))

set_option maxHeartbeats 4000000 in
set_option maxRecDepth 100000 in
/-- Collection.size -/
theorem c_X0_size (l : Launch) (Γ : Gm) (b M : Nat) (mem : Nat → va_E) {nd : Nat} (hM : 138 ≤ M) (fC : mem 1 = .inr (0, [.ref (b + 2), .ref (b + 19), .ref (b + 20), .ref (b + 37), .ref (b + 38), .int (nI nd)])) : Ct l yX0_size (.code yX0_size cX0_size 1 (some .int)) ({ frames := 0, cells := 0, slots := 0, locals := 0 } : Room) Γ b M [.ref (b + 1)] mem (fun u => u = mem) (some (.int (nI nd))) := by
  refine mm_enter (cc := cX0_size) (by decide) (Nat.le_of_ble_eq_true rfl) ?_
  intro p e s m args below meth c ls hx hb hml hown hr hlocks hname hE hh hl
  have hl : lv_has ls 1 [(0, .ref (b + 1))] := hl
  refine lv_aload_n hx hb dX0_size_0 rfl (lv_at hl 0 rfl) ?_
  refine gf_X0_size hx hb hE hown hh (by omega) fC rfl dX0_size_1 ?_
  exact mm_iret hx hb hr hlocks hE hh (rfl) (rfl) dX0_size_4
set_option maxHeartbeats 4000000 in
set_option maxRecDepth 100000 in
/-- Collection.isFull -/
theorem c_X0_isFull (l : Launch) (Γ : Gm) (b M : Nat) (mem : Nat → va_E) {nd : Nat} (hM : 138 ≤ M) (fC : mem 1 = .inr (0, [.ref (b + 2), .ref (b + 19), .ref (b + 20), .ref (b + 37), .ref (b + 38), .int (nI nd)])) (hnd : nd ≤ 16) : Ct l yX0_isFull (.code yX0_isFull cX0_isFull 1 (some .boolean)) ({ frames := 0, cells := 0, slots := 0, locals := 0 } : Room) Γ b M [.ref (b + 1)] mem (fun u => u = mem) (some (.int (bI (decide (16 ≤ nd))))) := by
  refine mm_enter (cc := cX0_isFull) (by decide) (Nat.le_of_ble_eq_true rfl) ?_
  intro p e s m args below meth c ls hx hb hml hown hr hlocks hname hE hh hl
  have hl : lv_has ls 1 [(0, .ref (b + 1))] := hl
  refine lv_aload_n hx hb dX0_isFull_0 rfl (lv_at hl 0 rfl) ?_
  refine gf_X0_size hx hb hE hown hh (by omega) fC rfl dX0_isFull_1 ?_
  refine lv_bipush (v := (nI 16)) hx hb dX0_isFull_4 (by decide) ?_
  refine nn_icmp_lt (tgt := 13) hx hb dX0_isFull_6 (by decide) (by omega) (by omega) (fun h1 => ?_) (fun h1 => ?_)
  ·
    refine lv_iconst (v := (nI 0)) hx hb dX0_isFull_13 (by decide) ?_
    exact mm_zret hx hb hr hlocks hE hh (by simp_all [bI, nI]) (rfl) rfl dX0_isFull_14
  ·
    refine lv_iconst (v := (nI 1)) hx hb dX0_isFull_9 (by decide) ?_
    refine lv_goto (tgt := 14) hx hb dX0_isFull_10 (by decide) ?_
    exact mm_zret hx hb hr hlocks hE hh (by simp_all [bI, nI]) (rfl) rfl dX0_isFull_14
set_option maxHeartbeats 4000000 in
set_option maxRecDepth 100000 in
/-- Collection.holds -/
theorem c_X0_holds (l : Launch) (Γ : Gm) (b M : Nat) (mem : Nat → va_E) {nd : Nat} {d : Int32} (hM : 138 ≤ M) (fC : mem 1 = .inr (0, [.ref (b + 2), .ref (b + 19), .ref (b + 20), .ref (b + 37), .ref (b + 38), .int (nI nd)])) : Ct l yX0_holds (.code yX0_holds cX0_holds 2 (some .boolean)) ({ frames := 0, cells := 0, slots := 0, locals := 0 } : Room) Γ b M [.ref (b + 1), .int d] mem (fun u => u = mem) (some (.int (bI (inR d nd)))) := by
  refine mm_enter (cc := cX0_holds) (by decide) (Nat.le_of_ble_eq_true rfl) ?_
  intro p e s m args below meth c ls hx hb hml hown hr hlocks hname hE hh hl
  have hl : lv_has ls 2 [(0, .ref (b + 1)), (1, .int d)] := hl
  refine lv_iload_n hx hb dX0_holds_0 rfl (lv_at hl 1 rfl) ?_
  refine lv_if_lt (tgt := 16) hx hb dX0_holds_1 (by decide) (fun h1 => ?_) (fun h1 => ?_)
  ·
    refine lv_iconst (v := (nI 0)) hx hb dX0_holds_16 (by decide) ?_
    exact mm_zret hx hb hr hlocks hE hh (by simp_all [bI, nI, inR]) (rfl) rfl dX0_holds_17
  ·
    refine lv_iload_n hx hb dX0_holds_4 rfl (lv_at hl 1 rfl) ?_
    refine lv_aload_n hx hb dX0_holds_5 rfl (lv_at hl 0 rfl) ?_
    refine gf_X0_size hx hb hE hown hh (by omega) fC rfl dX0_holds_6 ?_
    refine lv_icmp_ge (tgt := 16) hx hb dX0_holds_9 (by decide) (fun h2 => ?_) (fun h2 => ?_)
    ·
      refine lv_iconst (v := (nI 0)) hx hb dX0_holds_16 (by decide) ?_
      exact mm_zret hx hb hr hlocks hE hh (by simp_all [bI, nI, inR]) (rfl) rfl dX0_holds_17
    ·
      refine lv_iconst (v := (nI 1)) hx hb dX0_holds_12 (by decide) ?_
      refine lv_goto (tgt := 17) hx hb dX0_holds_13 (by decide) ?_
      exact mm_zret hx hb hr hlocks hE hh (by simp_all [bI, nI, inR]) (rfl) rfl dX0_holds_17
set_option maxHeartbeats 4000000 in
set_option maxRecDepth 100000 in
/-- Collection.addDocument -/
theorem c_X0_addDocument (l : Launch) (Γ : Gm) (b M : Nat) (mem : Nat → va_E) {nd : Nat} (hM : 138 ≤ M) (fC : mem 1 = .inr (0, [.ref (b + 2), .ref (b + 19), .ref (b + 20), .ref (b + 37), .ref (b + 38), .int (nI nd)])) : Ct l yX0_addDocument (.code yX0_addDocument cX0_addDocument 1 (some .int)) ({ frames := 0, cells := 0, slots := 0, locals := 0 } : Room) Γ b M [.ref (b + 1)] mem (fun u => u 1 = .inr (0, [.ref (b + 2), .ref (b + 19), .ref (b + 20), .ref (b + 37), .ref (b + 38), .int (nI (nd + 1))]) ∧ ∀ j, j ≠ 1 → u j = mem j) (some (.int (nI nd))) := by
  refine mm_enter (cc := cX0_addDocument) (by decide) (Nat.le_of_ble_eq_true rfl) ?_
  intro p e s m args below meth c ls hx hb hml hown hr hlocks hname hE hh hl
  have hl : lv_has ls 1 [(0, .ref (b + 1))] := hl
  have hfr : ∀ j, j ≠ 1 → mem j = mem j := fun j _ => rfl
  refine lv_aload_n hx hb dX0_addDocument_0 rfl (lv_at hl 0 rfl) ?_
  refine lv_dup hx hb dX0_addDocument_1 rfl ?_
  refine gf_X0_size hx hb hE hown hh (by omega) fC rfl dX0_addDocument_2 ?_
  refine lv_iconst (v := (nI 1)) hx hb dX0_addDocument_5 (by decide) ?_
  refine nn_iadd hx hb dX0_addDocument_6 ?_
  refine gp_X0_size (fs' := [.ref (b + 2), .ref (b + 19), .ref (b + 20), .ref (b + 37), .ref (b + 38), .int (nI (nd + 1))]) hx hb hE hown hh (by omega) fC rfl rfl (show 5 < 6 by decide) rfl dX0_addDocument_7 (fun H locs mem1 f2 k3 hh => ?_)
  have hfr4 : ∀ j, j ≠ 1 → mem1 j = mem j := fun j c0 => (k3 j (by omega)).trans (hfr j c0)
  refine lv_aload_n hx hb dX0_addDocument_10 rfl (lv_at hl 0 rfl) ?_
  refine gf_X0_size hx hb hE hown hh (by omega) f2 rfl dX0_addDocument_11 ?_
  refine lv_iconst (v := (nI 1)) hx hb dX0_addDocument_14 (by decide) ?_
  refine nn_isub hx hb (by omega) dX0_addDocument_15 ?_
  exact mm_iret hx hb hr hlocks hE hh (by rw [Nat.add_sub_cancel]) (⟨f2, hfr4⟩) dX0_addDocument_16
set_option maxHeartbeats 4000000 in
set_option maxRecDepth 100000 in
/-- Collection.countOf -/
theorem c_X0_countOf (l : Launch) (Γ : Gm) (b M : Nat) (mem : Nat → va_E) {nd : Nat} {d t : Nat} {cn : Nat → Nat → Nat} (hM : 138 ≤ M) (fC : mem 1 = .inr (0, [.ref (b + 2), .ref (b + 19), .ref (b + 20), .ref (b + 37), .ref (b + 38), .int (nI nd)])) (fCo : mem 2 = aR Γ 7 16 (fun i => some (b + (3 + i)))) (fcn : ∀ z9, z9 < 16 → mem (3 + z9) = aN Γ 12 (cn z9)) (hd : d < 16) (ht : t < 12) : Ct l yX0_countOf (.code yX0_countOf cX0_countOf 3 (some .int)) ({ frames := 0, cells := 0, slots := 0, locals := 0 } : Room) Γ b M [.ref (b + 1), .int (nI d), .int (nI t)] mem (fun u => u = mem) (some (.int (nI (cn d t)))) := by
  refine mm_enter (cc := cX0_countOf) (by decide) (Nat.le_of_ble_eq_true rfl) ?_
  intro p e s m args below meth c ls hx hb hml hown hr hlocks hname hE hh hl
  have hl : lv_has ls 3 [(0, .ref (b + 1)), (1, .int (nI d)), (2, .int (nI t))] := hl
  refine lv_aload_n hx hb dX0_countOf_0 rfl (lv_at hl 0 rfl) ?_
  refine gf_X0_counts hx hb hE hown hh (by omega) fC rfl dX0_countOf_1 ?_
  refine lv_iload_n hx hb dX0_countOf_4 rfl (lv_at hl 1 rfl) ?_
  refine mm_aald (q := b + (3 + d)) hx hb hE hh 7 (by omega) fCo rfl rfl (by omega) (by decide) (rfl) dX0_countOf_5 ?_
  refine lv_iload_n hx hb dX0_countOf_6 rfl (lv_at hl 2 rfl) ?_
  refine mm_iald hx hb hE hh (by omega) (fcn d (by omega)) (by omega) (by decide) dX0_countOf_7 ?_
  exact mm_iret hx hb hr hlocks hE hh (rfl) (rfl) dX0_countOf_8
set_option maxHeartbeats 4000000 in
set_option maxRecDepth 100000 in
/-- Collection.lengthOf -/
theorem c_X0_lengthOf (l : Launch) (Γ : Gm) (b M : Nat) (mem : Nat → va_E) {nd : Nat} {d : Nat} {ln : Nat → Nat} (hM : 138 ≤ M) (fC : mem 1 = .inr (0, [.ref (b + 2), .ref (b + 19), .ref (b + 20), .ref (b + 37), .ref (b + 38), .int (nI nd)])) (fL : mem 19 = aN Γ 16 ln) (hd : d < 16) : Ct l yX0_lengthOf (.code yX0_lengthOf cX0_lengthOf 2 (some .int)) ({ frames := 0, cells := 0, slots := 0, locals := 0 } : Room) Γ b M [.ref (b + 1), .int (nI d)] mem (fun u => u = mem) (some (.int (nI (ln d)))) := by
  refine mm_enter (cc := cX0_lengthOf) (by decide) (Nat.le_of_ble_eq_true rfl) ?_
  intro p e s m args below meth c ls hx hb hml hown hr hlocks hname hE hh hl
  have hl : lv_has ls 2 [(0, .ref (b + 1)), (1, .int (nI d))] := hl
  refine lv_aload_n hx hb dX0_lengthOf_0 rfl (lv_at hl 0 rfl) ?_
  refine gf_X0_lengths hx hb hE hown hh (by omega) fC rfl dX0_lengthOf_1 ?_
  refine lv_iload_n hx hb dX0_lengthOf_4 rfl (lv_at hl 1 rfl) ?_
  refine mm_iald hx hb hE hh (by omega) fL (by omega) (by decide) dX0_lengthOf_5 ?_
  exact mm_iret hx hb hr hlocks hE hh (rfl) (rfl) dX0_lengthOf_6
set_option maxHeartbeats 4000000 in
set_option maxRecDepth 100000 in
/-- Collection.addCount -/
theorem c_X0_addCount (l : Launch) (Γ : Gm) (b M : Nat) (mem : Nat → va_E) {nd : Nat} {d t : Nat} {cn : Nat → Nat → Nat} {ln : Nat → Nat} (hM : 138 ≤ M) (fC : mem 1 = .inr (0, [.ref (b + 2), .ref (b + 19), .ref (b + 20), .ref (b + 37), .ref (b + 38), .int (nI nd)])) (fCo : mem 2 = aR Γ 7 16 (fun i => some (b + (3 + i)))) (fcn : ∀ z9, z9 < 16 → mem (3 + z9) = aN Γ 12 (cn z9)) (fL : mem 19 = aN Γ 16 ln) (hd : d < 16) (ht : t < 12) : Ct l yX0_addCount (.code yX0_addCount cX0_addCount 3 (some .int)) ({ frames := 0, cells := 0, slots := 0, locals := 0 } : Room) Γ b M [.ref (b + 1), .int (nI d), .int (nI t)] mem (fun u => u (3 + d) = aN Γ 12 (va_up (cn d) t (cn d t + 1)) ∧ u 19 = aN Γ 16 (va_up ln d (ln d + 1)) ∧ ∀ j, j ≠ (3 + d) → j ≠ 19 → u j = mem j) (some (.int (nI (cn d t + 1)))) := by
  refine mm_enter (cc := cX0_addCount) (by decide) (Nat.le_of_ble_eq_true rfl) ?_
  intro p e s m args below meth c ls hx hb hml hown hr hlocks hname hE hh hl
  have hl : lv_has ls 3 [(0, .ref (b + 1)), (1, .int (nI d)), (2, .int (nI t))] := hl
  have hfr : ∀ j, j ≠ (3 + d) → j ≠ 19 → mem j = mem j := fun j _ _ => rfl
  refine lv_aload_n hx hb dX0_addCount_0 rfl (lv_at hl 0 rfl) ?_
  refine gf_X0_counts hx hb hE hown hh (by omega) fC rfl dX0_addCount_1 ?_
  refine lv_iload_n hx hb dX0_addCount_4 rfl (lv_at hl 1 rfl) ?_
  refine mm_aald (q := b + (3 + d)) hx hb hE hh 7 (by omega) fCo rfl rfl (by omega) (by decide) (rfl) dX0_addCount_5 ?_
  refine lv_iload_n hx hb dX0_addCount_6 rfl (lv_at hl 2 rfl) ?_
  refine lv_dup2_11 hx hb dX0_addCount_7 rfl rfl ?_
  refine mm_iald hx hb hE hh (by omega) (fcn d (by omega)) (by omega) (by decide) dX0_addCount_8 ?_
  refine lv_iconst (v := (nI 1)) hx hb dX0_addCount_9 (by decide) ?_
  refine nn_iadd hx hb dX0_addCount_10 ?_
  refine mm_iast hx hb hE hh (by omega) (fcn d (by omega)) (by omega) (by decide) dX0_addCount_11 (fun H locs mem1 f2 k3 hh => ?_)
  rw [va_up_nI] at f2
  have hfr4 : ∀ j, j ≠ (3 + d) → j ≠ 19 → mem1 j = mem j := fun j c0 c1 => (k3 j (by omega)).trans (hfr j c0 c1)
  have f5 : mem1 1 = .inr (0, [.ref (b + 2), .ref (b + 19), .ref (b + 20), .ref (b + 37), .ref (b + 38), .int (nI nd)]) := (k3 _ (by omega)).trans fC
  have f6 : mem1 2 = aR Γ 7 16 (fun i => some (b + (3 + i))) := (k3 _ (by omega)).trans fCo
  have f7 : mem1 19 = aN Γ 16 ln := (k3 _ (by omega)).trans fL
  have f8 : ∀ z9, z9 < 16 → mem1 (3 + z9) = aN Γ 12 ((va_up cn d (va_up (cn d) t (((cn d) t) + 1))) z9) := by
    intro z9 hz9
    by_cases e9 : z9 = d
    · rw [e9, va_up_self]; exact f2
    · rw [va_up_ne _ _ e9]; exact (k3 _ (by omega)).trans (fcn z9 hz9)
  refine lv_aload_n hx hb dX0_addCount_12 rfl (lv_at hl 0 rfl) ?_
  refine gf_X0_lengths hx hb hE hown hh (by omega) f5 rfl dX0_addCount_13 ?_
  refine lv_iload_n hx hb dX0_addCount_16 rfl (lv_at hl 1 rfl) ?_
  refine lv_dup2_11 hx hb dX0_addCount_17 rfl rfl ?_
  refine mm_iald hx hb hE hh (by omega) f7 (by omega) (by decide) dX0_addCount_18 ?_
  refine lv_iconst (v := (nI 1)) hx hb dX0_addCount_19 (by decide) ?_
  refine nn_iadd hx hb dX0_addCount_20 ?_
  refine mm_iast hx hb hE hh (by omega) f7 (by omega) (by decide) dX0_addCount_21 (fun H locs mem9 f10 k11 hh => ?_)
  rw [va_up_nI] at f10
  have hfr12 : ∀ j, j ≠ (3 + d) → j ≠ 19 → mem9 j = mem j := fun j c0 c1 => (k11 j (by omega)).trans (hfr4 j c0 c1)
  have f13 : mem9 1 = .inr (0, [.ref (b + 2), .ref (b + 19), .ref (b + 20), .ref (b + 37), .ref (b + 38), .int (nI nd)]) := (k11 _ (by omega)).trans f5
  have f14 : mem9 2 = aR Γ 7 16 (fun i => some (b + (3 + i))) := (k11 _ (by omega)).trans f6
  have f15 : ∀ z9, z9 < 16 → mem9 (3 + z9) = aN Γ 12 ((va_up cn d (va_up (cn d) t (((cn d) t) + 1))) z9) := fun z9 hz9 => (k11 _ (by omega)).trans (f8 z9 hz9)
  refine lv_aload_n hx hb dX0_addCount_22 rfl (lv_at hl 0 rfl) ?_
  refine gf_X0_counts hx hb hE hown hh (by omega) f13 rfl dX0_addCount_23 ?_
  refine lv_iload_n hx hb dX0_addCount_26 rfl (lv_at hl 1 rfl) ?_
  refine mm_aald (q := b + (3 + d)) hx hb hE hh 7 (by omega) f14 rfl rfl (by omega) (by decide) (rfl) dX0_addCount_27 ?_
  refine lv_iload_n hx hb dX0_addCount_28 rfl (lv_at hl 2 rfl) ?_
  refine mm_iald hx hb hE hh (by omega) (by rw [f15 d (by omega), va_up_self]) (by omega) (by decide) dX0_addCount_29 ?_
  exact mm_iret hx hb hr hlocks hE hh (by first | rfl | rw [va_up_self]) (⟨by rw [f15 d (by omega), va_up_self], f10, hfr12⟩) dX0_addCount_30
set_option maxHeartbeats 4000000 in
set_option maxRecDepth 100000 in
/-- Collection.setWeight -/
theorem c_X0_setWeight (l : Launch) (Γ : Gm) (b M : Nat) (mem : Nat → va_E) {nd : Nat} {d t : Nat} {wt : Nat → Nat → UInt32} {x : UInt32} (hM : 138 ≤ M) (fC : mem 1 = .inr (0, [.ref (b + 2), .ref (b + 19), .ref (b + 20), .ref (b + 37), .ref (b + 38), .int (nI nd)])) (fWo : mem 20 = aR Γ 8 16 (fun i => some (b + (21 + i)))) (fwt : ∀ z9, z9 < 16 → mem (21 + z9) = aF Γ 12 (wt z9)) (hd : d < 16) (ht : t < 12) : Ct l yX0_setWeight (.code yX0_setWeight cX0_setWeight 4 none) ({ frames := 0, cells := 0, slots := 0, locals := 0 } : Room) Γ b M [.ref (b + 1), .int (nI d), .int (nI t), .float x] mem (fun u => u (21 + d) = aF Γ 12 (va_up (wt d) t x) ∧ ∀ j, j ≠ (21 + d) → u j = mem j) none := by
  refine mm_enter (cc := cX0_setWeight) (by decide) (Nat.le_of_ble_eq_true rfl) ?_
  intro p e s m args below meth c ls hx hb hml hown hr hlocks hname hE hh hl
  have hl : lv_has ls 4 [(0, .ref (b + 1)), (1, .int (nI d)), (2, .int (nI t)), (3, .float x)] := hl
  have hfr : ∀ j, j ≠ (21 + d) → mem j = mem j := fun j _ => rfl
  refine lv_aload_n hx hb dX0_setWeight_0 rfl (lv_at hl 0 rfl) ?_
  refine gf_X0_weights hx hb hE hown hh (by omega) fC rfl dX0_setWeight_1 ?_
  refine lv_iload_n hx hb dX0_setWeight_4 rfl (lv_at hl 1 rfl) ?_
  refine mm_aald (q := b + (21 + d)) hx hb hE hh 8 (by omega) fWo rfl rfl (by omega) (by decide) (rfl) dX0_setWeight_5 ?_
  refine lv_iload_n hx hb dX0_setWeight_6 rfl (lv_at hl 2 rfl) ?_
  refine lv_fload_n hx hb dX0_setWeight_7 rfl (lv_at hl 3 rfl) ?_
  refine mm_fast hx hb hE hh (by omega) (fwt d (by omega)) (by omega) (by decide) dX0_setWeight_8 (fun H locs mem1 f2 k3 hh => ?_)
  have hfr4 : ∀ j, j ≠ (21 + d) → mem1 j = mem j := fun j c0 => (k3 j (by omega)).trans (hfr j c0)
  have f5 : mem1 1 = .inr (0, [.ref (b + 2), .ref (b + 19), .ref (b + 20), .ref (b + 37), .ref (b + 38), .int (nI nd)]) := (k3 _ (by omega)).trans fC
  have f6 : mem1 20 = aR Γ 8 16 (fun i => some (b + (21 + i))) := (k3 _ (by omega)).trans fWo
  have f7 : ∀ z9, z9 < 16 → mem1 (21 + z9) = aF Γ 12 ((va_up wt d (va_up (wt d) t x)) z9) := by
    intro z9 hz9
    by_cases e9 : z9 = d
    · rw [e9, va_up_self]; exact f2
    · rw [va_up_ne _ _ e9]; exact (k3 _ (by omega)).trans (fwt z9 hz9)
  exact mm_vret hx hb hr hlocks hE hh (⟨by rw [f7 d (by omega), va_up_self], hfr4⟩) dX0_setWeight_9
set_option maxHeartbeats 4000000 in
set_option maxRecDepth 100000 in
/-- Collection.tokensOf -/
theorem c_X0_tokensOf (l : Launch) (Γ : Gm) (b M : Nat) (mem : Nat → va_E) {nd : Nat} {d : Nat} (hM : 138 ≤ M) (fC : mem 1 = .inr (0, [.ref (b + 2), .ref (b + 19), .ref (b + 20), .ref (b + 37), .ref (b + 38), .int (nI nd)])) (fTo : mem 37 = aR Γ 6 16 (fun i => some (b + (40 + 2 * i)))) (hd : d < 16) : Ct l yX0_tokensOf (.code yX0_tokensOf cX0_tokensOf 2 (some (.object "HybridSearch$VectorRow"))) ({ frames := 0, cells := 0, slots := 0, locals := 0 } : Room) Γ b M [.ref (b + 1), .int (nI d)] mem (fun u => u = mem) (some (.ref (b + (40 + 2 * d)))) := by
  refine mm_enter (cc := cX0_tokensOf) (by decide) (Nat.le_of_ble_eq_true rfl) ?_
  intro p e s m args below meth c ls hx hb hml hown hr hlocks hname hE hh hl
  have hl : lv_has ls 2 [(0, .ref (b + 1)), (1, .int (nI d))] := hl
  refine lv_aload_n hx hb dX0_tokensOf_0 rfl (lv_at hl 0 rfl) ?_
  refine gf_X0_tokens hx hb hE hown hh (by omega) fC rfl dX0_tokensOf_1 ?_
  refine lv_iload_n hx hb dX0_tokensOf_4 rfl (lv_at hl 1 rfl) ?_
  refine mm_aald (q := b + (40 + 2 * d)) hx hb hE hh 6 (by omega) fTo rfl rfl (by omega) (by decide) (rfl) dX0_tokensOf_5 ?_
  exact mm_aret hx hb hr hlocks hE hh (rfl) (rfl) dX0_tokensOf_6
set_option maxHeartbeats 4000000 in
set_option maxRecDepth 100000 in
/-- Collection.centroidRow -/
theorem c_X0_centroidRow (l : Launch) (Γ : Gm) (b M : Nat) (mem : Nat → va_E) {nd : Nat} (hM : 138 ≤ M) (fC : mem 1 = .inr (0, [.ref (b + 2), .ref (b + 19), .ref (b + 20), .ref (b + 37), .ref (b + 38), .int (nI nd)])) : Ct l yX0_centroidRow (.code yX0_centroidRow cX0_centroidRow 1 (some (.object "HybridSearch$VectorRow"))) ({ frames := 0, cells := 0, slots := 0, locals := 0 } : Room) Γ b M [.ref (b + 1)] mem (fun u => u = mem) (some (.ref (b + 38))) := by
  refine mm_enter (cc := cX0_centroidRow) (by decide) (Nat.le_of_ble_eq_true rfl) ?_
  intro p e s m args below meth c ls hx hb hml hown hr hlocks hname hE hh hl
  have hl : lv_has ls 1 [(0, .ref (b + 1))] := hl
  refine lv_aload_n hx hb dX0_centroidRow_0 rfl (lv_at hl 0 rfl) ?_
  refine gf_X0_centroids hx hb hE hown hh (by omega) fC rfl dX0_centroidRow_1 ?_
  exact mm_aret hx hb hr hlocks hE hh (rfl) (rfl) dX0_centroidRow_4
set_option maxHeartbeats 4000000 in
set_option maxRecDepth 100000 in
/-- Collection.documentsWith -/
theorem c_X0_documentsWith (l : Launch) (Γ : Gm) (b M : Nat) (mem : Nat → va_E) {nd : Nat} {t : Nat} {cn : Nat → Nat → Nat} (hM : 138 ≤ M) (fC : mem 1 = .inr (0, [.ref (b + 2), .ref (b + 19), .ref (b + 20), .ref (b + 37), .ref (b + 38), .int (nI nd)])) (fCo : mem 2 = aR Γ 7 16 (fun i => some (b + (3 + i)))) (fcn : ∀ z9, z9 < 16 → mem (3 + z9) = aN Γ 12 (cn z9)) (hnd : nd ≤ 16) (ht : t < 12) (hcn : ∀ d t, cn d t ≤ 1000) : Ct l yX0_documentsWith (.code yX0_documentsWith cX0_documentsWith 4 (some .int)) ({ frames := 0, cells := 0, slots := 0, locals := 0 } : Room) Γ b M [.ref (b + 1), .int (nI t)] mem (fun u => u = mem) (some (.int (nI (dwN cn t nd)))) := by
  refine mm_enter (cc := cX0_documentsWith) (by decide) (Nat.le_of_ble_eq_true rfl) ?_
  intro p e s m args below meth c ls hx hb hml hown hr hlocks hname hE hh hl
  have hl : lv_has ls 4 [(0, .ref (b + 1)), (1, .int (nI t))] := hl
  refine lv_iconst (v := (nI 0)) hx hb dX0_documentsWith_0 (by decide) ?_
  refine lv_istore_n (lv' := [(2, .int (nI 0)), (0, .ref (b + 1)), (1, .int (nI t))]) hx hb dX0_documentsWith_1 rfl hl (by decide) rfl (fun ls hl => ?_)
  refine lv_iconst (v := (nI 0)) hx hb dX0_documentsWith_2 (by decide) ?_
  refine lv_istore_n (lv' := [(3, .int (nI 0)), (2, .int (nI 0)), (0, .ref (b + 1)), (1, .int (nI t))]) hx hb dX0_documentsWith_3 rfl hl (by decide) rfl (fun ls hl => ?_)
  have loop4 : ∀ (n9 : Nat) (d : Nat), (nd - d) < n9 → (d ≤ nd) → ∀ (H : Heap) (locs : List Loc), GH Γ b M mem s H locs → ∀ (ls : Array Slot), lv_has ls 4 [(3, .int (nI d)), (2, .int (nI (dwN cn t d))), (0, .ref (b + 1)), (1, .int (nI t))] → W p l e ({ frames := 0, cells := 0, slots := 0, locals := 0 } : Room) s m args below meth c H locs 0 0 (MQ below (QC Γ b M (fun u => u = mem) (some (.int (nI (dwN cn t nd))))) args s 0 0 (fun q => b ≤ q)) (F0 m 4 ls []) := by
    intro n9
    induction n9 with
    | zero => intro d hn; exact absurd hn (Nat.not_lt_zero _)
    | succ n9 ih =>
      intro d hn hd H locs hh ls hl
      have hcd := hcn d t
      have ih1 := ih
      refine lv_iload_n hx hb dX0_documentsWith_4 rfl (lv_at hl 0 rfl) ?_
      refine lv_aload_n hx hb dX0_documentsWith_5 rfl (lv_at hl 2 rfl) ?_
      refine gf_X0_size hx hb hE hown hh (by omega) fC rfl dX0_documentsWith_6 ?_
      refine nn_icmp_ge (tgt := 32) hx hb dX0_documentsWith_9 (by decide) (by omega) (by omega) (fun h2 => ?_) (fun h2 => ?_)
      ·
        refine lv_iload_n hx hb dX0_documentsWith_32 rfl (lv_at hl 1 rfl) ?_
        exact mm_iret hx hb hr hlocks hE hh (by rw [show d = nd by omega]) (rfl) dX0_documentsWith_33
      ·
        refine lv_aload_n hx hb dX0_documentsWith_12 rfl (lv_at hl 2 rfl) ?_
        refine gf_X0_counts hx hb hE hown hh (by omega) fC rfl dX0_documentsWith_13 ?_
        refine lv_iload_n hx hb dX0_documentsWith_16 rfl (lv_at hl 0 rfl) ?_
        refine mm_aald (q := b + (3 + d)) hx hb hE hh 7 (by omega) fCo rfl rfl (by omega) (by decide) (rfl) dX0_documentsWith_17 ?_
        refine lv_iload_n hx hb dX0_documentsWith_18 rfl (lv_at hl 3 rfl) ?_
        refine mm_iald hx hb hE hh (by omega) (fcn d (by omega)) (by omega) (by decide) dX0_documentsWith_19 ?_
        refine nn_if_le (tgt := 26) hx hb dX0_documentsWith_20 (by decide) (by omega) (fun h3 => ?_) (fun h3 => ?_)
        ·
          have hn1 : dwN cn t (d + 1) = dwN cn t d := if_neg (by omega)
          refine nn_iinc (x := d) (d := 1) (lv' := [(3, .int (nI (d + 1))), (2, .int (nI (dwN cn t d))), (0, .ref (b + 1)), (1, .int (nI t))]) hx hb dX0_documentsWith_26 hl (k := 0) rfl (by decide) (by decide) rfl (fun ls hl => ?_)
          refine lv_goto (tgt := 4) hx hb dX0_documentsWith_29 (by decide) ?_
          exact ih1 (d + 1) (by omega) (by omega) _ _ hh ls (lv_sub hl [0, 1, 2, 3] (by rw [hn1]; rfl))
        ·
          have hn1 : dwN cn t (d + 1) = dwN cn t d + 1 := if_pos h3
          refine nn_iinc (x := (dwN cn t d)) (d := 1) (lv' := [(2, .int (nI (dwN cn t d + 1))), (3, .int (nI d)), (0, .ref (b + 1)), (1, .int (nI t))]) hx hb dX0_documentsWith_23 hl (k := 1) rfl (by decide) (by decide) rfl (fun ls hl => ?_)
          refine nn_iinc (x := d) (d := 1) (lv' := [(3, .int (nI (d + 1))), (2, .int (nI (dwN cn t d + 1))), (0, .ref (b + 1)), (1, .int (nI t))]) hx hb dX0_documentsWith_26 hl (k := 1) rfl (by decide) (by decide) rfl (fun ls hl => ?_)
          refine lv_goto (tgt := 4) hx hb dX0_documentsWith_29 (by decide) ?_
          exact ih1 (d + 1) (by omega) (by omega) _ _ hh ls (lv_sub hl [0, 1, 2, 3] (by rw [hn1]; rfl))
  exact loop4 ((nd - 0) + 1) 0 (by omega) (by omega) _ _ hh ls (lv_sub hl [0, 1, 2, 3] rfl)
set_option maxHeartbeats 4000000 in
set_option maxRecDepth 100000 in
/-- Collection.averageLength -/
theorem c_X0_averageLength (l : Launch) (Γ : Gm) (b M : Nat) (mem : Nat → va_E) {nd : Nat} {ln : Nat → Nat} (hM : 138 ≤ M) (fC : mem 1 = .inr (0, [.ref (b + 2), .ref (b + 19), .ref (b + 20), .ref (b + 37), .ref (b + 38), .int (nI nd)])) (fL : mem 19 = aN Γ 16 ln) (hnd : nd ≤ 16) : Ct l yX0_averageLength (.code yX0_averageLength cX0_averageLength 3 (some .double)) ({ frames := 0, cells := 0, slots := 0, locals := 0 } : Room) Γ b M [.ref (b + 1)] mem (fun u => u = mem) (some (.double (avF ln nd))) := by
  refine mm_enter (cc := cX0_averageLength) (by decide) (Nat.le_of_ble_eq_true rfl) ?_
  intro p e s m args below meth c ls hx hb hml hown hr hlocks hname hE hh hl
  have hl : lv_has ls 3 [(0, .ref (b + 1))] := hl
  refine lv_iconst (v := (nI 0)) hx hb dX0_averageLength_0 (by decide) ?_
  refine lv_istore_n (lv' := [(1, .int (nI 0)), (0, .ref (b + 1))]) hx hb dX0_averageLength_1 rfl hl (by decide) rfl (fun ls hl => ?_)
  refine lv_iconst (v := (nI 0)) hx hb dX0_averageLength_2 (by decide) ?_
  refine lv_istore_n (lv' := [(2, .int (nI 0)), (1, .int (nI 0)), (0, .ref (b + 1))]) hx hb dX0_averageLength_3 rfl hl (by decide) rfl (fun ls hl => ?_)
  have loop4 : ∀ (n9 : Nat) (d : Nat), (nd - d) < n9 → (d ≤ nd) → ∀ (H : Heap) (locs : List Loc), GH Γ b M mem s H locs → ∀ (ls : Array Slot), lv_has ls 3 [(2, .int (nI d)), (1, .int (nI (suN ln d))), (0, .ref (b + 1))] → W p l e ({ frames := 0, cells := 0, slots := 0, locals := 0 } : Room) s m args below meth c H locs 0 0 (MQ below (QC Γ b M (fun u => u = mem) (some (.double (avF ln nd)))) args s 0 0 (fun q => b ≤ q)) (F0 m 4 ls []) := by
    intro n9
    induction n9 with
    | zero => intro d hn; exact absurd hn (Nat.not_lt_zero _)
    | succ n9 ih =>
      intro d hn hd H locs hh ls hl
      have ih1 := ih
      refine lv_iload_n hx hb dX0_averageLength_4 rfl (lv_at hl 0 rfl) ?_
      refine lv_aload_n hx hb dX0_averageLength_5 rfl (lv_at hl 2 rfl) ?_
      refine gf_X0_size hx hb hE hown hh (by omega) fC rfl dX0_averageLength_6 ?_
      refine nn_icmp_ge (tgt := 27) hx hb dX0_averageLength_9 (by decide) (by omega) (by omega) (fun h2 => ?_) (fun h2 => ?_)
      ·
        obtain rfl : d = nd := by omega
        refine lv_aload_n hx hb dX0_averageLength_27 rfl (lv_at hl 2 rfl) ?_
        refine gf_X0_size hx hb hE hown hh (by omega) fC rfl dX0_averageLength_28 ?_
        refine nn_if_ne (tgt := 38) hx hb dX0_averageLength_31 (by decide) (by omega) (fun h3 => ?_) (fun h3 => ?_)
        ·
          have hq : avF ln d = FP.ddiv (FP.i2d (nI (suN ln d))) (FP.i2d (nI d)) := if_neg (by omega)
          refine lv_iload_n hx hb dX0_averageLength_38 rfl (lv_at hl 1 rfl) ?_
          refine lv_i2d hx hb dX0_averageLength_39 ?_
          refine lv_aload_n hx hb dX0_averageLength_40 rfl (lv_at hl 2 rfl) ?_
          refine gf_X0_size hx hb hE hown hh (by omega) fC rfl dX0_averageLength_41 ?_
          refine lv_i2d hx hb dX0_averageLength_44 ?_
          refine lv_ddiv hx hb dX0_averageLength_45 (((db_i2d _).div (dl_nI (by omega) (by omega)) ((db_i2d _).up (by decide)) (by decide) (by decide)).n (by decide)) ?_
          exact mm_dret hx hb hr hlocks hE hh (by rw [hq]) (rfl) dX0_averageLength_46
        ·
          have hq : avF ln d = FP.dconst0 := if_pos h3
          refine lv_dconst0 hx hb dX0_averageLength_34 ?_
          refine lv_goto (tgt := 46) hx hb dX0_averageLength_35 (by decide) ?_
          exact mm_dret hx hb hr hlocks hE hh (by rw [hq]) (rfl) dX0_averageLength_46
      ·
        refine lv_iload_n hx hb dX0_averageLength_12 rfl (lv_at hl 1 rfl) ?_
        refine lv_aload_n hx hb dX0_averageLength_13 rfl (lv_at hl 2 rfl) ?_
        refine gf_X0_lengths hx hb hE hown hh (by omega) fC rfl dX0_averageLength_14 ?_
        refine lv_iload_n hx hb dX0_averageLength_17 rfl (lv_at hl 0 rfl) ?_
        refine mm_iald hx hb hE hh (by omega) fL (by omega) (by decide) dX0_averageLength_18 ?_
        refine nn_iadd hx hb dX0_averageLength_19 ?_
        refine lv_istore_n (lv' := [(1, .int (nI ((suN ln d) + (ln d)))), (2, .int (nI d)), (0, .ref (b + 1))]) hx hb dX0_averageLength_20 rfl hl (by decide) rfl (fun ls hl => ?_)
        refine nn_iinc (x := d) (d := 1) (lv' := [(2, .int (nI (d + 1))), (1, .int (nI ((suN ln d) + (ln d)))), (0, .ref (b + 1))]) hx hb dX0_averageLength_21 hl (k := 1) rfl (by decide) (by decide) rfl (fun ls hl => ?_)
        refine lv_goto (tgt := 4) hx hb dX0_averageLength_24 (by decide) ?_
        exact ih1 (d + 1) (by omega) (by omega) _ _ hh ls (lv_sub hl [0, 1, 2] rfl)
  exact loop4 ((nd - 0) + 1) 0 (by omega) (by omega) _ _ hh ls (lv_sub hl [0, 1, 2] rfl)
set_option maxHeartbeats 4000000 in
set_option maxRecDepth 100000 in
/-- Collection.greatestWeight -/
theorem c_X0_greatestWeight (l : Launch) (Γ : Gm) (b M : Nat) (mem : Nat → va_E) {nd : Nat} {wt : Nat → Nat → UInt32} (hM : 138 ≤ M) (fC : mem 1 = .inr (0, [.ref (b + 2), .ref (b + 19), .ref (b + 20), .ref (b + 37), .ref (b + 38), .int (nI nd)])) (fWo : mem 20 = aR Γ 8 16 (fun i => some (b + (21 + i)))) (fwt : ∀ z9, z9 < 16 → mem (21 + z9) = aF Γ 12 (wt z9)) (hnd : nd ≤ 16) (hwt : ∀ d t, fb 148 (wt d t)) : Ct l yX0_greatestWeight (.code yX0_greatestWeight cX0_greatestWeight 4 (some .float)) ({ frames := 1, cells := 0, slots := 0, locals := 21 } : Room) Γ b M [.ref (b + 1)] mem (fun u => u = mem) (some (.float (gwF wt nd))) := by
  refine mm_enter (cc := cX0_greatestWeight) (by decide) (Nat.le_of_ble_eq_true rfl) ?_
  intro p e s m args below meth c ls hx hb hml hown hr hlocks hname hE hh hl
  have hl : lv_has ls 4 [(0, .ref (b + 1))] := hl
  refine lv_fconst0 hx hb dX0_greatestWeight_0 ?_
  refine lv_fstore_n (lv' := [(1, .float FP.fconst0), (0, .ref (b + 1))]) hx hb dX0_greatestWeight_1 rfl hl (by decide) rfl (fun ls hl => ?_)
  refine lv_iconst (v := (nI 0)) hx hb dX0_greatestWeight_2 (by decide) ?_
  refine lv_istore_n (lv' := [(2, .int (nI 0)), (1, .float FP.fconst0), (0, .ref (b + 1))]) hx hb dX0_greatestWeight_3 rfl hl (by decide) rfl (fun ls hl => ?_)
  have loop4 : ∀ (n9 : Nat) (d : Nat), (nd - d) < n9 → (d ≤ nd) → ∀ (H : Heap) (locs : List Loc), GH Γ b M mem s H locs → ∀ (ls : Array Slot), lv_has ls 4 [(2, .int (nI d)), (1, .float (gwF wt d)), (0, .ref (b + 1))] → W p l e ({ frames := 1, cells := 0, slots := 0, locals := 21 } : Room) s m args below meth c H locs 0 0 (MQ below (QC Γ b M (fun u => u = mem) (some (.float (gwF wt nd)))) args s 0 0 (fun q => b ≤ q)) (F0 m 4 ls []) := by
    intro n9
    induction n9 with
    | zero => intro d hn; exact absurd hn (Nat.not_lt_zero _)
    | succ n9 ih =>
      intro d hn hd H locs hh ls hl
      have ih1 := ih
      refine lv_iload_n hx hb dX0_greatestWeight_4 rfl (lv_at hl 0 rfl) ?_
      refine lv_aload_n hx hb dX0_greatestWeight_5 rfl (lv_at hl 2 rfl) ?_
      refine gf_X0_size hx hb hE hown hh (by omega) fC rfl dX0_greatestWeight_6 ?_
      refine nn_icmp_ge (tgt := 45) hx hb dX0_greatestWeight_9 (by decide) (by omega) (by omega) (fun h2 => ?_) (fun h2 => ?_)
      ·
        obtain rfl : d = nd := by omega
        refine lv_fload_n hx hb dX0_greatestWeight_45 rfl (lv_at hl 1 rfl) ?_
        exact mm_fret hx hb hr hlocks hE hh (rfl) (rfl) dX0_greatestWeight_46
      ·
        refine lv_iconst (v := (nI 0)) hx hb dX0_greatestWeight_12 (by decide) ?_
        refine lv_istore_n (lv' := [(3, .int (nI 0)), (2, .int (nI d)), (1, .float (gwF wt d)), (0, .ref (b + 1))]) hx hb dX0_greatestWeight_13 rfl hl (by decide) rfl (fun ls hl => ?_)
        have loop14 : ∀ (n9 : Nat) (t : Nat), (12 - t) < n9 → (t ≤ 12) → ∀ (H : Heap) (locs : List Loc), GH Γ b M mem s H locs → ∀ (ls : Array Slot), lv_has ls 4 [(3, .int (nI t)), (2, .int (nI d)), (1, .float (gwT (wt d) (gwF wt d) t)), (0, .ref (b + 1))] → W p l e ({ frames := 1, cells := 0, slots := 0, locals := 21 } : Room) s m args below meth c H locs 0 0 (MQ below (QC Γ b M (fun u => u = mem) (some (.float (gwF wt nd)))) args s 0 0 (fun q => b ≤ q)) (F0 m 14 ls []) := by
          intro n9
          induction n9 with
          | zero => intro t hn; exact absurd hn (Nat.not_lt_zero _)
          | succ n9 ih =>
            intro t hn ht H locs hh ls hl
            have ih3 := ih
            refine lv_iload_n hx hb dX0_greatestWeight_14 rfl (lv_at hl 0 rfl) ?_
            refine lv_bipush (v := (nI 12)) hx hb dX0_greatestWeight_15 (by decide) ?_
            refine nn_icmp_ge (tgt := 39) hx hb dX0_greatestWeight_17 (by decide) (by omega) (by omega) (fun h4 => ?_) (fun h4 => ?_)
            ·
              obtain rfl : t = 12 := by omega
              refine nn_iinc (x := d) (d := 1) (lv' := [(2, .int (nI (d + 1))), (3, .int (nI 12)), (1, .float (gwT (wt d) (gwF wt d) 12)), (0, .ref (b + 1))]) hx hb dX0_greatestWeight_39 hl (k := 1) rfl (by decide) (by decide) rfl (fun ls hl => ?_)
              refine lv_goto (tgt := 4) hx hb dX0_greatestWeight_42 (by decide) ?_
              exact ih1 (d + 1) (by omega) (by omega) _ _ hh ls (lv_sub hl [0, 2, 3] rfl)
            ·
              refine lv_fload_n hx hb dX0_greatestWeight_20 rfl (lv_at hl 2 rfl) ?_
              refine lv_aload_n hx hb dX0_greatestWeight_21 rfl (lv_at hl 3 rfl) ?_
              refine gf_X0_weights hx hb hE hown hh (by omega) fC rfl dX0_greatestWeight_22 ?_
              refine lv_iload_n hx hb dX0_greatestWeight_25 rfl (lv_at hl 1 rfl) ?_
              refine mm_aald (q := b + (21 + d)) hx hb hE hh 8 (by omega) fWo rfl rfl (by omega) (by decide) (rfl) dX0_greatestWeight_26 ?_
              refine lv_iload_n hx hb dX0_greatestWeight_27 rfl (lv_at hl 0 rfl) ?_
              refine mm_fald hx hb hE hh (by omega) (fwt d (by omega)) (by omega) (by decide) dX0_greatestWeight_28 ?_
              refine mm_SN0r (As := [.float (gwT (wt d) (gwF wt d) t), .float ((wt d) t)]) (rest := []) hx hb hml hown hE hl.1 hh (kc_X0_42 hE.2.1 hE.2.2.1 ⟨Nat.le_of_ble_eq_true rfl, Nat.le_of_ble_eq_true rfl⟩) (c_X9_greater l Γ b M mem (x := gwT (wt d) (gwF wt d) t) (y := (wt d) t) ((gwT_ok (gwF_ok hwt d) (hwt d) t).2.up (by decide)) ((hwt d t).up (by decide))) rfl rfl (Nat.le_of_ble_eq_true rfl) dX0_greatestWeight_29 rfl rfl (fun H locs hh => ?_)
              rw [gtF_mx (gwT_ok (gwF_ok hwt d) (hwt d) t).1 ((gwT_ok (gwF_ok hwt d) (hwt d) t).2.up (by decide)) ((hwt d t).up (by decide))]
              refine lv_fstore_n (lv' := [(1, .float (mxF (gwT (wt d) (gwF wt d) t) ((wt d) t))), (3, .int (nI t)), (2, .int (nI d)), (0, .ref (b + 1))]) hx hb dX0_greatestWeight_32 rfl hl (by decide) rfl (fun ls hl => ?_)
              refine nn_iinc (x := t) (d := 1) (lv' := [(3, .int (nI (t + 1))), (1, .float (mxF (gwT (wt d) (gwF wt d) t) ((wt d) t))), (2, .int (nI d)), (0, .ref (b + 1))]) hx hb dX0_greatestWeight_33 hl (k := 1) rfl (by decide) (by decide) rfl (fun ls hl => ?_)
              refine lv_goto (tgt := 14) hx hb dX0_greatestWeight_36 (by decide) ?_
              exact ih3 (t + 1) (by omega) (by omega) _ _ hh ls (lv_sub hl [0, 2, 1, 3] rfl)
        exact loop14 ((12 - 0) + 1) 0 (by omega) (by omega) _ _ hh ls (lv_sub hl [0, 1, 2, 3] rfl)
  exact loop4 ((nd - 0) + 1) 0 (by omega) (by omega) _ _ hh ls (lv_sub hl [0, 1, 2] rfl)
set_option maxHeartbeats 4000000 in
set_option maxRecDepth 100000 in
/-- Collection.impactOf -/
theorem c_X0_impactOf (l : Launch) (Γ : Gm) (b M : Nat) (mem : Nat → va_E) {nd : Nat} {d t : Nat} {wt : Nat → Nat → UInt32} {g : UInt32} (hM : 138 ≤ M) (fC : mem 1 = .inr (0, [.ref (b + 2), .ref (b + 19), .ref (b + 20), .ref (b + 37), .ref (b + 38), .int (nI nd)])) (fWo : mem 20 = aR Γ 8 16 (fun i => some (b + (21 + i)))) (fwt : ∀ z9, z9 < 16 → mem (21 + z9) = aF Γ 12 (wt z9)) (hd : d < 16) (ht : t < 12) (hw : fb 250 (wt d t)) (hg : fb 250 g) : Ct l yX0_impactOf (.code yX0_impactOf cX0_impactOf 5 (some .int)) ({ frames := 0, cells := 0, slots := 0, locals := 0 } : Room) Γ b M [.ref (b + 1), .int (nI d), .int (nI t), .float g] mem (fun u => u = mem) (some (.int (imF (wt d t) g))) := by
  refine mm_enter (cc := cX0_impactOf) (by decide) (Nat.le_of_ble_eq_true rfl) ?_
  intro p e s m args below meth c ls hx hb hml hown hr hlocks hname hE hh hl
  have hl : lv_has ls 5 [(0, .ref (b + 1)), (1, .int (nI d)), (2, .int (nI t)), (3, .float g)] := hl
  refine lv_aload_n hx hb dX0_impactOf_0 rfl (lv_at hl 0 rfl) ?_
  refine gf_X0_weights hx hb hE hown hh (by omega) fC rfl dX0_impactOf_1 ?_
  refine lv_iload_n hx hb dX0_impactOf_4 rfl (lv_at hl 1 rfl) ?_
  refine mm_aald (q := b + (21 + d)) hx hb hE hh 8 (by omega) fWo rfl rfl (by omega) (by decide) (rfl) dX0_impactOf_5 ?_
  refine lv_iload_n hx hb dX0_impactOf_6 rfl (lv_at hl 2 rfl) ?_
  refine mm_fald hx hb hE hh (by omega) (fwt d (by omega)) (by omega) (by decide) dX0_impactOf_7 ?_
  refine lv_fstore (lv' := [(4, .float ((wt d) t)), (0, .ref (b + 1)), (1, .int (nI d)), (2, .int (nI t)), (3, .float g)]) hx hb dX0_impactOf_8 hl (by decide) rfl (fun ls hl => ?_)
  refine lv_fload hx hb dX0_impactOf_10 (lv_at hl 0 rfl) ?_
  refine lv_fconst0 hx hb dX0_impactOf_12 ?_
  refine lv_fcmp hx hb dX0_impactOf_13 ?_
  refine nn_cl_le (tgt := 23) hx hb dX0_impactOf_14 (by decide) (fun h1 => ?_) (fun h1 => ?_)
  ·
    have hq : imF (wt d t) g = 0 := if_neg (fun q => h1 q.1)
    refine lv_iconst (v := (nI 0)) hx hb dX0_impactOf_23 (by decide) ?_
    exact mm_iret hx hb hr hlocks hE hh (by rw [hq]; rfl) (rfl) dX0_impactOf_24
  ·
    have h14 := Classical.not_not.mp h1
    refine lv_fload_n hx hb dX0_impactOf_17 rfl (lv_at hl 4 rfl) ?_
    refine lv_fconst0 hx hb dX0_impactOf_18 ?_
    refine lv_fcmp hx hb dX0_impactOf_19 ?_
    refine nn_cl_gt (tgt := 25) hx hb dX0_impactOf_20 (by decide) (fun h2 => ?_) (fun h2 => ?_)
    ·
      have hq : imF (wt d t) g = FP.f2i (FP.fadd (FP.fmul (FP.fdiv (wt d t) g) 1132396544) 1056964608) := if_pos ⟨h14, h2⟩
      have h20 := h2
      refine lv_fload hx hb dX0_impactOf_25 (lv_at hl 0 rfl) ?_
      refine lv_fload_n hx hb dX0_impactOf_27 rfl (lv_at hl 4 rfl) ?_
      refine lv_fdiv hx hb dX0_impactOf_28 (im_n1 hw hg h20) ?_
      refine lv_ldcf hx hb hown (wk_X0_46 hE.2.1 args) dX0_impactOf_29 ?_
      refine lv_fmul hx hb dX0_impactOf_31 (im_n2 (im_n1 hw hg h20)) ?_
      refine lv_ldcf hx hb hown (wk_X0_47 hE.2.1 args) dX0_impactOf_32 ?_
      refine lv_fadd hx hb dX0_impactOf_34 (im_n3 (im_n2 (im_n1 hw hg h20))) ?_
      refine lv_f2i hx hb dX0_impactOf_35 ?_
      exact mm_iret hx hb hr hlocks hE hh (by rw [hq]) (rfl) dX0_impactOf_36
    ·
      have hq : imF (wt d t) g = 0 := if_neg (fun q => h2 q.2)
      refine lv_iconst (v := (nI 0)) hx hb dX0_impactOf_23 (by decide) ?_
      exact mm_iret hx hb hr hlocks hE hh (by rw [hq]; rfl) (rfl) dX0_impactOf_24
