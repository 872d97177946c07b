/-! VECTORROW, TERMROW: the pure words -/
def pr4 (f : Nat → UInt32) (i : Nat) (g : Nat → UInt32) (j : Nat) : Nat → UInt32
  | 0 => FP.fconst0
  | n + 1 => FP.fadd (pr4 f i g j n) (FP.fmul (f (i + n)) (g (j + n)))
def gdF (f : Nat → UInt32) : Prop := ∀ k, fb 148 (f k)
theorem pr4_fb {f g : Nat → UInt32} (hf : gdF f) (hg : gdF g) (i j : Nat) : ∀ n, n ≤ 4 → fb (170 + 2 * n) (pr4 f i g j n)
  | 0, _ => (show fb 170 FP.fconst0 by unfold fb; decide)
  | n + 1, h => by
    have h1 := pr4_fb hf hg i j n (by omega)
    have h2 : fb (170 + 2 * n) (FP.fmul (f (i + n)) (g (j + n))) := ((hf (i + n)).mul (hg (j + n)) (by decide) (by decide)).up (by omega)
    exact (h1.add h2 (by omega)).up (by omega)
def prJ (f : Nat → UInt32) (i : Nat) (g : Nat → UInt32) : Nat → UInt32 := fun j => pr4 f i g (j * 4) 4
theorem prJ_fb {f g : Nat → UInt32} (hf : gdF f) (hg : gdF g) (i j : Nat) : fb 178 (prJ f i g j) := pr4_fb hf hg i _ 4 (Nat.le_refl 4)
/-- the place of the greatest of P 0 .. P n, of equal ones the first -/
def nrs (P : Nat → UInt32) : Nat → Nat
  | 0 => 0
  | n + 1 => if FP.fcmp (P (n + 1)) (P (nrs P n)) = some .gt then n + 1 else nrs P n
theorem nrs_le (P : Nat → UInt32) : ∀ n, nrs P n ≤ n
  | 0 => Nat.le_refl 0
  | n + 1 => by
    unfold nrs
    split
    · exact Nat.le_refl _
    · exact Nat.le_succ_of_le (nrs_le P n)
/-- VectorRow.nearestIn's two locals behind j rows -/
def nst (P : Nat → UInt32) : Nat → Int32
  | 0 => -1
  | j + 1 => nI (nrs P j)
def nsv (P : Nat → UInt32) : Nat → UInt32
  | 0 => FP.fconst0
  | j + 1 => P (nrs P j)
theorem nst_A0 {P : Nat → UInt32} {j : Nat} (hj : j ≤ 4) (h : nst P j < 0) : nst P (j + 1) = nI j ∧ nsv P (j + 1) = P j := by
  cases j with
  | zero => exact ⟨rfl, rfl⟩
  | succ m => exact absurd h (nI_pos (by have := nrs_le P m; omega))
theorem nst_A1 {P : Nat → UInt32} {j : Nat} (h0 : ¬ nst P j < 0) (h : FP.fcmp (P j) (nsv P j) = some .gt) : nst P (j + 1) = nI j ∧ nsv P (j + 1) = P j := by
  cases j with
  | zero => exact absurd (show (-1 : Int32) < 0 by decide) h0
  | succ m =>
    have e : nrs P (m + 1) = m + 1 := if_pos h
    exact ⟨by show nI (nrs P (m + 1)) = _; rw [e], by show P (nrs P (m + 1)) = _; rw [e]⟩
theorem nst_B {P : Nat → UInt32} {j : Nat} (h0 : ¬ nst P j < 0) (h : ¬ FP.fcmp (P j) (nsv P j) = some .gt) : nst P (j + 1) = nst P j ∧ nsv P (j + 1) = nsv P j := by
  cases j with
  | zero => exact absurd (show (-1 : Int32) < 0 by decide) h0
  | succ m =>
    have e : nrs P (m + 1) = nrs P m := if_neg h
    exact ⟨by show nI (nrs P (m + 1)) = nI (nrs P m); rw [e], by show P (nrs P (m + 1)) = P (nrs P m); rw [e]⟩
def hasT (f : Nat → Int32) (t : Int32) : Nat → Bool
  | 0 => false
  | n + 1 => hasT f t n || decide (f n = t)
theorem hasT_no {f : Nat → Int32} {t : Int32} {n : Nat} (h : hasT f t n = false) (hn : ¬ f n = t) : hasT f t (n + 1) = false := by simp [hasT, h, hn]
theorem hasT_yes {f : Nat → Int32} {t : Int32} : ∀ {n k : Nat}, k < n → f k = t → hasT f t n = true
  | 0, _, h, _ => absurd h (Nat.not_lt_zero _)
  | n + 1, k, h, e => by
    unfold hasT
    by_cases hk : k = n
    · subst hk; simp [e]
    · rw [hasT_yes (show k < n by omega) e]; rfl

set_option maxHeartbeats 4000000 in
set_option maxRecDepth 100000 in
/-- VectorRow.size -/
theorem c_X7_size (l : Launch) (Γ : Gm) (b M : Nat) (mem : Nat → va_E) {a lim sz : Nat} (hM : a + 2 ≤ M) (fa : mem a = .inr (6, [.ref (b + (a + 1)), .int (nI lim), .int (nI sz)])) : Ct l yX7_size (.code yX7_size cX7_size 1 (some .int)) ({ frames := 0, cells := 0, slots := 0, locals := 0 } : Room) Γ b M [.ref (b + a)] mem (fun u => u = mem) (some (.int (nI sz))) := by
  refine mm_enter (cc := cX7_size) (by decide) (Nat.le_of_ble_eq_true rfl) ?_
  intro p e s m args below meth c ls hx hb hml hown hr hlocks hname hE hh hl
  have hl : lv_has ls 1 [(0, .ref (b + a))] := hl
  refine lv_aload_n hx hb dX7_size_0 rfl (lv_at hl 0 rfl) ?_
  refine gf_X7_size hx hb hE hown hh (by omega) fa rfl dX7_size_1 ?_
  exact mm_iret hx hb hr hlocks hE hh (rfl) (rfl) dX7_size_4
set_option maxHeartbeats 4000000 in
set_option maxRecDepth 100000 in
/-- VectorRow.isFull -/
theorem c_X7_isFull (l : Launch) (Γ : Gm) (b M : Nat) (mem : Nat → va_E) {a lim sz : Nat} (hM : a + 2 ≤ M) (fa : mem a = .inr (6, [.ref (b + (a + 1)), .int (nI lim), .int (nI sz)])) (hz : lim ≤ 4) (hs : sz ≤ lim) : Ct l yX7_isFull (.code yX7_isFull cX7_isFull 1 (some .boolean)) ({ frames := 0, cells := 0, slots := 0, locals := 0 } : Room) Γ b M [.ref (b + a)] mem (fun u => u = mem) (some (.int (bI (decide (lim ≤ sz))))) := by
  refine mm_enter (cc := cX7_isFull) (by decide) (Nat.le_of_ble_eq_true rfl) ?_
  intro p e s m args below meth c ls hx hb hml hown hr hlocks hname hE hh hl
  have hl : lv_has ls 1 [(0, .ref (b + a))] := hl
  refine lv_aload_n hx hb dX7_isFull_0 rfl (lv_at hl 0 rfl) ?_
  refine gf_X7_size hx hb hE hown hh (by omega) fa rfl dX7_isFull_1 ?_
  refine lv_aload_n hx hb dX7_isFull_4 rfl (lv_at hl 0 rfl) ?_
  refine gf_X7_limit hx hb hE hown hh (by omega) fa rfl dX7_isFull_5 ?_
  refine nn_icmp_lt (tgt := 15) hx hb dX7_isFull_8 (by decide) (by omega) (by omega) (fun h1 => ?_) (fun h1 => ?_)
  ·
    refine lv_iconst (v := (nI 0)) hx hb dX7_isFull_15 (by decide) ?_
    exact mm_zret hx hb hr hlocks hE hh (by simp_all [bI, nI]) (rfl) rfl dX7_isFull_16
  ·
    refine lv_iconst (v := (nI 1)) hx hb dX7_isFull_11 (by decide) ?_
    refine lv_goto (tgt := 16) hx hb dX7_isFull_12 (by decide) ?_
    exact mm_zret hx hb hr hlocks hE hh (by simp_all [bI, nI]) (rfl) rfl dX7_isFull_16
set_option maxHeartbeats 4000000 in
set_option maxRecDepth 100000 in
/-- VectorRow.empty -/
theorem c_X7_empty (l : Launch) (Γ : Gm) (b M : Nat) (mem : Nat → va_E) {a lim sz : Nat} (hM : a + 2 ≤ M) (fa : mem a = .inr (6, [.ref (b + (a + 1)), .int (nI lim), .int (nI sz)])) : Ct l yX7_empty (.code yX7_empty cX7_empty 1 none) ({ frames := 0, cells := 0, slots := 0, locals := 0 } : Room) Γ b M [.ref (b + a)] mem (fun u => u a = .inr (6, [.ref (b + (a + 1)), .int (nI lim), .int (nI 0)]) ∧ ∀ j, j ≠ a → u j = mem j) none := by
  refine mm_enter (cc := cX7_empty) (by decide) (Nat.le_of_ble_eq_true rfl) ?_
  intro p e s m args below meth c ls hx hb hml hown hr hlocks hname hE hh hl
  have hl : lv_has ls 1 [(0, .ref (b + a))] := hl
  have hfr : ∀ j, j ≠ a → mem j = mem j := fun j _ => rfl
  refine lv_aload_n hx hb dX7_empty_0 rfl (lv_at hl 0 rfl) ?_
  refine lv_iconst (v := (nI 0)) hx hb dX7_empty_1 (by decide) ?_
  refine gp_X7_size (fs' := [.ref (b + (a + 1)), .int (nI lim), .int (nI 0)]) hx hb hE hown hh (by omega) fa rfl rfl (show 2 < 3 by decide) rfl dX7_empty_2 (fun H locs mem1 f2 k3 hh => ?_)
  have hfr4 : ∀ j, j ≠ a → mem1 j = mem j := fun j c0 => (k3 j (by omega)).trans (hfr j c0)
  exact mm_vret hx hb hr hlocks hE hh (⟨f2, hfr4⟩) dX7_empty_5
set_option maxHeartbeats 4000000 in
set_option maxRecDepth 100000 in
/-- VectorRow.add -/
theorem c_X7_add (l : Launch) (Γ : Gm) (b M : Nat) (mem : Nat → va_E) {a lim sz : Nat} {L : Nat} {f : Nat → UInt32} {v0 v1 v2 v3 : UInt32} (hM : a + 2 ≤ M) (fa : mem a = .inr (6, [.ref (b + (a + 1)), .int (nI lim), .int (nI sz)])) (hz : lim ≤ 4) (hs : sz < lim) (fn : mem (a + 1) = aF Γ L f) (hL : L = 4 * lim) : Ct l yX7_add (.code yX7_add cX7_add 6 (some .int)) ({ frames := 0, cells := 0, slots := 0, locals := 0 } : Room) Γ b M [.ref (b + a), .float v0, .float v1, .float v2, .float v3] mem (fun u => u a = .inr (6, [.ref (b + (a + 1)), .int (nI lim), .int (nI (sz + 1))]) ∧ u (a + 1) = aF Γ L (va_up (va_up (va_up (va_up f (sz * 4) v0) (sz * 4 + 1) v1) (sz * 4 + 2) v2) (sz * 4 + 3) v3) ∧ ∀ j, j ≠ a → j ≠ (a + 1) → u j = mem j) (some (.int (nI (sz + 1)))) := by
  refine mm_enter (cc := cX7_add) (by decide) (Nat.le_of_ble_eq_true rfl) ?_
  intro p e s m args below meth c ls hx hb hml hown hr hlocks hname hE hh hl
  have hl : lv_has ls 6 [(0, .ref (b + a)), (1, .float v0), (2, .float v1), (3, .float v2), (4, .float v3)] := hl
  have hfr : ∀ j, j ≠ a → j ≠ (a + 1) → mem j = mem j := fun j _ _ => rfl
  have hL2 : L < 2 ^ 31 := by omega
  refine lv_aload_n hx hb dX7_add_0 rfl (lv_at hl 0 rfl) ?_
  refine gf_X7_size hx hb hE hown hh (by omega) fa rfl dX7_add_1 ?_
  refine lv_aload_n hx hb dX7_add_4 rfl (lv_at hl 0 rfl) ?_
  refine gf_X7_limit hx hb hE hown hh (by omega) fa rfl dX7_add_5 ?_
  refine nn_icmp_ge (tgt := 68) hx hb dX7_add_8 (by decide) (by omega) (by omega) (fun h1 => ?_) (fun h1 => ?_)
  ·
    exact absurd h1 (by omega)
  ·
    refine lv_aload_n hx hb dX7_add_11 rfl (lv_at hl 0 rfl) ?_
    refine gf_X7_size hx hb hE hown hh (by omega) fa rfl dX7_add_12 ?_
    refine lv_iconst (v := (nI 4)) hx hb dX7_add_15 (by decide) ?_
    refine nn_imul hx hb dX7_add_16 ?_
    refine lv_istore (lv' := [(5, .int (nI (sz * 4))), (0, .ref (b + a)), (1, .float v0), (2, .float v1), (3, .float v2), (4, .float v3)]) hx hb dX7_add_17 hl (by decide) rfl (fun ls hl => ?_)
    refine lv_aload_n hx hb dX7_add_19 rfl (lv_at hl 1 rfl) ?_
    refine gf_X7_numbers hx hb hE hown hh (by omega) fa rfl dX7_add_20 ?_
    refine lv_iload hx hb dX7_add_23 (lv_at hl 0 rfl) ?_
    refine lv_fload_n hx hb dX7_add_25 rfl (lv_at hl 2 rfl) ?_
    refine mm_fast hx hb hE hh (by omega) fn (by omega) (by omega) dX7_add_26 (fun H locs mem2 f3 k4 hh => ?_)
    have hfr5 : ∀ j, j ≠ a → j ≠ (a + 1) → mem2 j = mem j := fun j c0 c1 => (k4 j (by omega)).trans (hfr j c0 c1)
    have f6 : mem2 a = .inr (6, [.ref (b + (a + 1)), .int (nI lim), .int (nI sz)]) := (k4 _ (by omega)).trans fa
    refine lv_aload_n hx hb dX7_add_27 rfl (lv_at hl 1 rfl) ?_
    refine gf_X7_numbers hx hb hE hown hh (by omega) f6 rfl dX7_add_28 ?_
    refine lv_iload hx hb dX7_add_31 (lv_at hl 0 rfl) ?_
    refine lv_iconst (v := (nI 1)) hx hb dX7_add_33 (by decide) ?_
    refine nn_iadd hx hb dX7_add_34 ?_
    refine lv_fload_n hx hb dX7_add_35 rfl (lv_at hl 3 rfl) ?_
    refine mm_fast hx hb hE hh (by omega) f3 (by omega) (by omega) dX7_add_36 (fun H locs mem7 f8 k9 hh => ?_)
    have hfr10 : ∀ j, j ≠ a → j ≠ (a + 1) → mem7 j = mem j := fun j c0 c1 => (k9 j (by omega)).trans (hfr5 j c0 c1)
    have f11 : mem7 a = .inr (6, [.ref (b + (a + 1)), .int (nI lim), .int (nI sz)]) := (k9 _ (by omega)).trans f6
    refine lv_aload_n hx hb dX7_add_37 rfl (lv_at hl 1 rfl) ?_
    refine gf_X7_numbers hx hb hE hown hh (by omega) f11 rfl dX7_add_38 ?_
    refine lv_iload hx hb dX7_add_41 (lv_at hl 0 rfl) ?_
    refine lv_iconst (v := (nI 2)) hx hb dX7_add_43 (by decide) ?_
    refine nn_iadd hx hb dX7_add_44 ?_
    refine lv_fload_n hx hb dX7_add_45 rfl (lv_at hl 4 rfl) ?_
    refine mm_fast hx hb hE hh (by omega) f8 (by omega) (by omega) dX7_add_46 (fun H locs mem12 f13 k14 hh => ?_)
    have hfr15 : ∀ j, j ≠ a → j ≠ (a + 1) → mem12 j = mem j := fun j c0 c1 => (k14 j (by omega)).trans (hfr10 j c0 c1)
    have f16 : mem12 a = .inr (6, [.ref (b + (a + 1)), .int (nI lim), .int (nI sz)]) := (k14 _ (by omega)).trans f11
    refine lv_aload_n hx hb dX7_add_47 rfl (lv_at hl 1 rfl) ?_
    refine gf_X7_numbers hx hb hE hown hh (by omega) f16 rfl dX7_add_48 ?_
    refine lv_iload hx hb dX7_add_51 (lv_at hl 0 rfl) ?_
    refine lv_iconst (v := (nI 3)) hx hb dX7_add_53 (by decide) ?_
    refine nn_iadd hx hb dX7_add_54 ?_
    refine lv_fload hx hb dX7_add_55 (lv_at hl 5 rfl) ?_
    refine mm_fast hx hb hE hh (by omega) f13 (by omega) (by omega) dX7_add_57 (fun H locs mem17 f18 k19 hh => ?_)
    have hfr20 : ∀ j, j ≠ a → j ≠ (a + 1) → mem17 j = mem j := fun j c0 c1 => (k19 j (by omega)).trans (hfr15 j c0 c1)
    have f21 : mem17 a = .inr (6, [.ref (b + (a + 1)), .int (nI lim), .int (nI sz)]) := (k19 _ (by omega)).trans f16
    refine lv_aload_n hx hb dX7_add_58 rfl (lv_at hl 1 rfl) ?_
    refine lv_dup hx hb dX7_add_59 rfl ?_
    refine gf_X7_size hx hb hE hown hh (by omega) f21 rfl dX7_add_60 ?_
    refine lv_iconst (v := (nI 1)) hx hb dX7_add_63 (by decide) ?_
    refine nn_iadd hx hb dX7_add_64 ?_
    refine gp_X7_size (fs' := [.ref (b + (a + 1)), .int (nI lim), .int (nI (sz + 1))]) hx hb hE hown hh (by omega) f21 rfl rfl (show 2 < 3 by decide) rfl dX7_add_65 (fun H locs mem22 f23 k24 hh => ?_)
    have hfr25 : ∀ j, j ≠ a → j ≠ (a + 1) → mem22 j = mem j := fun j c0 c1 => (k24 j (by omega)).trans (hfr20 j c0 c1)
    have f26 : mem22 (a + 1) = aF Γ L (va_up (va_up (va_up (va_up f (sz * 4) v0) ((sz * 4) + 1) v1) ((sz * 4) + 2) v2) ((sz * 4) + 3) v3) := (k24 _ (by omega)).trans f18
    refine lv_aload_n hx hb dX7_add_68 rfl (lv_at hl 1 rfl) ?_
    refine gf_X7_size hx hb hE hown hh (by omega) f23 rfl dX7_add_69 ?_
    exact mm_iret hx hb hr hlocks hE hh (rfl) (⟨f23, f26, hfr25⟩) dX7_add_72
set_option maxHeartbeats 4000000 in
set_option maxRecDepth 100000 in
/-- VectorRow.product -/
theorem c_X7_product (l : Launch) (Γ : Gm) (b M : Nat) (mem : Nat → va_E) {a lim sz : Nat} {a2 lim2 sz2 L L2 : Nat} {f g : Nat → UInt32} {i j : Nat} (hM : a + 2 ≤ M) (hM2 : a2 + 2 ≤ M) (fa : mem a = .inr (6, [.ref (b + (a + 1)), .int (nI lim), .int (nI sz)])) (fn : mem (a + 1) = aF Γ L f) (fo : mem a2 = .inr (6, [.ref (b + (a2 + 1)), .int (nI lim2), .int (nI sz2)])) (fo1 : mem (a2 + 1) = aF Γ L2 g) (hi : 4 * i + 4 ≤ L) (hj : 4 * j + 4 ≤ L2) (hL : L ≤ 16) (hL2 : L2 ≤ 16) (hf : gdF f) (hg : gdF g) : Ct l yX7_product (.code yX7_product cX7_product 6 (some .float)) ({ frames := 0, cells := 0, slots := 0, locals := 0 } : Room) Γ b M [.ref (b + a), .int (nI i), .ref (b + a2), .int (nI j)] mem (fun u => u = mem) (some (.float (prJ f (i * 4) g j))) := by
  refine mm_enter (cc := cX7_product) (by decide) (Nat.le_of_ble_eq_true rfl) ?_
  intro p e s m args below meth c ls hx hb hml hown hr hlocks hname hE hh hl
  have hl : lv_has ls 6 [(0, .ref (b + a)), (1, .int (nI i)), (2, .ref (b + a2)), (3, .int (nI j))] := hl
  refine lv_fconst0 hx hb dX7_product_0 ?_
  refine lv_fstore (lv' := [(4, .float FP.fconst0), (0, .ref (b + a)), (1, .int (nI i)), (2, .ref (b + a2)), (3, .int (nI j))]) hx hb dX7_product_1 hl (by decide) rfl (fun ls hl => ?_)
  refine lv_iconst (v := (nI 0)) hx hb dX7_product_3 (by decide) ?_
  refine lv_istore (lv' := [(5, .int (nI 0)), (4, .float FP.fconst0), (0, .ref (b + a)), (1, .int (nI i)), (2, .ref (b + a2)), (3, .int (nI j))]) hx hb dX7_product_4 hl (by decide) rfl (fun ls hl => ?_)
  have loop6 : ∀ (n9 : Nat) (k : Nat), (4 - k) < n9 → (k ≤ 4) → ∀ (H : Heap) (locs : List Loc), GH Γ b M mem s H locs → ∀ (ls : Array Slot), lv_has ls 6 [(5, .int (nI k)), (4, .float (pr4 f (i * 4) g (j * 4) k)), (0, .ref (b + a)), (1, .int (nI i)), (2, .ref (b + a2)), (3, .int (nI j))] → W p l e ({ frames := 0, cells := 0, slots := 0, locals := 0 } : Room) s m args below meth c H locs 0 0 (MQ below (QC Γ b M (fun u => u = mem) (some (.float (prJ f (i * 4) g j)))) args s 0 0 (fun q => b ≤ q)) (F0 m 6 ls []) := by
    intro n9
    induction n9 with
    | zero => intro k hn; exact absurd hn (Nat.not_lt_zero _)
    | succ n9 ih =>
      intro k hn hk H locs hh ls hl
      have ih1 := ih
      refine lv_iload hx hb dX7_product_6 (lv_at hl 0 rfl) ?_
      refine lv_iconst (v := (nI 4)) hx hb dX7_product_8 (by decide) ?_
      refine nn_icmp_ge (tgt := 46) hx hb dX7_product_9 (by decide) (by omega) (by omega) (fun h2 => ?_) (fun h2 => ?_)
      ·
        refine lv_fload hx hb dX7_product_46 (lv_at hl 1 rfl) ?_
        exact mm_fret hx hb hr hlocks hE hh (by rw [show k = 4 by omega]; rfl) (rfl) dX7_product_48
      ·
        refine lv_fload hx hb dX7_product_12 (lv_at hl 1 rfl) ?_
        refine lv_aload_n hx hb dX7_product_14 rfl (lv_at hl 2 rfl) ?_
        refine gf_X7_numbers hx hb hE hown hh (by omega) fa rfl dX7_product_15 ?_
        refine lv_iload_n hx hb dX7_product_18 rfl (lv_at hl 3 rfl) ?_
        refine lv_iconst (v := (nI 4)) hx hb dX7_product_19 (by decide) ?_
        refine nn_imul hx hb dX7_product_20 ?_
        refine lv_iload hx hb dX7_product_21 (lv_at hl 0 rfl) ?_
        refine nn_iadd hx hb dX7_product_23 ?_
        refine mm_fald hx hb hE hh (by omega) fn (by omega) (by omega) dX7_product_24 ?_
        refine lv_aload_n hx hb dX7_product_25 rfl (lv_at hl 4 rfl) ?_
        refine gf_X7_numbers hx hb hE hown hh (by omega) fo rfl dX7_product_26 ?_
        refine lv_iload_n hx hb dX7_product_29 rfl (lv_at hl 5 rfl) ?_
        refine lv_iconst (v := (nI 4)) hx hb dX7_product_30 (by decide) ?_
        refine nn_imul hx hb dX7_product_31 ?_
        refine lv_iload hx hb dX7_product_32 (lv_at hl 0 rfl) ?_
        refine nn_iadd hx hb dX7_product_34 ?_
        refine mm_fald hx hb hE hh (by omega) fo1 (by omega) (by omega) dX7_product_35 ?_
        refine lv_fmul hx hb dX7_product_36 (((hf _).mul (hg _) (by decide) (by decide)).n (by decide)) ?_
        refine lv_fadd hx hb dX7_product_37 ((pr4_fb hf hg _ _ (k + 1) (by omega)).n (by omega)) ?_
        refine lv_fstore (lv' := [(4, .float (FP.fadd (pr4 f (i * 4) g (j * 4) k) (FP.fmul (f ((i * 4) + k)) (g ((j * 4) + k))))), (5, .int (nI k)), (0, .ref (b + a)), (1, .int (nI i)), (2, .ref (b + a2)), (3, .int (nI j))]) hx hb dX7_product_38 hl (by decide) rfl (fun ls hl => ?_)
        refine nn_iinc (x := k) (d := 1) (lv' := [(5, .int (nI (k + 1))), (4, .float (FP.fadd (pr4 f (i * 4) g (j * 4) k) (FP.fmul (f ((i * 4) + k)) (g ((j * 4) + k))))), (0, .ref (b + a)), (1, .int (nI i)), (2, .ref (b + a2)), (3, .int (nI j))]) hx hb dX7_product_40 hl (k := 1) rfl (by decide) (by decide) rfl (fun ls hl => ?_)
        refine lv_goto (tgt := 6) hx hb dX7_product_43 (by decide) ?_
        exact ih1 (k + 1) (by omega) (by omega) _ _ hh ls (lv_sub hl [0, 1, 2, 3, 4, 5] rfl)
  exact loop6 ((4 - 0) + 1) 0 (by omega) (by omega) _ _ hh ls (lv_sub hl [0, 1, 2, 3, 4, 5] rfl)
set_option maxHeartbeats 4000000 in
set_option maxRecDepth 100000 in
/-- VectorRow.nearestIn -/
theorem c_X7_nearestIn (l : Launch) (Γ : Gm) (b M : Nat) (mem : Nat → va_E) {a lim sz : Nat} {a2 lim2 sz2 L L2 : Nat} {f g : Nat → UInt32} {i : Nat} (hM : a + 2 ≤ M) (hM2 : a2 + 2 ≤ M) (fa : mem a = .inr (6, [.ref (b + (a + 1)), .int (nI lim), .int (nI sz)])) (fn : mem (a + 1) = aF Γ L f) (fo : mem a2 = .inr (6, [.ref (b + (a2 + 1)), .int (nI lim2), .int (nI sz2)])) (fo1 : mem (a2 + 1) = aF Γ L2 g) (hi : 4 * i + 4 ≤ L) (hj : 4 * sz2 ≤ L2) (hL : L ≤ 16) (hL2 : L2 ≤ 16) (hf : gdF f) (hg : gdF g) : Ct l yX7_nearestIn (.code yX7_nearestIn cX7_nearestIn 7 (some .int)) ({ frames := 1, cells := 0, slots := 0, locals := 25 } : Room) Γ b M [.ref (b + a), .ref (b + a2), .int (nI i)] mem (fun u => u = mem) (some (.int (nst (prJ f (i * 4) g) sz2))) := by
  refine mm_enter (cc := cX7_nearestIn) (by decide) (Nat.le_of_ble_eq_true rfl) ?_
  intro p e s m args below meth c ls hx hb hml hown hr hlocks hname hE hh hl
  have hl : lv_has ls 7 [(0, .ref (b + a)), (1, .ref (b + a2)), (2, .int (nI i))] := hl
  refine lv_iconst (v := (-1)) hx hb dX7_nearestIn_0 (by decide) ?_
  refine lv_istore_n (lv' := [(3, .int (-1)), (0, .ref (b + a)), (1, .ref (b + a2)), (2, .int (nI i))]) hx hb dX7_nearestIn_1 rfl hl (by decide) rfl (fun ls hl => ?_)
  refine lv_fconst0 hx hb dX7_nearestIn_2 ?_
  refine lv_fstore (lv' := [(4, .float FP.fconst0), (3, .int (-1)), (0, .ref (b + a)), (1, .ref (b + a2)), (2, .int (nI i))]) hx hb dX7_nearestIn_3 hl (by decide) rfl (fun ls hl => ?_)
  refine lv_iconst (v := (nI 0)) hx hb dX7_nearestIn_5 (by decide) ?_
  refine lv_istore (lv' := [(5, .int (nI 0)), (4, .float FP.fconst0), (3, .int (-1)), (0, .ref (b + a)), (1, .ref (b + a2)), (2, .int (nI i))]) hx hb dX7_nearestIn_6 hl (by decide) rfl (fun ls hl => ?_)
  have loop8 : ∀ (n9 : Nat) (j : Nat), (sz2 - j) < n9 → (j ≤ sz2) → ∀ (H : Heap) (locs : List Loc), GH Γ b M mem s H locs → ∀ (ls : Array Slot), lv_has ls 7 [(5, .int (nI j)), (3, .int (nst (prJ f (i * 4) g) j)), (4, .float (nsv (prJ f (i * 4) g) j)), (0, .ref (b + a)), (1, .ref (b + a2)), (2, .int (nI i))] → W p l e ({ frames := 1, cells := 0, slots := 0, locals := 25 } : Room) s m args below meth c H locs 0 0 (MQ below (QC Γ b M (fun u => u = mem) (some (.int (nst (prJ f (i * 4) g) sz2)))) args s 0 0 (fun q => b ≤ q)) (F0 m 8 ls []) := by
    intro n9
    induction n9 with
    | zero => intro j hn; exact absurd hn (Nat.not_lt_zero _)
    | succ n9 ih =>
      intro j hn hj2 H locs hh ls hl
      have ih1 := ih
      refine lv_iload hx hb dX7_nearestIn_8 (lv_at hl 0 rfl) ?_
      refine lv_aload_n hx hb dX7_nearestIn_10 rfl (lv_at hl 4 rfl) ?_
      refine gf_X7_size hx hb hE hown hh (by omega) fo rfl dX7_nearestIn_11 ?_
      refine nn_icmp_ge (tgt := 52) hx hb dX7_nearestIn_14 (by decide) (by omega) (by omega) (fun h2 => ?_) (fun h2 => ?_)
      ·
        refine lv_iload_n hx hb dX7_nearestIn_52 rfl (lv_at hl 1 rfl) ?_
        exact mm_iret hx hb hr hlocks hE hh (by rw [show j = sz2 by omega]) (rfl) dX7_nearestIn_53
      ·
        refine lv_aload_n hx hb dX7_nearestIn_17 rfl (lv_at hl 3 rfl) ?_
        refine lv_iload_n hx hb dX7_nearestIn_18 rfl (lv_at hl 5 rfl) ?_
        refine lv_aload_n hx hb dX7_nearestIn_19 rfl (lv_at hl 4 rfl) ?_
        refine lv_iload hx hb dX7_nearestIn_20 (lv_at hl 0 rfl) ?_
        refine mm_V0r (As := [.int (nI i), .ref (b + a2), .int (nI j)]) (rest := []) hx hb hml hown hE hl.1 hh (kc_X7_28 hE.2.1 ⟨Nat.le_of_ble_eq_true rfl, Nat.le_of_ble_eq_true rfl⟩) (c_X7_product l Γ b M mem (a := a) (lim := lim) (sz := sz) (a2 := a2) (lim2 := lim2) (sz2 := sz2) (L := L) (L2 := L2) (f := f) (g := g) (i := i) (j := j) (by omega) (by omega) fa fn fo fo1 (by omega) (by omega) (by omega) (by omega) (by omega) (by omega)) rfl (by omega) fa rfl rfl (Nat.le_of_ble_eq_true rfl) dX7_nearestIn_22 rfl rfl (fun H locs hh => ?_)
        refine lv_fstore (lv' := [(6, .float (prJ f (i * 4) g j)), (5, .int (nI j)), (3, .int (nst (prJ f (i * 4) g) j)), (4, .float (nsv (prJ f (i * 4) g) j)), (0, .ref (b + a)), (1, .ref (b + a2)), (2, .int (nI i))]) hx hb dX7_nearestIn_25 hl (by decide) rfl (fun ls hl => ?_)
        refine lv_iload_n hx hb dX7_nearestIn_27 rfl (lv_at hl 2 rfl) ?_
        refine lv_if_lt (tgt := 39) hx hb dX7_nearestIn_28 (by decide) (fun h3 => ?_) (fun h3 => ?_)
        ·
          have hn1 := nst_A0 (by omega) h3
          refine lv_iload hx hb dX7_nearestIn_39 (lv_at hl 1 rfl) ?_
          refine lv_istore_n (lv' := [(3, .int (nI j)), (6, .float (prJ f (i * 4) g j)), (5, .int (nI j)), (4, .float (nsv (prJ f (i * 4) g) j)), (0, .ref (b + a)), (1, .ref (b + a2)), (2, .int (nI i))]) hx hb dX7_nearestIn_41 rfl hl (by decide) rfl (fun ls hl => ?_)
          refine lv_fload hx hb dX7_nearestIn_42 (lv_at hl 1 rfl) ?_
          refine lv_fstore (lv' := [(4, .float (prJ f (i * 4) g j)), (3, .int (nI j)), (6, .float (prJ f (i * 4) g j)), (5, .int (nI j)), (0, .ref (b + a)), (1, .ref (b + a2)), (2, .int (nI i))]) hx hb dX7_nearestIn_44 hl (by decide) rfl (fun ls hl => ?_)
          refine nn_iinc (x := j) (d := 1) (lv' := [(5, .int (nI (j + 1))), (4, .float (prJ f (i * 4) g j)), (3, .int (nI j)), (6, .float (prJ f (i * 4) g j)), (0, .ref (b + a)), (1, .ref (b + a2)), (2, .int (nI i))]) hx hb dX7_nearestIn_46 hl (k := 3) rfl (by decide) (by decide) rfl (fun ls hl => ?_)
          refine lv_goto (tgt := 8) hx hb dX7_nearestIn_49 (by decide) ?_
          exact ih1 (j + 1) (by omega) (by omega) _ _ hh ls (lv_sub hl [0, 2, 1, 4, 5, 6] (by rw [hn1.1, hn1.2]; rfl))
        ·
          have h28 := h3
          refine lv_fload hx hb dX7_nearestIn_31 (lv_at hl 0 rfl) ?_
          refine lv_fload hx hb dX7_nearestIn_33 (lv_at hl 3 rfl) ?_
          refine lv_fcmp hx hb dX7_nearestIn_35 ?_
          refine nn_cl_le (tgt := 46) hx hb dX7_nearestIn_36 (by decide) (fun h4 => ?_) (fun h4 => ?_)
          ·
            have hn1 := nst_B h28 h4
            refine nn_iinc (x := j) (d := 1) (lv' := [(5, .int (nI (j + 1))), (6, .float (prJ f (i * 4) g j)), (3, .int (nst (prJ f (i * 4) g) j)), (4, .float (nsv (prJ f (i * 4) g) j)), (0, .ref (b + a)), (1, .ref (b + a2)), (2, .int (nI i))]) hx hb dX7_nearestIn_46 hl (k := 1) rfl (by decide) (by decide) rfl (fun ls hl => ?_)
            refine lv_goto (tgt := 8) hx hb dX7_nearestIn_49 (by decide) ?_
            exact ih1 (j + 1) (by omega) (by omega) _ _ hh ls (lv_sub hl [0, 2, 3, 4, 5, 6] (by rw [hn1.1, hn1.2]; rfl))
          ·
            have hn1 := nst_A1 h28 (Classical.not_not.mp h4)
            refine lv_iload hx hb dX7_nearestIn_39 (lv_at hl 1 rfl) ?_
            refine lv_istore_n (lv' := [(3, .int (nI j)), (6, .float (prJ f (i * 4) g j)), (5, .int (nI j)), (4, .float (nsv (prJ f (i * 4) g) j)), (0, .ref (b + a)), (1, .ref (b + a2)), (2, .int (nI i))]) hx hb dX7_nearestIn_41 rfl hl (by decide) rfl (fun ls hl => ?_)
            refine lv_fload hx hb dX7_nearestIn_42 (lv_at hl 1 rfl) ?_
            refine lv_fstore (lv' := [(4, .float (prJ f (i * 4) g j)), (3, .int (nI j)), (6, .float (prJ f (i * 4) g j)), (5, .int (nI j)), (0, .ref (b + a)), (1, .ref (b + a2)), (2, .int (nI i))]) hx hb dX7_nearestIn_44 hl (by decide) rfl (fun ls hl => ?_)
            refine nn_iinc (x := j) (d := 1) (lv' := [(5, .int (nI (j + 1))), (4, .float (prJ f (i * 4) g j)), (3, .int (nI j)), (6, .float (prJ f (i * 4) g j)), (0, .ref (b + a)), (1, .ref (b + a2)), (2, .int (nI i))]) hx hb dX7_nearestIn_46 hl (k := 3) rfl (by decide) (by decide) rfl (fun ls hl => ?_)
            refine lv_goto (tgt := 8) hx hb dX7_nearestIn_49 (by decide) ?_
            exact ih1 (j + 1) (by omega) (by omega) _ _ hh ls (lv_sub hl [0, 2, 1, 4, 5, 6] (by rw [hn1.1, hn1.2]; rfl))
  exact loop8 ((sz2 - 0) + 1) 0 (by omega) (by omega) _ _ hh ls (lv_sub hl [0, 2, 1, 3, 4, 5] rfl)
set_option maxHeartbeats 4000000 in
set_option maxRecDepth 100000 in
/-- TermRow.size -/
theorem c_X6_size (l : Launch) (Γ : Gm) (b M : Nat) (mem : Nat → va_E) {a sz : Nat} (hM : a + 3 ≤ M) (fa : mem a = .inr (5, [.ref (b + (a + 1)), .ref (b + (a + 2)), .int (nI sz)])) : Ct l yX6_size (.code yX6_size cX6_size 1 (some .int)) ({ frames := 0, cells := 0, slots := 0, locals := 0 } : Room) Γ b M [.ref (b + a)] mem (fun u => u = mem) (some (.int (nI sz))) := by
  refine mm_enter (cc := cX6_size) (by decide) (Nat.le_of_ble_eq_true rfl) ?_
  intro p e s m args below meth c ls hx hb hml hown hr hlocks hname hE hh hl
  have hl : lv_has ls 1 [(0, .ref (b + a))] := hl
  refine lv_aload_n hx hb dX6_size_0 rfl (lv_at hl 0 rfl) ?_
  refine gf_X6_size hx hb hE hown hh (by omega) fa rfl dX6_size_1 ?_
  exact mm_iret hx hb hr hlocks hE hh (rfl) (rfl) dX6_size_4
set_option maxHeartbeats 4000000 in
set_option maxRecDepth 100000 in
/-- TermRow.isFull -/
theorem c_X6_isFull (l : Launch) (Γ : Gm) (b M : Nat) (mem : Nat → va_E) {a sz : Nat} (hM : a + 3 ≤ M) (fa : mem a = .inr (5, [.ref (b + (a + 1)), .ref (b + (a + 2)), .int (nI sz)])) (hs : sz ≤ 4) : Ct l yX6_isFull (.code yX6_isFull cX6_isFull 1 (some .boolean)) ({ frames := 0, cells := 0, slots := 0, locals := 0 } : Room) Γ b M [.ref (b + a)] mem (fun u => u = mem) (some (.int (bI (decide (4 ≤ sz))))) := by
  refine mm_enter (cc := cX6_isFull) (by decide) (Nat.le_of_ble_eq_true rfl) ?_
  intro p e s m args below meth c ls hx hb hml hown hr hlocks hname hE hh hl
  have hl : lv_has ls 1 [(0, .ref (b + a))] := hl
  refine lv_aload_n hx hb dX6_isFull_0 rfl (lv_at hl 0 rfl) ?_
  refine gf_X6_size hx hb hE hown hh (by omega) fa rfl dX6_isFull_1 ?_
  refine lv_iconst (v := (nI 4)) hx hb dX6_isFull_4 (by decide) ?_
  refine nn_icmp_lt (tgt := 12) hx hb dX6_isFull_5 (by decide) (by omega) (by omega) (fun h1 => ?_) (fun h1 => ?_)
  ·
    refine lv_iconst (v := (nI 0)) hx hb dX6_isFull_12 (by decide) ?_
    exact mm_zret hx hb hr hlocks hE hh (by simp_all [bI, nI]) (rfl) rfl dX6_isFull_13
  ·
    refine lv_iconst (v := (nI 1)) hx hb dX6_isFull_8 (by decide) ?_
    refine lv_goto (tgt := 13) hx hb dX6_isFull_9 (by decide) ?_
    exact mm_zret hx hb hr hlocks hE hh (by simp_all [bI, nI]) (rfl) rfl dX6_isFull_13
set_option maxHeartbeats 4000000 in
set_option maxRecDepth 100000 in
/-- TermRow.empty -/
theorem c_X6_empty (l : Launch) (Γ : Gm) (b M : Nat) (mem : Nat → va_E) {a sz : Nat} (hM : a + 3 ≤ M) (fa : mem a = .inr (5, [.ref (b + (a + 1)), .ref (b + (a + 2)), .int (nI sz)])) : Ct l yX6_empty (.code yX6_empty cX6_empty 1 none) ({ frames := 0, cells := 0, slots := 0, locals := 0 } : Room) Γ b M [.ref (b + a)] mem (fun u => u a = .inr (5, [.ref (b + (a + 1)), .ref (b + (a + 2)), .int (nI 0)]) ∧ ∀ j, j ≠ a → u j = mem j) none := by
  refine mm_enter (cc := cX6_empty) (by decide) (Nat.le_of_ble_eq_true rfl) ?_
  intro p e s m args below meth c ls hx hb hml hown hr hlocks hname hE hh hl
  have hl : lv_has ls 1 [(0, .ref (b + a))] := hl
  have hfr : ∀ j, j ≠ a → mem j = mem j := fun j _ => rfl
  refine lv_aload_n hx hb dX6_empty_0 rfl (lv_at hl 0 rfl) ?_
  refine lv_iconst (v := (nI 0)) hx hb dX6_empty_1 (by decide) ?_
  refine gp_X6_size (fs' := [.ref (b + (a + 1)), .ref (b + (a + 2)), .int (nI 0)]) hx hb hE hown hh (by omega) fa rfl rfl (show 2 < 3 by decide) rfl dX6_empty_2 (fun H locs mem1 f2 k3 hh => ?_)
  have hfr4 : ∀ j, j ≠ a → mem1 j = mem j := fun j c0 => (k3 j (by omega)).trans (hfr j c0)
  exact mm_vret hx hb hr hlocks hE hh (⟨f2, hfr4⟩) dX6_empty_5
set_option maxHeartbeats 4000000 in
set_option maxRecDepth 100000 in
/-- TermRow.holds -/
theorem c_X6_holds (l : Launch) (Γ : Gm) (b M : Nat) (mem : Nat → va_E) {a sz : Nat} {tm : Nat → Nat} {t : Int32} (hM : a + 3 ≤ M) (fa : mem a = .inr (5, [.ref (b + (a + 1)), .ref (b + (a + 2)), .int (nI sz)])) (f1 : mem (a + 1) = aN Γ 4 tm) (hs : sz ≤ 4) : Ct l yX6_holds (.code yX6_holds cX6_holds 3 (some .boolean)) ({ frames := 0, cells := 0, slots := 0, locals := 0 } : Room) Γ b M [.ref (b + a), .int t] mem (fun u => u = mem) (some (.int (bI (hasT (fun i => nI (tm i)) t sz)))) := by
  refine mm_enter (cc := cX6_holds) (by decide) (Nat.le_of_ble_eq_true rfl) ?_
  intro p e s m args below meth c ls hx hb hml hown hr hlocks hname hE hh hl
  have hl : lv_has ls 3 [(0, .ref (b + a)), (1, .int t)] := hl
  refine lv_iconst (v := (nI 0)) hx hb dX6_holds_0 (by decide) ?_
  refine lv_istore_n (lv' := [(2, .int (nI 0)), (0, .ref (b + a)), (1, .int t)]) hx hb dX6_holds_1 rfl hl (by decide) rfl (fun ls hl => ?_)
  have loop2 : ∀ (n9 : Nat) (i : Nat), (sz - i) < n9 → (i ≤ sz) → (hasT (fun i => nI (tm i)) t i = false) → ∀ (H : Heap) (locs : List Loc), GH Γ b M mem s H locs → ∀ (ls : Array Slot), lv_has ls 3 [(2, .int (nI i)), (0, .ref (b + a)), (1, .int t)] → W p l e ({ frames := 0, cells := 0, slots := 0, locals := 0 } : Room) s m args below meth c H locs 0 0 (MQ below (QC Γ b M (fun u => u = mem) (some (.int (bI (hasT (fun i => nI (tm i)) t sz))))) args s 0 0 (fun q => b ≤ q)) (F0 m 2 ls []) := by
    intro n9
    induction n9 with
    | zero => intro i hn; exact absurd hn (Nat.not_lt_zero _)
    | succ n9 ih =>
      intro i hn hi hno H locs hh ls hl
      have ih1 := ih
      refine lv_iload_n hx hb dX6_holds_2 rfl (lv_at hl 0 rfl) ?_
      refine lv_aload_n hx hb dX6_holds_3 rfl (lv_at hl 1 rfl) ?_
      refine gf_X6_size hx hb hE hown hh (by omega) fa rfl dX6_holds_4 ?_
      refine nn_icmp_ge (tgt := 28) hx hb dX6_holds_7 (by decide) (by omega) (by omega) (fun h2 => ?_) (fun h2 => ?_)
      ·
        refine lv_iconst (v := (nI 0)) hx hb dX6_holds_28 (by decide) ?_
        exact mm_zret hx hb hr hlocks hE hh (by rw [← show i = sz by omega, hno]; rfl) (rfl) rfl dX6_holds_29
      ·
        refine lv_aload_n hx hb dX6_holds_10 rfl (lv_at hl 1 rfl) ?_
        refine gf_X6_terms hx hb hE hown hh (by omega) fa rfl dX6_holds_11 ?_
        refine lv_iload_n hx hb dX6_holds_14 rfl (lv_at hl 0 rfl) ?_
        refine mm_iald hx hb hE hh (by omega) f1 (by omega) (by decide) dX6_holds_15 ?_
        refine lv_iload_n hx hb dX6_holds_16 rfl (lv_at hl 2 rfl) ?_
        refine lv_icmp_ne (tgt := 22) hx hb dX6_holds_17 (by decide) (fun h3 => ?_) (fun h3 => ?_)
        ·
          have hno2 := hasT_no hno h3
          refine nn_iinc (x := i) (d := 1) (lv' := [(2, .int (nI (i + 1))), (0, .ref (b + a)), (1, .int t)]) hx hb dX6_holds_22 hl (k := 0) rfl (by decide) (by decide) rfl (fun ls hl => ?_)
          refine lv_goto (tgt := 2) hx hb dX6_holds_25 (by decide) ?_
          exact ih1 (i + 1) (by omega) (by omega) (hno2) _ _ hh ls (lv_sub hl [0, 1, 2] rfl)
        ·
          have hy := hasT_yes (f := fun i => nI (tm i)) (show i < sz by omega) h3
          refine lv_iconst (v := (nI 1)) hx hb dX6_holds_20 (by decide) ?_
          exact mm_zret hx hb hr hlocks hE hh (by rw [hy]; rfl) (rfl) rfl dX6_holds_21
  exact loop2 ((sz - 0) + 1) 0 (by omega) (by omega) (rfl) _ _ hh ls (lv_sub hl [0, 1, 2] rfl)
set_option maxHeartbeats 4000000 in
set_option maxRecDepth 100000 in
/-- TermRow.add -/
theorem c_X6_add (l : Launch) (Γ : Gm) (b M : Nat) (mem : Nat → va_E) {a sz : Nat} {tm tw : Nat → Nat} {t x : Nat} (hM : a + 3 ≤ M) (fa : mem a = .inr (5, [.ref (b + (a + 1)), .ref (b + (a + 2)), .int (nI sz)])) (f1 : mem (a + 1) = aN Γ 4 tm) (f2 : mem (a + 2) = aN Γ 4 tw) (hs : sz < 4) : Ct l yX6_add (.code yX6_add cX6_add 3 (some .int)) ({ frames := 0, cells := 0, slots := 0, locals := 0 } : Room) Γ b M [.ref (b + a), .int (nI t), .int (nI x)] mem (fun u => u a = .inr (5, [.ref (b + (a + 1)), .ref (b + (a + 2)), .int (nI (sz + 1))]) ∧ u (a + 1) = aN Γ 4 (va_up tm sz t) ∧ u (a + 2) = aN Γ 4 (va_up tw sz x) ∧ ∀ j, j ≠ a → j ≠ (a + 1) → j ≠ (a + 2) → u j = mem j) (some (.int (nI (sz + 1)))) := by
  refine mm_enter (cc := cX6_add) (by decide) (Nat.le_of_ble_eq_true rfl) ?_
  intro p e s m args below meth c ls hx hb hml hown hr hlocks hname hE hh hl
  have hl : lv_has ls 3 [(0, .ref (b + a)), (1, .int (nI t)), (2, .int (nI x))] := hl
  have hfr : ∀ j, j ≠ a → j ≠ (a + 1) → j ≠ (a + 2) → mem j = mem j := fun j _ _ _ => rfl
  refine lv_aload_n hx hb dX6_add_0 rfl (lv_at hl 0 rfl) ?_
  refine gf_X6_size hx hb hE hown hh (by omega) fa rfl dX6_add_1 ?_
  refine lv_iconst (v := (nI 4)) hx hb dX6_add_4 (by decide) ?_
  refine nn_icmp_ge (tgt := 38) hx hb dX6_add_5 (by decide) (by omega) (by omega) (fun h1 => ?_) (fun h1 => ?_)
  ·
    exact absurd h1 (by omega)
  ·
    refine lv_aload_n hx hb dX6_add_8 rfl (lv_at hl 0 rfl) ?_
    refine gf_X6_terms hx hb hE hown hh (by omega) fa rfl dX6_add_9 ?_
    refine lv_aload_n hx hb dX6_add_12 rfl (lv_at hl 0 rfl) ?_
    refine gf_X6_size hx hb hE hown hh (by omega) fa rfl dX6_add_13 ?_
    refine lv_iload_n hx hb dX6_add_16 rfl (lv_at hl 1 rfl) ?_
    refine mm_iast hx hb hE hh (by omega) f1 (by omega) (by decide) dX6_add_17 (fun H locs mem2 f3 k4 hh => ?_)
    rw [va_up_nI] at f3
    have hfr5 : ∀ j, j ≠ a → j ≠ (a + 1) → j ≠ (a + 2) → mem2 j = mem j := fun j c0 c1 c2 => (k4 j (by omega)).trans (hfr j c0 c1 c2)
    have f6 : mem2 a = .inr (5, [.ref (b + (a + 1)), .ref (b + (a + 2)), .int (nI sz)]) := (k4 _ (by omega)).trans fa
    have f7 : mem2 (a + 2) = aN Γ 4 tw := (k4 _ (by omega)).trans f2
    refine lv_aload_n hx hb dX6_add_18 rfl (lv_at hl 0 rfl) ?_
    refine gf_X6_weights hx hb hE hown hh (by omega) f6 rfl dX6_add_19 ?_
    refine lv_aload_n hx hb dX6_add_22 rfl (lv_at hl 0 rfl) ?_
    refine gf_X6_size hx hb hE hown hh (by omega) f6 rfl dX6_add_23 ?_
    refine lv_iload_n hx hb dX6_add_26 rfl (lv_at hl 2 rfl) ?_
    refine mm_iast hx hb hE hh (by omega) f7 (by omega) (by decide) dX6_add_27 (fun H locs mem8 f9 k10 hh => ?_)
    rw [va_up_nI] at f9
    have hfr11 : ∀ j, j ≠ a → j ≠ (a + 1) → j ≠ (a + 2) → mem8 j = mem j := fun j c0 c1 c2 => (k10 j (by omega)).trans (hfr5 j c0 c1 c2)
    have f12 : mem8 a = .inr (5, [.ref (b + (a + 1)), .ref (b + (a + 2)), .int (nI sz)]) := (k10 _ (by omega)).trans f6
    have f13 : mem8 (a + 1) = aN Γ 4 (va_up tm sz t) := (k10 _ (by omega)).trans f3
    refine lv_aload_n hx hb dX6_add_28 rfl (lv_at hl 0 rfl) ?_
    refine lv_dup hx hb dX6_add_29 rfl ?_
    refine gf_X6_size hx hb hE hown hh (by omega) f12 rfl dX6_add_30 ?_
    refine lv_iconst (v := (nI 1)) hx hb dX6_add_33 (by decide) ?_
    refine nn_iadd hx hb dX6_add_34 ?_
    refine gp_X6_size (fs' := [.ref (b + (a + 1)), .ref (b + (a + 2)), .int (nI (sz + 1))]) hx hb hE hown hh (by omega) f12 rfl rfl (show 2 < 3 by decide) rfl dX6_add_35 (fun H locs mem14 f15 k16 hh => ?_)
    have hfr17 : ∀ j, j ≠ a → j ≠ (a + 1) → j ≠ (a + 2) → mem14 j = mem j := fun j c0 c1 c2 => (k16 j (by omega)).trans (hfr11 j c0 c1 c2)
    have f18 : mem14 (a + 1) = aN Γ 4 (va_up tm sz t) := (k16 _ (by omega)).trans f13
    have f19 : mem14 (a + 2) = aN Γ 4 (va_up tw sz x) := (k16 _ (by omega)).trans f9
    refine lv_aload_n hx hb dX6_add_38 rfl (lv_at hl 0 rfl) ?_
    refine gf_X6_size hx hb hE hown hh (by omega) f15 rfl dX6_add_39 ?_
    exact mm_iret hx hb hr hlocks hE hh (rfl) (⟨f15, f18, f19, hfr17⟩) dX6_add_42
set_option maxHeartbeats 4000000 in
set_option maxRecDepth 100000 in
/-- TermRow.termAt -/
theorem c_X6_termAt (l : Launch) (Γ : Gm) (b M : Nat) (mem : Nat → va_E) {a sz : Nat} {tm : Nat → Nat} {i : Nat} (hM : a + 3 ≤ M) (fa : mem a = .inr (5, [.ref (b + (a + 1)), .ref (b + (a + 2)), .int (nI sz)])) (f1 : mem (a + 1) = aN Γ 4 tm) (hi : i < 4) : Ct l yX6_termAt (.code yX6_termAt cX6_termAt 2 (some .int)) ({ frames := 0, cells := 0, slots := 0, locals := 0 } : Room) Γ b M [.ref (b + a), .int (nI i)] mem (fun u => u = mem) (some (.int (nI (tm i)))) := by
  refine mm_enter (cc := cX6_termAt) (by decide) (Nat.le_of_ble_eq_true rfl) ?_
  intro p e s m args below meth c ls hx hb hml hown hr hlocks hname hE hh hl
  have hl : lv_has ls 2 [(0, .ref (b + a)), (1, .int (nI i))] := hl
  refine lv_aload_n hx hb dX6_termAt_0 rfl (lv_at hl 0 rfl) ?_
  refine gf_X6_terms hx hb hE hown hh (by omega) fa rfl dX6_termAt_1 ?_
  refine lv_iload_n hx hb dX6_termAt_4 rfl (lv_at hl 1 rfl) ?_
  refine mm_iald hx hb hE hh (by omega) f1 (by omega) (by decide) dX6_termAt_5 ?_
  exact mm_iret hx hb hr hlocks hE hh (rfl) (rfl) dX6_termAt_6
set_option maxHeartbeats 4000000 in
set_option maxRecDepth 100000 in
/-- TermRow.weightAt -/
theorem c_X6_weightAt (l : Launch) (Γ : Gm) (b M : Nat) (mem : Nat → va_E) {a sz : Nat} {tw : Nat → Nat} {i : Nat} (hM : a + 3 ≤ M) (fa : mem a = .inr (5, [.ref (b + (a + 1)), .ref (b + (a + 2)), .int (nI sz)])) (f2 : mem (a + 2) = aN Γ 4 tw) (hi : i < 4) : Ct l yX6_weightAt (.code yX6_weightAt cX6_weightAt 2 (some .int)) ({ frames := 0, cells := 0, slots := 0, locals := 0 } : Room) Γ b M [.ref (b + a), .int (nI i)] mem (fun u => u = mem) (some (.int (nI (tw i)))) := by
  refine mm_enter (cc := cX6_weightAt) (by decide) (Nat.le_of_ble_eq_true rfl) ?_
  intro p e s m args below meth c ls hx hb hml hown hr hlocks hname hE hh hl
  have hl : lv_has ls 2 [(0, .ref (b + a)), (1, .int (nI i))] := hl
  refine lv_aload_n hx hb dX6_weightAt_0 rfl (lv_at hl 0 rfl) ?_
  refine gf_X6_weights hx hb hE hown hh (by omega) fa rfl dX6_weightAt_1 ?_
  refine lv_iload_n hx hb dX6_weightAt_4 rfl (lv_at hl 1 rfl) ?_
  refine mm_iald hx hb hE hh (by omega) f2 (by omega) (by decide) dX6_weightAt_5 ?_
  exact mm_iret hx hb hr hlocks hE hh (rfl) (rfl) dX6_weightAt_6
