/-! CONSTRUCTORS -/
theorem ws_I : "[" ++ (FieldType.array .int).toString = "[[I" := by decide +kernel
theorem ws_F : "[" ++ (FieldType.array .float).toString = "[[F" := by decide +kernel
theorem ws_D : "[" ++ (FieldType.array .double).toString = "[[D" := by decide +kernel
theorem arrV_ext {cA : ClassId} {n : Nat} {f g : Nat → Value} (h : ∀ k, k < n → f k = g k) : arrV cA n f = arrV cA n g := by
  unfold arrV
  congr 2
  funext j
  exact h j.val j.isLt
/-- an array of references speaks of its places alone -/
theorem mn_swap {p : Program} {l : Launch} {e : Env} {R : Room} {s : State} {m : MethodId} {args : Array Value} {below : List Frame} {meth : Method} {c : Code} {H : Heap} {locs : List Loc} {cells slots : Nat} {Q : State → Prop} {Γ : Gm} {b M : Nat} {mem : Nat → va_E} {fr : JFrame} {i t0 n : Nat} {f g : Nat → Option Nat}
    (hh : GH Γ b M mem s H locs) (hi : i < M) (hm : mem i = aR Γ t0 n f) (hfg : ∀ k, k < n → f k = g k) (kk : ∀ mem1 : Nat → va_E, mem1 i = aR Γ t0 n g → (∀ j, j ≠ i → mem1 j = mem j) → GH Γ b M mem1 s H locs → W p l e R s m args below meth c H locs cells slots Q fr) : W p l e R s m args below meth c H locs cells slots Q fr := by
  refine kk (va_up mem i (aR Γ t0 n g)) (va_up_self _ _ _) (fun j hj => va_up_ne _ _ hj) ⟨fun k q hk => ?_, hh.2⟩
  obtain ⟨hlt, rfl⟩ := gW_some hk
  by_cases e1 : k = i
  · subst e1
    have h1 := hh.1 k _ (gW_at hlt hm)
    rw [va_up_self]
    have h2 : H[b + k]? = some (vp_cell (Γ.2 t0) (n, .inr (.inr (.inr (.inr f))))) := h1
    show H[b + k]? = some (vp_cell (Γ.2 t0) (n, .inr (.inr (.inr (.inr g)))))
    rw [h2, vp_cell_q, vp_cell_q, arrV_ext (fun j hj => congrArg va_rf (hfg j hj))]
  · rw [va_up_ne _ _ e1]
    exact hh.1 k _ (gW_get hlt)
theorem tk_0 (b : Nat) : (fun _ => none) = (fun i => if i < 0 then some (b + (40 + 2 * i)) else none) := by
  funext i
  exact (if_neg (Nat.not_lt_zero _)).symm
theorem tk_s (b d : Nat) : va_up (fun i => if i < d then some (b + (40 + 2 * i)) else none) d (some (b + (40 + 2 * d))) = (fun i => if i < d + 1 then some (b + (40 + 2 * i)) else none) := by
  funext i
  unfold va_up
  by_cases e : i = d
  · subst e; rw [if_pos rfl, if_pos (Nat.lt_succ_self _)]
  · rw [if_neg e]
    dsimp only
    by_cases h : i < d
    · rw [if_pos h, if_pos (by omega)]
    · rw [if_neg h, if_neg (by omega)]

set_option maxHeartbeats 4000000 in
set_option maxRecDepth 100000 in
/-- Scorer() -/
theorem c_X5_init (l : Launch) (Γ : Gm) (b : Nat) (mem : Nat → va_E) {a M : Nat}  : Cn l yX5_init (.code yX5_init cX5_init 1 none) ({ frames := 1, cells := 0, slots := 0, locals := 12 } : Room) Γ b (M) (M) [.ref (b + a)] mem (fun u => ∀ j, u j = mem j) := by
  refine mn_enter (cc := cX5_init) (by decide) (Nat.le_of_ble_eq_true rfl) ?_
  intro p e s m args below meth c ls hx hb hml hown hr hlocks hname hE hh hsz hl
  have hl : lv_has ls 1 [(0, .ref (b + a))] := hl
  have hfr : ∀ j, mem j = mem j := fun j => rfl
  refine lv_aload_n hx hb dX5_init_0 rfl (lv_at hl 0 rfl) ?_
  refine W.objInit hx hb hown (wo_X5 hE.2.1 args) (wo_m hE.2.1 args) (wo_c hE.2.1 args) rfl (by rw [hml]; exact hl.1) rfl dX5_init_1 (Nat.le_of_ble_eq_true rfl) (Nat.le_of_ble_eq_true rfl) ?_
  refine W.eq (g2 := F0 m 4 ls []) rfl ?_
  exact mm_vret hx hb hr hlocks hE hh (hfr) dX5_init_4
set_option maxHeartbeats 4000000 in
set_option maxRecDepth 100000 in
/-- TermRow() -/
theorem c_X6_init (l : Launch) (Γ : Gm) (b : Nat) (mem : Nat → va_E) {a : Nat} (fa : mem a = .inr (5, [.null, .null, .int (nI 0)])) : Cn l yX6_init (.code yX6_init cX6_init 1 none) ({ frames := 1, cells := 2, slots := 8, locals := 12 } : Room) Γ b (a + 1) (a + 3) [.ref (b + a)] mem (fun u => u a = .inr (5, [.ref (b + (a + 1)), .ref (b + (a + 2)), .int (nI 0)]) ∧ u (a + 1) = aN Γ 4 (fun _ => 0) ∧ u (a + 2) = aN Γ 4 (fun _ => 0) ∧ ∀ j, j ≠ a → j ≠ (a + 1) → j ≠ (a + 2) → u j = mem j) := by
  refine mn_enter (cc := cX6_init) (by decide) (Nat.le_of_ble_eq_true rfl) ?_
  intro p e s m args below meth c ls hx hb hml hown hr hlocks hname hE hh hsz hl
  have hl : lv_has ls 1 [(0, .ref (b + a))] := hl
  have hfr : ∀ j, j ≠ a → j ≠ (a + 1) → j ≠ (a + 2) → mem j = mem j := fun j _ _ _ => rfl
  refine lv_aload_n hx hb dX6_init_0 rfl (lv_at hl 0 rfl) ?_
  refine W.objInit hx hb hown (wo_X6 hE.2.1 args) (wo_m hE.2.1 args) (wo_c hE.2.1 args) rfl (by rw [hml]; exact hl.1) rfl dX6_init_1 (Nat.le_of_ble_eq_true rfl) (Nat.le_of_ble_eq_true rfl) ?_
  refine W.eq (g2 := F0 m 4 ls []) rfl ?_
  refine lv_aload_n hx hb dX6_init_4 rfl (lv_at hl 0 rfl) ?_
  refine lv_iconst (v := (nI 4)) hx hb dX6_init_5 (by decide) ?_
  refine mn_newa 0 (atype := .int) (ty := .int) (n := 4) (a0 := (4, .inl (fun _ => nI 0))) hx hb hE (wa_I hE.2.1 args) rfl rfl (fun _ => rfl) (by decide) (by decide) (by omega) hh (by show _ ≤ 2; omega) (by show _ ≤ 8; omega) dX6_init_6 (fun H mem1 f2 k3 hh => ?_)
  have hfr4 : ∀ j, j ≠ a → j ≠ (a + 1) → j ≠ (a + 2) → mem1 j = mem j := fun j c0 c1 c2 => (k3 j (by omega)).trans (hfr j c0 c1 c2)
  have f5 : mem1 a = .inr (5, [.null, .null, .int (nI 0)]) := (k3 _ (by omega)).trans fa
  have hh : GH Γ b (a + 2) mem1 s _ _ := hh
  refine gq_X6_terms (fs' := [.ref (b + (a + 1)), .null, .int (nI 0)]) hx hb hE hown hname hh (by omega) f5 rfl rfl (show 0 < 3 by decide) rfl dX6_init_8 (fun H locs mem6 f7 k8 hh => ?_)
  have hfr9 : ∀ j, j ≠ a → j ≠ (a + 1) → j ≠ (a + 2) → mem6 j = mem j := fun j c0 c1 c2 => (k8 j (by omega)).trans (hfr4 j c0 c1 c2)
  have f10 : mem6 (a + 1) = aN Γ 4 (fun _ => 0) := (k8 _ (by omega)).trans f2
  refine lv_aload_n hx hb dX6_init_11 rfl (lv_at hl 0 rfl) ?_
  refine lv_iconst (v := (nI 4)) hx hb dX6_init_12 (by decide) ?_
  refine mn_newa 0 (atype := .int) (ty := .int) (n := 4) (a0 := (4, .inl (fun _ => nI 0))) hx hb hE (wa_I hE.2.1 args) rfl rfl (fun _ => rfl) (by decide) (by decide) (by omega) hh (by show _ ≤ 2; omega) (by show _ ≤ 8; omega) dX6_init_13 (fun H mem11 f12 k13 hh => ?_)
  have hfr14 : ∀ j, j ≠ a → j ≠ (a + 1) → j ≠ (a + 2) → mem11 j = mem j := fun j c0 c1 c2 => (k13 j (by omega)).trans (hfr9 j c0 c1 c2)
  have f15 : mem11 a = .inr (5, [.ref (b + (a + 1)), .null, .int (nI 0)]) := (k13 _ (by omega)).trans f7
  have f16 : mem11 (a + 1) = aN Γ 4 (fun _ => 0) := (k13 _ (by omega)).trans f10
  have hh : GH Γ b (a + 3) mem11 s _ _ := hh
  refine gq_X6_weights (fs' := [.ref (b + (a + 1)), .ref (b + (a + 2)), .int (nI 0)]) hx hb hE hown hname hh (by omega) f15 rfl rfl (show 1 < 3 by decide) rfl dX6_init_15 (fun H locs mem17 f18 k19 hh => ?_)
  have hfr20 : ∀ j, j ≠ a → j ≠ (a + 1) → j ≠ (a + 2) → mem17 j = mem j := fun j c0 c1 c2 => (k19 j (by omega)).trans (hfr14 j c0 c1 c2)
  have f21 : mem17 (a + 1) = aN Γ 4 (fun _ => 0) := (k19 _ (by omega)).trans f16
  have f22 : mem17 (a + 2) = aN Γ 4 (fun _ => 0) := (k19 _ (by omega)).trans f12
  exact mm_vret hx hb hr hlocks hE hh (⟨f18, f21, f22, hfr20⟩) dX6_init_18
set_option maxHeartbeats 4000000 in
set_option maxRecDepth 100000 in
/-- VectorRow(3) -/
theorem c_X7_init3 (l : Launch) (Γ : Gm) (b : Nat) (mem : Nat → va_E) {a : Nat} (fa : mem a = .inr (6, [.null, .int (nI 0), .int (nI 0)])) : Cn l yX7_init (.code yX7_init cX7_init 2 none) ({ frames := 1, cells := 1, slots := 12, locals := 14 } : Room) Γ b (a + 1) (a + 2) [.ref (b + a), .int (nI 3)] mem (fun u => u a = .inr (6, [.ref (b + (a + 1)), .int (nI 3), .int (nI 0)]) ∧ u (a + 1) = aF Γ 12 (fun _ => FP.fconst0) ∧ ∀ j, j ≠ a → j ≠ (a + 1) → u j = mem j) := by
  refine mn_enter (cc := cX7_init) (by decide) (Nat.le_of_ble_eq_true rfl) ?_
  intro p e s m args below meth c ls hx hb hml hown hr hlocks hname hE hh hsz hl
  have hl : lv_has ls 2 [(0, .ref (b + a)), (1, .int (nI 3))] := hl
  have hfr : ∀ j, j ≠ a → j ≠ (a + 1) → mem j = mem j := fun j _ _ => rfl
  refine lv_aload_n hx hb dX7_init_0 rfl (lv_at hl 0 rfl) ?_
  refine W.objInit hx hb hown (wo_X7 hE.2.1 args) (wo_m hE.2.1 args) (wo_c hE.2.1 args) rfl (by rw [hml]; exact hl.1) rfl dX7_init_1 (Nat.le_of_ble_eq_true rfl) (Nat.le_of_ble_eq_true rfl) ?_
  refine W.eq (g2 := F0 m 4 ls []) rfl ?_
  refine lv_aload_n hx hb dX7_init_4 rfl (lv_at hl 0 rfl) ?_
  refine lv_iload_n hx hb dX7_init_5 rfl (lv_at hl 1 rfl) ?_
  refine lv_iconst (v := (nI 0)) hx hb dX7_init_6 (by decide) ?_
  refine nn_mmax hx hb hml hl.1 hown hE.2.1 (wl_X7_9 hE.2.1 args) (Nat.le_of_ble_eq_true rfl) (Nat.le_of_ble_eq_true rfl) (by omega) (by omega) dX7_init_7 ?_
  rw [show max 3 0 = 3 by decide]
  refine gq_X7_limit (fs' := [.null, .int (nI 3), .int (nI 0)]) hx hb hE hown hname hh (by omega) fa rfl rfl (show 1 < 3 by decide) rfl dX7_init_10 (fun H locs mem1 f2 k3 hh => ?_)
  have hfr4 : ∀ j, j ≠ a → j ≠ (a + 1) → mem1 j = mem j := fun j c0 c1 => (k3 j (by omega)).trans (hfr j c0 c1)
  refine lv_aload_n hx hb dX7_init_13 rfl (lv_at hl 0 rfl) ?_
  refine lv_aload_n hx hb dX7_init_14 rfl (lv_at hl 0 rfl) ?_
  refine gf_X7_limit hx hb hE hown hh (by omega) f2 rfl dX7_init_15 ?_
  refine lv_iconst (v := (nI 4)) hx hb dX7_init_18 (by decide) ?_
  refine nn_imul hx hb dX7_init_19 ?_
  rw [show 3 * 4 = 12 by decide]
  refine mn_newa 1 (atype := .float) (ty := .float) (n := 12) (a0 := (12, .inr (.inr (.inl (fun _ => FP.fconst0))))) hx hb hE (wa_F hE.2.1 args) rfl rfl (fun _ => rfl) (by decide) (by decide) (by omega) hh (by show _ ≤ 1; omega) (by show _ ≤ 12; omega) dX7_init_20 (fun H mem5 f6 k7 hh => ?_)
  have hfr8 : ∀ j, j ≠ a → j ≠ (a + 1) → mem5 j = mem j := fun j c0 c1 => (k7 j (by omega)).trans (hfr4 j c0 c1)
  have f9 : mem5 a = .inr (6, [.null, .int (nI 3), .int (nI 0)]) := (k7 _ (by omega)).trans f2
  have hh : GH Γ b (a + 2) mem5 s _ _ := hh
  refine gq_X7_numbers (fs' := [.ref (b + (a + 1)), .int (nI 3), .int (nI 0)]) hx hb hE hown hname hh (by omega) f9 rfl rfl (show 0 < 3 by decide) rfl dX7_init_22 (fun H locs mem10 f11 k12 hh => ?_)
  have hfr13 : ∀ j, j ≠ a → j ≠ (a + 1) → mem10 j = mem j := fun j c0 c1 => (k12 j (by omega)).trans (hfr8 j c0 c1)
  have f14 : mem10 (a + 1) = aF Γ 12 (fun _ => FP.fconst0) := (k12 _ (by omega)).trans f6
  exact mm_vret hx hb hr hlocks hE hh (⟨f11, f14, hfr13⟩) dX7_init_25
set_option maxHeartbeats 4000000 in
set_option maxRecDepth 100000 in
/-- VectorRow(4) -/
theorem c_X7_init4 (l : Launch) (Γ : Gm) (b : Nat) (mem : Nat → va_E) {a : Nat} (fa : mem a = .inr (6, [.null, .int (nI 0), .int (nI 0)])) : Cn l yX7_init (.code yX7_init cX7_init 2 none) ({ frames := 1, cells := 1, slots := 16, locals := 14 } : Room) Γ b (a + 1) (a + 2) [.ref (b + a), .int (nI 4)] mem (fun u => u a = .inr (6, [.ref (b + (a + 1)), .int (nI 4), .int (nI 0)]) ∧ u (a + 1) = aF Γ 16 (fun _ => FP.fconst0) ∧ ∀ j, j ≠ a → j ≠ (a + 1) → u j = mem j) := by
  refine mn_enter (cc := cX7_init) (by decide) (Nat.le_of_ble_eq_true rfl) ?_
  intro p e s m args below meth c ls hx hb hml hown hr hlocks hname hE hh hsz hl
  have hl : lv_has ls 2 [(0, .ref (b + a)), (1, .int (nI 4))] := hl
  have hfr : ∀ j, j ≠ a → j ≠ (a + 1) → mem j = mem j := fun j _ _ => rfl
  refine lv_aload_n hx hb dX7_init_0 rfl (lv_at hl 0 rfl) ?_
  refine W.objInit hx hb hown (wo_X7 hE.2.1 args) (wo_m hE.2.1 args) (wo_c hE.2.1 args) rfl (by rw [hml]; exact hl.1) rfl dX7_init_1 (Nat.le_of_ble_eq_true rfl) (Nat.le_of_ble_eq_true rfl) ?_
  refine W.eq (g2 := F0 m 4 ls []) rfl ?_
  refine lv_aload_n hx hb dX7_init_4 rfl (lv_at hl 0 rfl) ?_
  refine lv_iload_n hx hb dX7_init_5 rfl (lv_at hl 1 rfl) ?_
  refine lv_iconst (v := (nI 0)) hx hb dX7_init_6 (by decide) ?_
  refine nn_mmax hx hb hml hl.1 hown hE.2.1 (wl_X7_9 hE.2.1 args) (Nat.le_of_ble_eq_true rfl) (Nat.le_of_ble_eq_true rfl) (by omega) (by omega) dX7_init_7 ?_
  rw [show max 4 0 = 4 by decide]
  refine gq_X7_limit (fs' := [.null, .int (nI 4), .int (nI 0)]) hx hb hE hown hname hh (by omega) fa rfl rfl (show 1 < 3 by decide) rfl dX7_init_10 (fun H locs mem1 f2 k3 hh => ?_)
  have hfr4 : ∀ j, j ≠ a → j ≠ (a + 1) → mem1 j = mem j := fun j c0 c1 => (k3 j (by omega)).trans (hfr j c0 c1)
  refine lv_aload_n hx hb dX7_init_13 rfl (lv_at hl 0 rfl) ?_
  refine lv_aload_n hx hb dX7_init_14 rfl (lv_at hl 0 rfl) ?_
  refine gf_X7_limit hx hb hE hown hh (by omega) f2 rfl dX7_init_15 ?_
  refine lv_iconst (v := (nI 4)) hx hb dX7_init_18 (by decide) ?_
  refine nn_imul hx hb dX7_init_19 ?_
  rw [show 4 * 4 = 16 by decide]
  refine mn_newa 1 (atype := .float) (ty := .float) (n := 16) (a0 := (16, .inr (.inr (.inl (fun _ => FP.fconst0))))) hx hb hE (wa_F hE.2.1 args) rfl rfl (fun _ => rfl) (by decide) (by decide) (by omega) hh (by show _ ≤ 1; omega) (by show _ ≤ 16; omega) dX7_init_20 (fun H mem5 f6 k7 hh => ?_)
  have hfr8 : ∀ j, j ≠ a → j ≠ (a + 1) → mem5 j = mem j := fun j c0 c1 => (k7 j (by omega)).trans (hfr4 j c0 c1)
  have f9 : mem5 a = .inr (6, [.null, .int (nI 4), .int (nI 0)]) := (k7 _ (by omega)).trans f2
  have hh : GH Γ b (a + 2) mem5 s _ _ := hh
  refine gq_X7_numbers (fs' := [.ref (b + (a + 1)), .int (nI 4), .int (nI 0)]) hx hb hE hown hname hh (by omega) f9 rfl rfl (show 0 < 3 by decide) rfl dX7_init_22 (fun H locs mem10 f11 k12 hh => ?_)
  have hfr13 : ∀ j, j ≠ a → j ≠ (a + 1) → mem10 j = mem j := fun j c0 c1 => (k12 j (by omega)).trans (hfr8 j c0 c1)
  have f14 : mem10 (a + 1) = aF Γ 16 (fun _ => FP.fconst0) := (k12 _ (by omega)).trans f6
  exact mm_vret hx hb hr hlocks hE hh (⟨f11, f14, hfr13⟩) dX7_init_25
set_option maxHeartbeats 4000000 in
set_option maxRecDepth 100000 in
/-- Ranking() -/
theorem c_X4_init (l : Launch) (Γ : Gm) (b : Nat) (mem : Nat → va_E) {a : Nat} (fa : mem a = .inr (4, [.null, .null, .int (nI 0), .int (nI 0)])) : Cn l yX4_init (.code yX4_init cX4_init 1 none) ({ frames := 1, cells := 2, slots := 40, locals := 12 } : Room) Γ b (a + 1) (a + 3) [.ref (b + a)] mem (fun u => u a = .inr (4, [.ref (b + (a + 1)), .ref (b + (a + 2)), .int (nI 0), .int (nI 0)]) ∧ u (a + 1) = aN Γ 20 (fun _ => 0) ∧ u (a + 2) = aD Γ 20 (fun _ => FP.dconst0) ∧ ∀ j, j ≠ a → j ≠ (a + 1) → j ≠ (a + 2) → u j = mem j) := by
  refine mn_enter (cc := cX4_init) (by decide) (Nat.le_of_ble_eq_true rfl) ?_
  intro p e s m args below meth c ls hx hb hml hown hr hlocks hname hE hh hsz hl
  have hl : lv_has ls 1 [(0, .ref (b + a))] := hl
  have hfr : ∀ j, j ≠ a → j ≠ (a + 1) → j ≠ (a + 2) → mem j = mem j := fun j _ _ _ => rfl
  refine lv_aload_n hx hb dX4_init_0 rfl (lv_at hl 0 rfl) ?_
  refine W.objInit hx hb hown (wo_X4 hE.2.1 args) (wo_m hE.2.1 args) (wo_c hE.2.1 args) rfl (by rw [hml]; exact hl.1) rfl dX4_init_1 (Nat.le_of_ble_eq_true rfl) (Nat.le_of_ble_eq_true rfl) ?_
  refine W.eq (g2 := F0 m 4 ls []) rfl ?_
  refine lv_aload_n hx hb dX4_init_4 rfl (lv_at hl 0 rfl) ?_
  refine lv_bipush (v := (nI 20)) hx hb dX4_init_5 (by decide) ?_
  refine mn_newa 0 (atype := .int) (ty := .int) (n := 20) (a0 := (20, .inl (fun _ => nI 0))) hx hb hE (wa_I hE.2.1 args) rfl rfl (fun _ => rfl) (by decide) (by decide) (by omega) hh (by show _ ≤ 2; omega) (by show _ ≤ 40; omega) dX4_init_7 (fun H mem1 f2 k3 hh => ?_)
  have hfr4 : ∀ j, j ≠ a → j ≠ (a + 1) → j ≠ (a + 2) → mem1 j = mem j := fun j c0 c1 c2 => (k3 j (by omega)).trans (hfr j c0 c1 c2)
  have f5 : mem1 a = .inr (4, [.null, .null, .int (nI 0), .int (nI 0)]) := (k3 _ (by omega)).trans fa
  have hh : GH Γ b (a + 2) mem1 s _ _ := hh
  refine gq_X4_documents (fs' := [.ref (b + (a + 1)), .null, .int (nI 0), .int (nI 0)]) hx hb hE hown hname hh (by omega) f5 rfl rfl (show 0 < 4 by decide) rfl dX4_init_9 (fun H locs mem6 f7 k8 hh => ?_)
  have hfr9 : ∀ j, j ≠ a → j ≠ (a + 1) → j ≠ (a + 2) → mem6 j = mem j := fun j c0 c1 c2 => (k8 j (by omega)).trans (hfr4 j c0 c1 c2)
  have f10 : mem6 (a + 1) = aN Γ 20 (fun _ => 0) := (k8 _ (by omega)).trans f2
  refine lv_aload_n hx hb dX4_init_12 rfl (lv_at hl 0 rfl) ?_
  refine lv_bipush (v := (nI 20)) hx hb dX4_init_13 (by decide) ?_
  refine mn_newa 2 (atype := .double) (ty := .double) (n := 20) (a0 := (20, .inr (.inr (.inr (.inl (fun _ => FP.dconst0)))))) hx hb hE (wa_D hE.2.1 args) rfl rfl (fun _ => rfl) (by decide) (by decide) (by omega) hh (by show _ ≤ 2; omega) (by show _ ≤ 40; omega) dX4_init_15 (fun H mem11 f12 k13 hh => ?_)
  have hfr14 : ∀ j, j ≠ a → j ≠ (a + 1) → j ≠ (a + 2) → mem11 j = mem j := fun j c0 c1 c2 => (k13 j (by omega)).trans (hfr9 j c0 c1 c2)
  have f15 : mem11 a = .inr (4, [.ref (b + (a + 1)), .null, .int (nI 0), .int (nI 0)]) := (k13 _ (by omega)).trans f7
  have f16 : mem11 (a + 1) = aN Γ 20 (fun _ => 0) := (k13 _ (by omega)).trans f10
  have hh : GH Γ b (a + 3) mem11 s _ _ := hh
  refine gq_X4_scores (fs' := [.ref (b + (a + 1)), .ref (b + (a + 2)), .int (nI 0), .int (nI 0)]) hx hb hE hown hname hh (by omega) f15 rfl rfl (show 1 < 4 by decide) rfl dX4_init_17 (fun H locs mem17 f18 k19 hh => ?_)
  have hfr20 : ∀ j, j ≠ a → j ≠ (a + 1) → j ≠ (a + 2) → mem17 j = mem j := fun j c0 c1 c2 => (k19 j (by omega)).trans (hfr14 j c0 c1 c2)
  have f21 : mem17 (a + 1) = aN Γ 20 (fun _ => 0) := (k19 _ (by omega)).trans f16
  have f22 : mem17 (a + 2) = aD Γ 20 (fun _ => FP.dconst0) := (k19 _ (by omega)).trans f12
  exact mm_vret hx hb hr hlocks hE hh (⟨f18, f21, f22, hfr20⟩) dX4_init_20
set_option maxHeartbeats 4000000 in
set_option maxRecDepth 100000 in
/-- Listing() -/
theorem c_X2_init (l : Launch) (Γ : Gm) (b : Nat) (mem : Nat → va_E) {a : Nat} (fa : mem a = .inr (2, [.null, .int (bI false), .int (nI 0), .int (nI 0), .int (nI 0)])) : Cn l yX2_init (.code yX2_init cX2_init 1 none) ({ frames := 2, cells := 3, slots := 44, locals := 32 } : Room) Γ b (a + 1) (a + 4) [.ref (b + a)] mem (fun u => u a = .inr (2, [.ref (b + (a + 1)), .int (bI false), .int (nI 0), .int (nI 0), .int (nI 0)]) ∧ u (a + 1) = .inr (4, [.ref (b + (a + 2)), .ref (b + (a + 3)), .int (nI 0), .int (nI 0)]) ∧ u (a + 2) = aN Γ 20 (fun _ => 0) ∧ u (a + 3) = aD Γ 20 (fun _ => FP.dconst0) ∧ ∀ j, j ≠ a → j ≠ (a + 1) → j ≠ (a + 2) → j ≠ (a + 3) → u j = mem j) := by
  refine mn_enter (cc := cX2_init) (by decide) (Nat.le_of_ble_eq_true rfl) ?_
  intro p e s m args below meth c ls hx hb hml hown hr hlocks hname hE hh hsz hl
  have hl : lv_has ls 1 [(0, .ref (b + a))] := hl
  have hfr : ∀ j, j ≠ a → j ≠ (a + 1) → j ≠ (a + 2) → j ≠ (a + 3) → mem j = mem j := fun j _ _ _ _ => rfl
  refine lv_aload_n hx hb dX2_init_0 rfl (lv_at hl 0 rfl) ?_
  refine W.objInit hx hb hown (wo_X2 hE.2.1 args) (wo_m hE.2.1 args) (wo_c hE.2.1 args) rfl (by rw [hml]; exact hl.1) rfl dX2_init_1 (Nat.le_of_ble_eq_true rfl) (Nat.le_of_ble_eq_true rfl) ?_
  refine W.eq (g2 := F0 m 4 ls []) rfl ?_
  refine lv_aload_n hx hb dX2_init_4 rfl (lv_at hl 0 rfl) ?_
  refine mn_new (ci := 4) (fs := [.null, .null, .int (nI 0), .int (nI 0)]) hx hb hE hown (uw_X4 hE.2.1 args) tyX4 tyX4_ok (wc_X2_7 hE.2.1 args) (wi_X4 hE.2.1 args) (wn_X4 hE.2.1 args) rfl (by decide +kernel) (by omega) hh (by show _ ≤ 3; omega) (by show _ ≤ 44; omega) dX2_init_5 (fun H mem1 f2 k3 hh => ?_)
  have hfr4 : ∀ j, j ≠ a → j ≠ (a + 1) → j ≠ (a + 2) → j ≠ (a + 3) → mem1 j = mem j := fun j c0 c1 c2 c3 => (k3 j (by omega)).trans (hfr j c0 c1 c2 c3)
  have f5 : mem1 a = .inr (2, [.null, .int (bI false), .int (nI 0), .int (nI 0), .int (nI 0)]) := (k3 _ (by omega)).trans fa
  have hh : GH Γ b (a + 2) mem1 s _ _ := hh
  refine lv_dup hx hb dX2_init_8 rfl ?_
  refine mn_IN (As := []) (rest := [.ref (b + (a + 1)), .ref (b + a)]) (mc := 2) (ms := 40) hx hb hml hown hE hl.1 (by omega) hh (kc_X2_9 hE.2.1 hE.2.2.1 ⟨Nat.le_of_ble_eq_true rfl, Nat.le_of_ble_eq_true rfl⟩) (c_X4_init l Γ b mem1 (a := a + 1) f2) rfl rfl (Nat.le_of_ble_eq_true rfl) dX2_init_9 rfl rfl ⟨by show _ ≤ 3; omega, by show _ ≤ 44; omega⟩ (fun H locs mem6 hP7 hh => ?_)
  obtain ⟨f8, f9, f10, k11⟩ := hP7
  have hfr12 : ∀ j, j ≠ a → j ≠ (a + 1) → j ≠ (a + 2) → j ≠ (a + 3) → mem6 j = mem j := fun j c0 c1 c2 c3 => (k11 j (by omega) (by omega) (by omega)).trans (hfr4 j c0 c1 c2 c3)
  have f13 : mem6 a = .inr (2, [.null, .int (bI false), .int (nI 0), .int (nI 0), .int (nI 0)]) := (k11 _ (by omega) (by omega) (by omega)).trans f5
  have hh : GH Γ b (a + 4) mem6 s _ _ := hh
  refine gq_X2_ranking (fs' := [.ref (b + (a + 1)), .int (bI false), .int (nI 0), .int (nI 0), .int (nI 0)]) hx hb hE hown hname hh (by omega) f13 rfl rfl (show 0 < 5 by decide) rfl dX2_init_12 (fun H locs mem14 f15 k16 hh => ?_)
  have hfr17 : ∀ j, j ≠ a → j ≠ (a + 1) → j ≠ (a + 2) → j ≠ (a + 3) → mem14 j = mem j := fun j c0 c1 c2 c3 => (k16 j (by omega)).trans (hfr12 j c0 c1 c2 c3)
  have f18 : mem14 (a + 1) = .inr (4, [.ref (b + (a + 2)), .ref (b + (a + 3)), .int (nI 0), .int (nI 0)]) := (k16 _ (by omega)).trans f8
  have f19 : mem14 (a + 2) = aN Γ 20 (fun _ => 0) := (k16 _ (by omega)).trans f9
  have f20 : mem14 (a + 3) = aD Γ 20 (fun _ => FP.dconst0) := (k16 _ (by omega)).trans f10
  exact mm_vret hx hb hr hlocks hE hh (⟨f15, f18, f19, f20, hfr17⟩) dX2_init_15
set_option maxHeartbeats 4000000 in
set_option maxRecDepth 100000 in
/-- Fusion() -/
theorem c_X1_init (l : Launch) (Γ : Gm) (b : Nat) (mem : Nat → va_E) {a : Nat} (fa : mem a = .inr (1, [.null, .null, .null])) : Cn l yX1_init (.code yX1_init cX1_init 1 none) ({ frames := 2, cells := 5, slots := 76, locals := 32 } : Room) Γ b (a + 1) (a + 6) [.ref (b + a)] mem (fun u => u a = .inr (1, [.ref (b + (a + 1)), .ref (b + (a + 4)), .ref (b + (a + 5))]) ∧ u (a + 1) = .inr (4, [.ref (b + (a + 2)), .ref (b + (a + 3)), .int (nI 0), .int (nI 0)]) ∧ u (a + 2) = aN Γ 20 (fun _ => 0) ∧ u (a + 3) = aD Γ 20 (fun _ => FP.dconst0) ∧ u (a + 4) = aD Γ 16 (fun _ => FP.dconst0) ∧ u (a + 5) = aN Γ 16 (fun _ => 0) ∧ ∀ j, j ≠ a → j ≠ (a + 1) → j ≠ (a + 2) → j ≠ (a + 3) → j ≠ (a + 4) → j ≠ (a + 5) → u j = mem j) := by
  refine mn_enter (cc := cX1_init) (by decide) (Nat.le_of_ble_eq_true rfl) ?_
  intro p e s m args below meth c ls hx hb hml hown hr hlocks hname hE hh hsz hl
  have hl : lv_has ls 1 [(0, .ref (b + a))] := hl
  have hfr : ∀ j, j ≠ a → j ≠ (a + 1) → j ≠ (a + 2) → j ≠ (a + 3) → j ≠ (a + 4) → j ≠ (a + 5) → mem j = mem j := fun j _ _ _ _ _ _ => rfl
  refine lv_aload_n hx hb dX1_init_0 rfl (lv_at hl 0 rfl) ?_
  refine W.objInit hx hb hown (wo_X1 hE.2.1 args) (wo_m hE.2.1 args) (wo_c hE.2.1 args) rfl (by rw [hml]; exact hl.1) rfl dX1_init_1 (Nat.le_of_ble_eq_true rfl) (Nat.le_of_ble_eq_true rfl) ?_
  refine W.eq (g2 := F0 m 4 ls []) rfl ?_
  refine lv_aload_n hx hb dX1_init_4 rfl (lv_at hl 0 rfl) ?_
  refine mn_new (ci := 4) (fs := [.null, .null, .int (nI 0), .int (nI 0)]) hx hb hE hown (uw_X4 hE.2.1 args) tyX4 tyX4_ok (wc_X1_9 hE.2.1 args) (wi_X4 hE.2.1 args) (wn_X4 hE.2.1 args) rfl (by decide +kernel) (by omega) hh (by show _ ≤ 5; omega) (by show _ ≤ 76; omega) dX1_init_5 (fun H mem1 f2 k3 hh => ?_)
  have hfr4 : ∀ j, j ≠ a → j ≠ (a + 1) → j ≠ (a + 2) → j ≠ (a + 3) → j ≠ (a + 4) → j ≠ (a + 5) → mem1 j = mem j := fun j c0 c1 c2 c3 c4 c5 => (k3 j (by omega)).trans (hfr j c0 c1 c2 c3 c4 c5)
  have f5 : mem1 a = .inr (1, [.null, .null, .null]) := (k3 _ (by omega)).trans fa
  have hh : GH Γ b (a + 2) mem1 s _ _ := hh
  refine lv_dup hx hb dX1_init_8 rfl ?_
  refine mn_IN (As := []) (rest := [.ref (b + (a + 1)), .ref (b + a)]) (mc := 2) (ms := 40) hx hb hml hown hE hl.1 (by omega) hh (kc_X1_11 hE.2.1 hE.2.2.1 ⟨Nat.le_of_ble_eq_true rfl, Nat.le_of_ble_eq_true rfl⟩) (c_X4_init l Γ b mem1 (a := a + 1) f2) rfl rfl (Nat.le_of_ble_eq_true rfl) dX1_init_9 rfl rfl ⟨by show _ ≤ 5; omega, by show _ ≤ 76; omega⟩ (fun H locs mem6 hP7 hh => ?_)
  obtain ⟨f8, f9, f10, k11⟩ := hP7
  have hfr12 : ∀ j, j ≠ a → j ≠ (a + 1) → j ≠ (a + 2) → j ≠ (a + 3) → j ≠ (a + 4) → j ≠ (a + 5) → mem6 j = mem j := fun j c0 c1 c2 c3 c4 c5 => (k11 j (by omega) (by omega) (by omega)).trans (hfr4 j c0 c1 c2 c3 c4 c5)
  have f13 : mem6 a = .inr (1, [.null, .null, .null]) := (k11 _ (by omega) (by omega) (by omega)).trans f5
  have hh : GH Γ b (a + 4) mem6 s _ _ := hh
  refine gq_X1_ranking (fs' := [.ref (b + (a + 1)), .null, .null]) hx hb hE hown hname hh (by omega) f13 rfl rfl (show 0 < 3 by decide) rfl dX1_init_12 (fun H locs mem14 f15 k16 hh => ?_)
  have hfr17 : ∀ j, j ≠ a → j ≠ (a + 1) → j ≠ (a + 2) → j ≠ (a + 3) → j ≠ (a + 4) → j ≠ (a + 5) → mem14 j = mem j := fun j c0 c1 c2 c3 c4 c5 => (k16 j (by omega)).trans (hfr12 j c0 c1 c2 c3 c4 c5)
  have f18 : mem14 (a + 1) = .inr (4, [.ref (b + (a + 2)), .ref (b + (a + 3)), .int (nI 0), .int (nI 0)]) := (k16 _ (by omega)).trans f8
  have f19 : mem14 (a + 2) = aN Γ 20 (fun _ => 0) := (k16 _ (by omega)).trans f9
  have f20 : mem14 (a + 3) = aD Γ 20 (fun _ => FP.dconst0) := (k16 _ (by omega)).trans f10
  refine lv_aload_n hx hb dX1_init_15 rfl (lv_at hl 0 rfl) ?_
  refine lv_bipush (v := (nI 16)) hx hb dX1_init_16 (by decide) ?_
  refine mn_newa 2 (atype := .double) (ty := .double) (n := 16) (a0 := (16, .inr (.inr (.inr (.inl (fun _ => FP.dconst0)))))) hx hb hE (wa_D hE.2.1 args) rfl rfl (fun _ => rfl) (by decide) (by decide) (by omega) hh (by show _ ≤ 5; omega) (by show _ ≤ 76; omega) dX1_init_18 (fun H mem21 f22 k23 hh => ?_)
  have hfr24 : ∀ j, j ≠ a → j ≠ (a + 1) → j ≠ (a + 2) → j ≠ (a + 3) → j ≠ (a + 4) → j ≠ (a + 5) → mem21 j = mem j := fun j c0 c1 c2 c3 c4 c5 => (k23 j (by omega)).trans (hfr17 j c0 c1 c2 c3 c4 c5)
  have f25 : mem21 a = .inr (1, [.ref (b + (a + 1)), .null, .null]) := (k23 _ (by omega)).trans f15
  have f26 : mem21 (a + 1) = .inr (4, [.ref (b + (a + 2)), .ref (b + (a + 3)), .int (nI 0), .int (nI 0)]) := (k23 _ (by omega)).trans f18
  have f27 : mem21 (a + 2) = aN Γ 20 (fun _ => 0) := (k23 _ (by omega)).trans f19
  have f28 : mem21 (a + 3) = aD Γ 20 (fun _ => FP.dconst0) := (k23 _ (by omega)).trans f20
  have hh : GH Γ b (a + 5) mem21 s _ _ := hh
  refine gq_X1_totals (fs' := [.ref (b + (a + 1)), .ref (b + (a + 4)), .null]) hx hb hE hown hname hh (by omega) f25 rfl rfl (show 1 < 3 by decide) rfl dX1_init_20 (fun H locs mem29 f30 k31 hh => ?_)
  have hfr32 : ∀ j, j ≠ a → j ≠ (a + 1) → j ≠ (a + 2) → j ≠ (a + 3) → j ≠ (a + 4) → j ≠ (a + 5) → mem29 j = mem j := fun j c0 c1 c2 c3 c4 c5 => (k31 j (by omega)).trans (hfr24 j c0 c1 c2 c3 c4 c5)
  have f33 : mem29 (a + 1) = .inr (4, [.ref (b + (a + 2)), .ref (b + (a + 3)), .int (nI 0), .int (nI 0)]) := (k31 _ (by omega)).trans f26
  have f34 : mem29 (a + 2) = aN Γ 20 (fun _ => 0) := (k31 _ (by omega)).trans f27
  have f35 : mem29 (a + 3) = aD Γ 20 (fun _ => FP.dconst0) := (k31 _ (by omega)).trans f28
  have f36 : mem29 (a + 4) = aD Γ 16 (fun _ => FP.dconst0) := (k31 _ (by omega)).trans f22
  refine lv_aload_n hx hb dX1_init_23 rfl (lv_at hl 0 rfl) ?_
  refine lv_bipush (v := (nI 16)) hx hb dX1_init_24 (by decide) ?_
  refine mn_newa 0 (atype := .int) (ty := .int) (n := 16) (a0 := (16, .inl (fun _ => nI 0))) hx hb hE (wa_I hE.2.1 args) rfl rfl (fun _ => rfl) (by decide) (by decide) (by omega) hh (by show _ ≤ 5; omega) (by show _ ≤ 76; omega) dX1_init_26 (fun H mem37 f38 k39 hh => ?_)
  have hfr40 : ∀ j, j ≠ a → j ≠ (a + 1) → j ≠ (a + 2) → j ≠ (a + 3) → j ≠ (a + 4) → j ≠ (a + 5) → mem37 j = mem j := fun j c0 c1 c2 c3 c4 c5 => (k39 j (by omega)).trans (hfr32 j c0 c1 c2 c3 c4 c5)
  have f41 : mem37 a = .inr (1, [.ref (b + (a + 1)), .ref (b + (a + 4)), .null]) := (k39 _ (by omega)).trans f30
  have f42 : mem37 (a + 1) = .inr (4, [.ref (b + (a + 2)), .ref (b + (a + 3)), .int (nI 0), .int (nI 0)]) := (k39 _ (by omega)).trans f33
  have f43 : mem37 (a + 2) = aN Γ 20 (fun _ => 0) := (k39 _ (by omega)).trans f34
  have f44 : mem37 (a + 3) = aD Γ 20 (fun _ => FP.dconst0) := (k39 _ (by omega)).trans f35
  have f45 : mem37 (a + 4) = aD Γ 16 (fun _ => FP.dconst0) := (k39 _ (by omega)).trans f36
  have hh : GH Γ b (a + 6) mem37 s _ _ := hh
  refine gq_X1_memberships (fs' := [.ref (b + (a + 1)), .ref (b + (a + 4)), .ref (b + (a + 5))]) hx hb hE hown hname hh (by omega) f41 rfl rfl (show 2 < 3 by decide) rfl dX1_init_28 (fun H locs mem46 f47 k48 hh => ?_)
  have hfr49 : ∀ j, j ≠ a → j ≠ (a + 1) → j ≠ (a + 2) → j ≠ (a + 3) → j ≠ (a + 4) → j ≠ (a + 5) → mem46 j = mem j := fun j c0 c1 c2 c3 c4 c5 => (k48 j (by omega)).trans (hfr40 j c0 c1 c2 c3 c4 c5)
  have f50 : mem46 (a + 1) = .inr (4, [.ref (b + (a + 2)), .ref (b + (a + 3)), .int (nI 0), .int (nI 0)]) := (k48 _ (by omega)).trans f42
  have f51 : mem46 (a + 2) = aN Γ 20 (fun _ => 0) := (k48 _ (by omega)).trans f43
  have f52 : mem46 (a + 3) = aD Γ 20 (fun _ => FP.dconst0) := (k48 _ (by omega)).trans f44
  have f53 : mem46 (a + 4) = aD Γ 16 (fun _ => FP.dconst0) := (k48 _ (by omega)).trans f45
  have f54 : mem46 (a + 5) = aN Γ 16 (fun _ => 0) := (k48 _ (by omega)).trans f38
  exact mm_vret hx hb hr hlocks hE hh (⟨f47, f50, f51, f52, f53, f54, hfr49⟩) dX1_init_31
set_option maxHeartbeats 4000000 in
set_option maxRecDepth 100000 in
/-- PartTable() -/
theorem c_X3_init (l : Launch) (Γ : Gm) (b : Nat) (mem : Nat → va_E)  (fa : mem 80 = .inr (3, [.null, .null, .int (nI 0)])) : Cn l yX3_init (.code yX3_init cX3_init 1 none) ({ frames := 2, cells := 10, slots := 88, locals := 32 } : Room) Γ b (81) (91) [.ref (b + 80)] mem (fun u => u 80 = .inr (3, [.ref (b + 81), .ref (b + 86), .int (nI 0)]) ∧ u 81 = aR Γ 9 4 (fun i => some (b + (82 + i))) ∧ (∀ z9, z9 < 4 → u (82 + z9) = aD Γ 16 ((fun _ _ => FP.dconst0) z9)) ∧ u 86 = aR Γ 9 4 (fun i => some (b + (87 + i))) ∧ (∀ z9, z9 < 4 → u (87 + z9) = aD Γ 4 ((fun _ _ => FP.dconst0) z9)) ∧ ∀ j, j ≠ 80 → j ≠ 81 → ¬ (82 ≤ j ∧ j < 86) → j ≠ 86 → ¬ (87 ≤ j ∧ j < 91) → u j = mem j) := by
  refine mn_enter (cc := cX3_init) (by decide) (Nat.le_of_ble_eq_true rfl) ?_
  intro p e s m args below meth c ls hx hb hml hown hr hlocks hname hE hh hsz hl
  have hl : lv_has ls 1 [(0, .ref (b + 80))] := hl
  have hfr : ∀ j, j ≠ 80 → j ≠ 81 → ¬ (82 ≤ j ∧ j < 86) → j ≠ 86 → ¬ (87 ≤ j ∧ j < 91) → mem j = mem j := fun j _ _ _ _ _ => rfl
  refine lv_aload_n hx hb dX3_init_0 rfl (lv_at hl 0 rfl) ?_
  refine mn_IN (As := []) (rest := []) (mc := 0) (ms := 0) hx hb hml hown hE hl.1 (by omega) hh (kc_X3_3 hE.2.1 hE.2.2.1 ⟨Nat.le_of_ble_eq_true rfl, Nat.le_of_ble_eq_true rfl⟩) (c_X5_init l Γ b mem (a := 80) (M := 81)) rfl rfl (Nat.le_of_ble_eq_true rfl) dX3_init_1 rfl rfl ⟨by show _ ≤ 10; omega, by show _ ≤ 88; omega⟩ (fun H locs mem1 hP2 hh => ?_)
  have k3 := hP2
  have hfr4 : ∀ j, j ≠ 80 → j ≠ 81 → ¬ (82 ≤ j ∧ j < 86) → j ≠ 86 → ¬ (87 ≤ j ∧ j < 91) → mem1 j = mem j := fun j c0 c1 c2 c3 c4 => (k3 j ).trans (hfr j c0 c1 c2 c3 c4)
  have f5 : mem1 80 = .inr (3, [.null, .null, .int (nI 0)]) := (k3 _ ).trans fa
  have hh : GH Γ b (81) mem1 s _ _ := hh
  refine lv_aload_n hx hb dX3_init_4 rfl (lv_at hl 0 rfl) ?_
  refine lv_iconst (v := (nI 4)) hx hb dX3_init_5 (by decide) ?_
  refine lv_bipush (v := (nI 16)) hx hb dX3_init_6 (by decide) ?_
  refine mn_multi 9 2 (ty := .double) (n := 4) (k := 16) (M1 := 82) (a0 := (16, .inr (.inr (.inr (.inl (fun _ => FP.dconst0)))))) hx hb hE hown (by rw [ws_D]; exact wc_X3_9 hE.2.1 args) hE.2.2.1.2.2.2.2.2.2.2.2.2 (wa_D hE.2.1 args) rfl rfl (fun _ h => h) (fun _ => rfl) (by decide) (by decide) (by decide) rfl rfl rfl (by omega) hh (by show _ ≤ 10; omega) (by show _ ≤ 88; omega) dX3_init_8 (fun H locs mem6 f7 f8 k9 hh => ?_)
  have hfr10 : ∀ j, j ≠ 80 → j ≠ 81 → ¬ (82 ≤ j ∧ j < 86) → j ≠ 86 → ¬ (87 ≤ j ∧ j < 91) → mem6 j = mem j := fun j c0 c1 c2 c3 c4 => (k9 j (by omega) (by omega)).trans (hfr4 j c0 c1 c2 c3 c4)
  have f11 : mem6 80 = .inr (3, [.null, .null, .int (nI 0)]) := (k9 _ (by decide) (by decide)).trans f5
  have hh : GH Γ b (86) mem6 s _ _ := hh
  refine gq_X3_parts (fs' := [.ref (b + 81), .null, .int (nI 0)]) hx hb hE hown hname hh (by omega) f11 rfl rfl (show 0 < 3 by decide) rfl dX3_init_12 (fun H locs mem12 f13 k14 hh => ?_)
  have hfr15 : ∀ j, j ≠ 80 → j ≠ 81 → ¬ (82 ≤ j ∧ j < 86) → j ≠ 86 → ¬ (87 ≤ j ∧ j < 91) → mem12 j = mem j := fun j c0 c1 c2 c3 c4 => (k14 j (by omega)).trans (hfr10 j c0 c1 c2 c3 c4)
  have f16 : mem12 81 = aR Γ 9 4 (fun i => some (b + (82 + i))) := (k14 _ (by decide)).trans f7
  have f17 : ∀ z9, z9 < 4 → mem12 (82 + z9) = aD Γ 16 ((fun _ _ => FP.dconst0) z9) := fun z9 hz9 => (k14 _ (by omega)).trans (f8 z9 hz9)
  refine lv_aload_n hx hb dX3_init_15 rfl (lv_at hl 0 rfl) ?_
  refine lv_iconst (v := (nI 4)) hx hb dX3_init_16 (by decide) ?_
  refine lv_iconst (v := (nI 4)) hx hb dX3_init_17 (by decide) ?_
  refine mn_multi 9 2 (ty := .double) (n := 4) (k := 4) (M1 := 87) (a0 := (4, .inr (.inr (.inr (.inl (fun _ => FP.dconst0)))))) hx hb hE hown (by rw [ws_D]; exact wc_X3_9 hE.2.1 args) hE.2.2.1.2.2.2.2.2.2.2.2.2 (wa_D hE.2.1 args) rfl rfl (fun _ h => h) (fun _ => rfl) (by decide) (by decide) (by decide) rfl rfl rfl (by omega) hh (by show _ ≤ 10; omega) (by show _ ≤ 88; omega) dX3_init_18 (fun H locs mem18 f19 f20 k21 hh => ?_)
  have hfr22 : ∀ j, j ≠ 80 → j ≠ 81 → ¬ (82 ≤ j ∧ j < 86) → j ≠ 86 → ¬ (87 ≤ j ∧ j < 91) → mem18 j = mem j := fun j c0 c1 c2 c3 c4 => (k21 j (by omega) (by omega)).trans (hfr15 j c0 c1 c2 c3 c4)
  have f23 : mem18 80 = .inr (3, [.ref (b + 81), .null, .int (nI 0)]) := (k21 _ (by decide) (by decide)).trans f13
  have f24 : mem18 81 = aR Γ 9 4 (fun i => some (b + (82 + i))) := (k21 _ (by decide) (by decide)).trans f16
  have f25 : ∀ z9, z9 < 4 → mem18 (82 + z9) = aD Γ 16 ((fun _ _ => FP.dconst0) z9) := fun z9 hz9 => (k21 _ (by omega) (by omega)).trans (f17 z9 hz9)
  have hh : GH Γ b (91) mem18 s _ _ := hh
  refine gq_X3_bounds (fs' := [.ref (b + 81), .ref (b + 86), .int (nI 0)]) hx hb hE hown hname hh (by omega) f23 rfl rfl (show 1 < 3 by decide) rfl dX3_init_22 (fun H locs mem26 f27 k28 hh => ?_)
  have hfr29 : ∀ j, j ≠ 80 → j ≠ 81 → ¬ (82 ≤ j ∧ j < 86) → j ≠ 86 → ¬ (87 ≤ j ∧ j < 91) → mem26 j = mem j := fun j c0 c1 c2 c3 c4 => (k28 j (by omega)).trans (hfr22 j c0 c1 c2 c3 c4)
  have f30 : mem26 81 = aR Γ 9 4 (fun i => some (b + (82 + i))) := (k28 _ (by decide)).trans f24
  have f31 : mem26 86 = aR Γ 9 4 (fun i => some (b + (87 + i))) := (k28 _ (by decide)).trans f19
  have f32 : ∀ z9, z9 < 4 → mem26 (82 + z9) = aD Γ 16 ((fun _ _ => FP.dconst0) z9) := fun z9 hz9 => (k28 _ (by omega)).trans (f25 z9 hz9)
  have f33 : ∀ z9, z9 < 4 → mem26 (87 + z9) = aD Γ 4 ((fun _ _ => FP.dconst0) z9) := fun z9 hz9 => (k28 _ (by omega)).trans (f20 z9 hz9)
  exact mm_vret hx hb hr hlocks hE hh (⟨f27, f30, f32, f31, f33, hfr29⟩) dX3_init_25
set_option maxHeartbeats 4000000 in
set_option maxRecDepth 100000 in
/-- VectorScorer() -/
theorem c_X8_init (l : Launch) (Γ : Gm) (b : Nat) (mem : Nat → va_E)  (fa : mem 91 = .inr (7, [.null, .null, .null, .int (bI false)])) : Cn l yX8_init (.code yX8_init cX8_init 3 none) ({ frames := 2, cells := 1, slots := 4, locals := 32 } : Room) Γ b (92) (93) [.ref (b + 91), .ref (b + 1), .ref (b + 78)] mem (fun u => u 91 = .inr (7, [.ref (b + 1), .ref (b + 78), .ref (b + 92), .int (bI false)]) ∧ u 92 = aB Γ 4 (fun _ => false) ∧ ∀ j, j ≠ 91 → j ≠ 92 → u j = mem j) := by
  refine mn_enter (cc := cX8_init) (by decide) (Nat.le_of_ble_eq_true rfl) ?_
  intro p e s m args below meth c ls hx hb hml hown hr hlocks hname hE hh hsz hl
  have hl : lv_has ls 3 [(0, .ref (b + 91)), (1, .ref (b + 1)), (2, .ref (b + 78))] := hl
  have hfr : ∀ j, j ≠ 91 → j ≠ 92 → mem j = mem j := fun j _ _ => rfl
  refine lv_aload_n hx hb dX8_init_0 rfl (lv_at hl 0 rfl) ?_
  refine mn_IN (As := []) (rest := []) (mc := 0) (ms := 0) hx hb hml hown hE hl.1 (by omega) hh (kc_X8_3 hE.2.1 hE.2.2.1 ⟨Nat.le_of_ble_eq_true rfl, Nat.le_of_ble_eq_true rfl⟩) (c_X5_init l Γ b mem (a := 91) (M := 92)) rfl rfl (Nat.le_of_ble_eq_true rfl) dX8_init_1 rfl rfl ⟨by show _ ≤ 1; omega, by show _ ≤ 4; omega⟩ (fun H locs mem1 hP2 hh => ?_)
  have k3 := hP2
  have hfr4 : ∀ j, j ≠ 91 → j ≠ 92 → mem1 j = mem j := fun j c0 c1 => (k3 j ).trans (hfr j c0 c1)
  have f5 : mem1 91 = .inr (7, [.null, .null, .null, .int (bI false)]) := (k3 _ ).trans fa
  have hh : GH Γ b (92) mem1 s _ _ := hh
  refine lv_aload_n hx hb dX8_init_4 rfl (lv_at hl 0 rfl) ?_
  refine lv_iconst (v := (nI 4)) hx hb dX8_init_5 (by decide) ?_
  refine mn_newa 3 (atype := .boolean) (ty := .boolean) (n := 4) (a0 := (4, .inl (fun _ => bI false))) hx hb hE (wa_Z hE.2.1 args) rfl rfl (fun _ => rfl) (by decide) (by decide) (by omega) hh (by show _ ≤ 1; omega) (by show _ ≤ 4; omega) dX8_init_6 (fun H mem6 f7 k8 hh => ?_)
  have hfr9 : ∀ j, j ≠ 91 → j ≠ 92 → mem6 j = mem j := fun j c0 c1 => (k8 j (by omega)).trans (hfr4 j c0 c1)
  have f10 : mem6 91 = .inr (7, [.null, .null, .null, .int (bI false)]) := (k8 _ (by decide)).trans f5
  have hh : GH Γ b (93) mem6 s _ _ := hh
  refine gq_X8_wanted (fs' := [.null, .null, .ref (b + 92), .int (bI false)]) hx hb hE hown hname hh (by omega) f10 rfl rfl (show 2 < 4 by decide) rfl dX8_init_8 (fun H locs mem11 f12 k13 hh => ?_)
  have hfr14 : ∀ j, j ≠ 91 → j ≠ 92 → mem11 j = mem j := fun j c0 c1 => (k13 j (by omega)).trans (hfr9 j c0 c1)
  have f15 : mem11 92 = aB Γ 4 (fun _ => false) := (k13 _ (by decide)).trans f7
  refine lv_aload_n hx hb dX8_init_11 rfl (lv_at hl 0 rfl) ?_
  refine lv_aload_n hx hb dX8_init_12 rfl (lv_at hl 1 rfl) ?_
  refine gq_X8_collection (fs' := [.ref (b + 1), .null, .ref (b + 92), .int (bI false)]) hx hb hE hown hname hh (by omega) f12 rfl rfl (show 0 < 4 by decide) rfl dX8_init_13 (fun H locs mem16 f17 k18 hh => ?_)
  have hfr19 : ∀ j, j ≠ 91 → j ≠ 92 → mem16 j = mem j := fun j c0 c1 => (k18 j (by omega)).trans (hfr14 j c0 c1)
  have f20 : mem16 92 = aB Γ 4 (fun _ => false) := (k18 _ (by decide)).trans f15
  refine lv_aload_n hx hb dX8_init_16 rfl (lv_at hl 0 rfl) ?_
  refine lv_aload_n hx hb dX8_init_17 rfl (lv_at hl 2 rfl) ?_
  refine gq_X8_queries (fs' := [.ref (b + 1), .ref (b + 78), .ref (b + 92), .int (bI false)]) hx hb hE hown hname hh (by omega) f17 rfl rfl (show 1 < 4 by decide) rfl dX8_init_18 (fun H locs mem21 f22 k23 hh => ?_)
  have hfr24 : ∀ j, j ≠ 91 → j ≠ 92 → mem21 j = mem j := fun j c0 c1 => (k23 j (by omega)).trans (hfr19 j c0 c1)
  have f25 : mem21 92 = aB Γ 4 (fun _ => false) := (k23 _ (by decide)).trans f20
  exact mm_vret hx hb hr hlocks hE hh (⟨f22, f25, hfr24⟩) dX8_init_21
def P_c_X0_init (Γ : Gm) (b : Nat) (mem u : Nat → va_E) : Prop := (fun u => u 1 = .inr (0, [.ref (b + 2), .ref (b + 19), .ref (b + 20), .ref (b + 37), .ref (b + 38), .int (nI 0)]) ∧ u 2 = aR Γ 7 16 (fun i => some (b + (3 + i))) ∧ (∀ z9, z9 < 16 → u (3 + z9) = aN Γ 12 ((fun _ _ => 0) z9)) ∧ u 19 = aN Γ 16 (fun _ => 0) ∧ u 20 = aR Γ 8 16 (fun i => some (b + (21 + i))) ∧ (∀ z9, z9 < 16 → u (21 + z9) = aF Γ 12 ((fun _ _ => FP.fconst0) z9)) ∧ u 37 = aR Γ 6 16 (fun i => some (b + (40 + 2 * i))) ∧ u 38 = .inr (6, [.ref (b + 39), .int (nI 4), .int (nI 0)]) ∧ u 39 = aF Γ 16 (fun _ => FP.fconst0) ∧ (∀ z9, z9 < 16 → u (40 + 2 * z9) = .inr (6, [.ref (b + (40 + 2 * z9 + 1)), .int (nI 4), .int (nI ((fun _ => 0) z9))])) ∧ (∀ z9, z9 < 16 → u (40 + 2 * z9 + 1) = aF Γ 16 ((fun _ _ => FP.fconst0) z9)) ∧ ∀ j, j ≠ 1 → j ≠ 2 → ¬ (3 ≤ j ∧ j < 19) → j ≠ 19 → j ≠ 20 → ¬ (21 ≤ j ∧ j < 37) → j ≠ 37 → j ≠ 38 → j ≠ 39 → ¬ (40 ≤ j ∧ j < 71) → ¬ (41 ≤ j ∧ j < 72) → u j = mem j) u
set_option maxHeartbeats 4000000 in
set_option maxRecDepth 100000 in
/-- Collection() -/
theorem c_X0_init (l : Launch) (Γ : Gm) (b : Nat) (mem : Nat → va_E)  (fa : mem 1 = .inr (0, [.null, .null, .null, .null, .null, .int (nI 0)])) : Cn l yX0_init (.code yX0_init cX0_init 2 none) ({ frames := 2, cells := 70, slots := 771, locals := 35 } : Room) Γ b (2) (72) [.ref (b + 1)] mem (P_c_X0_init Γ b mem) := by
  refine mn_enter (cc := cX0_init) (by decide) (Nat.le_of_ble_eq_true rfl) ?_
  intro p e s m args below meth c ls hx hb hml hown hr hlocks hname hE hh hsz hl
  have hl : lv_has ls 2 [(0, .ref (b + 1))] := hl
  have hfr : ∀ j, j ≠ 1 → j ≠ 2 → ¬ (3 ≤ j ∧ j < 19) → j ≠ 19 → j ≠ 20 → ¬ (21 ≤ j ∧ j < 37) → j ≠ 37 → j ≠ 38 → j ≠ 39 → ¬ (40 ≤ j ∧ j < 71) → ¬ (41 ≤ j ∧ j < 72) → mem j = mem j := fun j _ _ _ _ _ _ _ _ _ _ _ => rfl
  refine lv_aload_n hx hb dX0_init_0 rfl (lv_at hl 0 rfl) ?_
  refine W.objInit hx hb hown (wo_X0 hE.2.1 args) (wo_m hE.2.1 args) (wo_c hE.2.1 args) rfl (by rw [hml]; exact hl.1) rfl dX0_init_1 (Nat.le_of_ble_eq_true rfl) (Nat.le_of_ble_eq_true rfl) ?_
  refine W.eq (g2 := F0 m 4 ls []) rfl ?_
  refine lv_aload_n hx hb dX0_init_4 rfl (lv_at hl 0 rfl) ?_
  refine lv_bipush (v := (nI 16)) hx hb dX0_init_5 (by decide) ?_
  refine lv_bipush (v := (nI 12)) hx hb dX0_init_7 (by decide) ?_
  refine mn_multi 7 0 (ty := .int) (n := 16) (k := 12) (M1 := 3) (a0 := (12, .inl (fun _ => nI 0))) hx hb hE hown (by rw [ws_I]; exact wc_X0_9 hE.2.1 args) hE.2.2.1.2.2.2.2.2.2.2.1 (wa_I hE.2.1 args) rfl rfl (fun _ h => h) (fun _ => rfl) (by decide) (by decide) (by decide) rfl rfl rfl (by omega) hh (by show _ ≤ 70; omega) (by show _ ≤ 771; omega) dX0_init_9 (fun H locs mem1 f2 f3 k4 hh => ?_)
  have hfr5 : ∀ j, j ≠ 1 → j ≠ 2 → ¬ (3 ≤ j ∧ j < 19) → j ≠ 19 → j ≠ 20 → ¬ (21 ≤ j ∧ j < 37) → j ≠ 37 → j ≠ 38 → j ≠ 39 → ¬ (40 ≤ j ∧ j < 71) → ¬ (41 ≤ j ∧ j < 72) → mem1 j = mem j := fun j c0 c1 c2 c3 c4 c5 c6 c7 c8 c9 c10 => (k4 j (by omega) (by omega)).trans (hfr j c0 c1 c2 c3 c4 c5 c6 c7 c8 c9 c10)
  have f6 : mem1 1 = .inr (0, [.null, .null, .null, .null, .null, .int (nI 0)]) := (k4 _ (by decide) (by decide)).trans fa
  have hh : GH Γ b (19) mem1 s _ _ := hh
  refine gq_X0_counts (fs' := [.ref (b + 2), .null, .null, .null, .null, .int (nI 0)]) hx hb hE hown hname hh (by omega) f6 rfl rfl (show 0 < 6 by decide) rfl dX0_init_13 (fun H locs mem7 f8 k9 hh => ?_)
  have hfr10 : ∀ j, j ≠ 1 → j ≠ 2 → ¬ (3 ≤ j ∧ j < 19) → j ≠ 19 → j ≠ 20 → ¬ (21 ≤ j ∧ j < 37) → j ≠ 37 → j ≠ 38 → j ≠ 39 → ¬ (40 ≤ j ∧ j < 71) → ¬ (41 ≤ j ∧ j < 72) → mem7 j = mem j := fun j c0 c1 c2 c3 c4 c5 c6 c7 c8 c9 c10 => (k9 j (by omega)).trans (hfr5 j c0 c1 c2 c3 c4 c5 c6 c7 c8 c9 c10)
  have f11 : mem7 2 = aR Γ 7 16 (fun i => some (b + (3 + i))) := (k9 _ (by decide)).trans f2
  have f12 : ∀ z9, z9 < 16 → mem7 (3 + z9) = aN Γ 12 ((fun _ _ => 0) z9) := fun z9 hz9 => (k9 _ (by omega)).trans (f3 z9 hz9)
  refine lv_aload_n hx hb dX0_init_16 rfl (lv_at hl 0 rfl) ?_
  refine lv_bipush (v := (nI 16)) hx hb dX0_init_17 (by decide) ?_
  refine mn_newa 0 (atype := .int) (ty := .int) (n := 16) (a0 := (16, .inl (fun _ => nI 0))) hx hb hE (wa_I hE.2.1 args) rfl rfl (fun _ => rfl) (by decide) (by decide) (by omega) hh (by show _ ≤ 70; omega) (by show _ ≤ 771; omega) dX0_init_19 (fun H mem13 f14 k15 hh => ?_)
  have hfr16 : ∀ j, j ≠ 1 → j ≠ 2 → ¬ (3 ≤ j ∧ j < 19) → j ≠ 19 → j ≠ 20 → ¬ (21 ≤ j ∧ j < 37) → j ≠ 37 → j ≠ 38 → j ≠ 39 → ¬ (40 ≤ j ∧ j < 71) → ¬ (41 ≤ j ∧ j < 72) → mem13 j = mem j := fun j c0 c1 c2 c3 c4 c5 c6 c7 c8 c9 c10 => (k15 j (by omega)).trans (hfr10 j c0 c1 c2 c3 c4 c5 c6 c7 c8 c9 c10)
  have f17 : mem13 1 = .inr (0, [.ref (b + 2), .null, .null, .null, .null, .int (nI 0)]) := (k15 _ (by decide)).trans f8
  have f18 : mem13 2 = aR Γ 7 16 (fun i => some (b + (3 + i))) := (k15 _ (by decide)).trans f11
  have f19 : ∀ z9, z9 < 16 → mem13 (3 + z9) = aN Γ 12 ((fun _ _ => 0) z9) := fun z9 hz9 => (k15 _ (by omega)).trans (f12 z9 hz9)
  have hh : GH Γ b (20) mem13 s _ _ := hh
  refine gq_X0_lengths (fs' := [.ref (b + 2), .ref (b + 19), .null, .null, .null, .int (nI 0)]) hx hb hE hown hname hh (by omega) f17 rfl rfl (show 1 < 6 by decide) rfl dX0_init_21 (fun H locs mem20 f21 k22 hh => ?_)
  have hfr23 : ∀ j, j ≠ 1 → j ≠ 2 → ¬ (3 ≤ j ∧ j < 19) → j ≠ 19 → j ≠ 20 → ¬ (21 ≤ j ∧ j < 37) → j ≠ 37 → j ≠ 38 → j ≠ 39 → ¬ (40 ≤ j ∧ j < 71) → ¬ (41 ≤ j ∧ j < 72) → mem20 j = mem j := fun j c0 c1 c2 c3 c4 c5 c6 c7 c8 c9 c10 => (k22 j (by omega)).trans (hfr16 j c0 c1 c2 c3 c4 c5 c6 c7 c8 c9 c10)
  have f24 : mem20 2 = aR Γ 7 16 (fun i => some (b + (3 + i))) := (k22 _ (by decide)).trans f18
  have f25 : mem20 19 = aN Γ 16 (fun _ => 0) := (k22 _ (by decide)).trans f14
  have f26 : ∀ z9, z9 < 16 → mem20 (3 + z9) = aN Γ 12 ((fun _ _ => 0) z9) := fun z9 hz9 => (k22 _ (by omega)).trans (f19 z9 hz9)
  refine lv_aload_n hx hb dX0_init_24 rfl (lv_at hl 0 rfl) ?_
  refine lv_bipush (v := (nI 16)) hx hb dX0_init_25 (by decide) ?_
  refine lv_bipush (v := (nI 12)) hx hb dX0_init_27 (by decide) ?_
  refine mn_multi 8 1 (ty := .float) (n := 16) (k := 12) (M1 := 21) (a0 := (12, .inr (.inr (.inl (fun _ => FP.fconst0))))) hx hb hE hown (by rw [ws_F]; exact wc_X0_20 hE.2.1 args) hE.2.2.1.2.2.2.2.2.2.2.2.1 (wa_F hE.2.1 args) rfl rfl (fun _ h => h) (fun _ => rfl) (by decide) (by decide) (by decide) rfl rfl rfl (by omega) hh (by show _ ≤ 70; omega) (by show _ ≤ 771; omega) dX0_init_29 (fun H locs mem27 f28 f29 k30 hh => ?_)
  have hfr31 : ∀ j, j ≠ 1 → j ≠ 2 → ¬ (3 ≤ j ∧ j < 19) → j ≠ 19 → j ≠ 20 → ¬ (21 ≤ j ∧ j < 37) → j ≠ 37 → j ≠ 38 → j ≠ 39 → ¬ (40 ≤ j ∧ j < 71) → ¬ (41 ≤ j ∧ j < 72) → mem27 j = mem j := fun j c0 c1 c2 c3 c4 c5 c6 c7 c8 c9 c10 => (k30 j (by omega) (by omega)).trans (hfr23 j c0 c1 c2 c3 c4 c5 c6 c7 c8 c9 c10)
  have f32 : mem27 1 = .inr (0, [.ref (b + 2), .ref (b + 19), .null, .null, .null, .int (nI 0)]) := (k30 _ (by decide) (by decide)).trans f21
  have f33 : mem27 2 = aR Γ 7 16 (fun i => some (b + (3 + i))) := (k30 _ (by decide) (by decide)).trans f24
  have f34 : mem27 19 = aN Γ 16 (fun _ => 0) := (k30 _ (by decide) (by decide)).trans f25
  have f35 : ∀ z9, z9 < 16 → mem27 (3 + z9) = aN Γ 12 ((fun _ _ => 0) z9) := fun z9 hz9 => (k30 _ (by omega) (by omega)).trans (f26 z9 hz9)
  have hh : GH Γ b (37) mem27 s _ _ := hh
  refine gq_X0_weights (fs' := [.ref (b + 2), .ref (b + 19), .ref (b + 20), .null, .null, .int (nI 0)]) hx hb hE hown hname hh (by omega) f32 rfl rfl (show 2 < 6 by decide) rfl dX0_init_33 (fun H locs mem36 f37 k38 hh => ?_)
  have hfr39 : ∀ j, j ≠ 1 → j ≠ 2 → ¬ (3 ≤ j ∧ j < 19) → j ≠ 19 → j ≠ 20 → ¬ (21 ≤ j ∧ j < 37) → j ≠ 37 → j ≠ 38 → j ≠ 39 → ¬ (40 ≤ j ∧ j < 71) → ¬ (41 ≤ j ∧ j < 72) → mem36 j = mem j := fun j c0 c1 c2 c3 c4 c5 c6 c7 c8 c9 c10 => (k38 j (by omega)).trans (hfr31 j c0 c1 c2 c3 c4 c5 c6 c7 c8 c9 c10)
  have f40 : mem36 2 = aR Γ 7 16 (fun i => some (b + (3 + i))) := (k38 _ (by decide)).trans f33
  have f41 : mem36 19 = aN Γ 16 (fun _ => 0) := (k38 _ (by decide)).trans f34
  have f42 : mem36 20 = aR Γ 8 16 (fun i => some (b + (21 + i))) := (k38 _ (by decide)).trans f28
  have f43 : ∀ z9, z9 < 16 → mem36 (3 + z9) = aN Γ 12 ((fun _ _ => 0) z9) := fun z9 hz9 => (k38 _ (by omega)).trans (f35 z9 hz9)
  have f44 : ∀ z9, z9 < 16 → mem36 (21 + z9) = aF Γ 12 ((fun _ _ => FP.fconst0) z9) := fun z9 hz9 => (k38 _ (by omega)).trans (f29 z9 hz9)
  refine lv_aload_n hx hb dX0_init_36 rfl (lv_at hl 0 rfl) ?_
  refine lv_bipush (v := (nI 16)) hx hb dX0_init_37 (by decide) ?_
  refine mn_anew 6 (n := 16) hx hb hE hown (wc_X0_25 hE.2.1 args) hE.2.2.1.2.2.2.2.2.2.1 rfl (by decide) (by omega) hh (by show _ ≤ 70; omega) (by show _ ≤ 771; omega) dX0_init_39 (fun H mem45 f46 k47 hh => ?_)
  have hfr48 : ∀ j, j ≠ 1 → j ≠ 2 → ¬ (3 ≤ j ∧ j < 19) → j ≠ 19 → j ≠ 20 → ¬ (21 ≤ j ∧ j < 37) → j ≠ 37 → j ≠ 38 → j ≠ 39 → ¬ (40 ≤ j ∧ j < 71) → ¬ (41 ≤ j ∧ j < 72) → mem45 j = mem j := fun j c0 c1 c2 c3 c4 c5 c6 c7 c8 c9 c10 => (k47 j (by omega)).trans (hfr39 j c0 c1 c2 c3 c4 c5 c6 c7 c8 c9 c10)
  have f49 : mem45 1 = .inr (0, [.ref (b + 2), .ref (b + 19), .ref (b + 20), .null, .null, .int (nI 0)]) := (k47 _ (by decide)).trans f37
  have f50 : mem45 2 = aR Γ 7 16 (fun i => some (b + (3 + i))) := (k47 _ (by decide)).trans f40
  have f51 : mem45 19 = aN Γ 16 (fun _ => 0) := (k47 _ (by decide)).trans f41
  have f52 : mem45 20 = aR Γ 8 16 (fun i => some (b + (21 + i))) := (k47 _ (by decide)).trans f42
  have f53 : ∀ z9, z9 < 16 → mem45 (3 + z9) = aN Γ 12 ((fun _ _ => 0) z9) := fun z9 hz9 => (k47 _ (by omega)).trans (f43 z9 hz9)
  have f54 : ∀ z9, z9 < 16 → mem45 (21 + z9) = aF Γ 12 ((fun _ _ => FP.fconst0) z9) := fun z9 hz9 => (k47 _ (by omega)).trans (f44 z9 hz9)
  have hh : GH Γ b (38) mem45 s _ _ := hh
  refine gq_X0_tokens (fs' := [.ref (b + 2), .ref (b + 19), .ref (b + 20), .ref (b + 37), .null, .int (nI 0)]) hx hb hE hown hname hh (by omega) f49 rfl rfl (show 3 < 6 by decide) rfl dX0_init_42 (fun H locs mem55 f56 k57 hh => ?_)
  have hfr58 : ∀ j, j ≠ 1 → j ≠ 2 → ¬ (3 ≤ j ∧ j < 19) → j ≠ 19 → j ≠ 20 → ¬ (21 ≤ j ∧ j < 37) → j ≠ 37 → j ≠ 38 → j ≠ 39 → ¬ (40 ≤ j ∧ j < 71) → ¬ (41 ≤ j ∧ j < 72) → mem55 j = mem j := fun j c0 c1 c2 c3 c4 c5 c6 c7 c8 c9 c10 => (k57 j (by omega)).trans (hfr48 j c0 c1 c2 c3 c4 c5 c6 c7 c8 c9 c10)
  have f59 : mem55 2 = aR Γ 7 16 (fun i => some (b + (3 + i))) := (k57 _ (by decide)).trans f50
  have f60 : mem55 19 = aN Γ 16 (fun _ => 0) := (k57 _ (by decide)).trans f51
  have f61 : mem55 20 = aR Γ 8 16 (fun i => some (b + (21 + i))) := (k57 _ (by decide)).trans f52
  have f62 : mem55 37 = aR Γ 6 16 (fun _ => none) := (k57 _ (by decide)).trans f46
  have f63 : ∀ z9, z9 < 16 → mem55 (3 + z9) = aN Γ 12 ((fun _ _ => 0) z9) := fun z9 hz9 => (k57 _ (by omega)).trans (f53 z9 hz9)
  have f64 : ∀ z9, z9 < 16 → mem55 (21 + z9) = aF Γ 12 ((fun _ _ => FP.fconst0) z9) := fun z9 hz9 => (k57 _ (by omega)).trans (f54 z9 hz9)
  refine lv_aload_n hx hb dX0_init_45 rfl (lv_at hl 0 rfl) ?_
  refine mn_new (ci := 6) (fs := [.null, .int (nI 0), .int (nI 0)]) hx hb hE hown (uw_X7 hE.2.1 args) tyX7 tyX7_ok (wc_X0_25 hE.2.1 args) (wi_X7 hE.2.1 args) (wn_X7 hE.2.1 args) rfl (by decide +kernel) (by omega) hh (by show _ ≤ 70; omega) (by show _ ≤ 771; omega) dX0_init_46 (fun H mem65 f66 k67 hh => ?_)
  have hfr68 : ∀ j, j ≠ 1 → j ≠ 2 → ¬ (3 ≤ j ∧ j < 19) → j ≠ 19 → j ≠ 20 → ¬ (21 ≤ j ∧ j < 37) → j ≠ 37 → j ≠ 38 → j ≠ 39 → ¬ (40 ≤ j ∧ j < 71) → ¬ (41 ≤ j ∧ j < 72) → mem65 j = mem j := fun j c0 c1 c2 c3 c4 c5 c6 c7 c8 c9 c10 => (k67 j (by omega)).trans (hfr58 j c0 c1 c2 c3 c4 c5 c6 c7 c8 c9 c10)
  have f69 : mem65 1 = .inr (0, [.ref (b + 2), .ref (b + 19), .ref (b + 20), .ref (b + 37), .null, .int (nI 0)]) := (k67 _ (by decide)).trans f56
  have f70 : mem65 2 = aR Γ 7 16 (fun i => some (b + (3 + i))) := (k67 _ (by decide)).trans f59
  have f71 : mem65 19 = aN Γ 16 (fun _ => 0) := (k67 _ (by decide)).trans f60
  have f72 : mem65 20 = aR Γ 8 16 (fun i => some (b + (21 + i))) := (k67 _ (by decide)).trans f61
  have f73 : mem65 37 = aR Γ 6 16 (fun _ => none) := (k67 _ (by decide)).trans f62
  have f74 : ∀ z9, z9 < 16 → mem65 (3 + z9) = aN Γ 12 ((fun _ _ => 0) z9) := fun z9 hz9 => (k67 _ (by omega)).trans (f63 z9 hz9)
  have f75 : ∀ z9, z9 < 16 → mem65 (21 + z9) = aF Γ 12 ((fun _ _ => FP.fconst0) z9) := fun z9 hz9 => (k67 _ (by omega)).trans (f64 z9 hz9)
  have hh : GH Γ b (39) mem65 s _ _ := hh
  refine lv_dup hx hb dX0_init_49 rfl ?_
  refine lv_iconst (v := (nI 4)) hx hb dX0_init_50 (by decide) ?_
  refine mn_I (As := [.int (nI 4)]) (rest := [.ref (b + 38), .ref (b + 1)]) (mc := 1) (ms := 16) hx hb hml hown hE hl.1 (by omega) hh (kc_X0_31 hE.2.1 ⟨Nat.le_of_ble_eq_true rfl, Nat.le_of_ble_eq_true rfl⟩) (c_X7_init4 l Γ b mem65 (a := 38) f66) rfl rfl (Nat.le_of_ble_eq_true rfl) dX0_init_51 rfl rfl ⟨by show _ ≤ 70; omega, by show _ ≤ 771; omega⟩ (fun H locs mem76 hP77 hh => ?_)
  obtain ⟨f78, f79, k80⟩ := hP77
  have hfr81 : ∀ j, j ≠ 1 → j ≠ 2 → ¬ (3 ≤ j ∧ j < 19) → j ≠ 19 → j ≠ 20 → ¬ (21 ≤ j ∧ j < 37) → j ≠ 37 → j ≠ 38 → j ≠ 39 → ¬ (40 ≤ j ∧ j < 71) → ¬ (41 ≤ j ∧ j < 72) → mem76 j = mem j := fun j c0 c1 c2 c3 c4 c5 c6 c7 c8 c9 c10 => (k80 j (by omega) (by omega)).trans (hfr68 j c0 c1 c2 c3 c4 c5 c6 c7 c8 c9 c10)
  have f82 : mem76 1 = .inr (0, [.ref (b + 2), .ref (b + 19), .ref (b + 20), .ref (b + 37), .null, .int (nI 0)]) := (k80 _ (by decide) (by decide)).trans f69
  have f83 : mem76 2 = aR Γ 7 16 (fun i => some (b + (3 + i))) := (k80 _ (by decide) (by decide)).trans f70
  have f84 : mem76 19 = aN Γ 16 (fun _ => 0) := (k80 _ (by decide) (by decide)).trans f71
  have f85 : mem76 20 = aR Γ 8 16 (fun i => some (b + (21 + i))) := (k80 _ (by decide) (by decide)).trans f72
  have f86 : mem76 37 = aR Γ 6 16 (fun _ => none) := (k80 _ (by decide) (by decide)).trans f73
  have f87 : ∀ z9, z9 < 16 → mem76 (3 + z9) = aN Γ 12 ((fun _ _ => 0) z9) := fun z9 hz9 => (k80 _ (by omega) (by omega)).trans (f74 z9 hz9)
  have f88 : ∀ z9, z9 < 16 → mem76 (21 + z9) = aF Γ 12 ((fun _ _ => FP.fconst0) z9) := fun z9 hz9 => (k80 _ (by omega) (by omega)).trans (f75 z9 hz9)
  have hh : GH Γ b (40) mem76 s _ _ := hh
  refine gq_X0_centroids (fs' := [.ref (b + 2), .ref (b + 19), .ref (b + 20), .ref (b + 37), .ref (b + 38), .int (nI 0)]) hx hb hE hown hname hh (by omega) f82 rfl rfl (show 4 < 6 by decide) rfl dX0_init_54 (fun H locs mem89 f90 k91 hh => ?_)
  have hfr92 : ∀ j, j ≠ 1 → j ≠ 2 → ¬ (3 ≤ j ∧ j < 19) → j ≠ 19 → j ≠ 20 → ¬ (21 ≤ j ∧ j < 37) → j ≠ 37 → j ≠ 38 → j ≠ 39 → ¬ (40 ≤ j ∧ j < 71) → ¬ (41 ≤ j ∧ j < 72) → mem89 j = mem j := fun j c0 c1 c2 c3 c4 c5 c6 c7 c8 c9 c10 => (k91 j (by omega)).trans (hfr81 j c0 c1 c2 c3 c4 c5 c6 c7 c8 c9 c10)
  have f93 : mem89 2 = aR Γ 7 16 (fun i => some (b + (3 + i))) := (k91 _ (by decide)).trans f83
  have f94 : mem89 19 = aN Γ 16 (fun _ => 0) := (k91 _ (by decide)).trans f84
  have f95 : mem89 20 = aR Γ 8 16 (fun i => some (b + (21 + i))) := (k91 _ (by decide)).trans f85
  have f96 : mem89 37 = aR Γ 6 16 (fun _ => none) := (k91 _ (by decide)).trans f86
  have f97 : mem89 38 = .inr (6, [.ref (b + 39), .int (nI 4), .int (nI 0)]) := (k91 _ (by decide)).trans f78
  have f98 : mem89 39 = aF Γ 16 (fun _ => FP.fconst0) := (k91 _ (by decide)).trans f79
  have f99 : ∀ z9, z9 < 16 → mem89 (3 + z9) = aN Γ 12 ((fun _ _ => 0) z9) := fun z9 hz9 => (k91 _ (by omega)).trans (f87 z9 hz9)
  have f100 : ∀ z9, z9 < 16 → mem89 (21 + z9) = aF Γ 12 ((fun _ _ => FP.fconst0) z9) := fun z9 hz9 => (k91 _ (by omega)).trans (f88 z9 hz9)
  refine lv_iconst (v := (nI 0)) hx hb dX0_init_57 (by decide) ?_
  refine lv_istore_n (lv' := [(1, .int (nI 0)), (0, .ref (b + 1))]) hx hb dX0_init_58 rfl hl (by decide) rfl (fun ls hl => ?_)
  have loop59 : ∀ (n9 : Nat) (d : Nat), (16 - d) < n9 → (d ≤ 16) → ∀ (H : Heap) (locs : List Loc) (mem2 : Nat → va_E), mem2 1 = .inr (0, [.ref (b + 2), .ref (b + 19), .ref (b + 20), .ref (b + 37), .ref (b + 38), .int (nI 0)]) → mem2 2 = aR Γ 7 16 (fun i => some (b + (3 + i))) → mem2 19 = aN Γ 16 (fun _ => 0) → mem2 20 = aR Γ 8 16 (fun i => some (b + (21 + i))) → mem2 38 = .inr (6, [.ref (b + 39), .int (nI 4), .int (nI 0)]) → mem2 39 = aF Γ 16 (fun _ => FP.fconst0) → mem2 37 = aR Γ 6 16 (fun i => if i < d then some (b + (40 + 2 * i)) else none) → (∀ z9, z9 < 16 → mem2 (3 + z9) = aN Γ 12 ((fun _ _ => 0) z9)) → (∀ z9, z9 < 16 → mem2 (21 + z9) = aF Γ 12 ((fun _ _ => FP.fconst0) z9)) → (∀ z9, z9 < d → mem2 ((40) + 2 * z9) = .inr (6, [.ref (b + (40 + 2 * z9 + 1)), .int (nI 4), .int (nI 0)])) → (∀ z9, z9 < d → mem2 ((40) + 2 * z9 + 1) = aF Γ 16 (fun _ => FP.fconst0)) → (∀ j, j ≠ 1 → j ≠ 2 → ¬ (3 ≤ j ∧ j < 19) → j ≠ 19 → j ≠ 20 → ¬ (21 ≤ j ∧ j < 37) → j ≠ 37 → j ≠ 38 → j ≠ 39 → ¬ (40 ≤ j ∧ j < 71) → ¬ (41 ≤ j ∧ j < 72) → mem2 j = mem j) → GH Γ b (40 + 2 * d) mem2 s H locs → ∀ (ls : Array Slot), lv_has ls 2 [(1, .int (nI d)), (0, .ref (b + 1))] → W p l e ({ frames := 2, cells := 70, slots := 771, locals := 35 } : Room) s m args below meth c H locs (38 + 2 * d) (467 + 19 * d) (MQ below (QC Γ b (72) (P_c_X0_init Γ b mem) none) args s 70 771 (fun q => b ≤ q)) (F0 m 59 ls []) := by
    intro n9
    induction n9 with
    | zero => intro d hn; exact absurd hn (Nat.not_lt_zero _)
    | succ n9 ih =>
      intro d hn hd H locs mem101 f103 f104 f105 f106 f107 f108 f109 f110 f111 f112 f113 hfr102 hh ls hl
      have ih114 := ih
      refine lv_iload_n hx hb dX0_init_59 rfl (lv_at hl 0 rfl) ?_
      refine lv_bipush (v := (nI 16)) hx hb dX0_init_60 (by decide) ?_
      refine nn_icmp_ge (tgt := 85) hx hb dX0_init_62 (by decide) (by omega) (by omega) (fun h115 => ?_) (fun h115 => ?_)
      ·
        obtain rfl : d = 16 := by omega
        refine mn_swap (g := fun i => some (b + (40 + 2 * i))) hh (by omega) f109 (fun k9 hk9 => if_pos hk9) (fun mem116 f117 k118 hh => ?_)
        have hfr119 : ∀ j, j ≠ 1 → j ≠ 2 → ¬ (3 ≤ j ∧ j < 19) → j ≠ 19 → j ≠ 20 → ¬ (21 ≤ j ∧ j < 37) → j ≠ 37 → j ≠ 38 → j ≠ 39 → ¬ (40 ≤ j ∧ j < 71) → ¬ (41 ≤ j ∧ j < 72) → mem116 j = mem j := fun j c0 c1 c2 c3 c4 c5 c6 c7 c8 c9 c10 => (k118 j (by omega)).trans (hfr102 j c0 c1 c2 c3 c4 c5 c6 c7 c8 c9 c10)
        have f120 : mem116 1 = .inr (0, [.ref (b + 2), .ref (b + 19), .ref (b + 20), .ref (b + 37), .ref (b + 38), .int (nI 0)]) := (k118 _ (by decide)).trans f103
        have f121 : mem116 2 = aR Γ 7 16 (fun i => some (b + (3 + i))) := (k118 _ (by decide)).trans f104
        have f122 : mem116 19 = aN Γ 16 (fun _ => 0) := (k118 _ (by decide)).trans f105
        have f123 : mem116 20 = aR Γ 8 16 (fun i => some (b + (21 + i))) := (k118 _ (by decide)).trans f106
        have f124 : mem116 38 = .inr (6, [.ref (b + 39), .int (nI 4), .int (nI 0)]) := (k118 _ (by decide)).trans f107
        have f125 : mem116 39 = aF Γ 16 (fun _ => FP.fconst0) := (k118 _ (by decide)).trans f108
        have f126 : ∀ z9, z9 < 16 → mem116 (3 + z9) = aN Γ 12 ((fun _ _ => 0) z9) := fun z9 hz9 => (k118 _ (by omega)).trans (f110 z9 hz9)
        have f127 : ∀ z9, z9 < 16 → mem116 (21 + z9) = aF Γ 12 ((fun _ _ => FP.fconst0) z9) := fun z9 hz9 => (k118 _ (by omega)).trans (f111 z9 hz9)
        have f128 : ∀ z9, z9 < 16 → mem116 ((40) + 2 * z9) = .inr (6, [.ref (b + (40 + 2 * z9 + 1)), .int (nI 4), .int (nI 0)]) := fun z9 hz9 => (k118 _ (by omega)).trans (f112 z9 hz9)
        have f129 : ∀ z9, z9 < 16 → mem116 ((40) + 2 * z9 + 1) = aF Γ 16 (fun _ => FP.fconst0) := fun z9 hz9 => (k118 _ (by omega)).trans (f113 z9 hz9)
        exact mm_vret hx hb hr hlocks hE hh (⟨f120, f121, f126, f122, f123, f127, f117, f124, f125, f128, f129, hfr119⟩) dX0_init_85
      ·
        refine lv_aload_n hx hb dX0_init_65 rfl (lv_at hl 1 rfl) ?_
        refine gf_X0_tokens hx hb hE hown hh (by omega) f103 rfl dX0_init_66 ?_
        refine lv_iload_n hx hb dX0_init_69 rfl (lv_at hl 0 rfl) ?_
        refine mn_new (ci := 6) (fs := [.null, .int (nI 0), .int (nI 0)]) hx hb hE hown (uw_X7 hE.2.1 args) tyX7 tyX7_ok (wc_X0_25 hE.2.1 args) (wi_X7 hE.2.1 args) (wn_X7 hE.2.1 args) rfl (by decide +kernel) (by omega) hh (by show _ ≤ 70; omega) (by show _ ≤ 771; omega) dX0_init_70 (fun H mem130 f131 k132 hh => ?_)
        have hfr133 : ∀ j, j ≠ 1 → j ≠ 2 → ¬ (3 ≤ j ∧ j < 19) → j ≠ 19 → j ≠ 20 → ¬ (21 ≤ j ∧ j < 37) → j ≠ 37 → j ≠ 38 → j ≠ 39 → ¬ (40 ≤ j ∧ j < 71) → ¬ (41 ≤ j ∧ j < 72) → mem130 j = mem j := fun j c0 c1 c2 c3 c4 c5 c6 c7 c8 c9 c10 => (k132 j (by omega)).trans (hfr102 j c0 c1 c2 c3 c4 c5 c6 c7 c8 c9 c10)
        have f134 : mem130 1 = .inr (0, [.ref (b + 2), .ref (b + 19), .ref (b + 20), .ref (b + 37), .ref (b + 38), .int (nI 0)]) := (k132 _ (by omega)).trans f103
        have f135 : mem130 2 = aR Γ 7 16 (fun i => some (b + (3 + i))) := (k132 _ (by omega)).trans f104
        have f136 : mem130 19 = aN Γ 16 (fun _ => 0) := (k132 _ (by omega)).trans f105
        have f137 : mem130 20 = aR Γ 8 16 (fun i => some (b + (21 + i))) := (k132 _ (by omega)).trans f106
        have f138 : mem130 38 = .inr (6, [.ref (b + 39), .int (nI 4), .int (nI 0)]) := (k132 _ (by omega)).trans f107
        have f139 : mem130 39 = aF Γ 16 (fun _ => FP.fconst0) := (k132 _ (by omega)).trans f108
        have f140 : mem130 37 = aR Γ 6 16 (fun i => if i < d then some (b + (40 + 2 * i)) else none) := (k132 _ (by omega)).trans f109
        have f141 : ∀ z9, z9 < 16 → mem130 (3 + z9) = aN Γ 12 ((fun _ _ => 0) z9) := fun z9 hz9 => (k132 _ (by omega)).trans (f110 z9 hz9)
        have f142 : ∀ z9, z9 < 16 → mem130 (21 + z9) = aF Γ 12 ((fun _ _ => FP.fconst0) z9) := fun z9 hz9 => (k132 _ (by omega)).trans (f111 z9 hz9)
        have f143 : ∀ z9, z9 < d → mem130 ((40) + 2 * z9) = .inr (6, [.ref (b + (40 + 2 * z9 + 1)), .int (nI 4), .int (nI 0)]) := fun z9 hz9 => (k132 _ (by omega)).trans (f112 z9 hz9)
        have f144 : ∀ z9, z9 < d → mem130 ((40) + 2 * z9 + 1) = aF Γ 16 (fun _ => FP.fconst0) := fun z9 hz9 => (k132 _ (by omega)).trans (f113 z9 hz9)
        have hh : GH Γ b (40 + 2 * d + 1) mem130 s _ _ := hh
        refine lv_dup hx hb dX0_init_73 rfl ?_
        refine lv_iconst (v := (nI 4)) hx hb dX0_init_74 (by decide) ?_
        refine mn_I (As := [.int (nI 4)]) (rest := [.ref (b + (40 + 2 * d)), .int (nI d), .ref (b + 37)]) (mc := 1) (ms := 16) hx hb hml hown hE hl.1 (by omega) hh (kc_X0_31 hE.2.1 ⟨Nat.le_of_ble_eq_true rfl, Nat.le_of_ble_eq_true rfl⟩) (c_X7_init4 l Γ b mem130 (a := 40 + 2 * d) f131) rfl rfl (Nat.le_of_ble_eq_true rfl) dX0_init_75 rfl rfl ⟨by show _ ≤ 70; omega, by show _ ≤ 771; omega⟩ (fun H locs mem145 hP146 hh => ?_)
        obtain ⟨f147, f148, k149⟩ := hP146
        have hfr150 : ∀ j, j ≠ 1 → j ≠ 2 → ¬ (3 ≤ j ∧ j < 19) → j ≠ 19 → j ≠ 20 → ¬ (21 ≤ j ∧ j < 37) → j ≠ 37 → j ≠ 38 → j ≠ 39 → ¬ (40 ≤ j ∧ j < 71) → ¬ (41 ≤ j ∧ j < 72) → mem145 j = mem j := fun j c0 c1 c2 c3 c4 c5 c6 c7 c8 c9 c10 => (k149 j (by omega) (by omega)).trans (hfr133 j c0 c1 c2 c3 c4 c5 c6 c7 c8 c9 c10)
        have f151 : mem145 1 = .inr (0, [.ref (b + 2), .ref (b + 19), .ref (b + 20), .ref (b + 37), .ref (b + 38), .int (nI 0)]) := (k149 _ (by omega) (by omega)).trans f134
        have f152 : mem145 2 = aR Γ 7 16 (fun i => some (b + (3 + i))) := (k149 _ (by omega) (by omega)).trans f135
        have f153 : mem145 19 = aN Γ 16 (fun _ => 0) := (k149 _ (by omega) (by omega)).trans f136
        have f154 : mem145 20 = aR Γ 8 16 (fun i => some (b + (21 + i))) := (k149 _ (by omega) (by omega)).trans f137
        have f155 : mem145 38 = .inr (6, [.ref (b + 39), .int (nI 4), .int (nI 0)]) := (k149 _ (by omega) (by omega)).trans f138
        have f156 : mem145 39 = aF Γ 16 (fun _ => FP.fconst0) := (k149 _ (by omega) (by omega)).trans f139
        have f157 : mem145 37 = aR Γ 6 16 (fun i => if i < d then some (b + (40 + 2 * i)) else none) := (k149 _ (by omega) (by omega)).trans f140
        have f158 : ∀ z9, z9 < 16 → mem145 (3 + z9) = aN Γ 12 ((fun _ _ => 0) z9) := fun z9 hz9 => (k149 _ (by omega) (by omega)).trans (f141 z9 hz9)
        have f159 : ∀ z9, z9 < 16 → mem145 (21 + z9) = aF Γ 12 ((fun _ _ => FP.fconst0) z9) := fun z9 hz9 => (k149 _ (by omega) (by omega)).trans (f142 z9 hz9)
        have f160 : ∀ z9, z9 < d → mem145 ((40) + 2 * z9) = .inr (6, [.ref (b + (40 + 2 * z9 + 1)), .int (nI 4), .int (nI 0)]) := fun z9 hz9 => (k149 _ (by omega) (by omega)).trans (f143 z9 hz9)
        have f161 : ∀ z9, z9 < d → mem145 ((40) + 2 * z9 + 1) = aF Γ 16 (fun _ => FP.fconst0) := fun z9 hz9 => (k149 _ (by omega) (by omega)).trans (f144 z9 hz9)
        have hh : GH Γ b (40 + 2 * d + 2) mem145 s _ _ := hh
        refine mm_aast hx hb hE hh 6 6 (by omega) f157 rfl (by omega) f147 rfl (by omega) (by decide) dX0_init_78 (fun H locs mem162 f163 k164 hh => ?_)
        have hfr165 : ∀ j, j ≠ 1 → j ≠ 2 → ¬ (3 ≤ j ∧ j < 19) → j ≠ 19 → j ≠ 20 → ¬ (21 ≤ j ∧ j < 37) → j ≠ 37 → j ≠ 38 → j ≠ 39 → ¬ (40 ≤ j ∧ j < 71) → ¬ (41 ≤ j ∧ j < 72) → mem162 j = mem j := fun j c0 c1 c2 c3 c4 c5 c6 c7 c8 c9 c10 => (k164 j (by omega)).trans (hfr150 j c0 c1 c2 c3 c4 c5 c6 c7 c8 c9 c10)
        have f166 : mem162 1 = .inr (0, [.ref (b + 2), .ref (b + 19), .ref (b + 20), .ref (b + 37), .ref (b + 38), .int (nI 0)]) := (k164 _ (by omega)).trans f151
        have f167 : mem162 2 = aR Γ 7 16 (fun i => some (b + (3 + i))) := (k164 _ (by omega)).trans f152
        have f168 : mem162 19 = aN Γ 16 (fun _ => 0) := (k164 _ (by omega)).trans f153
        have f169 : mem162 20 = aR Γ 8 16 (fun i => some (b + (21 + i))) := (k164 _ (by omega)).trans f154
        have f170 : mem162 38 = .inr (6, [.ref (b + 39), .int (nI 4), .int (nI 0)]) := (k164 _ (by omega)).trans f155
        have f171 : mem162 39 = aF Γ 16 (fun _ => FP.fconst0) := (k164 _ (by omega)).trans f156
        have f172 : mem162 (40 + 2 * d) = .inr (6, [.ref (b + (40 + 2 * d + 1)), .int (nI 4), .int (nI 0)]) := (k164 _ (by omega)).trans f147
        have f173 : mem162 (40 + 2 * d + 1) = aF Γ 16 (fun _ => FP.fconst0) := (k164 _ (by omega)).trans f148
        have f174 : ∀ z9, z9 < 16 → mem162 (3 + z9) = aN Γ 12 ((fun _ _ => 0) z9) := fun z9 hz9 => (k164 _ (by omega)).trans (f158 z9 hz9)
        have f175 : ∀ z9, z9 < 16 → mem162 (21 + z9) = aF Γ 12 ((fun _ _ => FP.fconst0) z9) := fun z9 hz9 => (k164 _ (by omega)).trans (f159 z9 hz9)
        have f176 : ∀ z9, z9 < d → mem162 ((40) + 2 * z9) = .inr (6, [.ref (b + (40 + 2 * z9 + 1)), .int (nI 4), .int (nI 0)]) := fun z9 hz9 => (k164 _ (by omega)).trans (f160 z9 hz9)
        have f177 : ∀ z9, z9 < d → mem162 ((40) + 2 * z9 + 1) = aF Γ 16 (fun _ => FP.fconst0) := fun z9 hz9 => (k164 _ (by omega)).trans (f161 z9 hz9)
        refine nn_iinc (x := d) (d := 1) (lv' := [(1, .int (nI (d + 1))), (0, .ref (b + 1))]) hx hb dX0_init_79 hl (k := 0) rfl (by decide) (by decide) rfl (fun ls hl => ?_)
        refine lv_goto (tgt := 59) hx hb dX0_init_82 (by decide) ?_
        refine W.widen (k := 38 + 2 * (d + 1)) (n := 467 + 19 * (d + 1)) (by omega) (by omega) ?_
        exact ih114 (d + 1) (by omega) (by omega) _ _ mem162 (f166) (f167) (f168) (f169) (f170) (f171) (by rw [← tk_s]; exact f163) (f174) (f175) (fun z9 hz9 => (Nat.lt_or_eq_of_le (Nat.le_of_lt_succ hz9)).elim (fun h9 => f176 z9 h9) (fun h9 => by rw [h9]; exact f172)) (fun z9 hz9 => (Nat.lt_or_eq_of_le (Nat.le_of_lt_succ hz9)).elim (fun h9 => f177 z9 h9) (fun h9 => by rw [h9]; exact f173)) hfr165 hh ls (lv_sub hl [0, 1] rfl)
  refine W.widen (k := 38 + 2 * 0) (n := 467 + 19 * 0) (by omega) (by omega) ?_
  exact loop59 ((16 - 0) + 1) 0 (by omega) (by omega) _ _ mem89 (f90) (f93) (f94) (f95) (f97) (f98) (by rw [← tk_0]; exact f96) (f99) (f100) (fun z9 hz9 => absurd hz9 (Nat.not_lt_zero _)) (fun z9 hz9 => absurd hz9 (Nat.not_lt_zero _)) hfr92 hh ls (lv_sub hl [0, 1] rfl)
def P_c_X9_init (Γ : Gm) (b : Nat) (mem u : Nat → va_E) : Prop := (fun u => u 0 = .inr (8, [.ref (b + 1), .ref (b + 72), .ref (b + 75), .ref (b + 78), .ref (b + 80), .ref (b + 91), .ref (b + 93), .ref (b + 96), .ref (b + 109)]) ∧ u 1 = .inr (0, [.ref (b + 2), .ref (b + 19), .ref (b + 20), .ref (b + 37), .ref (b + 38), .int (nI 0)]) ∧ u 2 = aR Γ 7 16 (fun i => some (b + (3 + i))) ∧ (∀ z9, z9 < 16 → u (3 + z9) = aN Γ 12 ((fun _ _ => 0) z9)) ∧ u 19 = aN Γ 16 (fun _ => 0) ∧ u 20 = aR Γ 8 16 (fun i => some (b + (21 + i))) ∧ (∀ z9, z9 < 16 → u (21 + z9) = aF Γ 12 ((fun _ _ => FP.fconst0) z9)) ∧ u 37 = aR Γ 6 16 (fun i => some (b + (40 + 2 * i))) ∧ u 38 = .inr (6, [.ref (b + 39), .int (nI 4), .int (nI 0)]) ∧ u 39 = aF Γ 16 (fun _ => FP.fconst0) ∧ (∀ z9, z9 < 16 → u (40 + 2 * z9) = .inr (6, [.ref (b + (40 + 2 * z9 + 1)), .int (nI 4), .int (nI ((fun _ => 0) z9))])) ∧ (∀ z9, z9 < 16 → u (40 + 2 * z9 + 1) = aF Γ 16 ((fun _ _ => FP.fconst0) z9)) ∧ u 72 = .inr (5, [.ref (b + 73), .ref (b + 74), .int (nI 0)]) ∧ u 73 = aN Γ 4 (fun _ => 0) ∧ u 74 = aN Γ 4 (fun _ => 0) ∧ u 75 = .inr (5, [.ref (b + 76), .ref (b + 77), .int (nI 0)]) ∧ u 76 = aN Γ 4 (fun _ => 0) ∧ u 77 = aN Γ 4 (fun _ => 0) ∧ u 78 = .inr (6, [.ref (b + 79), .int (nI 3), .int (nI 0)]) ∧ u 79 = aF Γ 12 (fun _ => FP.fconst0) ∧ u 80 = .inr (3, [.ref (b + 81), .ref (b + 86), .int (nI 0)]) ∧ u 81 = aR Γ 9 4 (fun i => some (b + (82 + i))) ∧ (∀ z9, z9 < 4 → u (82 + z9) = aD Γ 16 ((fun _ _ => FP.dconst0) z9)) ∧ u 86 = aR Γ 9 4 (fun i => some (b + (87 + i))) ∧ (∀ z9, z9 < 4 → u (87 + z9) = aD Γ 4 ((fun _ _ => FP.dconst0) z9)) ∧ u 91 = .inr (7, [.ref (b + 1), .ref (b + 78), .ref (b + 92), .int (bI false)]) ∧ u 92 = aB Γ 4 (fun _ => false) ∧ u 93 = .inr (4, [.ref (b + 94), .ref (b + 95), .int (nI 0), .int (nI 0)]) ∧ u 94 = aN Γ 20 (fun _ => 0) ∧ u 95 = aD Γ 20 (fun _ => FP.dconst0) ∧ u 96 = aR Γ 5 3 (fun i => some (b + (97 + 4 * i))) ∧ u 97 = .inr (2, [.ref (b + 98), .int (bI false), .int (nI 0), .int (nI 0), .int (nI 0)]) ∧ u 98 = .inr (4, [.ref (b + 99), .ref (b + 100), .int (nI 0), .int (nI 0)]) ∧ u 99 = aN Γ 20 (fun _ => 0) ∧ u 100 = aD Γ 20 (fun _ => FP.dconst0) ∧ u 101 = .inr (2, [.ref (b + 102), .int (bI false), .int (nI 0), .int (nI 0), .int (nI 0)]) ∧ u 102 = .inr (4, [.ref (b + 103), .ref (b + 104), .int (nI 0), .int (nI 0)]) ∧ u 103 = aN Γ 20 (fun _ => 0) ∧ u 104 = aD Γ 20 (fun _ => FP.dconst0) ∧ u 105 = .inr (2, [.ref (b + 106), .int (bI false), .int (nI 0), .int (nI 0), .int (nI 0)]) ∧ u 106 = .inr (4, [.ref (b + 107), .ref (b + 108), .int (nI 0), .int (nI 0)]) ∧ u 107 = aN Γ 20 (fun _ => 0) ∧ u 108 = aD Γ 20 (fun _ => FP.dconst0) ∧ u 109 = .inr (1, [.ref (b + 110), .ref (b + 113), .ref (b + 114)]) ∧ u 110 = .inr (4, [.ref (b + 111), .ref (b + 112), .int (nI 0), .int (nI 0)]) ∧ u 111 = aN Γ 20 (fun _ => 0) ∧ u 112 = aD Γ 20 (fun _ => FP.dconst0) ∧ u 113 = aD Γ 16 (fun _ => FP.dconst0) ∧ u 114 = aN Γ 16 (fun _ => 0) ∧ ∀ j, j ≠ 0 → j ≠ 1 → j ≠ 2 → ¬ (3 ≤ j ∧ j < 19) → j ≠ 19 → j ≠ 20 → ¬ (21 ≤ j ∧ j < 37) → j ≠ 37 → j ≠ 38 → j ≠ 39 → ¬ (40 ≤ j ∧ j < 71) → ¬ (41 ≤ j ∧ j < 72) → j ≠ 72 → j ≠ 73 → j ≠ 74 → j ≠ 75 → j ≠ 76 → j ≠ 77 → j ≠ 78 → j ≠ 79 → j ≠ 80 → j ≠ 81 → ¬ (82 ≤ j ∧ j < 86) → j ≠ 86 → ¬ (87 ≤ j ∧ j < 91) → j ≠ 91 → j ≠ 92 → j ≠ 93 → j ≠ 94 → j ≠ 95 → j ≠ 96 → j ≠ 97 → j ≠ 98 → j ≠ 99 → j ≠ 100 → j ≠ 101 → j ≠ 102 → j ≠ 103 → j ≠ 104 → j ≠ 105 → j ≠ 106 → j ≠ 107 → j ≠ 108 → j ≠ 109 → j ≠ 110 → j ≠ 111 → j ≠ 112 → j ≠ 113 → j ≠ 114 → u j = mem j) u
set_option maxHeartbeats 4000000 in
set_option maxRecDepth 100000 in
/-- HybridSearch() -/
theorem c_X9_init (l : Launch) (Γ : Gm) (b : Nat) (mem : Nat → va_E)  (fa : mem 0 = .inr (8, [.null, .null, .null, .null, .null, .null, .null, .null, .null])) : Cn l yX9_init (.code yX9_init cX9_init 2 none) ({ frames := 3, cells := 114, slots := 1186, locals := 56 } : Room) Γ b (1) (115) [.ref (b + 0)] mem (P_c_X9_init Γ b mem) := by
  refine mn_enter (cc := cX9_init) (by decide) (Nat.le_of_ble_eq_true rfl) ?_
  intro p e s m args below meth c ls hx hb hml hown hr hlocks hname hE hh hsz hl
  have hl : lv_has ls 2 [(0, .ref (b + 0))] := hl
  have hfr : ∀ j, j ≠ 0 → j ≠ 1 → j ≠ 2 → ¬ (3 ≤ j ∧ j < 19) → j ≠ 19 → j ≠ 20 → ¬ (21 ≤ j ∧ j < 37) → j ≠ 37 → j ≠ 38 → j ≠ 39 → ¬ (40 ≤ j ∧ j < 71) → ¬ (41 ≤ j ∧ j < 72) → j ≠ 72 → j ≠ 73 → j ≠ 74 → j ≠ 75 → j ≠ 76 → j ≠ 77 → j ≠ 78 → j ≠ 79 → j ≠ 80 → j ≠ 81 → ¬ (82 ≤ j ∧ j < 86) → j ≠ 86 → ¬ (87 ≤ j ∧ j < 91) → j ≠ 91 → j ≠ 92 → j ≠ 93 → j ≠ 94 → j ≠ 95 → j ≠ 96 → j ≠ 97 → j ≠ 98 → j ≠ 99 → j ≠ 100 → j ≠ 101 → j ≠ 102 → j ≠ 103 → j ≠ 104 → j ≠ 105 → j ≠ 106 → j ≠ 107 → j ≠ 108 → j ≠ 109 → j ≠ 110 → j ≠ 111 → j ≠ 112 → j ≠ 113 → j ≠ 114 → mem j = mem j := fun j _ _ _ _ _ _ _ _ _ _ _ _ _ _ _ _ _ _ _ _ _ _ _ _ _ _ _ _ _ _ _ _ _ _ _ _ _ _ _ _ _ _ _ _ _ _ _ _ _ => rfl
  refine lv_aload_n hx hb dX9_init_0 rfl (lv_at hl 0 rfl) ?_
  refine W.objInit hx hb hown (wo_X9 hE.2.1 args) (wo_m hE.2.1 args) (wo_c hE.2.1 args) rfl (by rw [hml]; exact hl.1) rfl dX9_init_1 (Nat.le_of_ble_eq_true rfl) (Nat.le_of_ble_eq_true rfl) ?_
  refine W.eq (g2 := F0 m 4 ls []) rfl ?_
  refine lv_aload_n hx hb dX9_init_4 rfl (lv_at hl 0 rfl) ?_
  refine mn_new (ci := 0) (fs := [.null, .null, .null, .null, .null, .int (nI 0)]) hx hb hE hown (uw_X0 hE.2.1 args) tyX0 tyX0_ok (wc_X9_9 hE.2.1 args) (wi_X0 hE.2.1 args) (wn_X0 hE.2.1 args) rfl (by decide +kernel) (by omega) hh (by show _ ≤ 114; omega) (by show _ ≤ 1186; omega) dX9_init_5 (fun H mem1 f2 k3 hh => ?_)
  have hfr4 : ∀ j, j ≠ 0 → j ≠ 1 → j ≠ 2 → ¬ (3 ≤ j ∧ j < 19) → j ≠ 19 → j ≠ 20 → ¬ (21 ≤ j ∧ j < 37) → j ≠ 37 → j ≠ 38 → j ≠ 39 → ¬ (40 ≤ j ∧ j < 71) → ¬ (41 ≤ j ∧ j < 72) → j ≠ 72 → j ≠ 73 → j ≠ 74 → j ≠ 75 → j ≠ 76 → j ≠ 77 → j ≠ 78 → j ≠ 79 → j ≠ 80 → j ≠ 81 → ¬ (82 ≤ j ∧ j < 86) → j ≠ 86 → ¬ (87 ≤ j ∧ j < 91) → j ≠ 91 → j ≠ 92 → j ≠ 93 → j ≠ 94 → j ≠ 95 → j ≠ 96 → j ≠ 97 → j ≠ 98 → j ≠ 99 → j ≠ 100 → j ≠ 101 → j ≠ 102 → j ≠ 103 → j ≠ 104 → j ≠ 105 → j ≠ 106 → j ≠ 107 → j ≠ 108 → j ≠ 109 → j ≠ 110 → j ≠ 111 → j ≠ 112 → j ≠ 113 → j ≠ 114 → mem1 j = mem j := fun j c0 c1 c2 c3 c4 c5 c6 c7 c8 c9 c10 c11 c12 c13 c14 c15 c16 c17 c18 c19 c20 c21 c22 c23 c24 c25 c26 c27 c28 c29 c30 c31 c32 c33 c34 c35 c36 c37 c38 c39 c40 c41 c42 c43 c44 c45 c46 c47 c48 => (k3 j (by omega)).trans (hfr j c0 c1 c2 c3 c4 c5 c6 c7 c8 c9 c10 c11 c12 c13 c14 c15 c16 c17 c18 c19 c20 c21 c22 c23 c24 c25 c26 c27 c28 c29 c30 c31 c32 c33 c34 c35 c36 c37 c38 c39 c40 c41 c42 c43 c44 c45 c46 c47 c48)
  have f5 : mem1 0 = .inr (8, [.null, .null, .null, .null, .null, .null, .null, .null, .null]) := (k3 _ (by decide)).trans fa
  have hh : GH Γ b (2) mem1 s _ _ := hh
  refine lv_dup hx hb dX9_init_8 rfl ?_
  refine mn_I (As := []) (rest := [.ref (b + 1), .ref (b + 0)]) (mc := 70) (ms := 771) hx hb hml hown hE hl.1 (by omega) hh (kc_X9_11 hE.2.1 ⟨Nat.le_of_ble_eq_true rfl, Nat.le_of_ble_eq_true rfl⟩) (c_X0_init l Γ b mem1 f2) rfl rfl (Nat.le_of_ble_eq_true rfl) dX9_init_9 rfl rfl ⟨by show _ ≤ 114; omega, by show _ ≤ 1186; omega⟩ (fun H locs mem6 hP7 hh => ?_)
  obtain ⟨f8, f9, f10, f11, f12, f13, f14, f15, f16, f17, f18, k19⟩ := hP7
  have hfr20 : ∀ j, j ≠ 0 → j ≠ 1 → j ≠ 2 → ¬ (3 ≤ j ∧ j < 19) → j ≠ 19 → j ≠ 20 → ¬ (21 ≤ j ∧ j < 37) → j ≠ 37 → j ≠ 38 → j ≠ 39 → ¬ (40 ≤ j ∧ j < 71) → ¬ (41 ≤ j ∧ j < 72) → j ≠ 72 → j ≠ 73 → j ≠ 74 → j ≠ 75 → j ≠ 76 → j ≠ 77 → j ≠ 78 → j ≠ 79 → j ≠ 80 → j ≠ 81 → ¬ (82 ≤ j ∧ j < 86) → j ≠ 86 → ¬ (87 ≤ j ∧ j < 91) → j ≠ 91 → j ≠ 92 → j ≠ 93 → j ≠ 94 → j ≠ 95 → j ≠ 96 → j ≠ 97 → j ≠ 98 → j ≠ 99 → j ≠ 100 → j ≠ 101 → j ≠ 102 → j ≠ 103 → j ≠ 104 → j ≠ 105 → j ≠ 106 → j ≠ 107 → j ≠ 108 → j ≠ 109 → j ≠ 110 → j ≠ 111 → j ≠ 112 → j ≠ 113 → j ≠ 114 → mem6 j = mem j := fun j c0 c1 c2 c3 c4 c5 c6 c7 c8 c9 c10 c11 c12 c13 c14 c15 c16 c17 c18 c19 c20 c21 c22 c23 c24 c25 c26 c27 c28 c29 c30 c31 c32 c33 c34 c35 c36 c37 c38 c39 c40 c41 c42 c43 c44 c45 c46 c47 c48 => (k19 j (by omega) (by omega) (by omega) (by omega) (by omega) (by omega) (by omega) (by omega) (by omega) (by omega) (by omega)).trans (hfr4 j c0 c1 c2 c3 c4 c5 c6 c7 c8 c9 c10 c11 c12 c13 c14 c15 c16 c17 c18 c19 c20 c21 c22 c23 c24 c25 c26 c27 c28 c29 c30 c31 c32 c33 c34 c35 c36 c37 c38 c39 c40 c41 c42 c43 c44 c45 c46 c47 c48)
  have f21 : mem6 0 = .inr (8, [.null, .null, .null, .null, .null, .null, .null, .null, .null]) := (k19 _ (by decide) (by decide) (by decide) (by decide) (by decide) (by decide) (by decide) (by decide) (by decide) (by decide) (by decide)).trans f5
  have hh : GH Γ b (72) mem6 s _ _ := hh
  refine gq_X9_collection (fs' := [.ref (b + 1), .null, .null, .null, .null, .null, .null, .null, .null]) hx hb hE hown hname hh (by omega) f21 rfl rfl (show 0 < 9 by decide) rfl dX9_init_12 (fun H locs mem22 f23 k24 hh => ?_)
  have hfr25 : ∀ j, j ≠ 0 → j ≠ 1 → j ≠ 2 → ¬ (3 ≤ j ∧ j < 19) → j ≠ 19 → j ≠ 20 → ¬ (21 ≤ j ∧ j < 37) → j ≠ 37 → j ≠ 38 → j ≠ 39 → ¬ (40 ≤ j ∧ j < 71) → ¬ (41 ≤ j ∧ j < 72) → j ≠ 72 → j ≠ 73 → j ≠ 74 → j ≠ 75 → j ≠ 76 → j ≠ 77 → j ≠ 78 → j ≠ 79 → j ≠ 80 → j ≠ 81 → ¬ (82 ≤ j ∧ j < 86) → j ≠ 86 → ¬ (87 ≤ j ∧ j < 91) → j ≠ 91 → j ≠ 92 → j ≠ 93 → j ≠ 94 → j ≠ 95 → j ≠ 96 → j ≠ 97 → j ≠ 98 → j ≠ 99 → j ≠ 100 → j ≠ 101 → j ≠ 102 → j ≠ 103 → j ≠ 104 → j ≠ 105 → j ≠ 106 → j ≠ 107 → j ≠ 108 → j ≠ 109 → j ≠ 110 → j ≠ 111 → j ≠ 112 → j ≠ 113 → j ≠ 114 → mem22 j = mem j := fun j c0 c1 c2 c3 c4 c5 c6 c7 c8 c9 c10 c11 c12 c13 c14 c15 c16 c17 c18 c19 c20 c21 c22 c23 c24 c25 c26 c27 c28 c29 c30 c31 c32 c33 c34 c35 c36 c37 c38 c39 c40 c41 c42 c43 c44 c45 c46 c47 c48 => (k24 j (by omega)).trans (hfr20 j c0 c1 c2 c3 c4 c5 c6 c7 c8 c9 c10 c11 c12 c13 c14 c15 c16 c17 c18 c19 c20 c21 c22 c23 c24 c25 c26 c27 c28 c29 c30 c31 c32 c33 c34 c35 c36 c37 c38 c39 c40 c41 c42 c43 c44 c45 c46 c47 c48)
  have f26 : mem22 1 = .inr (0, [.ref (b + 2), .ref (b + 19), .ref (b + 20), .ref (b + 37), .ref (b + 38), .int (nI 0)]) := (k24 _ (by decide)).trans f8
  have f27 : mem22 2 = aR Γ 7 16 (fun i => some (b + (3 + i))) := (k24 _ (by decide)).trans f9
  have f28 : mem22 19 = aN Γ 16 (fun _ => 0) := (k24 _ (by decide)).trans f11
  have f29 : mem22 20 = aR Γ 8 16 (fun i => some (b + (21 + i))) := (k24 _ (by decide)).trans f12
  have f30 : mem22 37 = aR Γ 6 16 (fun i => some (b + (40 + 2 * i))) := (k24 _ (by decide)).trans f14
  have f31 : mem22 38 = .inr (6, [.ref (b + 39), .int (nI 4), .int (nI 0)]) := (k24 _ (by decide)).trans f15
  have f32 : mem22 39 = aF Γ 16 (fun _ => FP.fconst0) := (k24 _ (by decide)).trans f16
  have f33 : ∀ z9, z9 < 16 → mem22 (3 + z9) = aN Γ 12 ((fun _ _ => 0) z9) := fun z9 hz9 => (k24 _ (by omega)).trans (f10 z9 hz9)
  have f34 : ∀ z9, z9 < 16 → mem22 (21 + z9) = aF Γ 12 ((fun _ _ => FP.fconst0) z9) := fun z9 hz9 => (k24 _ (by omega)).trans (f13 z9 hz9)
  have f35 : ∀ z9, z9 < 16 → mem22 (40 + 2 * z9) = .inr (6, [.ref (b + (40 + 2 * z9 + 1)), .int (nI 4), .int (nI ((fun _ => 0) z9))]) := fun z9 hz9 => (k24 _ (by omega)).trans (f17 z9 hz9)
  have f36 : ∀ z9, z9 < 16 → mem22 (40 + 2 * z9 + 1) = aF Γ 16 ((fun _ _ => FP.fconst0) z9) := fun z9 hz9 => (k24 _ (by omega)).trans (f18 z9 hz9)
  refine lv_aload_n hx hb dX9_init_15 rfl (lv_at hl 0 rfl) ?_
  refine mn_new (ci := 5) (fs := [.null, .null, .int (nI 0)]) hx hb hE hown (uw_X6 hE.2.1 args) tyX6 tyX6_ok (wc_X9_16 hE.2.1 args) (wi_X6 hE.2.1 args) (wn_X6 hE.2.1 args) rfl (by decide +kernel) (by omega) hh (by show _ ≤ 114; omega) (by show _ ≤ 1186; omega) dX9_init_16 (fun H mem37 f38 k39 hh => ?_)
  have hfr40 : ∀ j, j ≠ 0 → j ≠ 1 → j ≠ 2 → ¬ (3 ≤ j ∧ j < 19) → j ≠ 19 → j ≠ 20 → ¬ (21 ≤ j ∧ j < 37) → j ≠ 37 → j ≠ 38 → j ≠ 39 → ¬ (40 ≤ j ∧ j < 71) → ¬ (41 ≤ j ∧ j < 72) → j ≠ 72 → j ≠ 73 → j ≠ 74 → j ≠ 75 → j ≠ 76 → j ≠ 77 → j ≠ 78 → j ≠ 79 → j ≠ 80 → j ≠ 81 → ¬ (82 ≤ j ∧ j < 86) → j ≠ 86 → ¬ (87 ≤ j ∧ j < 91) → j ≠ 91 → j ≠ 92 → j ≠ 93 → j ≠ 94 → j ≠ 95 → j ≠ 96 → j ≠ 97 → j ≠ 98 → j ≠ 99 → j ≠ 100 → j ≠ 101 → j ≠ 102 → j ≠ 103 → j ≠ 104 → j ≠ 105 → j ≠ 106 → j ≠ 107 → j ≠ 108 → j ≠ 109 → j ≠ 110 → j ≠ 111 → j ≠ 112 → j ≠ 113 → j ≠ 114 → mem37 j = mem j := fun j c0 c1 c2 c3 c4 c5 c6 c7 c8 c9 c10 c11 c12 c13 c14 c15 c16 c17 c18 c19 c20 c21 c22 c23 c24 c25 c26 c27 c28 c29 c30 c31 c32 c33 c34 c35 c36 c37 c38 c39 c40 c41 c42 c43 c44 c45 c46 c47 c48 => (k39 j (by omega)).trans (hfr25 j c0 c1 c2 c3 c4 c5 c6 c7 c8 c9 c10 c11 c12 c13 c14 c15 c16 c17 c18 c19 c20 c21 c22 c23 c24 c25 c26 c27 c28 c29 c30 c31 c32 c33 c34 c35 c36 c37 c38 c39 c40 c41 c42 c43 c44 c45 c46 c47 c48)
  have f41 : mem37 0 = .inr (8, [.ref (b + 1), .null, .null, .null, .null, .null, .null, .null, .null]) := (k39 _ (by decide)).trans f23
  have f42 : mem37 1 = .inr (0, [.ref (b + 2), .ref (b + 19), .ref (b + 20), .ref (b + 37), .ref (b + 38), .int (nI 0)]) := (k39 _ (by decide)).trans f26
  have f43 : mem37 2 = aR Γ 7 16 (fun i => some (b + (3 + i))) := (k39 _ (by decide)).trans f27
  have f44 : mem37 19 = aN Γ 16 (fun _ => 0) := (k39 _ (by decide)).trans f28
  have f45 : mem37 20 = aR Γ 8 16 (fun i => some (b + (21 + i))) := (k39 _ (by decide)).trans f29
  have f46 : mem37 37 = aR Γ 6 16 (fun i => some (b + (40 + 2 * i))) := (k39 _ (by decide)).trans f30
  have f47 : mem37 38 = .inr (6, [.ref (b + 39), .int (nI 4), .int (nI 0)]) := (k39 _ (by decide)).trans f31
  have f48 : mem37 39 = aF Γ 16 (fun _ => FP.fconst0) := (k39 _ (by decide)).trans f32
  have f49 : ∀ z9, z9 < 16 → mem37 (3 + z9) = aN Γ 12 ((fun _ _ => 0) z9) := fun z9 hz9 => (k39 _ (by omega)).trans (f33 z9 hz9)
  have f50 : ∀ z9, z9 < 16 → mem37 (21 + z9) = aF Γ 12 ((fun _ _ => FP.fconst0) z9) := fun z9 hz9 => (k39 _ (by omega)).trans (f34 z9 hz9)
  have f51 : ∀ z9, z9 < 16 → mem37 (40 + 2 * z9) = .inr (6, [.ref (b + (40 + 2 * z9 + 1)), .int (nI 4), .int (nI ((fun _ => 0) z9))]) := fun z9 hz9 => (k39 _ (by omega)).trans (f35 z9 hz9)
  have f52 : ∀ z9, z9 < 16 → mem37 (40 + 2 * z9 + 1) = aF Γ 16 ((fun _ _ => FP.fconst0) z9) := fun z9 hz9 => (k39 _ (by omega)).trans (f36 z9 hz9)
  have hh : GH Γ b (73) mem37 s _ _ := hh
  refine lv_dup hx hb dX9_init_19 rfl ?_
  refine mn_IN (As := []) (rest := [.ref (b + 72), .ref (b + 0)]) (mc := 2) (ms := 8) hx hb hml hown hE hl.1 (by omega) hh (kc_X9_18 hE.2.1 hE.2.2.1 ⟨Nat.le_of_ble_eq_true rfl, Nat.le_of_ble_eq_true rfl⟩) (c_X6_init l Γ b mem37 (a := 72) f38) rfl rfl (Nat.le_of_ble_eq_true rfl) dX9_init_20 rfl rfl ⟨by show _ ≤ 114; omega, by show _ ≤ 1186; omega⟩ (fun H locs mem53 hP54 hh => ?_)
  obtain ⟨f55, f56, f57, k58⟩ := hP54
  have hfr59 : ∀ j, j ≠ 0 → j ≠ 1 → j ≠ 2 → ¬ (3 ≤ j ∧ j < 19) → j ≠ 19 → j ≠ 20 → ¬ (21 ≤ j ∧ j < 37) → j ≠ 37 → j ≠ 38 → j ≠ 39 → ¬ (40 ≤ j ∧ j < 71) → ¬ (41 ≤ j ∧ j < 72) → j ≠ 72 → j ≠ 73 → j ≠ 74 → j ≠ 75 → j ≠ 76 → j ≠ 77 → j ≠ 78 → j ≠ 79 → j ≠ 80 → j ≠ 81 → ¬ (82 ≤ j ∧ j < 86) → j ≠ 86 → ¬ (87 ≤ j ∧ j < 91) → j ≠ 91 → j ≠ 92 → j ≠ 93 → j ≠ 94 → j ≠ 95 → j ≠ 96 → j ≠ 97 → j ≠ 98 → j ≠ 99 → j ≠ 100 → j ≠ 101 → j ≠ 102 → j ≠ 103 → j ≠ 104 → j ≠ 105 → j ≠ 106 → j ≠ 107 → j ≠ 108 → j ≠ 109 → j ≠ 110 → j ≠ 111 → j ≠ 112 → j ≠ 113 → j ≠ 114 → mem53 j = mem j := fun j c0 c1 c2 c3 c4 c5 c6 c7 c8 c9 c10 c11 c12 c13 c14 c15 c16 c17 c18 c19 c20 c21 c22 c23 c24 c25 c26 c27 c28 c29 c30 c31 c32 c33 c34 c35 c36 c37 c38 c39 c40 c41 c42 c43 c44 c45 c46 c47 c48 => (k58 j (by omega) (by omega) (by omega)).trans (hfr40 j c0 c1 c2 c3 c4 c5 c6 c7 c8 c9 c10 c11 c12 c13 c14 c15 c16 c17 c18 c19 c20 c21 c22 c23 c24 c25 c26 c27 c28 c29 c30 c31 c32 c33 c34 c35 c36 c37 c38 c39 c40 c41 c42 c43 c44 c45 c46 c47 c48)
  have f60 : mem53 0 = .inr (8, [.ref (b + 1), .null, .null, .null, .null, .null, .null, .null, .null]) := (k58 _ (by decide) (by decide) (by decide)).trans f41
  have f61 : mem53 1 = .inr (0, [.ref (b + 2), .ref (b + 19), .ref (b + 20), .ref (b + 37), .ref (b + 38), .int (nI 0)]) := (k58 _ (by decide) (by decide) (by decide)).trans f42
  have f62 : mem53 2 = aR Γ 7 16 (fun i => some (b + (3 + i))) := (k58 _ (by decide) (by decide) (by decide)).trans f43
  have f63 : mem53 19 = aN Γ 16 (fun _ => 0) := (k58 _ (by decide) (by decide) (by decide)).trans f44
  have f64 : mem53 20 = aR Γ 8 16 (fun i => some (b + (21 + i))) := (k58 _ (by decide) (by decide) (by decide)).trans f45
  have f65 : mem53 37 = aR Γ 6 16 (fun i => some (b + (40 + 2 * i))) := (k58 _ (by decide) (by decide) (by decide)).trans f46
  have f66 : mem53 38 = .inr (6, [.ref (b + 39), .int (nI 4), .int (nI 0)]) := (k58 _ (by decide) (by decide) (by decide)).trans f47
  have f67 : mem53 39 = aF Γ 16 (fun _ => FP.fconst0) := (k58 _ (by decide) (by decide) (by decide)).trans f48
  have f68 : ∀ z9, z9 < 16 → mem53 (3 + z9) = aN Γ 12 ((fun _ _ => 0) z9) := fun z9 hz9 => (k58 _ (by omega) (by omega) (by omega)).trans (f49 z9 hz9)
  have f69 : ∀ z9, z9 < 16 → mem53 (21 + z9) = aF Γ 12 ((fun _ _ => FP.fconst0) z9) := fun z9 hz9 => (k58 _ (by omega) (by omega) (by omega)).trans (f50 z9 hz9)
  have f70 : ∀ z9, z9 < 16 → mem53 (40 + 2 * z9) = .inr (6, [.ref (b + (40 + 2 * z9 + 1)), .int (nI 4), .int (nI ((fun _ => 0) z9))]) := fun z9 hz9 => (k58 _ (by omega) (by omega) (by omega)).trans (f51 z9 hz9)
  have f71 : ∀ z9, z9 < 16 → mem53 (40 + 2 * z9 + 1) = aF Γ 16 ((fun _ _ => FP.fconst0) z9) := fun z9 hz9 => (k58 _ (by omega) (by omega) (by omega)).trans (f52 z9 hz9)
  have hh : GH Γ b (75) mem53 s _ _ := hh
  refine gq_X9_words (fs' := [.ref (b + 1), .ref (b + 72), .null, .null, .null, .null, .null, .null, .null]) hx hb hE hown hname hh (by omega) f60 rfl rfl (show 1 < 9 by decide) rfl dX9_init_23 (fun H locs mem72 f73 k74 hh => ?_)
  have hfr75 : ∀ j, j ≠ 0 → j ≠ 1 → j ≠ 2 → ¬ (3 ≤ j ∧ j < 19) → j ≠ 19 → j ≠ 20 → ¬ (21 ≤ j ∧ j < 37) → j ≠ 37 → j ≠ 38 → j ≠ 39 → ¬ (40 ≤ j ∧ j < 71) → ¬ (41 ≤ j ∧ j < 72) → j ≠ 72 → j ≠ 73 → j ≠ 74 → j ≠ 75 → j ≠ 76 → j ≠ 77 → j ≠ 78 → j ≠ 79 → j ≠ 80 → j ≠ 81 → ¬ (82 ≤ j ∧ j < 86) → j ≠ 86 → ¬ (87 ≤ j ∧ j < 91) → j ≠ 91 → j ≠ 92 → j ≠ 93 → j ≠ 94 → j ≠ 95 → j ≠ 96 → j ≠ 97 → j ≠ 98 → j ≠ 99 → j ≠ 100 → j ≠ 101 → j ≠ 102 → j ≠ 103 → j ≠ 104 → j ≠ 105 → j ≠ 106 → j ≠ 107 → j ≠ 108 → j ≠ 109 → j ≠ 110 → j ≠ 111 → j ≠ 112 → j ≠ 113 → j ≠ 114 → mem72 j = mem j := fun j c0 c1 c2 c3 c4 c5 c6 c7 c8 c9 c10 c11 c12 c13 c14 c15 c16 c17 c18 c19 c20 c21 c22 c23 c24 c25 c26 c27 c28 c29 c30 c31 c32 c33 c34 c35 c36 c37 c38 c39 c40 c41 c42 c43 c44 c45 c46 c47 c48 => (k74 j (by omega)).trans (hfr59 j c0 c1 c2 c3 c4 c5 c6 c7 c8 c9 c10 c11 c12 c13 c14 c15 c16 c17 c18 c19 c20 c21 c22 c23 c24 c25 c26 c27 c28 c29 c30 c31 c32 c33 c34 c35 c36 c37 c38 c39 c40 c41 c42 c43 c44 c45 c46 c47 c48)
  have f76 : mem72 1 = .inr (0, [.ref (b + 2), .ref (b + 19), .ref (b + 20), .ref (b + 37), .ref (b + 38), .int (nI 0)]) := (k74 _ (by decide)).trans f61
  have f77 : mem72 2 = aR Γ 7 16 (fun i => some (b + (3 + i))) := (k74 _ (by decide)).trans f62
  have f78 : mem72 19 = aN Γ 16 (fun _ => 0) := (k74 _ (by decide)).trans f63
  have f79 : mem72 20 = aR Γ 8 16 (fun i => some (b + (21 + i))) := (k74 _ (by decide)).trans f64
  have f80 : mem72 37 = aR Γ 6 16 (fun i => some (b + (40 + 2 * i))) := (k74 _ (by decide)).trans f65
  have f81 : mem72 38 = .inr (6, [.ref (b + 39), .int (nI 4), .int (nI 0)]) := (k74 _ (by decide)).trans f66
  have f82 : mem72 39 = aF Γ 16 (fun _ => FP.fconst0) := (k74 _ (by decide)).trans f67
  have f83 : mem72 72 = .inr (5, [.ref (b + 73), .ref (b + 74), .int (nI 0)]) := (k74 _ (by decide)).trans f55
  have f84 : mem72 73 = aN Γ 4 (fun _ => 0) := (k74 _ (by decide)).trans f56
  have f85 : mem72 74 = aN Γ 4 (fun _ => 0) := (k74 _ (by decide)).trans f57
  have f86 : ∀ z9, z9 < 16 → mem72 (3 + z9) = aN Γ 12 ((fun _ _ => 0) z9) := fun z9 hz9 => (k74 _ (by omega)).trans (f68 z9 hz9)
  have f87 : ∀ z9, z9 < 16 → mem72 (21 + z9) = aF Γ 12 ((fun _ _ => FP.fconst0) z9) := fun z9 hz9 => (k74 _ (by omega)).trans (f69 z9 hz9)
  have f88 : ∀ z9, z9 < 16 → mem72 (40 + 2 * z9) = .inr (6, [.ref (b + (40 + 2 * z9 + 1)), .int (nI 4), .int (nI ((fun _ => 0) z9))]) := fun z9 hz9 => (k74 _ (by omega)).trans (f70 z9 hz9)
  have f89 : ∀ z9, z9 < 16 → mem72 (40 + 2 * z9 + 1) = aF Γ 16 ((fun _ _ => FP.fconst0) z9) := fun z9 hz9 => (k74 _ (by omega)).trans (f71 z9 hz9)
  refine lv_aload_n hx hb dX9_init_26 rfl (lv_at hl 0 rfl) ?_
  refine mn_new (ci := 5) (fs := [.null, .null, .int (nI 0)]) hx hb hE hown (uw_X6 hE.2.1 args) tyX6 tyX6_ok (wc_X9_16 hE.2.1 args) (wi_X6 hE.2.1 args) (wn_X6 hE.2.1 args) rfl (by decide +kernel) (by omega) hh (by show _ ≤ 114; omega) (by show _ ≤ 1186; omega) dX9_init_27 (fun H mem90 f91 k92 hh => ?_)
  have hfr93 : ∀ j, j ≠ 0 → j ≠ 1 → j ≠ 2 → ¬ (3 ≤ j ∧ j < 19) → j ≠ 19 → j ≠ 20 → ¬ (21 ≤ j ∧ j < 37) → j ≠ 37 → j ≠ 38 → j ≠ 39 → ¬ (40 ≤ j ∧ j < 71) → ¬ (41 ≤ j ∧ j < 72) → j ≠ 72 → j ≠ 73 → j ≠ 74 → j ≠ 75 → j ≠ 76 → j ≠ 77 → j ≠ 78 → j ≠ 79 → j ≠ 80 → j ≠ 81 → ¬ (82 ≤ j ∧ j < 86) → j ≠ 86 → ¬ (87 ≤ j ∧ j < 91) → j ≠ 91 → j ≠ 92 → j ≠ 93 → j ≠ 94 → j ≠ 95 → j ≠ 96 → j ≠ 97 → j ≠ 98 → j ≠ 99 → j ≠ 100 → j ≠ 101 → j ≠ 102 → j ≠ 103 → j ≠ 104 → j ≠ 105 → j ≠ 106 → j ≠ 107 → j ≠ 108 → j ≠ 109 → j ≠ 110 → j ≠ 111 → j ≠ 112 → j ≠ 113 → j ≠ 114 → mem90 j = mem j := fun j c0 c1 c2 c3 c4 c5 c6 c7 c8 c9 c10 c11 c12 c13 c14 c15 c16 c17 c18 c19 c20 c21 c22 c23 c24 c25 c26 c27 c28 c29 c30 c31 c32 c33 c34 c35 c36 c37 c38 c39 c40 c41 c42 c43 c44 c45 c46 c47 c48 => (k92 j (by omega)).trans (hfr75 j c0 c1 c2 c3 c4 c5 c6 c7 c8 c9 c10 c11 c12 c13 c14 c15 c16 c17 c18 c19 c20 c21 c22 c23 c24 c25 c26 c27 c28 c29 c30 c31 c32 c33 c34 c35 c36 c37 c38 c39 c40 c41 c42 c43 c44 c45 c46 c47 c48)
  have f94 : mem90 0 = .inr (8, [.ref (b + 1), .ref (b + 72), .null, .null, .null, .null, .null, .null, .null]) := (k92 _ (by decide)).trans f73
  have f95 : mem90 1 = .inr (0, [.ref (b + 2), .ref (b + 19), .ref (b + 20), .ref (b + 37), .ref (b + 38), .int (nI 0)]) := (k92 _ (by decide)).trans f76
  have f96 : mem90 2 = aR Γ 7 16 (fun i => some (b + (3 + i))) := (k92 _ (by decide)).trans f77
  have f97 : mem90 19 = aN Γ 16 (fun _ => 0) := (k92 _ (by decide)).trans f78
  have f98 : mem90 20 = aR Γ 8 16 (fun i => some (b + (21 + i))) := (k92 _ (by decide)).trans f79
  have f99 : mem90 37 = aR Γ 6 16 (fun i => some (b + (40 + 2 * i))) := (k92 _ (by decide)).trans f80
  have f100 : mem90 38 = .inr (6, [.ref (b + 39), .int (nI 4), .int (nI 0)]) := (k92 _ (by decide)).trans f81
  have f101 : mem90 39 = aF Γ 16 (fun _ => FP.fconst0) := (k92 _ (by decide)).trans f82
  have f102 : mem90 72 = .inr (5, [.ref (b + 73), .ref (b + 74), .int (nI 0)]) := (k92 _ (by decide)).trans f83
  have f103 : mem90 73 = aN Γ 4 (fun _ => 0) := (k92 _ (by decide)).trans f84
  have f104 : mem90 74 = aN Γ 4 (fun _ => 0) := (k92 _ (by decide)).trans f85
  have f105 : ∀ z9, z9 < 16 → mem90 (3 + z9) = aN Γ 12 ((fun _ _ => 0) z9) := fun z9 hz9 => (k92 _ (by omega)).trans (f86 z9 hz9)
  have f106 : ∀ z9, z9 < 16 → mem90 (21 + z9) = aF Γ 12 ((fun _ _ => FP.fconst0) z9) := fun z9 hz9 => (k92 _ (by omega)).trans (f87 z9 hz9)
  have f107 : ∀ z9, z9 < 16 → mem90 (40 + 2 * z9) = .inr (6, [.ref (b + (40 + 2 * z9 + 1)), .int (nI 4), .int (nI ((fun _ => 0) z9))]) := fun z9 hz9 => (k92 _ (by omega)).trans (f88 z9 hz9)
  have f108 : ∀ z9, z9 < 16 → mem90 (40 + 2 * z9 + 1) = aF Γ 16 ((fun _ _ => FP.fconst0) z9) := fun z9 hz9 => (k92 _ (by omega)).trans (f89 z9 hz9)
  have hh : GH Γ b (76) mem90 s _ _ := hh
  refine lv_dup hx hb dX9_init_30 rfl ?_
  refine mn_IN (As := []) (rest := [.ref (b + 75), .ref (b + 0)]) (mc := 2) (ms := 8) hx hb hml hown hE hl.1 (by omega) hh (kc_X9_18 hE.2.1 hE.2.2.1 ⟨Nat.le_of_ble_eq_true rfl, Nat.le_of_ble_eq_true rfl⟩) (c_X6_init l Γ b mem90 (a := 75) f91) rfl rfl (Nat.le_of_ble_eq_true rfl) dX9_init_31 rfl rfl ⟨by show _ ≤ 114; omega, by show _ ≤ 1186; omega⟩ (fun H locs mem109 hP110 hh => ?_)
  obtain ⟨f111, f112, f113, k114⟩ := hP110
  have hfr115 : ∀ j, j ≠ 0 → j ≠ 1 → j ≠ 2 → ¬ (3 ≤ j ∧ j < 19) → j ≠ 19 → j ≠ 20 → ¬ (21 ≤ j ∧ j < 37) → j ≠ 37 → j ≠ 38 → j ≠ 39 → ¬ (40 ≤ j ∧ j < 71) → ¬ (41 ≤ j ∧ j < 72) → j ≠ 72 → j ≠ 73 → j ≠ 74 → j ≠ 75 → j ≠ 76 → j ≠ 77 → j ≠ 78 → j ≠ 79 → j ≠ 80 → j ≠ 81 → ¬ (82 ≤ j ∧ j < 86) → j ≠ 86 → ¬ (87 ≤ j ∧ j < 91) → j ≠ 91 → j ≠ 92 → j ≠ 93 → j ≠ 94 → j ≠ 95 → j ≠ 96 → j ≠ 97 → j ≠ 98 → j ≠ 99 → j ≠ 100 → j ≠ 101 → j ≠ 102 → j ≠ 103 → j ≠ 104 → j ≠ 105 → j ≠ 106 → j ≠ 107 → j ≠ 108 → j ≠ 109 → j ≠ 110 → j ≠ 111 → j ≠ 112 → j ≠ 113 → j ≠ 114 → mem109 j = mem j := fun j c0 c1 c2 c3 c4 c5 c6 c7 c8 c9 c10 c11 c12 c13 c14 c15 c16 c17 c18 c19 c20 c21 c22 c23 c24 c25 c26 c27 c28 c29 c30 c31 c32 c33 c34 c35 c36 c37 c38 c39 c40 c41 c42 c43 c44 c45 c46 c47 c48 => (k114 j (by omega) (by omega) (by omega)).trans (hfr93 j c0 c1 c2 c3 c4 c5 c6 c7 c8 c9 c10 c11 c12 c13 c14 c15 c16 c17 c18 c19 c20 c21 c22 c23 c24 c25 c26 c27 c28 c29 c30 c31 c32 c33 c34 c35 c36 c37 c38 c39 c40 c41 c42 c43 c44 c45 c46 c47 c48)
  have f116 : mem109 0 = .inr (8, [.ref (b + 1), .ref (b + 72), .null, .null, .null, .null, .null, .null, .null]) := (k114 _ (by decide) (by decide) (by decide)).trans f94
  have f117 : mem109 1 = .inr (0, [.ref (b + 2), .ref (b + 19), .ref (b + 20), .ref (b + 37), .ref (b + 38), .int (nI 0)]) := (k114 _ (by decide) (by decide) (by decide)).trans f95
  have f118 : mem109 2 = aR Γ 7 16 (fun i => some (b + (3 + i))) := (k114 _ (by decide) (by decide) (by decide)).trans f96
  have f119 : mem109 19 = aN Γ 16 (fun _ => 0) := (k114 _ (by decide) (by decide) (by decide)).trans f97
  have f120 : mem109 20 = aR Γ 8 16 (fun i => some (b + (21 + i))) := (k114 _ (by decide) (by decide) (by decide)).trans f98
  have f121 : mem109 37 = aR Γ 6 16 (fun i => some (b + (40 + 2 * i))) := (k114 _ (by decide) (by decide) (by decide)).trans f99
  have f122 : mem109 38 = .inr (6, [.ref (b + 39), .int (nI 4), .int (nI 0)]) := (k114 _ (by decide) (by decide) (by decide)).trans f100
  have f123 : mem109 39 = aF Γ 16 (fun _ => FP.fconst0) := (k114 _ (by decide) (by decide) (by decide)).trans f101
  have f124 : mem109 72 = .inr (5, [.ref (b + 73), .ref (b + 74), .int (nI 0)]) := (k114 _ (by decide) (by decide) (by decide)).trans f102
  have f125 : mem109 73 = aN Γ 4 (fun _ => 0) := (k114 _ (by decide) (by decide) (by decide)).trans f103
  have f126 : mem109 74 = aN Γ 4 (fun _ => 0) := (k114 _ (by decide) (by decide) (by decide)).trans f104
  have f127 : ∀ z9, z9 < 16 → mem109 (3 + z9) = aN Γ 12 ((fun _ _ => 0) z9) := fun z9 hz9 => (k114 _ (by omega) (by omega) (by omega)).trans (f105 z9 hz9)
  have f128 : ∀ z9, z9 < 16 → mem109 (21 + z9) = aF Γ 12 ((fun _ _ => FP.fconst0) z9) := fun z9 hz9 => (k114 _ (by omega) (by omega) (by omega)).trans (f106 z9 hz9)
  have f129 : ∀ z9, z9 < 16 → mem109 (40 + 2 * z9) = .inr (6, [.ref (b + (40 + 2 * z9 + 1)), .int (nI 4), .int (nI ((fun _ => 0) z9))]) := fun z9 hz9 => (k114 _ (by omega) (by omega) (by omega)).trans (f107 z9 hz9)
  have f130 : ∀ z9, z9 < 16 → mem109 (40 + 2 * z9 + 1) = aF Γ 16 ((fun _ _ => FP.fconst0) z9) := fun z9 hz9 => (k114 _ (by omega) (by omega) (by omega)).trans (f108 z9 hz9)
  have hh : GH Γ b (78) mem109 s _ _ := hh
  refine gq_X9_impacts (fs' := [.ref (b + 1), .ref (b + 72), .ref (b + 75), .null, .null, .null, .null, .null, .null]) hx hb hE hown hname hh (by omega) f116 rfl rfl (show 2 < 9 by decide) rfl dX9_init_34 (fun H locs mem131 f132 k133 hh => ?_)
  have hfr134 : ∀ j, j ≠ 0 → j ≠ 1 → j ≠ 2 → ¬ (3 ≤ j ∧ j < 19) → j ≠ 19 → j ≠ 20 → ¬ (21 ≤ j ∧ j < 37) → j ≠ 37 → j ≠ 38 → j ≠ 39 → ¬ (40 ≤ j ∧ j < 71) → ¬ (41 ≤ j ∧ j < 72) → j ≠ 72 → j ≠ 73 → j ≠ 74 → j ≠ 75 → j ≠ 76 → j ≠ 77 → j ≠ 78 → j ≠ 79 → j ≠ 80 → j ≠ 81 → ¬ (82 ≤ j ∧ j < 86) → j ≠ 86 → ¬ (87 ≤ j ∧ j < 91) → j ≠ 91 → j ≠ 92 → j ≠ 93 → j ≠ 94 → j ≠ 95 → j ≠ 96 → j ≠ 97 → j ≠ 98 → j ≠ 99 → j ≠ 100 → j ≠ 101 → j ≠ 102 → j ≠ 103 → j ≠ 104 → j ≠ 105 → j ≠ 106 → j ≠ 107 → j ≠ 108 → j ≠ 109 → j ≠ 110 → j ≠ 111 → j ≠ 112 → j ≠ 113 → j ≠ 114 → mem131 j = mem j := fun j c0 c1 c2 c3 c4 c5 c6 c7 c8 c9 c10 c11 c12 c13 c14 c15 c16 c17 c18 c19 c20 c21 c22 c23 c24 c25 c26 c27 c28 c29 c30 c31 c32 c33 c34 c35 c36 c37 c38 c39 c40 c41 c42 c43 c44 c45 c46 c47 c48 => (k133 j (by omega)).trans (hfr115 j c0 c1 c2 c3 c4 c5 c6 c7 c8 c9 c10 c11 c12 c13 c14 c15 c16 c17 c18 c19 c20 c21 c22 c23 c24 c25 c26 c27 c28 c29 c30 c31 c32 c33 c34 c35 c36 c37 c38 c39 c40 c41 c42 c43 c44 c45 c46 c47 c48)
  have f135 : mem131 1 = .inr (0, [.ref (b + 2), .ref (b + 19), .ref (b + 20), .ref (b + 37), .ref (b + 38), .int (nI 0)]) := (k133 _ (by decide)).trans f117
  have f136 : mem131 2 = aR Γ 7 16 (fun i => some (b + (3 + i))) := (k133 _ (by decide)).trans f118
  have f137 : mem131 19 = aN Γ 16 (fun _ => 0) := (k133 _ (by decide)).trans f119
  have f138 : mem131 20 = aR Γ 8 16 (fun i => some (b + (21 + i))) := (k133 _ (by decide)).trans f120
  have f139 : mem131 37 = aR Γ 6 16 (fun i => some (b + (40 + 2 * i))) := (k133 _ (by decide)).trans f121
  have f140 : mem131 38 = .inr (6, [.ref (b + 39), .int (nI 4), .int (nI 0)]) := (k133 _ (by decide)).trans f122
  have f141 : mem131 39 = aF Γ 16 (fun _ => FP.fconst0) := (k133 _ (by decide)).trans f123
  have f142 : mem131 72 = .inr (5, [.ref (b + 73), .ref (b + 74), .int (nI 0)]) := (k133 _ (by decide)).trans f124
  have f143 : mem131 73 = aN Γ 4 (fun _ => 0) := (k133 _ (by decide)).trans f125
  have f144 : mem131 74 = aN Γ 4 (fun _ => 0) := (k133 _ (by decide)).trans f126
  have f145 : mem131 75 = .inr (5, [.ref (b + 76), .ref (b + 77), .int (nI 0)]) := (k133 _ (by decide)).trans f111
  have f146 : mem131 76 = aN Γ 4 (fun _ => 0) := (k133 _ (by decide)).trans f112
  have f147 : mem131 77 = aN Γ 4 (fun _ => 0) := (k133 _ (by decide)).trans f113
  have f148 : ∀ z9, z9 < 16 → mem131 (3 + z9) = aN Γ 12 ((fun _ _ => 0) z9) := fun z9 hz9 => (k133 _ (by omega)).trans (f127 z9 hz9)
  have f149 : ∀ z9, z9 < 16 → mem131 (21 + z9) = aF Γ 12 ((fun _ _ => FP.fconst0) z9) := fun z9 hz9 => (k133 _ (by omega)).trans (f128 z9 hz9)
  have f150 : ∀ z9, z9 < 16 → mem131 (40 + 2 * z9) = .inr (6, [.ref (b + (40 + 2 * z9 + 1)), .int (nI 4), .int (nI ((fun _ => 0) z9))]) := fun z9 hz9 => (k133 _ (by omega)).trans (f129 z9 hz9)
  have f151 : ∀ z9, z9 < 16 → mem131 (40 + 2 * z9 + 1) = aF Γ 16 ((fun _ _ => FP.fconst0) z9) := fun z9 hz9 => (k133 _ (by omega)).trans (f130 z9 hz9)
  refine lv_aload_n hx hb dX9_init_37 rfl (lv_at hl 0 rfl) ?_
  refine mn_new (ci := 6) (fs := [.null, .int (nI 0), .int (nI 0)]) hx hb hE hown (uw_X7 hE.2.1 args) tyX7 tyX7_ok (wc_X9_26 hE.2.1 args) (wi_X7 hE.2.1 args) (wn_X7 hE.2.1 args) rfl (by decide +kernel) (by omega) hh (by show _ ≤ 114; omega) (by show _ ≤ 1186; omega) dX9_init_38 (fun H mem152 f153 k154 hh => ?_)
  have hfr155 : ∀ j, j ≠ 0 → j ≠ 1 → j ≠ 2 → ¬ (3 ≤ j ∧ j < 19) → j ≠ 19 → j ≠ 20 → ¬ (21 ≤ j ∧ j < 37) → j ≠ 37 → j ≠ 38 → j ≠ 39 → ¬ (40 ≤ j ∧ j < 71) → ¬ (41 ≤ j ∧ j < 72) → j ≠ 72 → j ≠ 73 → j ≠ 74 → j ≠ 75 → j ≠ 76 → j ≠ 77 → j ≠ 78 → j ≠ 79 → j ≠ 80 → j ≠ 81 → ¬ (82 ≤ j ∧ j < 86) → j ≠ 86 → ¬ (87 ≤ j ∧ j < 91) → j ≠ 91 → j ≠ 92 → j ≠ 93 → j ≠ 94 → j ≠ 95 → j ≠ 96 → j ≠ 97 → j ≠ 98 → j ≠ 99 → j ≠ 100 → j ≠ 101 → j ≠ 102 → j ≠ 103 → j ≠ 104 → j ≠ 105 → j ≠ 106 → j ≠ 107 → j ≠ 108 → j ≠ 109 → j ≠ 110 → j ≠ 111 → j ≠ 112 → j ≠ 113 → j ≠ 114 → mem152 j = mem j := fun j c0 c1 c2 c3 c4 c5 c6 c7 c8 c9 c10 c11 c12 c13 c14 c15 c16 c17 c18 c19 c20 c21 c22 c23 c24 c25 c26 c27 c28 c29 c30 c31 c32 c33 c34 c35 c36 c37 c38 c39 c40 c41 c42 c43 c44 c45 c46 c47 c48 => (k154 j (by omega)).trans (hfr134 j c0 c1 c2 c3 c4 c5 c6 c7 c8 c9 c10 c11 c12 c13 c14 c15 c16 c17 c18 c19 c20 c21 c22 c23 c24 c25 c26 c27 c28 c29 c30 c31 c32 c33 c34 c35 c36 c37 c38 c39 c40 c41 c42 c43 c44 c45 c46 c47 c48)
  have f156 : mem152 0 = .inr (8, [.ref (b + 1), .ref (b + 72), .ref (b + 75), .null, .null, .null, .null, .null, .null]) := (k154 _ (by decide)).trans f132
  have f157 : mem152 1 = .inr (0, [.ref (b + 2), .ref (b + 19), .ref (b + 20), .ref (b + 37), .ref (b + 38), .int (nI 0)]) := (k154 _ (by decide)).trans f135
  have f158 : mem152 2 = aR Γ 7 16 (fun i => some (b + (3 + i))) := (k154 _ (by decide)).trans f136
  have f159 : mem152 19 = aN Γ 16 (fun _ => 0) := (k154 _ (by decide)).trans f137
  have f160 : mem152 20 = aR Γ 8 16 (fun i => some (b + (21 + i))) := (k154 _ (by decide)).trans f138
  have f161 : mem152 37 = aR Γ 6 16 (fun i => some (b + (40 + 2 * i))) := (k154 _ (by decide)).trans f139
  have f162 : mem152 38 = .inr (6, [.ref (b + 39), .int (nI 4), .int (nI 0)]) := (k154 _ (by decide)).trans f140
  have f163 : mem152 39 = aF Γ 16 (fun _ => FP.fconst0) := (k154 _ (by decide)).trans f141
  have f164 : mem152 72 = .inr (5, [.ref (b + 73), .ref (b + 74), .int (nI 0)]) := (k154 _ (by decide)).trans f142
  have f165 : mem152 73 = aN Γ 4 (fun _ => 0) := (k154 _ (by decide)).trans f143
  have f166 : mem152 74 = aN Γ 4 (fun _ => 0) := (k154 _ (by decide)).trans f144
  have f167 : mem152 75 = .inr (5, [.ref (b + 76), .ref (b + 77), .int (nI 0)]) := (k154 _ (by decide)).trans f145
  have f168 : mem152 76 = aN Γ 4 (fun _ => 0) := (k154 _ (by decide)).trans f146
  have f169 : mem152 77 = aN Γ 4 (fun _ => 0) := (k154 _ (by decide)).trans f147
  have f170 : ∀ z9, z9 < 16 → mem152 (3 + z9) = aN Γ 12 ((fun _ _ => 0) z9) := fun z9 hz9 => (k154 _ (by omega)).trans (f148 z9 hz9)
  have f171 : ∀ z9, z9 < 16 → mem152 (21 + z9) = aF Γ 12 ((fun _ _ => FP.fconst0) z9) := fun z9 hz9 => (k154 _ (by omega)).trans (f149 z9 hz9)
  have f172 : ∀ z9, z9 < 16 → mem152 (40 + 2 * z9) = .inr (6, [.ref (b + (40 + 2 * z9 + 1)), .int (nI 4), .int (nI ((fun _ => 0) z9))]) := fun z9 hz9 => (k154 _ (by omega)).trans (f150 z9 hz9)
  have f173 : ∀ z9, z9 < 16 → mem152 (40 + 2 * z9 + 1) = aF Γ 16 ((fun _ _ => FP.fconst0) z9) := fun z9 hz9 => (k154 _ (by omega)).trans (f151 z9 hz9)
  have hh : GH Γ b (79) mem152 s _ _ := hh
  refine lv_dup hx hb dX9_init_41 rfl ?_
  refine lv_iconst (v := (nI 3)) hx hb dX9_init_42 (by decide) ?_
  refine mn_I (As := [.int (nI 3)]) (rest := [.ref (b + 78), .ref (b + 0)]) (mc := 1) (ms := 12) hx hb hml hown hE hl.1 (by omega) hh (kc_X9_28 hE.2.1 ⟨Nat.le_of_ble_eq_true rfl, Nat.le_of_ble_eq_true rfl⟩) (c_X7_init3 l Γ b mem152 (a := 78) f153) rfl rfl (Nat.le_of_ble_eq_true rfl) dX9_init_43 rfl rfl ⟨by show _ ≤ 114; omega, by show _ ≤ 1186; omega⟩ (fun H locs mem174 hP175 hh => ?_)
  obtain ⟨f176, f177, k178⟩ := hP175
  have hfr179 : ∀ j, j ≠ 0 → j ≠ 1 → j ≠ 2 → ¬ (3 ≤ j ∧ j < 19) → j ≠ 19 → j ≠ 20 → ¬ (21 ≤ j ∧ j < 37) → j ≠ 37 → j ≠ 38 → j ≠ 39 → ¬ (40 ≤ j ∧ j < 71) → ¬ (41 ≤ j ∧ j < 72) → j ≠ 72 → j ≠ 73 → j ≠ 74 → j ≠ 75 → j ≠ 76 → j ≠ 77 → j ≠ 78 → j ≠ 79 → j ≠ 80 → j ≠ 81 → ¬ (82 ≤ j ∧ j < 86) → j ≠ 86 → ¬ (87 ≤ j ∧ j < 91) → j ≠ 91 → j ≠ 92 → j ≠ 93 → j ≠ 94 → j ≠ 95 → j ≠ 96 → j ≠ 97 → j ≠ 98 → j ≠ 99 → j ≠ 100 → j ≠ 101 → j ≠ 102 → j ≠ 103 → j ≠ 104 → j ≠ 105 → j ≠ 106 → j ≠ 107 → j ≠ 108 → j ≠ 109 → j ≠ 110 → j ≠ 111 → j ≠ 112 → j ≠ 113 → j ≠ 114 → mem174 j = mem j := fun j c0 c1 c2 c3 c4 c5 c6 c7 c8 c9 c10 c11 c12 c13 c14 c15 c16 c17 c18 c19 c20 c21 c22 c23 c24 c25 c26 c27 c28 c29 c30 c31 c32 c33 c34 c35 c36 c37 c38 c39 c40 c41 c42 c43 c44 c45 c46 c47 c48 => (k178 j (by omega) (by omega)).trans (hfr155 j c0 c1 c2 c3 c4 c5 c6 c7 c8 c9 c10 c11 c12 c13 c14 c15 c16 c17 c18 c19 c20 c21 c22 c23 c24 c25 c26 c27 c28 c29 c30 c31 c32 c33 c34 c35 c36 c37 c38 c39 c40 c41 c42 c43 c44 c45 c46 c47 c48)
  have f180 : mem174 0 = .inr (8, [.ref (b + 1), .ref (b + 72), .ref (b + 75), .null, .null, .null, .null, .null, .null]) := (k178 _ (by decide) (by decide)).trans f156
  have f181 : mem174 1 = .inr (0, [.ref (b + 2), .ref (b + 19), .ref (b + 20), .ref (b + 37), .ref (b + 38), .int (nI 0)]) := (k178 _ (by decide) (by decide)).trans f157
  have f182 : mem174 2 = aR Γ 7 16 (fun i => some (b + (3 + i))) := (k178 _ (by decide) (by decide)).trans f158
  have f183 : mem174 19 = aN Γ 16 (fun _ => 0) := (k178 _ (by decide) (by decide)).trans f159
  have f184 : mem174 20 = aR Γ 8 16 (fun i => some (b + (21 + i))) := (k178 _ (by decide) (by decide)).trans f160
  have f185 : mem174 37 = aR Γ 6 16 (fun i => some (b + (40 + 2 * i))) := (k178 _ (by decide) (by decide)).trans f161
  have f186 : mem174 38 = .inr (6, [.ref (b + 39), .int (nI 4), .int (nI 0)]) := (k178 _ (by decide) (by decide)).trans f162
  have f187 : mem174 39 = aF Γ 16 (fun _ => FP.fconst0) := (k178 _ (by decide) (by decide)).trans f163
  have f188 : mem174 72 = .inr (5, [.ref (b + 73), .ref (b + 74), .int (nI 0)]) := (k178 _ (by decide) (by decide)).trans f164
  have f189 : mem174 73 = aN Γ 4 (fun _ => 0) := (k178 _ (by decide) (by decide)).trans f165
  have f190 : mem174 74 = aN Γ 4 (fun _ => 0) := (k178 _ (by decide) (by decide)).trans f166
  have f191 : mem174 75 = .inr (5, [.ref (b + 76), .ref (b + 77), .int (nI 0)]) := (k178 _ (by decide) (by decide)).trans f167
  have f192 : mem174 76 = aN Γ 4 (fun _ => 0) := (k178 _ (by decide) (by decide)).trans f168
  have f193 : mem174 77 = aN Γ 4 (fun _ => 0) := (k178 _ (by decide) (by decide)).trans f169
  have f194 : ∀ z9, z9 < 16 → mem174 (3 + z9) = aN Γ 12 ((fun _ _ => 0) z9) := fun z9 hz9 => (k178 _ (by omega) (by omega)).trans (f170 z9 hz9)
  have f195 : ∀ z9, z9 < 16 → mem174 (21 + z9) = aF Γ 12 ((fun _ _ => FP.fconst0) z9) := fun z9 hz9 => (k178 _ (by omega) (by omega)).trans (f171 z9 hz9)
  have f196 : ∀ z9, z9 < 16 → mem174 (40 + 2 * z9) = .inr (6, [.ref (b + (40 + 2 * z9 + 1)), .int (nI 4), .int (nI ((fun _ => 0) z9))]) := fun z9 hz9 => (k178 _ (by omega) (by omega)).trans (f172 z9 hz9)
  have f197 : ∀ z9, z9 < 16 → mem174 (40 + 2 * z9 + 1) = aF Γ 16 ((fun _ _ => FP.fconst0) z9) := fun z9 hz9 => (k178 _ (by omega) (by omega)).trans (f173 z9 hz9)
  have hh : GH Γ b (80) mem174 s _ _ := hh
  refine gq_X9_vectors (fs' := [.ref (b + 1), .ref (b + 72), .ref (b + 75), .ref (b + 78), .null, .null, .null, .null, .null]) hx hb hE hown hname hh (by omega) f180 rfl rfl (show 3 < 9 by decide) rfl dX9_init_46 (fun H locs mem198 f199 k200 hh => ?_)
  have hfr201 : ∀ j, j ≠ 0 → j ≠ 1 → j ≠ 2 → ¬ (3 ≤ j ∧ j < 19) → j ≠ 19 → j ≠ 20 → ¬ (21 ≤ j ∧ j < 37) → j ≠ 37 → j ≠ 38 → j ≠ 39 → ¬ (40 ≤ j ∧ j < 71) → ¬ (41 ≤ j ∧ j < 72) → j ≠ 72 → j ≠ 73 → j ≠ 74 → j ≠ 75 → j ≠ 76 → j ≠ 77 → j ≠ 78 → j ≠ 79 → j ≠ 80 → j ≠ 81 → ¬ (82 ≤ j ∧ j < 86) → j ≠ 86 → ¬ (87 ≤ j ∧ j < 91) → j ≠ 91 → j ≠ 92 → j ≠ 93 → j ≠ 94 → j ≠ 95 → j ≠ 96 → j ≠ 97 → j ≠ 98 → j ≠ 99 → j ≠ 100 → j ≠ 101 → j ≠ 102 → j ≠ 103 → j ≠ 104 → j ≠ 105 → j ≠ 106 → j ≠ 107 → j ≠ 108 → j ≠ 109 → j ≠ 110 → j ≠ 111 → j ≠ 112 → j ≠ 113 → j ≠ 114 → mem198 j = mem j := fun j c0 c1 c2 c3 c4 c5 c6 c7 c8 c9 c10 c11 c12 c13 c14 c15 c16 c17 c18 c19 c20 c21 c22 c23 c24 c25 c26 c27 c28 c29 c30 c31 c32 c33 c34 c35 c36 c37 c38 c39 c40 c41 c42 c43 c44 c45 c46 c47 c48 => (k200 j (by omega)).trans (hfr179 j c0 c1 c2 c3 c4 c5 c6 c7 c8 c9 c10 c11 c12 c13 c14 c15 c16 c17 c18 c19 c20 c21 c22 c23 c24 c25 c26 c27 c28 c29 c30 c31 c32 c33 c34 c35 c36 c37 c38 c39 c40 c41 c42 c43 c44 c45 c46 c47 c48)
  have f202 : mem198 1 = .inr (0, [.ref (b + 2), .ref (b + 19), .ref (b + 20), .ref (b + 37), .ref (b + 38), .int (nI 0)]) := (k200 _ (by decide)).trans f181
  have f203 : mem198 2 = aR Γ 7 16 (fun i => some (b + (3 + i))) := (k200 _ (by decide)).trans f182
  have f204 : mem198 19 = aN Γ 16 (fun _ => 0) := (k200 _ (by decide)).trans f183
  have f205 : mem198 20 = aR Γ 8 16 (fun i => some (b + (21 + i))) := (k200 _ (by decide)).trans f184
  have f206 : mem198 37 = aR Γ 6 16 (fun i => some (b + (40 + 2 * i))) := (k200 _ (by decide)).trans f185
  have f207 : mem198 38 = .inr (6, [.ref (b + 39), .int (nI 4), .int (nI 0)]) := (k200 _ (by decide)).trans f186
  have f208 : mem198 39 = aF Γ 16 (fun _ => FP.fconst0) := (k200 _ (by decide)).trans f187
  have f209 : mem198 72 = .inr (5, [.ref (b + 73), .ref (b + 74), .int (nI 0)]) := (k200 _ (by decide)).trans f188
  have f210 : mem198 73 = aN Γ 4 (fun _ => 0) := (k200 _ (by decide)).trans f189
  have f211 : mem198 74 = aN Γ 4 (fun _ => 0) := (k200 _ (by decide)).trans f190
  have f212 : mem198 75 = .inr (5, [.ref (b + 76), .ref (b + 77), .int (nI 0)]) := (k200 _ (by decide)).trans f191
  have f213 : mem198 76 = aN Γ 4 (fun _ => 0) := (k200 _ (by decide)).trans f192
  have f214 : mem198 77 = aN Γ 4 (fun _ => 0) := (k200 _ (by decide)).trans f193
  have f215 : mem198 78 = .inr (6, [.ref (b + 79), .int (nI 3), .int (nI 0)]) := (k200 _ (by decide)).trans f176
  have f216 : mem198 79 = aF Γ 12 (fun _ => FP.fconst0) := (k200 _ (by decide)).trans f177
  have f217 : ∀ z9, z9 < 16 → mem198 (3 + z9) = aN Γ 12 ((fun _ _ => 0) z9) := fun z9 hz9 => (k200 _ (by omega)).trans (f194 z9 hz9)
  have f218 : ∀ z9, z9 < 16 → mem198 (21 + z9) = aF Γ 12 ((fun _ _ => FP.fconst0) z9) := fun z9 hz9 => (k200 _ (by omega)).trans (f195 z9 hz9)
  have f219 : ∀ z9, z9 < 16 → mem198 (40 + 2 * z9) = .inr (6, [.ref (b + (40 + 2 * z9 + 1)), .int (nI 4), .int (nI ((fun _ => 0) z9))]) := fun z9 hz9 => (k200 _ (by omega)).trans (f196 z9 hz9)
  have f220 : ∀ z9, z9 < 16 → mem198 (40 + 2 * z9 + 1) = aF Γ 16 ((fun _ _ => FP.fconst0) z9) := fun z9 hz9 => (k200 _ (by omega)).trans (f197 z9 hz9)
  refine lv_aload_n hx hb dX9_init_49 rfl (lv_at hl 0 rfl) ?_
  refine mn_new (ci := 3) (fs := [.null, .null, .int (nI 0)]) hx hb hE hown (uw_X3 hE.2.1 args) tyX3 tyX3_ok (wc_X9_35 hE.2.1 args) (wi_X3 hE.2.1 args) (wn_X3 hE.2.1 args) rfl (by decide +kernel) (by omega) hh (by show _ ≤ 114; omega) (by show _ ≤ 1186; omega) dX9_init_50 (fun H mem221 f222 k223 hh => ?_)
  have hfr224 : ∀ j, j ≠ 0 → j ≠ 1 → j ≠ 2 → ¬ (3 ≤ j ∧ j < 19) → j ≠ 19 → j ≠ 20 → ¬ (21 ≤ j ∧ j < 37) → j ≠ 37 → j ≠ 38 → j ≠ 39 → ¬ (40 ≤ j ∧ j < 71) → ¬ (41 ≤ j ∧ j < 72) → j ≠ 72 → j ≠ 73 → j ≠ 74 → j ≠ 75 → j ≠ 76 → j ≠ 77 → j ≠ 78 → j ≠ 79 → j ≠ 80 → j ≠ 81 → ¬ (82 ≤ j ∧ j < 86) → j ≠ 86 → ¬ (87 ≤ j ∧ j < 91) → j ≠ 91 → j ≠ 92 → j ≠ 93 → j ≠ 94 → j ≠ 95 → j ≠ 96 → j ≠ 97 → j ≠ 98 → j ≠ 99 → j ≠ 100 → j ≠ 101 → j ≠ 102 → j ≠ 103 → j ≠ 104 → j ≠ 105 → j ≠ 106 → j ≠ 107 → j ≠ 108 → j ≠ 109 → j ≠ 110 → j ≠ 111 → j ≠ 112 → j ≠ 113 → j ≠ 114 → mem221 j = mem j := fun j c0 c1 c2 c3 c4 c5 c6 c7 c8 c9 c10 c11 c12 c13 c14 c15 c16 c17 c18 c19 c20 c21 c22 c23 c24 c25 c26 c27 c28 c29 c30 c31 c32 c33 c34 c35 c36 c37 c38 c39 c40 c41 c42 c43 c44 c45 c46 c47 c48 => (k223 j (by omega)).trans (hfr201 j c0 c1 c2 c3 c4 c5 c6 c7 c8 c9 c10 c11 c12 c13 c14 c15 c16 c17 c18 c19 c20 c21 c22 c23 c24 c25 c26 c27 c28 c29 c30 c31 c32 c33 c34 c35 c36 c37 c38 c39 c40 c41 c42 c43 c44 c45 c46 c47 c48)
  have f225 : mem221 0 = .inr (8, [.ref (b + 1), .ref (b + 72), .ref (b + 75), .ref (b + 78), .null, .null, .null, .null, .null]) := (k223 _ (by decide)).trans f199
  have f226 : mem221 1 = .inr (0, [.ref (b + 2), .ref (b + 19), .ref (b + 20), .ref (b + 37), .ref (b + 38), .int (nI 0)]) := (k223 _ (by decide)).trans f202
  have f227 : mem221 2 = aR Γ 7 16 (fun i => some (b + (3 + i))) := (k223 _ (by decide)).trans f203
  have f228 : mem221 19 = aN Γ 16 (fun _ => 0) := (k223 _ (by decide)).trans f204
  have f229 : mem221 20 = aR Γ 8 16 (fun i => some (b + (21 + i))) := (k223 _ (by decide)).trans f205
  have f230 : mem221 37 = aR Γ 6 16 (fun i => some (b + (40 + 2 * i))) := (k223 _ (by decide)).trans f206
  have f231 : mem221 38 = .inr (6, [.ref (b + 39), .int (nI 4), .int (nI 0)]) := (k223 _ (by decide)).trans f207
  have f232 : mem221 39 = aF Γ 16 (fun _ => FP.fconst0) := (k223 _ (by decide)).trans f208
  have f233 : mem221 72 = .inr (5, [.ref (b + 73), .ref (b + 74), .int (nI 0)]) := (k223 _ (by decide)).trans f209
  have f234 : mem221 73 = aN Γ 4 (fun _ => 0) := (k223 _ (by decide)).trans f210
  have f235 : mem221 74 = aN Γ 4 (fun _ => 0) := (k223 _ (by decide)).trans f211
  have f236 : mem221 75 = .inr (5, [.ref (b + 76), .ref (b + 77), .int (nI 0)]) := (k223 _ (by decide)).trans f212
  have f237 : mem221 76 = aN Γ 4 (fun _ => 0) := (k223 _ (by decide)).trans f213
  have f238 : mem221 77 = aN Γ 4 (fun _ => 0) := (k223 _ (by decide)).trans f214
  have f239 : mem221 78 = .inr (6, [.ref (b + 79), .int (nI 3), .int (nI 0)]) := (k223 _ (by decide)).trans f215
  have f240 : mem221 79 = aF Γ 12 (fun _ => FP.fconst0) := (k223 _ (by decide)).trans f216
  have f241 : ∀ z9, z9 < 16 → mem221 (3 + z9) = aN Γ 12 ((fun _ _ => 0) z9) := fun z9 hz9 => (k223 _ (by omega)).trans (f217 z9 hz9)
  have f242 : ∀ z9, z9 < 16 → mem221 (21 + z9) = aF Γ 12 ((fun _ _ => FP.fconst0) z9) := fun z9 hz9 => (k223 _ (by omega)).trans (f218 z9 hz9)
  have f243 : ∀ z9, z9 < 16 → mem221 (40 + 2 * z9) = .inr (6, [.ref (b + (40 + 2 * z9 + 1)), .int (nI 4), .int (nI ((fun _ => 0) z9))]) := fun z9 hz9 => (k223 _ (by omega)).trans (f219 z9 hz9)
  have f244 : ∀ z9, z9 < 16 → mem221 (40 + 2 * z9 + 1) = aF Γ 16 ((fun _ _ => FP.fconst0) z9) := fun z9 hz9 => (k223 _ (by omega)).trans (f220 z9 hz9)
  have hh : GH Γ b (81) mem221 s _ _ := hh
  refine lv_dup hx hb dX9_init_53 rfl ?_
  refine mn_IN (As := []) (rest := [.ref (b + 80), .ref (b + 0)]) (mc := 10) (ms := 88) hx hb hml hown hE hl.1 (by omega) hh (kc_X9_37 hE.2.1 hE.2.2.1 ⟨Nat.le_of_ble_eq_true rfl, Nat.le_of_ble_eq_true rfl⟩) (c_X3_init l Γ b mem221 f222) rfl rfl (Nat.le_of_ble_eq_true rfl) dX9_init_54 rfl rfl ⟨by show _ ≤ 114; omega, by show _ ≤ 1186; omega⟩ (fun H locs mem245 hP246 hh => ?_)
  obtain ⟨f247, f248, f249, f250, f251, k252⟩ := hP246
  have hfr253 : ∀ j, j ≠ 0 → j ≠ 1 → j ≠ 2 → ¬ (3 ≤ j ∧ j < 19) → j ≠ 19 → j ≠ 20 → ¬ (21 ≤ j ∧ j < 37) → j ≠ 37 → j ≠ 38 → j ≠ 39 → ¬ (40 ≤ j ∧ j < 71) → ¬ (41 ≤ j ∧ j < 72) → j ≠ 72 → j ≠ 73 → j ≠ 74 → j ≠ 75 → j ≠ 76 → j ≠ 77 → j ≠ 78 → j ≠ 79 → j ≠ 80 → j ≠ 81 → ¬ (82 ≤ j ∧ j < 86) → j ≠ 86 → ¬ (87 ≤ j ∧ j < 91) → j ≠ 91 → j ≠ 92 → j ≠ 93 → j ≠ 94 → j ≠ 95 → j ≠ 96 → j ≠ 97 → j ≠ 98 → j ≠ 99 → j ≠ 100 → j ≠ 101 → j ≠ 102 → j ≠ 103 → j ≠ 104 → j ≠ 105 → j ≠ 106 → j ≠ 107 → j ≠ 108 → j ≠ 109 → j ≠ 110 → j ≠ 111 → j ≠ 112 → j ≠ 113 → j ≠ 114 → mem245 j = mem j := fun j c0 c1 c2 c3 c4 c5 c6 c7 c8 c9 c10 c11 c12 c13 c14 c15 c16 c17 c18 c19 c20 c21 c22 c23 c24 c25 c26 c27 c28 c29 c30 c31 c32 c33 c34 c35 c36 c37 c38 c39 c40 c41 c42 c43 c44 c45 c46 c47 c48 => (k252 j (by omega) (by omega) (by omega) (by omega) (by omega)).trans (hfr224 j c0 c1 c2 c3 c4 c5 c6 c7 c8 c9 c10 c11 c12 c13 c14 c15 c16 c17 c18 c19 c20 c21 c22 c23 c24 c25 c26 c27 c28 c29 c30 c31 c32 c33 c34 c35 c36 c37 c38 c39 c40 c41 c42 c43 c44 c45 c46 c47 c48)
  have f254 : mem245 0 = .inr (8, [.ref (b + 1), .ref (b + 72), .ref (b + 75), .ref (b + 78), .null, .null, .null, .null, .null]) := (k252 _ (by decide) (by decide) (by decide) (by decide) (by decide)).trans f225
  have f255 : mem245 1 = .inr (0, [.ref (b + 2), .ref (b + 19), .ref (b + 20), .ref (b + 37), .ref (b + 38), .int (nI 0)]) := (k252 _ (by decide) (by decide) (by decide) (by decide) (by decide)).trans f226
  have f256 : mem245 2 = aR Γ 7 16 (fun i => some (b + (3 + i))) := (k252 _ (by decide) (by decide) (by decide) (by decide) (by decide)).trans f227
  have f257 : mem245 19 = aN Γ 16 (fun _ => 0) := (k252 _ (by decide) (by decide) (by decide) (by decide) (by decide)).trans f228
  have f258 : mem245 20 = aR Γ 8 16 (fun i => some (b + (21 + i))) := (k252 _ (by decide) (by decide) (by decide) (by decide) (by decide)).trans f229
  have f259 : mem245 37 = aR Γ 6 16 (fun i => some (b + (40 + 2 * i))) := (k252 _ (by decide) (by decide) (by decide) (by decide) (by decide)).trans f230
  have f260 : mem245 38 = .inr (6, [.ref (b + 39), .int (nI 4), .int (nI 0)]) := (k252 _ (by decide) (by decide) (by decide) (by decide) (by decide)).trans f231
  have f261 : mem245 39 = aF Γ 16 (fun _ => FP.fconst0) := (k252 _ (by decide) (by decide) (by decide) (by decide) (by decide)).trans f232
  have f262 : mem245 72 = .inr (5, [.ref (b + 73), .ref (b + 74), .int (nI 0)]) := (k252 _ (by decide) (by decide) (by decide) (by decide) (by decide)).trans f233
  have f263 : mem245 73 = aN Γ 4 (fun _ => 0) := (k252 _ (by decide) (by decide) (by decide) (by decide) (by decide)).trans f234
  have f264 : mem245 74 = aN Γ 4 (fun _ => 0) := (k252 _ (by decide) (by decide) (by decide) (by decide) (by decide)).trans f235
  have f265 : mem245 75 = .inr (5, [.ref (b + 76), .ref (b + 77), .int (nI 0)]) := (k252 _ (by decide) (by decide) (by decide) (by decide) (by decide)).trans f236
  have f266 : mem245 76 = aN Γ 4 (fun _ => 0) := (k252 _ (by decide) (by decide) (by decide) (by decide) (by decide)).trans f237
  have f267 : mem245 77 = aN Γ 4 (fun _ => 0) := (k252 _ (by decide) (by decide) (by decide) (by decide) (by decide)).trans f238
  have f268 : mem245 78 = .inr (6, [.ref (b + 79), .int (nI 3), .int (nI 0)]) := (k252 _ (by decide) (by decide) (by decide) (by decide) (by decide)).trans f239
  have f269 : mem245 79 = aF Γ 12 (fun _ => FP.fconst0) := (k252 _ (by decide) (by decide) (by decide) (by decide) (by decide)).trans f240
  have f270 : ∀ z9, z9 < 16 → mem245 (3 + z9) = aN Γ 12 ((fun _ _ => 0) z9) := fun z9 hz9 => (k252 _ (by omega) (by omega) (by omega) (by omega) (by omega)).trans (f241 z9 hz9)
  have f271 : ∀ z9, z9 < 16 → mem245 (21 + z9) = aF Γ 12 ((fun _ _ => FP.fconst0) z9) := fun z9 hz9 => (k252 _ (by omega) (by omega) (by omega) (by omega) (by omega)).trans (f242 z9 hz9)
  have f272 : ∀ z9, z9 < 16 → mem245 (40 + 2 * z9) = .inr (6, [.ref (b + (40 + 2 * z9 + 1)), .int (nI 4), .int (nI ((fun _ => 0) z9))]) := fun z9 hz9 => (k252 _ (by omega) (by omega) (by omega) (by omega) (by omega)).trans (f243 z9 hz9)
  have f273 : ∀ z9, z9 < 16 → mem245 (40 + 2 * z9 + 1) = aF Γ 16 ((fun _ _ => FP.fconst0) z9) := fun z9 hz9 => (k252 _ (by omega) (by omega) (by omega) (by omega) (by omega)).trans (f244 z9 hz9)
  have hh : GH Γ b (91) mem245 s _ _ := hh
  refine gq_X9_parts (fs' := [.ref (b + 1), .ref (b + 72), .ref (b + 75), .ref (b + 78), .ref (b + 80), .null, .null, .null, .null]) hx hb hE hown hname hh (by omega) f254 rfl rfl (show 4 < 9 by decide) rfl dX9_init_57 (fun H locs mem274 f275 k276 hh => ?_)
  have hfr277 : ∀ j, j ≠ 0 → j ≠ 1 → j ≠ 2 → ¬ (3 ≤ j ∧ j < 19) → j ≠ 19 → j ≠ 20 → ¬ (21 ≤ j ∧ j < 37) → j ≠ 37 → j ≠ 38 → j ≠ 39 → ¬ (40 ≤ j ∧ j < 71) → ¬ (41 ≤ j ∧ j < 72) → j ≠ 72 → j ≠ 73 → j ≠ 74 → j ≠ 75 → j ≠ 76 → j ≠ 77 → j ≠ 78 → j ≠ 79 → j ≠ 80 → j ≠ 81 → ¬ (82 ≤ j ∧ j < 86) → j ≠ 86 → ¬ (87 ≤ j ∧ j < 91) → j ≠ 91 → j ≠ 92 → j ≠ 93 → j ≠ 94 → j ≠ 95 → j ≠ 96 → j ≠ 97 → j ≠ 98 → j ≠ 99 → j ≠ 100 → j ≠ 101 → j ≠ 102 → j ≠ 103 → j ≠ 104 → j ≠ 105 → j ≠ 106 → j ≠ 107 → j ≠ 108 → j ≠ 109 → j ≠ 110 → j ≠ 111 → j ≠ 112 → j ≠ 113 → j ≠ 114 → mem274 j = mem j := fun j c0 c1 c2 c3 c4 c5 c6 c7 c8 c9 c10 c11 c12 c13 c14 c15 c16 c17 c18 c19 c20 c21 c22 c23 c24 c25 c26 c27 c28 c29 c30 c31 c32 c33 c34 c35 c36 c37 c38 c39 c40 c41 c42 c43 c44 c45 c46 c47 c48 => (k276 j (by omega)).trans (hfr253 j c0 c1 c2 c3 c4 c5 c6 c7 c8 c9 c10 c11 c12 c13 c14 c15 c16 c17 c18 c19 c20 c21 c22 c23 c24 c25 c26 c27 c28 c29 c30 c31 c32 c33 c34 c35 c36 c37 c38 c39 c40 c41 c42 c43 c44 c45 c46 c47 c48)
  have f278 : mem274 1 = .inr (0, [.ref (b + 2), .ref (b + 19), .ref (b + 20), .ref (b + 37), .ref (b + 38), .int (nI 0)]) := (k276 _ (by decide)).trans f255
  have f279 : mem274 2 = aR Γ 7 16 (fun i => some (b + (3 + i))) := (k276 _ (by decide)).trans f256
  have f280 : mem274 19 = aN Γ 16 (fun _ => 0) := (k276 _ (by decide)).trans f257
  have f281 : mem274 20 = aR Γ 8 16 (fun i => some (b + (21 + i))) := (k276 _ (by decide)).trans f258
  have f282 : mem274 37 = aR Γ 6 16 (fun i => some (b + (40 + 2 * i))) := (k276 _ (by decide)).trans f259
  have f283 : mem274 38 = .inr (6, [.ref (b + 39), .int (nI 4), .int (nI 0)]) := (k276 _ (by decide)).trans f260
  have f284 : mem274 39 = aF Γ 16 (fun _ => FP.fconst0) := (k276 _ (by decide)).trans f261
  have f285 : mem274 72 = .inr (5, [.ref (b + 73), .ref (b + 74), .int (nI 0)]) := (k276 _ (by decide)).trans f262
  have f286 : mem274 73 = aN Γ 4 (fun _ => 0) := (k276 _ (by decide)).trans f263
  have f287 : mem274 74 = aN Γ 4 (fun _ => 0) := (k276 _ (by decide)).trans f264
  have f288 : mem274 75 = .inr (5, [.ref (b + 76), .ref (b + 77), .int (nI 0)]) := (k276 _ (by decide)).trans f265
  have f289 : mem274 76 = aN Γ 4 (fun _ => 0) := (k276 _ (by decide)).trans f266
  have f290 : mem274 77 = aN Γ 4 (fun _ => 0) := (k276 _ (by decide)).trans f267
  have f291 : mem274 78 = .inr (6, [.ref (b + 79), .int (nI 3), .int (nI 0)]) := (k276 _ (by decide)).trans f268
  have f292 : mem274 79 = aF Γ 12 (fun _ => FP.fconst0) := (k276 _ (by decide)).trans f269
  have f293 : mem274 80 = .inr (3, [.ref (b + 81), .ref (b + 86), .int (nI 0)]) := (k276 _ (by decide)).trans f247
  have f294 : mem274 81 = aR Γ 9 4 (fun i => some (b + (82 + i))) := (k276 _ (by decide)).trans f248
  have f295 : mem274 86 = aR Γ 9 4 (fun i => some (b + (87 + i))) := (k276 _ (by decide)).trans f250
  have f296 : ∀ z9, z9 < 16 → mem274 (3 + z9) = aN Γ 12 ((fun _ _ => 0) z9) := fun z9 hz9 => (k276 _ (by omega)).trans (f270 z9 hz9)
  have f297 : ∀ z9, z9 < 16 → mem274 (21 + z9) = aF Γ 12 ((fun _ _ => FP.fconst0) z9) := fun z9 hz9 => (k276 _ (by omega)).trans (f271 z9 hz9)
  have f298 : ∀ z9, z9 < 16 → mem274 (40 + 2 * z9) = .inr (6, [.ref (b + (40 + 2 * z9 + 1)), .int (nI 4), .int (nI ((fun _ => 0) z9))]) := fun z9 hz9 => (k276 _ (by omega)).trans (f272 z9 hz9)
  have f299 : ∀ z9, z9 < 16 → mem274 (40 + 2 * z9 + 1) = aF Γ 16 ((fun _ _ => FP.fconst0) z9) := fun z9 hz9 => (k276 _ (by omega)).trans (f273 z9 hz9)
  have f300 : ∀ z9, z9 < 4 → mem274 (82 + z9) = aD Γ 16 ((fun _ _ => FP.dconst0) z9) := fun z9 hz9 => (k276 _ (by omega)).trans (f249 z9 hz9)
  have f301 : ∀ z9, z9 < 4 → mem274 (87 + z9) = aD Γ 4 ((fun _ _ => FP.dconst0) z9) := fun z9 hz9 => (k276 _ (by omega)).trans (f251 z9 hz9)
  refine lv_aload_n hx hb dX9_init_60 rfl (lv_at hl 0 rfl) ?_
  refine mn_new (ci := 7) (fs := [.null, .null, .null, .int (bI false)]) hx hb hE hown (uw_X8 hE.2.1 args) tyX8 tyX8_ok (wc_X9_42 hE.2.1 args) (wi_X8 hE.2.1 args) (wn_X8 hE.2.1 args) rfl (by decide +kernel) (by omega) hh (by show _ ≤ 114; omega) (by show _ ≤ 1186; omega) dX9_init_61 (fun H mem302 f303 k304 hh => ?_)
  have hfr305 : ∀ j, j ≠ 0 → j ≠ 1 → j ≠ 2 → ¬ (3 ≤ j ∧ j < 19) → j ≠ 19 → j ≠ 20 → ¬ (21 ≤ j ∧ j < 37) → j ≠ 37 → j ≠ 38 → j ≠ 39 → ¬ (40 ≤ j ∧ j < 71) → ¬ (41 ≤ j ∧ j < 72) → j ≠ 72 → j ≠ 73 → j ≠ 74 → j ≠ 75 → j ≠ 76 → j ≠ 77 → j ≠ 78 → j ≠ 79 → j ≠ 80 → j ≠ 81 → ¬ (82 ≤ j ∧ j < 86) → j ≠ 86 → ¬ (87 ≤ j ∧ j < 91) → j ≠ 91 → j ≠ 92 → j ≠ 93 → j ≠ 94 → j ≠ 95 → j ≠ 96 → j ≠ 97 → j ≠ 98 → j ≠ 99 → j ≠ 100 → j ≠ 101 → j ≠ 102 → j ≠ 103 → j ≠ 104 → j ≠ 105 → j ≠ 106 → j ≠ 107 → j ≠ 108 → j ≠ 109 → j ≠ 110 → j ≠ 111 → j ≠ 112 → j ≠ 113 → j ≠ 114 → mem302 j = mem j := fun j c0 c1 c2 c3 c4 c5 c6 c7 c8 c9 c10 c11 c12 c13 c14 c15 c16 c17 c18 c19 c20 c21 c22 c23 c24 c25 c26 c27 c28 c29 c30 c31 c32 c33 c34 c35 c36 c37 c38 c39 c40 c41 c42 c43 c44 c45 c46 c47 c48 => (k304 j (by omega)).trans (hfr277 j c0 c1 c2 c3 c4 c5 c6 c7 c8 c9 c10 c11 c12 c13 c14 c15 c16 c17 c18 c19 c20 c21 c22 c23 c24 c25 c26 c27 c28 c29 c30 c31 c32 c33 c34 c35 c36 c37 c38 c39 c40 c41 c42 c43 c44 c45 c46 c47 c48)
  have f306 : mem302 0 = .inr (8, [.ref (b + 1), .ref (b + 72), .ref (b + 75), .ref (b + 78), .ref (b + 80), .null, .null, .null, .null]) := (k304 _ (by decide)).trans f275
  have f307 : mem302 1 = .inr (0, [.ref (b + 2), .ref (b + 19), .ref (b + 20), .ref (b + 37), .ref (b + 38), .int (nI 0)]) := (k304 _ (by decide)).trans f278
  have f308 : mem302 2 = aR Γ 7 16 (fun i => some (b + (3 + i))) := (k304 _ (by decide)).trans f279
  have f309 : mem302 19 = aN Γ 16 (fun _ => 0) := (k304 _ (by decide)).trans f280
  have f310 : mem302 20 = aR Γ 8 16 (fun i => some (b + (21 + i))) := (k304 _ (by decide)).trans f281
  have f311 : mem302 37 = aR Γ 6 16 (fun i => some (b + (40 + 2 * i))) := (k304 _ (by decide)).trans f282
  have f312 : mem302 38 = .inr (6, [.ref (b + 39), .int (nI 4), .int (nI 0)]) := (k304 _ (by decide)).trans f283
  have f313 : mem302 39 = aF Γ 16 (fun _ => FP.fconst0) := (k304 _ (by decide)).trans f284
  have f314 : mem302 72 = .inr (5, [.ref (b + 73), .ref (b + 74), .int (nI 0)]) := (k304 _ (by decide)).trans f285
  have f315 : mem302 73 = aN Γ 4 (fun _ => 0) := (k304 _ (by decide)).trans f286
  have f316 : mem302 74 = aN Γ 4 (fun _ => 0) := (k304 _ (by decide)).trans f287
  have f317 : mem302 75 = .inr (5, [.ref (b + 76), .ref (b + 77), .int (nI 0)]) := (k304 _ (by decide)).trans f288
  have f318 : mem302 76 = aN Γ 4 (fun _ => 0) := (k304 _ (by decide)).trans f289
  have f319 : mem302 77 = aN Γ 4 (fun _ => 0) := (k304 _ (by decide)).trans f290
  have f320 : mem302 78 = .inr (6, [.ref (b + 79), .int (nI 3), .int (nI 0)]) := (k304 _ (by decide)).trans f291
  have f321 : mem302 79 = aF Γ 12 (fun _ => FP.fconst0) := (k304 _ (by decide)).trans f292
  have f322 : mem302 80 = .inr (3, [.ref (b + 81), .ref (b + 86), .int (nI 0)]) := (k304 _ (by decide)).trans f293
  have f323 : mem302 81 = aR Γ 9 4 (fun i => some (b + (82 + i))) := (k304 _ (by decide)).trans f294
  have f324 : mem302 86 = aR Γ 9 4 (fun i => some (b + (87 + i))) := (k304 _ (by decide)).trans f295
  have f325 : ∀ z9, z9 < 16 → mem302 (3 + z9) = aN Γ 12 ((fun _ _ => 0) z9) := fun z9 hz9 => (k304 _ (by omega)).trans (f296 z9 hz9)
  have f326 : ∀ z9, z9 < 16 → mem302 (21 + z9) = aF Γ 12 ((fun _ _ => FP.fconst0) z9) := fun z9 hz9 => (k304 _ (by omega)).trans (f297 z9 hz9)
  have f327 : ∀ z9, z9 < 16 → mem302 (40 + 2 * z9) = .inr (6, [.ref (b + (40 + 2 * z9 + 1)), .int (nI 4), .int (nI ((fun _ => 0) z9))]) := fun z9 hz9 => (k304 _ (by omega)).trans (f298 z9 hz9)
  have f328 : ∀ z9, z9 < 16 → mem302 (40 + 2 * z9 + 1) = aF Γ 16 ((fun _ _ => FP.fconst0) z9) := fun z9 hz9 => (k304 _ (by omega)).trans (f299 z9 hz9)
  have f329 : ∀ z9, z9 < 4 → mem302 (82 + z9) = aD Γ 16 ((fun _ _ => FP.dconst0) z9) := fun z9 hz9 => (k304 _ (by omega)).trans (f300 z9 hz9)
  have f330 : ∀ z9, z9 < 4 → mem302 (87 + z9) = aD Γ 4 ((fun _ _ => FP.dconst0) z9) := fun z9 hz9 => (k304 _ (by omega)).trans (f301 z9 hz9)
  have hh : GH Γ b (92) mem302 s _ _ := hh
  refine lv_dup hx hb dX9_init_64 rfl ?_
  refine lv_aload_n hx hb dX9_init_65 rfl (lv_at hl 0 rfl) ?_
  refine gf_X9_collection hx hb hE hown hh (by omega) f306 rfl dX9_init_66 ?_
  refine lv_aload_n hx hb dX9_init_69 rfl (lv_at hl 0 rfl) ?_
  refine gf_X9_vectors hx hb hE hown hh (by omega) f306 rfl dX9_init_70 ?_
  refine mn_I (As := [.ref (b + 1), .ref (b + 78)]) (rest := [.ref (b + 91), .ref (b + 0)]) (mc := 1) (ms := 4) hx hb hml hown hE hl.1 (by omega) hh (kc_X9_44 hE.2.1 ⟨Nat.le_of_ble_eq_true rfl, Nat.le_of_ble_eq_true rfl⟩) (c_X8_init l Γ b mem302 f303) rfl rfl (Nat.le_of_ble_eq_true rfl) dX9_init_73 rfl rfl ⟨by show _ ≤ 114; omega, by show _ ≤ 1186; omega⟩ (fun H locs mem331 hP332 hh => ?_)
  obtain ⟨f333, f334, k335⟩ := hP332
  have hfr336 : ∀ j, j ≠ 0 → j ≠ 1 → j ≠ 2 → ¬ (3 ≤ j ∧ j < 19) → j ≠ 19 → j ≠ 20 → ¬ (21 ≤ j ∧ j < 37) → j ≠ 37 → j ≠ 38 → j ≠ 39 → ¬ (40 ≤ j ∧ j < 71) → ¬ (41 ≤ j ∧ j < 72) → j ≠ 72 → j ≠ 73 → j ≠ 74 → j ≠ 75 → j ≠ 76 → j ≠ 77 → j ≠ 78 → j ≠ 79 → j ≠ 80 → j ≠ 81 → ¬ (82 ≤ j ∧ j < 86) → j ≠ 86 → ¬ (87 ≤ j ∧ j < 91) → j ≠ 91 → j ≠ 92 → j ≠ 93 → j ≠ 94 → j ≠ 95 → j ≠ 96 → j ≠ 97 → j ≠ 98 → j ≠ 99 → j ≠ 100 → j ≠ 101 → j ≠ 102 → j ≠ 103 → j ≠ 104 → j ≠ 105 → j ≠ 106 → j ≠ 107 → j ≠ 108 → j ≠ 109 → j ≠ 110 → j ≠ 111 → j ≠ 112 → j ≠ 113 → j ≠ 114 → mem331 j = mem j := fun j c0 c1 c2 c3 c4 c5 c6 c7 c8 c9 c10 c11 c12 c13 c14 c15 c16 c17 c18 c19 c20 c21 c22 c23 c24 c25 c26 c27 c28 c29 c30 c31 c32 c33 c34 c35 c36 c37 c38 c39 c40 c41 c42 c43 c44 c45 c46 c47 c48 => (k335 j (by omega) (by omega)).trans (hfr305 j c0 c1 c2 c3 c4 c5 c6 c7 c8 c9 c10 c11 c12 c13 c14 c15 c16 c17 c18 c19 c20 c21 c22 c23 c24 c25 c26 c27 c28 c29 c30 c31 c32 c33 c34 c35 c36 c37 c38 c39 c40 c41 c42 c43 c44 c45 c46 c47 c48)
  have f337 : mem331 0 = .inr (8, [.ref (b + 1), .ref (b + 72), .ref (b + 75), .ref (b + 78), .ref (b + 80), .null, .null, .null, .null]) := (k335 _ (by decide) (by decide)).trans f306
  have f338 : mem331 1 = .inr (0, [.ref (b + 2), .ref (b + 19), .ref (b + 20), .ref (b + 37), .ref (b + 38), .int (nI 0)]) := (k335 _ (by decide) (by decide)).trans f307
  have f339 : mem331 2 = aR Γ 7 16 (fun i => some (b + (3 + i))) := (k335 _ (by decide) (by decide)).trans f308
  have f340 : mem331 19 = aN Γ 16 (fun _ => 0) := (k335 _ (by decide) (by decide)).trans f309
  have f341 : mem331 20 = aR Γ 8 16 (fun i => some (b + (21 + i))) := (k335 _ (by decide) (by decide)).trans f310
  have f342 : mem331 37 = aR Γ 6 16 (fun i => some (b + (40 + 2 * i))) := (k335 _ (by decide) (by decide)).trans f311
  have f343 : mem331 38 = .inr (6, [.ref (b + 39), .int (nI 4), .int (nI 0)]) := (k335 _ (by decide) (by decide)).trans f312
  have f344 : mem331 39 = aF Γ 16 (fun _ => FP.fconst0) := (k335 _ (by decide) (by decide)).trans f313
  have f345 : mem331 72 = .inr (5, [.ref (b + 73), .ref (b + 74), .int (nI 0)]) := (k335 _ (by decide) (by decide)).trans f314
  have f346 : mem331 73 = aN Γ 4 (fun _ => 0) := (k335 _ (by decide) (by decide)).trans f315
  have f347 : mem331 74 = aN Γ 4 (fun _ => 0) := (k335 _ (by decide) (by decide)).trans f316
  have f348 : mem331 75 = .inr (5, [.ref (b + 76), .ref (b + 77), .int (nI 0)]) := (k335 _ (by decide) (by decide)).trans f317
  have f349 : mem331 76 = aN Γ 4 (fun _ => 0) := (k335 _ (by decide) (by decide)).trans f318
  have f350 : mem331 77 = aN Γ 4 (fun _ => 0) := (k335 _ (by decide) (by decide)).trans f319
  have f351 : mem331 78 = .inr (6, [.ref (b + 79), .int (nI 3), .int (nI 0)]) := (k335 _ (by decide) (by decide)).trans f320
  have f352 : mem331 79 = aF Γ 12 (fun _ => FP.fconst0) := (k335 _ (by decide) (by decide)).trans f321
  have f353 : mem331 80 = .inr (3, [.ref (b + 81), .ref (b + 86), .int (nI 0)]) := (k335 _ (by decide) (by decide)).trans f322
  have f354 : mem331 81 = aR Γ 9 4 (fun i => some (b + (82 + i))) := (k335 _ (by decide) (by decide)).trans f323
  have f355 : mem331 86 = aR Γ 9 4 (fun i => some (b + (87 + i))) := (k335 _ (by decide) (by decide)).trans f324
  have f356 : ∀ z9, z9 < 16 → mem331 (3 + z9) = aN Γ 12 ((fun _ _ => 0) z9) := fun z9 hz9 => (k335 _ (by omega) (by omega)).trans (f325 z9 hz9)
  have f357 : ∀ z9, z9 < 16 → mem331 (21 + z9) = aF Γ 12 ((fun _ _ => FP.fconst0) z9) := fun z9 hz9 => (k335 _ (by omega) (by omega)).trans (f326 z9 hz9)
  have f358 : ∀ z9, z9 < 16 → mem331 (40 + 2 * z9) = .inr (6, [.ref (b + (40 + 2 * z9 + 1)), .int (nI 4), .int (nI ((fun _ => 0) z9))]) := fun z9 hz9 => (k335 _ (by omega) (by omega)).trans (f327 z9 hz9)
  have f359 : ∀ z9, z9 < 16 → mem331 (40 + 2 * z9 + 1) = aF Γ 16 ((fun _ _ => FP.fconst0) z9) := fun z9 hz9 => (k335 _ (by omega) (by omega)).trans (f328 z9 hz9)
  have f360 : ∀ z9, z9 < 4 → mem331 (82 + z9) = aD Γ 16 ((fun _ _ => FP.dconst0) z9) := fun z9 hz9 => (k335 _ (by omega) (by omega)).trans (f329 z9 hz9)
  have f361 : ∀ z9, z9 < 4 → mem331 (87 + z9) = aD Γ 4 ((fun _ _ => FP.dconst0) z9) := fun z9 hz9 => (k335 _ (by omega) (by omega)).trans (f330 z9 hz9)
  have hh : GH Γ b (93) mem331 s _ _ := hh
  refine gq_X9_nearness (fs' := [.ref (b + 1), .ref (b + 72), .ref (b + 75), .ref (b + 78), .ref (b + 80), .ref (b + 91), .null, .null, .null]) hx hb hE hown hname hh (by omega) f337 rfl rfl (show 5 < 9 by decide) rfl dX9_init_76 (fun H locs mem362 f363 k364 hh => ?_)
  have hfr365 : ∀ j, j ≠ 0 → j ≠ 1 → j ≠ 2 → ¬ (3 ≤ j ∧ j < 19) → j ≠ 19 → j ≠ 20 → ¬ (21 ≤ j ∧ j < 37) → j ≠ 37 → j ≠ 38 → j ≠ 39 → ¬ (40 ≤ j ∧ j < 71) → ¬ (41 ≤ j ∧ j < 72) → j ≠ 72 → j ≠ 73 → j ≠ 74 → j ≠ 75 → j ≠ 76 → j ≠ 77 → j ≠ 78 → j ≠ 79 → j ≠ 80 → j ≠ 81 → ¬ (82 ≤ j ∧ j < 86) → j ≠ 86 → ¬ (87 ≤ j ∧ j < 91) → j ≠ 91 → j ≠ 92 → j ≠ 93 → j ≠ 94 → j ≠ 95 → j ≠ 96 → j ≠ 97 → j ≠ 98 → j ≠ 99 → j ≠ 100 → j ≠ 101 → j ≠ 102 → j ≠ 103 → j ≠ 104 → j ≠ 105 → j ≠ 106 → j ≠ 107 → j ≠ 108 → j ≠ 109 → j ≠ 110 → j ≠ 111 → j ≠ 112 → j ≠ 113 → j ≠ 114 → mem362 j = mem j := fun j c0 c1 c2 c3 c4 c5 c6 c7 c8 c9 c10 c11 c12 c13 c14 c15 c16 c17 c18 c19 c20 c21 c22 c23 c24 c25 c26 c27 c28 c29 c30 c31 c32 c33 c34 c35 c36 c37 c38 c39 c40 c41 c42 c43 c44 c45 c46 c47 c48 => (k364 j (by omega)).trans (hfr336 j c0 c1 c2 c3 c4 c5 c6 c7 c8 c9 c10 c11 c12 c13 c14 c15 c16 c17 c18 c19 c20 c21 c22 c23 c24 c25 c26 c27 c28 c29 c30 c31 c32 c33 c34 c35 c36 c37 c38 c39 c40 c41 c42 c43 c44 c45 c46 c47 c48)
  have f366 : mem362 1 = .inr (0, [.ref (b + 2), .ref (b + 19), .ref (b + 20), .ref (b + 37), .ref (b + 38), .int (nI 0)]) := (k364 _ (by decide)).trans f338
  have f367 : mem362 2 = aR Γ 7 16 (fun i => some (b + (3 + i))) := (k364 _ (by decide)).trans f339
  have f368 : mem362 19 = aN Γ 16 (fun _ => 0) := (k364 _ (by decide)).trans f340
  have f369 : mem362 20 = aR Γ 8 16 (fun i => some (b + (21 + i))) := (k364 _ (by decide)).trans f341
  have f370 : mem362 37 = aR Γ 6 16 (fun i => some (b + (40 + 2 * i))) := (k364 _ (by decide)).trans f342
  have f371 : mem362 38 = .inr (6, [.ref (b + 39), .int (nI 4), .int (nI 0)]) := (k364 _ (by decide)).trans f343
  have f372 : mem362 39 = aF Γ 16 (fun _ => FP.fconst0) := (k364 _ (by decide)).trans f344
  have f373 : mem362 72 = .inr (5, [.ref (b + 73), .ref (b + 74), .int (nI 0)]) := (k364 _ (by decide)).trans f345
  have f374 : mem362 73 = aN Γ 4 (fun _ => 0) := (k364 _ (by decide)).trans f346
  have f375 : mem362 74 = aN Γ 4 (fun _ => 0) := (k364 _ (by decide)).trans f347
  have f376 : mem362 75 = .inr (5, [.ref (b + 76), .ref (b + 77), .int (nI 0)]) := (k364 _ (by decide)).trans f348
  have f377 : mem362 76 = aN Γ 4 (fun _ => 0) := (k364 _ (by decide)).trans f349
  have f378 : mem362 77 = aN Γ 4 (fun _ => 0) := (k364 _ (by decide)).trans f350
  have f379 : mem362 78 = .inr (6, [.ref (b + 79), .int (nI 3), .int (nI 0)]) := (k364 _ (by decide)).trans f351
  have f380 : mem362 79 = aF Γ 12 (fun _ => FP.fconst0) := (k364 _ (by decide)).trans f352
  have f381 : mem362 80 = .inr (3, [.ref (b + 81), .ref (b + 86), .int (nI 0)]) := (k364 _ (by decide)).trans f353
  have f382 : mem362 81 = aR Γ 9 4 (fun i => some (b + (82 + i))) := (k364 _ (by decide)).trans f354
  have f383 : mem362 86 = aR Γ 9 4 (fun i => some (b + (87 + i))) := (k364 _ (by decide)).trans f355
  have f384 : mem362 91 = .inr (7, [.ref (b + 1), .ref (b + 78), .ref (b + 92), .int (bI false)]) := (k364 _ (by decide)).trans f333
  have f385 : mem362 92 = aB Γ 4 (fun _ => false) := (k364 _ (by decide)).trans f334
  have f386 : ∀ z9, z9 < 16 → mem362 (3 + z9) = aN Γ 12 ((fun _ _ => 0) z9) := fun z9 hz9 => (k364 _ (by omega)).trans (f356 z9 hz9)
  have f387 : ∀ z9, z9 < 16 → mem362 (21 + z9) = aF Γ 12 ((fun _ _ => FP.fconst0) z9) := fun z9 hz9 => (k364 _ (by omega)).trans (f357 z9 hz9)
  have f388 : ∀ z9, z9 < 16 → mem362 (40 + 2 * z9) = .inr (6, [.ref (b + (40 + 2 * z9 + 1)), .int (nI 4), .int (nI ((fun _ => 0) z9))]) := fun z9 hz9 => (k364 _ (by omega)).trans (f358 z9 hz9)
  have f389 : ∀ z9, z9 < 16 → mem362 (40 + 2 * z9 + 1) = aF Γ 16 ((fun _ _ => FP.fconst0) z9) := fun z9 hz9 => (k364 _ (by omega)).trans (f359 z9 hz9)
  have f390 : ∀ z9, z9 < 4 → mem362 (82 + z9) = aD Γ 16 ((fun _ _ => FP.dconst0) z9) := fun z9 hz9 => (k364 _ (by omega)).trans (f360 z9 hz9)
  have f391 : ∀ z9, z9 < 4 → mem362 (87 + z9) = aD Γ 4 ((fun _ _ => FP.dconst0) z9) := fun z9 hz9 => (k364 _ (by omega)).trans (f361 z9 hz9)
  refine lv_aload_n hx hb dX9_init_79 rfl (lv_at hl 0 rfl) ?_
  refine mn_new (ci := 4) (fs := [.null, .null, .int (nI 0), .int (nI 0)]) hx hb hE hown (uw_X4 hE.2.1 args) tyX4 tyX4_ok (wc_X9_51 hE.2.1 args) (wi_X4 hE.2.1 args) (wn_X4 hE.2.1 args) rfl (by decide +kernel) (by omega) hh (by show _ ≤ 114; omega) (by show _ ≤ 1186; omega) dX9_init_80 (fun H mem392 f393 k394 hh => ?_)
  have hfr395 : ∀ j, j ≠ 0 → j ≠ 1 → j ≠ 2 → ¬ (3 ≤ j ∧ j < 19) → j ≠ 19 → j ≠ 20 → ¬ (21 ≤ j ∧ j < 37) → j ≠ 37 → j ≠ 38 → j ≠ 39 → ¬ (40 ≤ j ∧ j < 71) → ¬ (41 ≤ j ∧ j < 72) → j ≠ 72 → j ≠ 73 → j ≠ 74 → j ≠ 75 → j ≠ 76 → j ≠ 77 → j ≠ 78 → j ≠ 79 → j ≠ 80 → j ≠ 81 → ¬ (82 ≤ j ∧ j < 86) → j ≠ 86 → ¬ (87 ≤ j ∧ j < 91) → j ≠ 91 → j ≠ 92 → j ≠ 93 → j ≠ 94 → j ≠ 95 → j ≠ 96 → j ≠ 97 → j ≠ 98 → j ≠ 99 → j ≠ 100 → j ≠ 101 → j ≠ 102 → j ≠ 103 → j ≠ 104 → j ≠ 105 → j ≠ 106 → j ≠ 107 → j ≠ 108 → j ≠ 109 → j ≠ 110 → j ≠ 111 → j ≠ 112 → j ≠ 113 → j ≠ 114 → mem392 j = mem j := fun j c0 c1 c2 c3 c4 c5 c6 c7 c8 c9 c10 c11 c12 c13 c14 c15 c16 c17 c18 c19 c20 c21 c22 c23 c24 c25 c26 c27 c28 c29 c30 c31 c32 c33 c34 c35 c36 c37 c38 c39 c40 c41 c42 c43 c44 c45 c46 c47 c48 => (k394 j (by omega)).trans (hfr365 j c0 c1 c2 c3 c4 c5 c6 c7 c8 c9 c10 c11 c12 c13 c14 c15 c16 c17 c18 c19 c20 c21 c22 c23 c24 c25 c26 c27 c28 c29 c30 c31 c32 c33 c34 c35 c36 c37 c38 c39 c40 c41 c42 c43 c44 c45 c46 c47 c48)
  have f396 : mem392 0 = .inr (8, [.ref (b + 1), .ref (b + 72), .ref (b + 75), .ref (b + 78), .ref (b + 80), .ref (b + 91), .null, .null, .null]) := (k394 _ (by decide)).trans f363
  have f397 : mem392 1 = .inr (0, [.ref (b + 2), .ref (b + 19), .ref (b + 20), .ref (b + 37), .ref (b + 38), .int (nI 0)]) := (k394 _ (by decide)).trans f366
  have f398 : mem392 2 = aR Γ 7 16 (fun i => some (b + (3 + i))) := (k394 _ (by decide)).trans f367
  have f399 : mem392 19 = aN Γ 16 (fun _ => 0) := (k394 _ (by decide)).trans f368
  have f400 : mem392 20 = aR Γ 8 16 (fun i => some (b + (21 + i))) := (k394 _ (by decide)).trans f369
  have f401 : mem392 37 = aR Γ 6 16 (fun i => some (b + (40 + 2 * i))) := (k394 _ (by decide)).trans f370
  have f402 : mem392 38 = .inr (6, [.ref (b + 39), .int (nI 4), .int (nI 0)]) := (k394 _ (by decide)).trans f371
  have f403 : mem392 39 = aF Γ 16 (fun _ => FP.fconst0) := (k394 _ (by decide)).trans f372
  have f404 : mem392 72 = .inr (5, [.ref (b + 73), .ref (b + 74), .int (nI 0)]) := (k394 _ (by decide)).trans f373
  have f405 : mem392 73 = aN Γ 4 (fun _ => 0) := (k394 _ (by decide)).trans f374
  have f406 : mem392 74 = aN Γ 4 (fun _ => 0) := (k394 _ (by decide)).trans f375
  have f407 : mem392 75 = .inr (5, [.ref (b + 76), .ref (b + 77), .int (nI 0)]) := (k394 _ (by decide)).trans f376
  have f408 : mem392 76 = aN Γ 4 (fun _ => 0) := (k394 _ (by decide)).trans f377
  have f409 : mem392 77 = aN Γ 4 (fun _ => 0) := (k394 _ (by decide)).trans f378
  have f410 : mem392 78 = .inr (6, [.ref (b + 79), .int (nI 3), .int (nI 0)]) := (k394 _ (by decide)).trans f379
  have f411 : mem392 79 = aF Γ 12 (fun _ => FP.fconst0) := (k394 _ (by decide)).trans f380
  have f412 : mem392 80 = .inr (3, [.ref (b + 81), .ref (b + 86), .int (nI 0)]) := (k394 _ (by decide)).trans f381
  have f413 : mem392 81 = aR Γ 9 4 (fun i => some (b + (82 + i))) := (k394 _ (by decide)).trans f382
  have f414 : mem392 86 = aR Γ 9 4 (fun i => some (b + (87 + i))) := (k394 _ (by decide)).trans f383
  have f415 : mem392 91 = .inr (7, [.ref (b + 1), .ref (b + 78), .ref (b + 92), .int (bI false)]) := (k394 _ (by decide)).trans f384
  have f416 : mem392 92 = aB Γ 4 (fun _ => false) := (k394 _ (by decide)).trans f385
  have f417 : ∀ z9, z9 < 16 → mem392 (3 + z9) = aN Γ 12 ((fun _ _ => 0) z9) := fun z9 hz9 => (k394 _ (by omega)).trans (f386 z9 hz9)
  have f418 : ∀ z9, z9 < 16 → mem392 (21 + z9) = aF Γ 12 ((fun _ _ => FP.fconst0) z9) := fun z9 hz9 => (k394 _ (by omega)).trans (f387 z9 hz9)
  have f419 : ∀ z9, z9 < 16 → mem392 (40 + 2 * z9) = .inr (6, [.ref (b + (40 + 2 * z9 + 1)), .int (nI 4), .int (nI ((fun _ => 0) z9))]) := fun z9 hz9 => (k394 _ (by omega)).trans (f388 z9 hz9)
  have f420 : ∀ z9, z9 < 16 → mem392 (40 + 2 * z9 + 1) = aF Γ 16 ((fun _ _ => FP.fconst0) z9) := fun z9 hz9 => (k394 _ (by omega)).trans (f389 z9 hz9)
  have f421 : ∀ z9, z9 < 4 → mem392 (82 + z9) = aD Γ 16 ((fun _ _ => FP.dconst0) z9) := fun z9 hz9 => (k394 _ (by omega)).trans (f390 z9 hz9)
  have f422 : ∀ z9, z9 < 4 → mem392 (87 + z9) = aD Γ 4 ((fun _ _ => FP.dconst0) z9) := fun z9 hz9 => (k394 _ (by omega)).trans (f391 z9 hz9)
  have hh : GH Γ b (94) mem392 s _ _ := hh
  refine lv_dup hx hb dX9_init_83 rfl ?_
  refine mn_IN (As := []) (rest := [.ref (b + 93), .ref (b + 0)]) (mc := 2) (ms := 40) hx hb hml hown hE hl.1 (by omega) hh (kc_X9_53 hE.2.1 hE.2.2.1 ⟨Nat.le_of_ble_eq_true rfl, Nat.le_of_ble_eq_true rfl⟩) (c_X4_init l Γ b mem392 (a := 93) f393) rfl rfl (Nat.le_of_ble_eq_true rfl) dX9_init_84 rfl rfl ⟨by show _ ≤ 114; omega, by show _ ≤ 1186; omega⟩ (fun H locs mem423 hP424 hh => ?_)
  obtain ⟨f425, f426, f427, k428⟩ := hP424
  have hfr429 : ∀ j, j ≠ 0 → j ≠ 1 → j ≠ 2 → ¬ (3 ≤ j ∧ j < 19) → j ≠ 19 → j ≠ 20 → ¬ (21 ≤ j ∧ j < 37) → j ≠ 37 → j ≠ 38 → j ≠ 39 → ¬ (40 ≤ j ∧ j < 71) → ¬ (41 ≤ j ∧ j < 72) → j ≠ 72 → j ≠ 73 → j ≠ 74 → j ≠ 75 → j ≠ 76 → j ≠ 77 → j ≠ 78 → j ≠ 79 → j ≠ 80 → j ≠ 81 → ¬ (82 ≤ j ∧ j < 86) → j ≠ 86 → ¬ (87 ≤ j ∧ j < 91) → j ≠ 91 → j ≠ 92 → j ≠ 93 → j ≠ 94 → j ≠ 95 → j ≠ 96 → j ≠ 97 → j ≠ 98 → j ≠ 99 → j ≠ 100 → j ≠ 101 → j ≠ 102 → j ≠ 103 → j ≠ 104 → j ≠ 105 → j ≠ 106 → j ≠ 107 → j ≠ 108 → j ≠ 109 → j ≠ 110 → j ≠ 111 → j ≠ 112 → j ≠ 113 → j ≠ 114 → mem423 j = mem j := fun j c0 c1 c2 c3 c4 c5 c6 c7 c8 c9 c10 c11 c12 c13 c14 c15 c16 c17 c18 c19 c20 c21 c22 c23 c24 c25 c26 c27 c28 c29 c30 c31 c32 c33 c34 c35 c36 c37 c38 c39 c40 c41 c42 c43 c44 c45 c46 c47 c48 => (k428 j (by omega) (by omega) (by omega)).trans (hfr395 j c0 c1 c2 c3 c4 c5 c6 c7 c8 c9 c10 c11 c12 c13 c14 c15 c16 c17 c18 c19 c20 c21 c22 c23 c24 c25 c26 c27 c28 c29 c30 c31 c32 c33 c34 c35 c36 c37 c38 c39 c40 c41 c42 c43 c44 c45 c46 c47 c48)
  have f430 : mem423 0 = .inr (8, [.ref (b + 1), .ref (b + 72), .ref (b + 75), .ref (b + 78), .ref (b + 80), .ref (b + 91), .null, .null, .null]) := (k428 _ (by decide) (by decide) (by decide)).trans f396
  have f431 : mem423 1 = .inr (0, [.ref (b + 2), .ref (b + 19), .ref (b + 20), .ref (b + 37), .ref (b + 38), .int (nI 0)]) := (k428 _ (by decide) (by decide) (by decide)).trans f397
  have f432 : mem423 2 = aR Γ 7 16 (fun i => some (b + (3 + i))) := (k428 _ (by decide) (by decide) (by decide)).trans f398
  have f433 : mem423 19 = aN Γ 16 (fun _ => 0) := (k428 _ (by decide) (by decide) (by decide)).trans f399
  have f434 : mem423 20 = aR Γ 8 16 (fun i => some (b + (21 + i))) := (k428 _ (by decide) (by decide) (by decide)).trans f400
  have f435 : mem423 37 = aR Γ 6 16 (fun i => some (b + (40 + 2 * i))) := (k428 _ (by decide) (by decide) (by decide)).trans f401
  have f436 : mem423 38 = .inr (6, [.ref (b + 39), .int (nI 4), .int (nI 0)]) := (k428 _ (by decide) (by decide) (by decide)).trans f402
  have f437 : mem423 39 = aF Γ 16 (fun _ => FP.fconst0) := (k428 _ (by decide) (by decide) (by decide)).trans f403
  have f438 : mem423 72 = .inr (5, [.ref (b + 73), .ref (b + 74), .int (nI 0)]) := (k428 _ (by decide) (by decide) (by decide)).trans f404
  have f439 : mem423 73 = aN Γ 4 (fun _ => 0) := (k428 _ (by decide) (by decide) (by decide)).trans f405
  have f440 : mem423 74 = aN Γ 4 (fun _ => 0) := (k428 _ (by decide) (by decide) (by decide)).trans f406
  have f441 : mem423 75 = .inr (5, [.ref (b + 76), .ref (b + 77), .int (nI 0)]) := (k428 _ (by decide) (by decide) (by decide)).trans f407
  have f442 : mem423 76 = aN Γ 4 (fun _ => 0) := (k428 _ (by decide) (by decide) (by decide)).trans f408
  have f443 : mem423 77 = aN Γ 4 (fun _ => 0) := (k428 _ (by decide) (by decide) (by decide)).trans f409
  have f444 : mem423 78 = .inr (6, [.ref (b + 79), .int (nI 3), .int (nI 0)]) := (k428 _ (by decide) (by decide) (by decide)).trans f410
  have f445 : mem423 79 = aF Γ 12 (fun _ => FP.fconst0) := (k428 _ (by decide) (by decide) (by decide)).trans f411
  have f446 : mem423 80 = .inr (3, [.ref (b + 81), .ref (b + 86), .int (nI 0)]) := (k428 _ (by decide) (by decide) (by decide)).trans f412
  have f447 : mem423 81 = aR Γ 9 4 (fun i => some (b + (82 + i))) := (k428 _ (by decide) (by decide) (by decide)).trans f413
  have f448 : mem423 86 = aR Γ 9 4 (fun i => some (b + (87 + i))) := (k428 _ (by decide) (by decide) (by decide)).trans f414
  have f449 : mem423 91 = .inr (7, [.ref (b + 1), .ref (b + 78), .ref (b + 92), .int (bI false)]) := (k428 _ (by decide) (by decide) (by decide)).trans f415
  have f450 : mem423 92 = aB Γ 4 (fun _ => false) := (k428 _ (by decide) (by decide) (by decide)).trans f416
  have f451 : ∀ z9, z9 < 16 → mem423 (3 + z9) = aN Γ 12 ((fun _ _ => 0) z9) := fun z9 hz9 => (k428 _ (by omega) (by omega) (by omega)).trans (f417 z9 hz9)
  have f452 : ∀ z9, z9 < 16 → mem423 (21 + z9) = aF Γ 12 ((fun _ _ => FP.fconst0) z9) := fun z9 hz9 => (k428 _ (by omega) (by omega) (by omega)).trans (f418 z9 hz9)
  have f453 : ∀ z9, z9 < 16 → mem423 (40 + 2 * z9) = .inr (6, [.ref (b + (40 + 2 * z9 + 1)), .int (nI 4), .int (nI ((fun _ => 0) z9))]) := fun z9 hz9 => (k428 _ (by omega) (by omega) (by omega)).trans (f419 z9 hz9)
  have f454 : ∀ z9, z9 < 16 → mem423 (40 + 2 * z9 + 1) = aF Γ 16 ((fun _ _ => FP.fconst0) z9) := fun z9 hz9 => (k428 _ (by omega) (by omega) (by omega)).trans (f420 z9 hz9)
  have f455 : ∀ z9, z9 < 4 → mem423 (82 + z9) = aD Γ 16 ((fun _ _ => FP.dconst0) z9) := fun z9 hz9 => (k428 _ (by omega) (by omega) (by omega)).trans (f421 z9 hz9)
  have f456 : ∀ z9, z9 < 4 → mem423 (87 + z9) = aD Γ 4 ((fun _ _ => FP.dconst0) z9) := fun z9 hz9 => (k428 _ (by omega) (by omega) (by omega)).trans (f422 z9 hz9)
  have hh : GH Γ b (96) mem423 s _ _ := hh
  refine gq_X9_shardRanking (fs' := [.ref (b + 1), .ref (b + 72), .ref (b + 75), .ref (b + 78), .ref (b + 80), .ref (b + 91), .ref (b + 93), .null, .null]) hx hb hE hown hname hh (by omega) f430 rfl rfl (show 6 < 9 by decide) rfl dX9_init_87 (fun H locs mem457 f458 k459 hh => ?_)
  have hfr460 : ∀ j, j ≠ 0 → j ≠ 1 → j ≠ 2 → ¬ (3 ≤ j ∧ j < 19) → j ≠ 19 → j ≠ 20 → ¬ (21 ≤ j ∧ j < 37) → j ≠ 37 → j ≠ 38 → j ≠ 39 → ¬ (40 ≤ j ∧ j < 71) → ¬ (41 ≤ j ∧ j < 72) → j ≠ 72 → j ≠ 73 → j ≠ 74 → j ≠ 75 → j ≠ 76 → j ≠ 77 → j ≠ 78 → j ≠ 79 → j ≠ 80 → j ≠ 81 → ¬ (82 ≤ j ∧ j < 86) → j ≠ 86 → ¬ (87 ≤ j ∧ j < 91) → j ≠ 91 → j ≠ 92 → j ≠ 93 → j ≠ 94 → j ≠ 95 → j ≠ 96 → j ≠ 97 → j ≠ 98 → j ≠ 99 → j ≠ 100 → j ≠ 101 → j ≠ 102 → j ≠ 103 → j ≠ 104 → j ≠ 105 → j ≠ 106 → j ≠ 107 → j ≠ 108 → j ≠ 109 → j ≠ 110 → j ≠ 111 → j ≠ 112 → j ≠ 113 → j ≠ 114 → mem457 j = mem j := fun j c0 c1 c2 c3 c4 c5 c6 c7 c8 c9 c10 c11 c12 c13 c14 c15 c16 c17 c18 c19 c20 c21 c22 c23 c24 c25 c26 c27 c28 c29 c30 c31 c32 c33 c34 c35 c36 c37 c38 c39 c40 c41 c42 c43 c44 c45 c46 c47 c48 => (k459 j (by omega)).trans (hfr429 j c0 c1 c2 c3 c4 c5 c6 c7 c8 c9 c10 c11 c12 c13 c14 c15 c16 c17 c18 c19 c20 c21 c22 c23 c24 c25 c26 c27 c28 c29 c30 c31 c32 c33 c34 c35 c36 c37 c38 c39 c40 c41 c42 c43 c44 c45 c46 c47 c48)
  have f461 : mem457 1 = .inr (0, [.ref (b + 2), .ref (b + 19), .ref (b + 20), .ref (b + 37), .ref (b + 38), .int (nI 0)]) := (k459 _ (by decide)).trans f431
  have f462 : mem457 2 = aR Γ 7 16 (fun i => some (b + (3 + i))) := (k459 _ (by decide)).trans f432
  have f463 : mem457 19 = aN Γ 16 (fun _ => 0) := (k459 _ (by decide)).trans f433
  have f464 : mem457 20 = aR Γ 8 16 (fun i => some (b + (21 + i))) := (k459 _ (by decide)).trans f434
  have f465 : mem457 37 = aR Γ 6 16 (fun i => some (b + (40 + 2 * i))) := (k459 _ (by decide)).trans f435
  have f466 : mem457 38 = .inr (6, [.ref (b + 39), .int (nI 4), .int (nI 0)]) := (k459 _ (by decide)).trans f436
  have f467 : mem457 39 = aF Γ 16 (fun _ => FP.fconst0) := (k459 _ (by decide)).trans f437
  have f468 : mem457 72 = .inr (5, [.ref (b + 73), .ref (b + 74), .int (nI 0)]) := (k459 _ (by decide)).trans f438
  have f469 : mem457 73 = aN Γ 4 (fun _ => 0) := (k459 _ (by decide)).trans f439
  have f470 : mem457 74 = aN Γ 4 (fun _ => 0) := (k459 _ (by decide)).trans f440
  have f471 : mem457 75 = .inr (5, [.ref (b + 76), .ref (b + 77), .int (nI 0)]) := (k459 _ (by decide)).trans f441
  have f472 : mem457 76 = aN Γ 4 (fun _ => 0) := (k459 _ (by decide)).trans f442
  have f473 : mem457 77 = aN Γ 4 (fun _ => 0) := (k459 _ (by decide)).trans f443
  have f474 : mem457 78 = .inr (6, [.ref (b + 79), .int (nI 3), .int (nI 0)]) := (k459 _ (by decide)).trans f444
  have f475 : mem457 79 = aF Γ 12 (fun _ => FP.fconst0) := (k459 _ (by decide)).trans f445
  have f476 : mem457 80 = .inr (3, [.ref (b + 81), .ref (b + 86), .int (nI 0)]) := (k459 _ (by decide)).trans f446
  have f477 : mem457 81 = aR Γ 9 4 (fun i => some (b + (82 + i))) := (k459 _ (by decide)).trans f447
  have f478 : mem457 86 = aR Γ 9 4 (fun i => some (b + (87 + i))) := (k459 _ (by decide)).trans f448
  have f479 : mem457 91 = .inr (7, [.ref (b + 1), .ref (b + 78), .ref (b + 92), .int (bI false)]) := (k459 _ (by decide)).trans f449
  have f480 : mem457 92 = aB Γ 4 (fun _ => false) := (k459 _ (by decide)).trans f450
  have f481 : mem457 93 = .inr (4, [.ref (b + 94), .ref (b + 95), .int (nI 0), .int (nI 0)]) := (k459 _ (by decide)).trans f425
  have f482 : mem457 94 = aN Γ 20 (fun _ => 0) := (k459 _ (by decide)).trans f426
  have f483 : mem457 95 = aD Γ 20 (fun _ => FP.dconst0) := (k459 _ (by decide)).trans f427
  have f484 : ∀ z9, z9 < 16 → mem457 (3 + z9) = aN Γ 12 ((fun _ _ => 0) z9) := fun z9 hz9 => (k459 _ (by omega)).trans (f451 z9 hz9)
  have f485 : ∀ z9, z9 < 16 → mem457 (21 + z9) = aF Γ 12 ((fun _ _ => FP.fconst0) z9) := fun z9 hz9 => (k459 _ (by omega)).trans (f452 z9 hz9)
  have f486 : ∀ z9, z9 < 16 → mem457 (40 + 2 * z9) = .inr (6, [.ref (b + (40 + 2 * z9 + 1)), .int (nI 4), .int (nI ((fun _ => 0) z9))]) := fun z9 hz9 => (k459 _ (by omega)).trans (f453 z9 hz9)
  have f487 : ∀ z9, z9 < 16 → mem457 (40 + 2 * z9 + 1) = aF Γ 16 ((fun _ _ => FP.fconst0) z9) := fun z9 hz9 => (k459 _ (by omega)).trans (f454 z9 hz9)
  have f488 : ∀ z9, z9 < 4 → mem457 (82 + z9) = aD Γ 16 ((fun _ _ => FP.dconst0) z9) := fun z9 hz9 => (k459 _ (by omega)).trans (f455 z9 hz9)
  have f489 : ∀ z9, z9 < 4 → mem457 (87 + z9) = aD Γ 4 ((fun _ _ => FP.dconst0) z9) := fun z9 hz9 => (k459 _ (by omega)).trans (f456 z9 hz9)
  refine lv_aload_n hx hb dX9_init_90 rfl (lv_at hl 0 rfl) ?_
  refine lv_iconst (v := (nI 3)) hx hb dX9_init_91 (by decide) ?_
  refine mn_anew 5 (n := 3) hx hb hE hown (wc_X9_58 hE.2.1 args) hE.2.2.1.2.2.2.2.2.1 rfl (by decide) (by omega) hh (by show _ ≤ 114; omega) (by show _ ≤ 1186; omega) dX9_init_92 (fun H mem490 f491 k492 hh => ?_)
  have hfr493 : ∀ j, j ≠ 0 → j ≠ 1 → j ≠ 2 → ¬ (3 ≤ j ∧ j < 19) → j ≠ 19 → j ≠ 20 → ¬ (21 ≤ j ∧ j < 37) → j ≠ 37 → j ≠ 38 → j ≠ 39 → ¬ (40 ≤ j ∧ j < 71) → ¬ (41 ≤ j ∧ j < 72) → j ≠ 72 → j ≠ 73 → j ≠ 74 → j ≠ 75 → j ≠ 76 → j ≠ 77 → j ≠ 78 → j ≠ 79 → j ≠ 80 → j ≠ 81 → ¬ (82 ≤ j ∧ j < 86) → j ≠ 86 → ¬ (87 ≤ j ∧ j < 91) → j ≠ 91 → j ≠ 92 → j ≠ 93 → j ≠ 94 → j ≠ 95 → j ≠ 96 → j ≠ 97 → j ≠ 98 → j ≠ 99 → j ≠ 100 → j ≠ 101 → j ≠ 102 → j ≠ 103 → j ≠ 104 → j ≠ 105 → j ≠ 106 → j ≠ 107 → j ≠ 108 → j ≠ 109 → j ≠ 110 → j ≠ 111 → j ≠ 112 → j ≠ 113 → j ≠ 114 → mem490 j = mem j := fun j c0 c1 c2 c3 c4 c5 c6 c7 c8 c9 c10 c11 c12 c13 c14 c15 c16 c17 c18 c19 c20 c21 c22 c23 c24 c25 c26 c27 c28 c29 c30 c31 c32 c33 c34 c35 c36 c37 c38 c39 c40 c41 c42 c43 c44 c45 c46 c47 c48 => (k492 j (by omega)).trans (hfr460 j c0 c1 c2 c3 c4 c5 c6 c7 c8 c9 c10 c11 c12 c13 c14 c15 c16 c17 c18 c19 c20 c21 c22 c23 c24 c25 c26 c27 c28 c29 c30 c31 c32 c33 c34 c35 c36 c37 c38 c39 c40 c41 c42 c43 c44 c45 c46 c47 c48)
  have f494 : mem490 0 = .inr (8, [.ref (b + 1), .ref (b + 72), .ref (b + 75), .ref (b + 78), .ref (b + 80), .ref (b + 91), .ref (b + 93), .null, .null]) := (k492 _ (by decide)).trans f458
  have f495 : mem490 1 = .inr (0, [.ref (b + 2), .ref (b + 19), .ref (b + 20), .ref (b + 37), .ref (b + 38), .int (nI 0)]) := (k492 _ (by decide)).trans f461
  have f496 : mem490 2 = aR Γ 7 16 (fun i => some (b + (3 + i))) := (k492 _ (by decide)).trans f462
  have f497 : mem490 19 = aN Γ 16 (fun _ => 0) := (k492 _ (by decide)).trans f463
  have f498 : mem490 20 = aR Γ 8 16 (fun i => some (b + (21 + i))) := (k492 _ (by decide)).trans f464
  have f499 : mem490 37 = aR Γ 6 16 (fun i => some (b + (40 + 2 * i))) := (k492 _ (by decide)).trans f465
  have f500 : mem490 38 = .inr (6, [.ref (b + 39), .int (nI 4), .int (nI 0)]) := (k492 _ (by decide)).trans f466
  have f501 : mem490 39 = aF Γ 16 (fun _ => FP.fconst0) := (k492 _ (by decide)).trans f467
  have f502 : mem490 72 = .inr (5, [.ref (b + 73), .ref (b + 74), .int (nI 0)]) := (k492 _ (by decide)).trans f468
  have f503 : mem490 73 = aN Γ 4 (fun _ => 0) := (k492 _ (by decide)).trans f469
  have f504 : mem490 74 = aN Γ 4 (fun _ => 0) := (k492 _ (by decide)).trans f470
  have f505 : mem490 75 = .inr (5, [.ref (b + 76), .ref (b + 77), .int (nI 0)]) := (k492 _ (by decide)).trans f471
  have f506 : mem490 76 = aN Γ 4 (fun _ => 0) := (k492 _ (by decide)).trans f472
  have f507 : mem490 77 = aN Γ 4 (fun _ => 0) := (k492 _ (by decide)).trans f473
  have f508 : mem490 78 = .inr (6, [.ref (b + 79), .int (nI 3), .int (nI 0)]) := (k492 _ (by decide)).trans f474
  have f509 : mem490 79 = aF Γ 12 (fun _ => FP.fconst0) := (k492 _ (by decide)).trans f475
  have f510 : mem490 80 = .inr (3, [.ref (b + 81), .ref (b + 86), .int (nI 0)]) := (k492 _ (by decide)).trans f476
  have f511 : mem490 81 = aR Γ 9 4 (fun i => some (b + (82 + i))) := (k492 _ (by decide)).trans f477
  have f512 : mem490 86 = aR Γ 9 4 (fun i => some (b + (87 + i))) := (k492 _ (by decide)).trans f478
  have f513 : mem490 91 = .inr (7, [.ref (b + 1), .ref (b + 78), .ref (b + 92), .int (bI false)]) := (k492 _ (by decide)).trans f479
  have f514 : mem490 92 = aB Γ 4 (fun _ => false) := (k492 _ (by decide)).trans f480
  have f515 : mem490 93 = .inr (4, [.ref (b + 94), .ref (b + 95), .int (nI 0), .int (nI 0)]) := (k492 _ (by decide)).trans f481
  have f516 : mem490 94 = aN Γ 20 (fun _ => 0) := (k492 _ (by decide)).trans f482
  have f517 : mem490 95 = aD Γ 20 (fun _ => FP.dconst0) := (k492 _ (by decide)).trans f483
  have f518 : ∀ z9, z9 < 16 → mem490 (3 + z9) = aN Γ 12 ((fun _ _ => 0) z9) := fun z9 hz9 => (k492 _ (by omega)).trans (f484 z9 hz9)
  have f519 : ∀ z9, z9 < 16 → mem490 (21 + z9) = aF Γ 12 ((fun _ _ => FP.fconst0) z9) := fun z9 hz9 => (k492 _ (by omega)).trans (f485 z9 hz9)
  have f520 : ∀ z9, z9 < 16 → mem490 (40 + 2 * z9) = .inr (6, [.ref (b + (40 + 2 * z9 + 1)), .int (nI 4), .int (nI ((fun _ => 0) z9))]) := fun z9 hz9 => (k492 _ (by omega)).trans (f486 z9 hz9)
  have f521 : ∀ z9, z9 < 16 → mem490 (40 + 2 * z9 + 1) = aF Γ 16 ((fun _ _ => FP.fconst0) z9) := fun z9 hz9 => (k492 _ (by omega)).trans (f487 z9 hz9)
  have f522 : ∀ z9, z9 < 4 → mem490 (82 + z9) = aD Γ 16 ((fun _ _ => FP.dconst0) z9) := fun z9 hz9 => (k492 _ (by omega)).trans (f488 z9 hz9)
  have f523 : ∀ z9, z9 < 4 → mem490 (87 + z9) = aD Γ 4 ((fun _ _ => FP.dconst0) z9) := fun z9 hz9 => (k492 _ (by omega)).trans (f489 z9 hz9)
  have hh : GH Γ b (97) mem490 s _ _ := hh
  refine gq_X9_lists (fs' := [.ref (b + 1), .ref (b + 72), .ref (b + 75), .ref (b + 78), .ref (b + 80), .ref (b + 91), .ref (b + 93), .ref (b + 96), .null]) hx hb hE hown hname hh (by omega) f494 rfl rfl (show 7 < 9 by decide) rfl dX9_init_95 (fun H locs mem524 f525 k526 hh => ?_)
  have hfr527 : ∀ j, j ≠ 0 → j ≠ 1 → j ≠ 2 → ¬ (3 ≤ j ∧ j < 19) → j ≠ 19 → j ≠ 20 → ¬ (21 ≤ j ∧ j < 37) → j ≠ 37 → j ≠ 38 → j ≠ 39 → ¬ (40 ≤ j ∧ j < 71) → ¬ (41 ≤ j ∧ j < 72) → j ≠ 72 → j ≠ 73 → j ≠ 74 → j ≠ 75 → j ≠ 76 → j ≠ 77 → j ≠ 78 → j ≠ 79 → j ≠ 80 → j ≠ 81 → ¬ (82 ≤ j ∧ j < 86) → j ≠ 86 → ¬ (87 ≤ j ∧ j < 91) → j ≠ 91 → j ≠ 92 → j ≠ 93 → j ≠ 94 → j ≠ 95 → j ≠ 96 → j ≠ 97 → j ≠ 98 → j ≠ 99 → j ≠ 100 → j ≠ 101 → j ≠ 102 → j ≠ 103 → j ≠ 104 → j ≠ 105 → j ≠ 106 → j ≠ 107 → j ≠ 108 → j ≠ 109 → j ≠ 110 → j ≠ 111 → j ≠ 112 → j ≠ 113 → j ≠ 114 → mem524 j = mem j := fun j c0 c1 c2 c3 c4 c5 c6 c7 c8 c9 c10 c11 c12 c13 c14 c15 c16 c17 c18 c19 c20 c21 c22 c23 c24 c25 c26 c27 c28 c29 c30 c31 c32 c33 c34 c35 c36 c37 c38 c39 c40 c41 c42 c43 c44 c45 c46 c47 c48 => (k526 j (by omega)).trans (hfr493 j c0 c1 c2 c3 c4 c5 c6 c7 c8 c9 c10 c11 c12 c13 c14 c15 c16 c17 c18 c19 c20 c21 c22 c23 c24 c25 c26 c27 c28 c29 c30 c31 c32 c33 c34 c35 c36 c37 c38 c39 c40 c41 c42 c43 c44 c45 c46 c47 c48)
  have f528 : mem524 1 = .inr (0, [.ref (b + 2), .ref (b + 19), .ref (b + 20), .ref (b + 37), .ref (b + 38), .int (nI 0)]) := (k526 _ (by decide)).trans f495
  have f529 : mem524 2 = aR Γ 7 16 (fun i => some (b + (3 + i))) := (k526 _ (by decide)).trans f496
  have f530 : mem524 19 = aN Γ 16 (fun _ => 0) := (k526 _ (by decide)).trans f497
  have f531 : mem524 20 = aR Γ 8 16 (fun i => some (b + (21 + i))) := (k526 _ (by decide)).trans f498
  have f532 : mem524 37 = aR Γ 6 16 (fun i => some (b + (40 + 2 * i))) := (k526 _ (by decide)).trans f499
  have f533 : mem524 38 = .inr (6, [.ref (b + 39), .int (nI 4), .int (nI 0)]) := (k526 _ (by decide)).trans f500
  have f534 : mem524 39 = aF Γ 16 (fun _ => FP.fconst0) := (k526 _ (by decide)).trans f501
  have f535 : mem524 72 = .inr (5, [.ref (b + 73), .ref (b + 74), .int (nI 0)]) := (k526 _ (by decide)).trans f502
  have f536 : mem524 73 = aN Γ 4 (fun _ => 0) := (k526 _ (by decide)).trans f503
  have f537 : mem524 74 = aN Γ 4 (fun _ => 0) := (k526 _ (by decide)).trans f504
  have f538 : mem524 75 = .inr (5, [.ref (b + 76), .ref (b + 77), .int (nI 0)]) := (k526 _ (by decide)).trans f505
  have f539 : mem524 76 = aN Γ 4 (fun _ => 0) := (k526 _ (by decide)).trans f506
  have f540 : mem524 77 = aN Γ 4 (fun _ => 0) := (k526 _ (by decide)).trans f507
  have f541 : mem524 78 = .inr (6, [.ref (b + 79), .int (nI 3), .int (nI 0)]) := (k526 _ (by decide)).trans f508
  have f542 : mem524 79 = aF Γ 12 (fun _ => FP.fconst0) := (k526 _ (by decide)).trans f509
  have f543 : mem524 80 = .inr (3, [.ref (b + 81), .ref (b + 86), .int (nI 0)]) := (k526 _ (by decide)).trans f510
  have f544 : mem524 81 = aR Γ 9 4 (fun i => some (b + (82 + i))) := (k526 _ (by decide)).trans f511
  have f545 : mem524 86 = aR Γ 9 4 (fun i => some (b + (87 + i))) := (k526 _ (by decide)).trans f512
  have f546 : mem524 91 = .inr (7, [.ref (b + 1), .ref (b + 78), .ref (b + 92), .int (bI false)]) := (k526 _ (by decide)).trans f513
  have f547 : mem524 92 = aB Γ 4 (fun _ => false) := (k526 _ (by decide)).trans f514
  have f548 : mem524 93 = .inr (4, [.ref (b + 94), .ref (b + 95), .int (nI 0), .int (nI 0)]) := (k526 _ (by decide)).trans f515
  have f549 : mem524 94 = aN Γ 20 (fun _ => 0) := (k526 _ (by decide)).trans f516
  have f550 : mem524 95 = aD Γ 20 (fun _ => FP.dconst0) := (k526 _ (by decide)).trans f517
  have f551 : mem524 96 = aR Γ 5 3 (fun _ => none) := (k526 _ (by decide)).trans f491
  have f552 : ∀ z9, z9 < 16 → mem524 (3 + z9) = aN Γ 12 ((fun _ _ => 0) z9) := fun z9 hz9 => (k526 _ (by omega)).trans (f518 z9 hz9)
  have f553 : ∀ z9, z9 < 16 → mem524 (21 + z9) = aF Γ 12 ((fun _ _ => FP.fconst0) z9) := fun z9 hz9 => (k526 _ (by omega)).trans (f519 z9 hz9)
  have f554 : ∀ z9, z9 < 16 → mem524 (40 + 2 * z9) = .inr (6, [.ref (b + (40 + 2 * z9 + 1)), .int (nI 4), .int (nI ((fun _ => 0) z9))]) := fun z9 hz9 => (k526 _ (by omega)).trans (f520 z9 hz9)
  have f555 : ∀ z9, z9 < 16 → mem524 (40 + 2 * z9 + 1) = aF Γ 16 ((fun _ _ => FP.fconst0) z9) := fun z9 hz9 => (k526 _ (by omega)).trans (f521 z9 hz9)
  have f556 : ∀ z9, z9 < 4 → mem524 (82 + z9) = aD Γ 16 ((fun _ _ => FP.dconst0) z9) := fun z9 hz9 => (k526 _ (by omega)).trans (f522 z9 hz9)
  have f557 : ∀ z9, z9 < 4 → mem524 (87 + z9) = aD Γ 4 ((fun _ _ => FP.dconst0) z9) := fun z9 hz9 => (k526 _ (by omega)).trans (f523 z9 hz9)
  refine lv_iconst (v := (nI 0)) hx hb dX9_init_98 (by decide) ?_
  refine lv_istore_n (lv' := [(1, .int (nI 0)), (0, .ref (b + 0))]) hx hb dX9_init_99 rfl hl (by decide) rfl (fun ls hl => ?_)
  refine lv_iload_n hx hb dX9_init_100 rfl (lv_at hl 0 rfl) ?_
  refine lv_iconst (v := (nI 3)) hx hb dX9_init_101 (by decide) ?_
  refine nn_icmp_ge (tgt := 124) hx hb dX9_init_102 (by decide) (by omega) (by omega) (fun h558 => ?_) (fun h558 => ?_)
  ·
    exact absurd h558 (by decide)
  ·
    refine lv_aload_n hx hb dX9_init_105 rfl (lv_at hl 1 rfl) ?_
    refine gf_X9_lists hx hb hE hown hh (by omega) f525 rfl dX9_init_106 ?_
    refine lv_iload_n hx hb dX9_init_109 rfl (lv_at hl 0 rfl) ?_
    refine mn_new (ci := 2) (fs := [.null, .int (bI false), .int (nI 0), .int (nI 0), .int (nI 0)]) hx hb hE hown (uw_X2 hE.2.1 args) tyX2 tyX2_ok (wc_X9_58 hE.2.1 args) (wi_X2 hE.2.1 args) (wn_X2 hE.2.1 args) rfl (by decide +kernel) (by omega) hh (by show _ ≤ 114; omega) (by show _ ≤ 1186; omega) dX9_init_110 (fun H mem559 f560 k561 hh => ?_)
    have hfr562 : ∀ j, j ≠ 0 → j ≠ 1 → j ≠ 2 → ¬ (3 ≤ j ∧ j < 19) → j ≠ 19 → j ≠ 20 → ¬ (21 ≤ j ∧ j < 37) → j ≠ 37 → j ≠ 38 → j ≠ 39 → ¬ (40 ≤ j ∧ j < 71) → ¬ (41 ≤ j ∧ j < 72) → j ≠ 72 → j ≠ 73 → j ≠ 74 → j ≠ 75 → j ≠ 76 → j ≠ 77 → j ≠ 78 → j ≠ 79 → j ≠ 80 → j ≠ 81 → ¬ (82 ≤ j ∧ j < 86) → j ≠ 86 → ¬ (87 ≤ j ∧ j < 91) → j ≠ 91 → j ≠ 92 → j ≠ 93 → j ≠ 94 → j ≠ 95 → j ≠ 96 → j ≠ 97 → j ≠ 98 → j ≠ 99 → j ≠ 100 → j ≠ 101 → j ≠ 102 → j ≠ 103 → j ≠ 104 → j ≠ 105 → j ≠ 106 → j ≠ 107 → j ≠ 108 → j ≠ 109 → j ≠ 110 → j ≠ 111 → j ≠ 112 → j ≠ 113 → j ≠ 114 → mem559 j = mem j := fun j c0 c1 c2 c3 c4 c5 c6 c7 c8 c9 c10 c11 c12 c13 c14 c15 c16 c17 c18 c19 c20 c21 c22 c23 c24 c25 c26 c27 c28 c29 c30 c31 c32 c33 c34 c35 c36 c37 c38 c39 c40 c41 c42 c43 c44 c45 c46 c47 c48 => (k561 j (by omega)).trans (hfr527 j c0 c1 c2 c3 c4 c5 c6 c7 c8 c9 c10 c11 c12 c13 c14 c15 c16 c17 c18 c19 c20 c21 c22 c23 c24 c25 c26 c27 c28 c29 c30 c31 c32 c33 c34 c35 c36 c37 c38 c39 c40 c41 c42 c43 c44 c45 c46 c47 c48)
    have f563 : mem559 0 = .inr (8, [.ref (b + 1), .ref (b + 72), .ref (b + 75), .ref (b + 78), .ref (b + 80), .ref (b + 91), .ref (b + 93), .ref (b + 96), .null]) := (k561 _ (by decide)).trans f525
    have f564 : mem559 1 = .inr (0, [.ref (b + 2), .ref (b + 19), .ref (b + 20), .ref (b + 37), .ref (b + 38), .int (nI 0)]) := (k561 _ (by decide)).trans f528
    have f565 : mem559 2 = aR Γ 7 16 (fun i => some (b + (3 + i))) := (k561 _ (by decide)).trans f529
    have f566 : mem559 19 = aN Γ 16 (fun _ => 0) := (k561 _ (by decide)).trans f530
    have f567 : mem559 20 = aR Γ 8 16 (fun i => some (b + (21 + i))) := (k561 _ (by decide)).trans f531
    have f568 : mem559 37 = aR Γ 6 16 (fun i => some (b + (40 + 2 * i))) := (k561 _ (by decide)).trans f532
    have f569 : mem559 38 = .inr (6, [.ref (b + 39), .int (nI 4), .int (nI 0)]) := (k561 _ (by decide)).trans f533
    have f570 : mem559 39 = aF Γ 16 (fun _ => FP.fconst0) := (k561 _ (by decide)).trans f534
    have f571 : mem559 72 = .inr (5, [.ref (b + 73), .ref (b + 74), .int (nI 0)]) := (k561 _ (by decide)).trans f535
    have f572 : mem559 73 = aN Γ 4 (fun _ => 0) := (k561 _ (by decide)).trans f536
    have f573 : mem559 74 = aN Γ 4 (fun _ => 0) := (k561 _ (by decide)).trans f537
    have f574 : mem559 75 = .inr (5, [.ref (b + 76), .ref (b + 77), .int (nI 0)]) := (k561 _ (by decide)).trans f538
    have f575 : mem559 76 = aN Γ 4 (fun _ => 0) := (k561 _ (by decide)).trans f539
    have f576 : mem559 77 = aN Γ 4 (fun _ => 0) := (k561 _ (by decide)).trans f540
    have f577 : mem559 78 = .inr (6, [.ref (b + 79), .int (nI 3), .int (nI 0)]) := (k561 _ (by decide)).trans f541
    have f578 : mem559 79 = aF Γ 12 (fun _ => FP.fconst0) := (k561 _ (by decide)).trans f542
    have f579 : mem559 80 = .inr (3, [.ref (b + 81), .ref (b + 86), .int (nI 0)]) := (k561 _ (by decide)).trans f543
    have f580 : mem559 81 = aR Γ 9 4 (fun i => some (b + (82 + i))) := (k561 _ (by decide)).trans f544
    have f581 : mem559 86 = aR Γ 9 4 (fun i => some (b + (87 + i))) := (k561 _ (by decide)).trans f545
    have f582 : mem559 91 = .inr (7, [.ref (b + 1), .ref (b + 78), .ref (b + 92), .int (bI false)]) := (k561 _ (by decide)).trans f546
    have f583 : mem559 92 = aB Γ 4 (fun _ => false) := (k561 _ (by decide)).trans f547
    have f584 : mem559 93 = .inr (4, [.ref (b + 94), .ref (b + 95), .int (nI 0), .int (nI 0)]) := (k561 _ (by decide)).trans f548
    have f585 : mem559 94 = aN Γ 20 (fun _ => 0) := (k561 _ (by decide)).trans f549
    have f586 : mem559 95 = aD Γ 20 (fun _ => FP.dconst0) := (k561 _ (by decide)).trans f550
    have f587 : mem559 96 = aR Γ 5 3 (fun _ => none) := (k561 _ (by decide)).trans f551
    have f588 : ∀ z9, z9 < 16 → mem559 (3 + z9) = aN Γ 12 ((fun _ _ => 0) z9) := fun z9 hz9 => (k561 _ (by omega)).trans (f552 z9 hz9)
    have f589 : ∀ z9, z9 < 16 → mem559 (21 + z9) = aF Γ 12 ((fun _ _ => FP.fconst0) z9) := fun z9 hz9 => (k561 _ (by omega)).trans (f553 z9 hz9)
    have f590 : ∀ z9, z9 < 16 → mem559 (40 + 2 * z9) = .inr (6, [.ref (b + (40 + 2 * z9 + 1)), .int (nI 4), .int (nI ((fun _ => 0) z9))]) := fun z9 hz9 => (k561 _ (by omega)).trans (f554 z9 hz9)
    have f591 : ∀ z9, z9 < 16 → mem559 (40 + 2 * z9 + 1) = aF Γ 16 ((fun _ _ => FP.fconst0) z9) := fun z9 hz9 => (k561 _ (by omega)).trans (f555 z9 hz9)
    have f592 : ∀ z9, z9 < 4 → mem559 (82 + z9) = aD Γ 16 ((fun _ _ => FP.dconst0) z9) := fun z9 hz9 => (k561 _ (by omega)).trans (f556 z9 hz9)
    have f593 : ∀ z9, z9 < 4 → mem559 (87 + z9) = aD Γ 4 ((fun _ _ => FP.dconst0) z9) := fun z9 hz9 => (k561 _ (by omega)).trans (f557 z9 hz9)
    have hh : GH Γ b (98) mem559 s _ _ := hh
    refine lv_dup hx hb dX9_init_113 rfl ?_
    refine mn_IN (As := []) (rest := [.ref (b + 97), .int (nI 0), .ref (b + 96)]) (mc := 3) (ms := 44) hx hb hml hown hE hl.1 (by omega) hh (kc_X9_64 hE.2.1 hE.2.2.1 ⟨Nat.le_of_ble_eq_true rfl, Nat.le_of_ble_eq_true rfl⟩) (c_X2_init l Γ b mem559 (a := 97) f560) rfl rfl (Nat.le_of_ble_eq_true rfl) dX9_init_114 rfl rfl ⟨by show _ ≤ 114; omega, by show _ ≤ 1186; omega⟩ (fun H locs mem594 hP595 hh => ?_)
    obtain ⟨f596, f597, f598, f599, k600⟩ := hP595
    have hfr601 : ∀ j, j ≠ 0 → j ≠ 1 → j ≠ 2 → ¬ (3 ≤ j ∧ j < 19) → j ≠ 19 → j ≠ 20 → ¬ (21 ≤ j ∧ j < 37) → j ≠ 37 → j ≠ 38 → j ≠ 39 → ¬ (40 ≤ j ∧ j < 71) → ¬ (41 ≤ j ∧ j < 72) → j ≠ 72 → j ≠ 73 → j ≠ 74 → j ≠ 75 → j ≠ 76 → j ≠ 77 → j ≠ 78 → j ≠ 79 → j ≠ 80 → j ≠ 81 → ¬ (82 ≤ j ∧ j < 86) → j ≠ 86 → ¬ (87 ≤ j ∧ j < 91) → j ≠ 91 → j ≠ 92 → j ≠ 93 → j ≠ 94 → j ≠ 95 → j ≠ 96 → j ≠ 97 → j ≠ 98 → j ≠ 99 → j ≠ 100 → j ≠ 101 → j ≠ 102 → j ≠ 103 → j ≠ 104 → j ≠ 105 → j ≠ 106 → j ≠ 107 → j ≠ 108 → j ≠ 109 → j ≠ 110 → j ≠ 111 → j ≠ 112 → j ≠ 113 → j ≠ 114 → mem594 j = mem j := fun j c0 c1 c2 c3 c4 c5 c6 c7 c8 c9 c10 c11 c12 c13 c14 c15 c16 c17 c18 c19 c20 c21 c22 c23 c24 c25 c26 c27 c28 c29 c30 c31 c32 c33 c34 c35 c36 c37 c38 c39 c40 c41 c42 c43 c44 c45 c46 c47 c48 => (k600 j (by omega) (by omega) (by omega) (by omega)).trans (hfr562 j c0 c1 c2 c3 c4 c5 c6 c7 c8 c9 c10 c11 c12 c13 c14 c15 c16 c17 c18 c19 c20 c21 c22 c23 c24 c25 c26 c27 c28 c29 c30 c31 c32 c33 c34 c35 c36 c37 c38 c39 c40 c41 c42 c43 c44 c45 c46 c47 c48)
    have f602 : mem594 0 = .inr (8, [.ref (b + 1), .ref (b + 72), .ref (b + 75), .ref (b + 78), .ref (b + 80), .ref (b + 91), .ref (b + 93), .ref (b + 96), .null]) := (k600 _ (by decide) (by decide) (by decide) (by decide)).trans f563
    have f603 : mem594 1 = .inr (0, [.ref (b + 2), .ref (b + 19), .ref (b + 20), .ref (b + 37), .ref (b + 38), .int (nI 0)]) := (k600 _ (by decide) (by decide) (by decide) (by decide)).trans f564
    have f604 : mem594 2 = aR Γ 7 16 (fun i => some (b + (3 + i))) := (k600 _ (by decide) (by decide) (by decide) (by decide)).trans f565
    have f605 : mem594 19 = aN Γ 16 (fun _ => 0) := (k600 _ (by decide) (by decide) (by decide) (by decide)).trans f566
    have f606 : mem594 20 = aR Γ 8 16 (fun i => some (b + (21 + i))) := (k600 _ (by decide) (by decide) (by decide) (by decide)).trans f567
    have f607 : mem594 37 = aR Γ 6 16 (fun i => some (b + (40 + 2 * i))) := (k600 _ (by decide) (by decide) (by decide) (by decide)).trans f568
    have f608 : mem594 38 = .inr (6, [.ref (b + 39), .int (nI 4), .int (nI 0)]) := (k600 _ (by decide) (by decide) (by decide) (by decide)).trans f569
    have f609 : mem594 39 = aF Γ 16 (fun _ => FP.fconst0) := (k600 _ (by decide) (by decide) (by decide) (by decide)).trans f570
    have f610 : mem594 72 = .inr (5, [.ref (b + 73), .ref (b + 74), .int (nI 0)]) := (k600 _ (by decide) (by decide) (by decide) (by decide)).trans f571
    have f611 : mem594 73 = aN Γ 4 (fun _ => 0) := (k600 _ (by decide) (by decide) (by decide) (by decide)).trans f572
    have f612 : mem594 74 = aN Γ 4 (fun _ => 0) := (k600 _ (by decide) (by decide) (by decide) (by decide)).trans f573
    have f613 : mem594 75 = .inr (5, [.ref (b + 76), .ref (b + 77), .int (nI 0)]) := (k600 _ (by decide) (by decide) (by decide) (by decide)).trans f574
    have f614 : mem594 76 = aN Γ 4 (fun _ => 0) := (k600 _ (by decide) (by decide) (by decide) (by decide)).trans f575
    have f615 : mem594 77 = aN Γ 4 (fun _ => 0) := (k600 _ (by decide) (by decide) (by decide) (by decide)).trans f576
    have f616 : mem594 78 = .inr (6, [.ref (b + 79), .int (nI 3), .int (nI 0)]) := (k600 _ (by decide) (by decide) (by decide) (by decide)).trans f577
    have f617 : mem594 79 = aF Γ 12 (fun _ => FP.fconst0) := (k600 _ (by decide) (by decide) (by decide) (by decide)).trans f578
    have f618 : mem594 80 = .inr (3, [.ref (b + 81), .ref (b + 86), .int (nI 0)]) := (k600 _ (by decide) (by decide) (by decide) (by decide)).trans f579
    have f619 : mem594 81 = aR Γ 9 4 (fun i => some (b + (82 + i))) := (k600 _ (by decide) (by decide) (by decide) (by decide)).trans f580
    have f620 : mem594 86 = aR Γ 9 4 (fun i => some (b + (87 + i))) := (k600 _ (by decide) (by decide) (by decide) (by decide)).trans f581
    have f621 : mem594 91 = .inr (7, [.ref (b + 1), .ref (b + 78), .ref (b + 92), .int (bI false)]) := (k600 _ (by decide) (by decide) (by decide) (by decide)).trans f582
    have f622 : mem594 92 = aB Γ 4 (fun _ => false) := (k600 _ (by decide) (by decide) (by decide) (by decide)).trans f583
    have f623 : mem594 93 = .inr (4, [.ref (b + 94), .ref (b + 95), .int (nI 0), .int (nI 0)]) := (k600 _ (by decide) (by decide) (by decide) (by decide)).trans f584
    have f624 : mem594 94 = aN Γ 20 (fun _ => 0) := (k600 _ (by decide) (by decide) (by decide) (by decide)).trans f585
    have f625 : mem594 95 = aD Γ 20 (fun _ => FP.dconst0) := (k600 _ (by decide) (by decide) (by decide) (by decide)).trans f586
    have f626 : mem594 96 = aR Γ 5 3 (fun _ => none) := (k600 _ (by decide) (by decide) (by decide) (by decide)).trans f587
    have f627 : ∀ z9, z9 < 16 → mem594 (3 + z9) = aN Γ 12 ((fun _ _ => 0) z9) := fun z9 hz9 => (k600 _ (by omega) (by omega) (by omega) (by omega)).trans (f588 z9 hz9)
    have f628 : ∀ z9, z9 < 16 → mem594 (21 + z9) = aF Γ 12 ((fun _ _ => FP.fconst0) z9) := fun z9 hz9 => (k600 _ (by omega) (by omega) (by omega) (by omega)).trans (f589 z9 hz9)
    have f629 : ∀ z9, z9 < 16 → mem594 (40 + 2 * z9) = .inr (6, [.ref (b + (40 + 2 * z9 + 1)), .int (nI 4), .int (nI ((fun _ => 0) z9))]) := fun z9 hz9 => (k600 _ (by omega) (by omega) (by omega) (by omega)).trans (f590 z9 hz9)
    have f630 : ∀ z9, z9 < 16 → mem594 (40 + 2 * z9 + 1) = aF Γ 16 ((fun _ _ => FP.fconst0) z9) := fun z9 hz9 => (k600 _ (by omega) (by omega) (by omega) (by omega)).trans (f591 z9 hz9)
    have f631 : ∀ z9, z9 < 4 → mem594 (82 + z9) = aD Γ 16 ((fun _ _ => FP.dconst0) z9) := fun z9 hz9 => (k600 _ (by omega) (by omega) (by omega) (by omega)).trans (f592 z9 hz9)
    have f632 : ∀ z9, z9 < 4 → mem594 (87 + z9) = aD Γ 4 ((fun _ _ => FP.dconst0) z9) := fun z9 hz9 => (k600 _ (by omega) (by omega) (by omega) (by omega)).trans (f593 z9 hz9)
    have hh : GH Γ b (101) mem594 s _ _ := hh
    refine mm_aast hx hb hE hh 5 2 (by omega) f626 rfl (by omega) f596 rfl (by omega) (by decide) dX9_init_117 (fun H locs mem633 f634 k635 hh => ?_)
    have hfr636 : ∀ j, j ≠ 0 → j ≠ 1 → j ≠ 2 → ¬ (3 ≤ j ∧ j < 19) → j ≠ 19 → j ≠ 20 → ¬ (21 ≤ j ∧ j < 37) → j ≠ 37 → j ≠ 38 → j ≠ 39 → ¬ (40 ≤ j ∧ j < 71) → ¬ (41 ≤ j ∧ j < 72) → j ≠ 72 → j ≠ 73 → j ≠ 74 → j ≠ 75 → j ≠ 76 → j ≠ 77 → j ≠ 78 → j ≠ 79 → j ≠ 80 → j ≠ 81 → ¬ (82 ≤ j ∧ j < 86) → j ≠ 86 → ¬ (87 ≤ j ∧ j < 91) → j ≠ 91 → j ≠ 92 → j ≠ 93 → j ≠ 94 → j ≠ 95 → j ≠ 96 → j ≠ 97 → j ≠ 98 → j ≠ 99 → j ≠ 100 → j ≠ 101 → j ≠ 102 → j ≠ 103 → j ≠ 104 → j ≠ 105 → j ≠ 106 → j ≠ 107 → j ≠ 108 → j ≠ 109 → j ≠ 110 → j ≠ 111 → j ≠ 112 → j ≠ 113 → j ≠ 114 → mem633 j = mem j := fun j c0 c1 c2 c3 c4 c5 c6 c7 c8 c9 c10 c11 c12 c13 c14 c15 c16 c17 c18 c19 c20 c21 c22 c23 c24 c25 c26 c27 c28 c29 c30 c31 c32 c33 c34 c35 c36 c37 c38 c39 c40 c41 c42 c43 c44 c45 c46 c47 c48 => (k635 j (by omega)).trans (hfr601 j c0 c1 c2 c3 c4 c5 c6 c7 c8 c9 c10 c11 c12 c13 c14 c15 c16 c17 c18 c19 c20 c21 c22 c23 c24 c25 c26 c27 c28 c29 c30 c31 c32 c33 c34 c35 c36 c37 c38 c39 c40 c41 c42 c43 c44 c45 c46 c47 c48)
    have f637 : mem633 0 = .inr (8, [.ref (b + 1), .ref (b + 72), .ref (b + 75), .ref (b + 78), .ref (b + 80), .ref (b + 91), .ref (b + 93), .ref (b + 96), .null]) := (k635 _ (by decide)).trans f602
    have f638 : mem633 1 = .inr (0, [.ref (b + 2), .ref (b + 19), .ref (b + 20), .ref (b + 37), .ref (b + 38), .int (nI 0)]) := (k635 _ (by decide)).trans f603
    have f639 : mem633 2 = aR Γ 7 16 (fun i => some (b + (3 + i))) := (k635 _ (by decide)).trans f604
    have f640 : mem633 19 = aN Γ 16 (fun _ => 0) := (k635 _ (by decide)).trans f605
    have f641 : mem633 20 = aR Γ 8 16 (fun i => some (b + (21 + i))) := (k635 _ (by decide)).trans f606
    have f642 : mem633 37 = aR Γ 6 16 (fun i => some (b + (40 + 2 * i))) := (k635 _ (by decide)).trans f607
    have f643 : mem633 38 = .inr (6, [.ref (b + 39), .int (nI 4), .int (nI 0)]) := (k635 _ (by decide)).trans f608
    have f644 : mem633 39 = aF Γ 16 (fun _ => FP.fconst0) := (k635 _ (by decide)).trans f609
    have f645 : mem633 72 = .inr (5, [.ref (b + 73), .ref (b + 74), .int (nI 0)]) := (k635 _ (by decide)).trans f610
    have f646 : mem633 73 = aN Γ 4 (fun _ => 0) := (k635 _ (by decide)).trans f611
    have f647 : mem633 74 = aN Γ 4 (fun _ => 0) := (k635 _ (by decide)).trans f612
    have f648 : mem633 75 = .inr (5, [.ref (b + 76), .ref (b + 77), .int (nI 0)]) := (k635 _ (by decide)).trans f613
    have f649 : mem633 76 = aN Γ 4 (fun _ => 0) := (k635 _ (by decide)).trans f614
    have f650 : mem633 77 = aN Γ 4 (fun _ => 0) := (k635 _ (by decide)).trans f615
    have f651 : mem633 78 = .inr (6, [.ref (b + 79), .int (nI 3), .int (nI 0)]) := (k635 _ (by decide)).trans f616
    have f652 : mem633 79 = aF Γ 12 (fun _ => FP.fconst0) := (k635 _ (by decide)).trans f617
    have f653 : mem633 80 = .inr (3, [.ref (b + 81), .ref (b + 86), .int (nI 0)]) := (k635 _ (by decide)).trans f618
    have f654 : mem633 81 = aR Γ 9 4 (fun i => some (b + (82 + i))) := (k635 _ (by decide)).trans f619
    have f655 : mem633 86 = aR Γ 9 4 (fun i => some (b + (87 + i))) := (k635 _ (by decide)).trans f620
    have f656 : mem633 91 = .inr (7, [.ref (b + 1), .ref (b + 78), .ref (b + 92), .int (bI false)]) := (k635 _ (by decide)).trans f621
    have f657 : mem633 92 = aB Γ 4 (fun _ => false) := (k635 _ (by decide)).trans f622
    have f658 : mem633 93 = .inr (4, [.ref (b + 94), .ref (b + 95), .int (nI 0), .int (nI 0)]) := (k635 _ (by decide)).trans f623
    have f659 : mem633 94 = aN Γ 20 (fun _ => 0) := (k635 _ (by decide)).trans f624
    have f660 : mem633 95 = aD Γ 20 (fun _ => FP.dconst0) := (k635 _ (by decide)).trans f625
    have f661 : mem633 97 = .inr (2, [.ref (b + 98), .int (bI false), .int (nI 0), .int (nI 0), .int (nI 0)]) := (k635 _ (by decide)).trans f596
    have f662 : mem633 98 = .inr (4, [.ref (b + 99), .ref (b + 100), .int (nI 0), .int (nI 0)]) := (k635 _ (by decide)).trans f597
    have f663 : mem633 99 = aN Γ 20 (fun _ => 0) := (k635 _ (by decide)).trans f598
    have f664 : mem633 100 = aD Γ 20 (fun _ => FP.dconst0) := (k635 _ (by decide)).trans f599
    have f665 : ∀ z9, z9 < 16 → mem633 (3 + z9) = aN Γ 12 ((fun _ _ => 0) z9) := fun z9 hz9 => (k635 _ (by omega)).trans (f627 z9 hz9)
    have f666 : ∀ z9, z9 < 16 → mem633 (21 + z9) = aF Γ 12 ((fun _ _ => FP.fconst0) z9) := fun z9 hz9 => (k635 _ (by omega)).trans (f628 z9 hz9)
    have f667 : ∀ z9, z9 < 16 → mem633 (40 + 2 * z9) = .inr (6, [.ref (b + (40 + 2 * z9 + 1)), .int (nI 4), .int (nI ((fun _ => 0) z9))]) := fun z9 hz9 => (k635 _ (by omega)).trans (f629 z9 hz9)
    have f668 : ∀ z9, z9 < 16 → mem633 (40 + 2 * z9 + 1) = aF Γ 16 ((fun _ _ => FP.fconst0) z9) := fun z9 hz9 => (k635 _ (by omega)).trans (f630 z9 hz9)
    have f669 : ∀ z9, z9 < 4 → mem633 (82 + z9) = aD Γ 16 ((fun _ _ => FP.dconst0) z9) := fun z9 hz9 => (k635 _ (by omega)).trans (f631 z9 hz9)
    have f670 : ∀ z9, z9 < 4 → mem633 (87 + z9) = aD Γ 4 ((fun _ _ => FP.dconst0) z9) := fun z9 hz9 => (k635 _ (by omega)).trans (f632 z9 hz9)
    refine nn_iinc (x := 0) (d := 1) (lv' := [(1, .int (nI 1)), (0, .ref (b + 0))]) hx hb dX9_init_118 hl (k := 0) rfl (by decide) (by decide) rfl (fun ls hl => ?_)
    refine lv_goto (tgt := 100) hx hb dX9_init_121 (by decide) ?_
    refine lv_iload_n hx hb dX9_init_100 rfl (lv_at hl 0 rfl) ?_
    refine lv_iconst (v := (nI 3)) hx hb dX9_init_101 (by decide) ?_
    refine nn_icmp_ge (tgt := 124) hx hb dX9_init_102 (by decide) (by omega) (by omega) (fun h671 => ?_) (fun h671 => ?_)
    ·
      exact absurd h671 (by decide)
    ·
      refine lv_aload_n hx hb dX9_init_105 rfl (lv_at hl 1 rfl) ?_
      refine gf_X9_lists hx hb hE hown hh (by omega) f637 rfl dX9_init_106 ?_
      refine lv_iload_n hx hb dX9_init_109 rfl (lv_at hl 0 rfl) ?_
      refine mn_new (ci := 2) (fs := [.null, .int (bI false), .int (nI 0), .int (nI 0), .int (nI 0)]) hx hb hE hown (uw_X2 hE.2.1 args) tyX2 tyX2_ok (wc_X9_58 hE.2.1 args) (wi_X2 hE.2.1 args) (wn_X2 hE.2.1 args) rfl (by decide +kernel) (by omega) hh (by show _ ≤ 114; omega) (by show _ ≤ 1186; omega) dX9_init_110 (fun H mem672 f673 k674 hh => ?_)
      have hfr675 : ∀ j, j ≠ 0 → j ≠ 1 → j ≠ 2 → ¬ (3 ≤ j ∧ j < 19) → j ≠ 19 → j ≠ 20 → ¬ (21 ≤ j ∧ j < 37) → j ≠ 37 → j ≠ 38 → j ≠ 39 → ¬ (40 ≤ j ∧ j < 71) → ¬ (41 ≤ j ∧ j < 72) → j ≠ 72 → j ≠ 73 → j ≠ 74 → j ≠ 75 → j ≠ 76 → j ≠ 77 → j ≠ 78 → j ≠ 79 → j ≠ 80 → j ≠ 81 → ¬ (82 ≤ j ∧ j < 86) → j ≠ 86 → ¬ (87 ≤ j ∧ j < 91) → j ≠ 91 → j ≠ 92 → j ≠ 93 → j ≠ 94 → j ≠ 95 → j ≠ 96 → j ≠ 97 → j ≠ 98 → j ≠ 99 → j ≠ 100 → j ≠ 101 → j ≠ 102 → j ≠ 103 → j ≠ 104 → j ≠ 105 → j ≠ 106 → j ≠ 107 → j ≠ 108 → j ≠ 109 → j ≠ 110 → j ≠ 111 → j ≠ 112 → j ≠ 113 → j ≠ 114 → mem672 j = mem j := fun j c0 c1 c2 c3 c4 c5 c6 c7 c8 c9 c10 c11 c12 c13 c14 c15 c16 c17 c18 c19 c20 c21 c22 c23 c24 c25 c26 c27 c28 c29 c30 c31 c32 c33 c34 c35 c36 c37 c38 c39 c40 c41 c42 c43 c44 c45 c46 c47 c48 => (k674 j (by omega)).trans (hfr636 j c0 c1 c2 c3 c4 c5 c6 c7 c8 c9 c10 c11 c12 c13 c14 c15 c16 c17 c18 c19 c20 c21 c22 c23 c24 c25 c26 c27 c28 c29 c30 c31 c32 c33 c34 c35 c36 c37 c38 c39 c40 c41 c42 c43 c44 c45 c46 c47 c48)
      have f676 : mem672 0 = .inr (8, [.ref (b + 1), .ref (b + 72), .ref (b + 75), .ref (b + 78), .ref (b + 80), .ref (b + 91), .ref (b + 93), .ref (b + 96), .null]) := (k674 _ (by decide)).trans f637
      have f677 : mem672 1 = .inr (0, [.ref (b + 2), .ref (b + 19), .ref (b + 20), .ref (b + 37), .ref (b + 38), .int (nI 0)]) := (k674 _ (by decide)).trans f638
      have f678 : mem672 2 = aR Γ 7 16 (fun i => some (b + (3 + i))) := (k674 _ (by decide)).trans f639
      have f679 : mem672 19 = aN Γ 16 (fun _ => 0) := (k674 _ (by decide)).trans f640
      have f680 : mem672 20 = aR Γ 8 16 (fun i => some (b + (21 + i))) := (k674 _ (by decide)).trans f641
      have f681 : mem672 37 = aR Γ 6 16 (fun i => some (b + (40 + 2 * i))) := (k674 _ (by decide)).trans f642
      have f682 : mem672 38 = .inr (6, [.ref (b + 39), .int (nI 4), .int (nI 0)]) := (k674 _ (by decide)).trans f643
      have f683 : mem672 39 = aF Γ 16 (fun _ => FP.fconst0) := (k674 _ (by decide)).trans f644
      have f684 : mem672 72 = .inr (5, [.ref (b + 73), .ref (b + 74), .int (nI 0)]) := (k674 _ (by decide)).trans f645
      have f685 : mem672 73 = aN Γ 4 (fun _ => 0) := (k674 _ (by decide)).trans f646
      have f686 : mem672 74 = aN Γ 4 (fun _ => 0) := (k674 _ (by decide)).trans f647
      have f687 : mem672 75 = .inr (5, [.ref (b + 76), .ref (b + 77), .int (nI 0)]) := (k674 _ (by decide)).trans f648
      have f688 : mem672 76 = aN Γ 4 (fun _ => 0) := (k674 _ (by decide)).trans f649
      have f689 : mem672 77 = aN Γ 4 (fun _ => 0) := (k674 _ (by decide)).trans f650
      have f690 : mem672 78 = .inr (6, [.ref (b + 79), .int (nI 3), .int (nI 0)]) := (k674 _ (by decide)).trans f651
      have f691 : mem672 79 = aF Γ 12 (fun _ => FP.fconst0) := (k674 _ (by decide)).trans f652
      have f692 : mem672 80 = .inr (3, [.ref (b + 81), .ref (b + 86), .int (nI 0)]) := (k674 _ (by decide)).trans f653
      have f693 : mem672 81 = aR Γ 9 4 (fun i => some (b + (82 + i))) := (k674 _ (by decide)).trans f654
      have f694 : mem672 86 = aR Γ 9 4 (fun i => some (b + (87 + i))) := (k674 _ (by decide)).trans f655
      have f695 : mem672 91 = .inr (7, [.ref (b + 1), .ref (b + 78), .ref (b + 92), .int (bI false)]) := (k674 _ (by decide)).trans f656
      have f696 : mem672 92 = aB Γ 4 (fun _ => false) := (k674 _ (by decide)).trans f657
      have f697 : mem672 93 = .inr (4, [.ref (b + 94), .ref (b + 95), .int (nI 0), .int (nI 0)]) := (k674 _ (by decide)).trans f658
      have f698 : mem672 94 = aN Γ 20 (fun _ => 0) := (k674 _ (by decide)).trans f659
      have f699 : mem672 95 = aD Γ 20 (fun _ => FP.dconst0) := (k674 _ (by decide)).trans f660
      have f700 : mem672 96 = aR Γ 5 3 (va_up (fun _ => none) 0 (some (b + 97))) := (k674 _ (by decide)).trans f634
      have f701 : mem672 97 = .inr (2, [.ref (b + 98), .int (bI false), .int (nI 0), .int (nI 0), .int (nI 0)]) := (k674 _ (by decide)).trans f661
      have f702 : mem672 98 = .inr (4, [.ref (b + 99), .ref (b + 100), .int (nI 0), .int (nI 0)]) := (k674 _ (by decide)).trans f662
      have f703 : mem672 99 = aN Γ 20 (fun _ => 0) := (k674 _ (by decide)).trans f663
      have f704 : mem672 100 = aD Γ 20 (fun _ => FP.dconst0) := (k674 _ (by decide)).trans f664
      have f705 : ∀ z9, z9 < 16 → mem672 (3 + z9) = aN Γ 12 ((fun _ _ => 0) z9) := fun z9 hz9 => (k674 _ (by omega)).trans (f665 z9 hz9)
      have f706 : ∀ z9, z9 < 16 → mem672 (21 + z9) = aF Γ 12 ((fun _ _ => FP.fconst0) z9) := fun z9 hz9 => (k674 _ (by omega)).trans (f666 z9 hz9)
      have f707 : ∀ z9, z9 < 16 → mem672 (40 + 2 * z9) = .inr (6, [.ref (b + (40 + 2 * z9 + 1)), .int (nI 4), .int (nI ((fun _ => 0) z9))]) := fun z9 hz9 => (k674 _ (by omega)).trans (f667 z9 hz9)
      have f708 : ∀ z9, z9 < 16 → mem672 (40 + 2 * z9 + 1) = aF Γ 16 ((fun _ _ => FP.fconst0) z9) := fun z9 hz9 => (k674 _ (by omega)).trans (f668 z9 hz9)
      have f709 : ∀ z9, z9 < 4 → mem672 (82 + z9) = aD Γ 16 ((fun _ _ => FP.dconst0) z9) := fun z9 hz9 => (k674 _ (by omega)).trans (f669 z9 hz9)
      have f710 : ∀ z9, z9 < 4 → mem672 (87 + z9) = aD Γ 4 ((fun _ _ => FP.dconst0) z9) := fun z9 hz9 => (k674 _ (by omega)).trans (f670 z9 hz9)
      have hh : GH Γ b (102) mem672 s _ _ := hh
      refine lv_dup hx hb dX9_init_113 rfl ?_
      refine mn_IN (As := []) (rest := [.ref (b + 101), .int (nI 1), .ref (b + 96)]) (mc := 3) (ms := 44) hx hb hml hown hE hl.1 (by omega) hh (kc_X9_64 hE.2.1 hE.2.2.1 ⟨Nat.le_of_ble_eq_true rfl, Nat.le_of_ble_eq_true rfl⟩) (c_X2_init l Γ b mem672 (a := 101) f673) rfl rfl (Nat.le_of_ble_eq_true rfl) dX9_init_114 rfl rfl ⟨by show _ ≤ 114; omega, by show _ ≤ 1186; omega⟩ (fun H locs mem711 hP712 hh => ?_)
      obtain ⟨f713, f714, f715, f716, k717⟩ := hP712
      have hfr718 : ∀ j, j ≠ 0 → j ≠ 1 → j ≠ 2 → ¬ (3 ≤ j ∧ j < 19) → j ≠ 19 → j ≠ 20 → ¬ (21 ≤ j ∧ j < 37) → j ≠ 37 → j ≠ 38 → j ≠ 39 → ¬ (40 ≤ j ∧ j < 71) → ¬ (41 ≤ j ∧ j < 72) → j ≠ 72 → j ≠ 73 → j ≠ 74 → j ≠ 75 → j ≠ 76 → j ≠ 77 → j ≠ 78 → j ≠ 79 → j ≠ 80 → j ≠ 81 → ¬ (82 ≤ j ∧ j < 86) → j ≠ 86 → ¬ (87 ≤ j ∧ j < 91) → j ≠ 91 → j ≠ 92 → j ≠ 93 → j ≠ 94 → j ≠ 95 → j ≠ 96 → j ≠ 97 → j ≠ 98 → j ≠ 99 → j ≠ 100 → j ≠ 101 → j ≠ 102 → j ≠ 103 → j ≠ 104 → j ≠ 105 → j ≠ 106 → j ≠ 107 → j ≠ 108 → j ≠ 109 → j ≠ 110 → j ≠ 111 → j ≠ 112 → j ≠ 113 → j ≠ 114 → mem711 j = mem j := fun j c0 c1 c2 c3 c4 c5 c6 c7 c8 c9 c10 c11 c12 c13 c14 c15 c16 c17 c18 c19 c20 c21 c22 c23 c24 c25 c26 c27 c28 c29 c30 c31 c32 c33 c34 c35 c36 c37 c38 c39 c40 c41 c42 c43 c44 c45 c46 c47 c48 => (k717 j (by omega) (by omega) (by omega) (by omega)).trans (hfr675 j c0 c1 c2 c3 c4 c5 c6 c7 c8 c9 c10 c11 c12 c13 c14 c15 c16 c17 c18 c19 c20 c21 c22 c23 c24 c25 c26 c27 c28 c29 c30 c31 c32 c33 c34 c35 c36 c37 c38 c39 c40 c41 c42 c43 c44 c45 c46 c47 c48)
      have f719 : mem711 0 = .inr (8, [.ref (b + 1), .ref (b + 72), .ref (b + 75), .ref (b + 78), .ref (b + 80), .ref (b + 91), .ref (b + 93), .ref (b + 96), .null]) := (k717 _ (by decide) (by decide) (by decide) (by decide)).trans f676
      have f720 : mem711 1 = .inr (0, [.ref (b + 2), .ref (b + 19), .ref (b + 20), .ref (b + 37), .ref (b + 38), .int (nI 0)]) := (k717 _ (by decide) (by decide) (by decide) (by decide)).trans f677
      have f721 : mem711 2 = aR Γ 7 16 (fun i => some (b + (3 + i))) := (k717 _ (by decide) (by decide) (by decide) (by decide)).trans f678
      have f722 : mem711 19 = aN Γ 16 (fun _ => 0) := (k717 _ (by decide) (by decide) (by decide) (by decide)).trans f679
      have f723 : mem711 20 = aR Γ 8 16 (fun i => some (b + (21 + i))) := (k717 _ (by decide) (by decide) (by decide) (by decide)).trans f680
      have f724 : mem711 37 = aR Γ 6 16 (fun i => some (b + (40 + 2 * i))) := (k717 _ (by decide) (by decide) (by decide) (by decide)).trans f681
      have f725 : mem711 38 = .inr (6, [.ref (b + 39), .int (nI 4), .int (nI 0)]) := (k717 _ (by decide) (by decide) (by decide) (by decide)).trans f682
      have f726 : mem711 39 = aF Γ 16 (fun _ => FP.fconst0) := (k717 _ (by decide) (by decide) (by decide) (by decide)).trans f683
      have f727 : mem711 72 = .inr (5, [.ref (b + 73), .ref (b + 74), .int (nI 0)]) := (k717 _ (by decide) (by decide) (by decide) (by decide)).trans f684
      have f728 : mem711 73 = aN Γ 4 (fun _ => 0) := (k717 _ (by decide) (by decide) (by decide) (by decide)).trans f685
      have f729 : mem711 74 = aN Γ 4 (fun _ => 0) := (k717 _ (by decide) (by decide) (by decide) (by decide)).trans f686
      have f730 : mem711 75 = .inr (5, [.ref (b + 76), .ref (b + 77), .int (nI 0)]) := (k717 _ (by decide) (by decide) (by decide) (by decide)).trans f687
      have f731 : mem711 76 = aN Γ 4 (fun _ => 0) := (k717 _ (by decide) (by decide) (by decide) (by decide)).trans f688
      have f732 : mem711 77 = aN Γ 4 (fun _ => 0) := (k717 _ (by decide) (by decide) (by decide) (by decide)).trans f689
      have f733 : mem711 78 = .inr (6, [.ref (b + 79), .int (nI 3), .int (nI 0)]) := (k717 _ (by decide) (by decide) (by decide) (by decide)).trans f690
      have f734 : mem711 79 = aF Γ 12 (fun _ => FP.fconst0) := (k717 _ (by decide) (by decide) (by decide) (by decide)).trans f691
      have f735 : mem711 80 = .inr (3, [.ref (b + 81), .ref (b + 86), .int (nI 0)]) := (k717 _ (by decide) (by decide) (by decide) (by decide)).trans f692
      have f736 : mem711 81 = aR Γ 9 4 (fun i => some (b + (82 + i))) := (k717 _ (by decide) (by decide) (by decide) (by decide)).trans f693
      have f737 : mem711 86 = aR Γ 9 4 (fun i => some (b + (87 + i))) := (k717 _ (by decide) (by decide) (by decide) (by decide)).trans f694
      have f738 : mem711 91 = .inr (7, [.ref (b + 1), .ref (b + 78), .ref (b + 92), .int (bI false)]) := (k717 _ (by decide) (by decide) (by decide) (by decide)).trans f695
      have f739 : mem711 92 = aB Γ 4 (fun _ => false) := (k717 _ (by decide) (by decide) (by decide) (by decide)).trans f696
      have f740 : mem711 93 = .inr (4, [.ref (b + 94), .ref (b + 95), .int (nI 0), .int (nI 0)]) := (k717 _ (by decide) (by decide) (by decide) (by decide)).trans f697
      have f741 : mem711 94 = aN Γ 20 (fun _ => 0) := (k717 _ (by decide) (by decide) (by decide) (by decide)).trans f698
      have f742 : mem711 95 = aD Γ 20 (fun _ => FP.dconst0) := (k717 _ (by decide) (by decide) (by decide) (by decide)).trans f699
      have f743 : mem711 96 = aR Γ 5 3 (va_up (fun _ => none) 0 (some (b + 97))) := (k717 _ (by decide) (by decide) (by decide) (by decide)).trans f700
      have f744 : mem711 97 = .inr (2, [.ref (b + 98), .int (bI false), .int (nI 0), .int (nI 0), .int (nI 0)]) := (k717 _ (by decide) (by decide) (by decide) (by decide)).trans f701
      have f745 : mem711 98 = .inr (4, [.ref (b + 99), .ref (b + 100), .int (nI 0), .int (nI 0)]) := (k717 _ (by decide) (by decide) (by decide) (by decide)).trans f702
      have f746 : mem711 99 = aN Γ 20 (fun _ => 0) := (k717 _ (by decide) (by decide) (by decide) (by decide)).trans f703
      have f747 : mem711 100 = aD Γ 20 (fun _ => FP.dconst0) := (k717 _ (by decide) (by decide) (by decide) (by decide)).trans f704
      have f748 : ∀ z9, z9 < 16 → mem711 (3 + z9) = aN Γ 12 ((fun _ _ => 0) z9) := fun z9 hz9 => (k717 _ (by omega) (by omega) (by omega) (by omega)).trans (f705 z9 hz9)
      have f749 : ∀ z9, z9 < 16 → mem711 (21 + z9) = aF Γ 12 ((fun _ _ => FP.fconst0) z9) := fun z9 hz9 => (k717 _ (by omega) (by omega) (by omega) (by omega)).trans (f706 z9 hz9)
      have f750 : ∀ z9, z9 < 16 → mem711 (40 + 2 * z9) = .inr (6, [.ref (b + (40 + 2 * z9 + 1)), .int (nI 4), .int (nI ((fun _ => 0) z9))]) := fun z9 hz9 => (k717 _ (by omega) (by omega) (by omega) (by omega)).trans (f707 z9 hz9)
      have f751 : ∀ z9, z9 < 16 → mem711 (40 + 2 * z9 + 1) = aF Γ 16 ((fun _ _ => FP.fconst0) z9) := fun z9 hz9 => (k717 _ (by omega) (by omega) (by omega) (by omega)).trans (f708 z9 hz9)
      have f752 : ∀ z9, z9 < 4 → mem711 (82 + z9) = aD Γ 16 ((fun _ _ => FP.dconst0) z9) := fun z9 hz9 => (k717 _ (by omega) (by omega) (by omega) (by omega)).trans (f709 z9 hz9)
      have f753 : ∀ z9, z9 < 4 → mem711 (87 + z9) = aD Γ 4 ((fun _ _ => FP.dconst0) z9) := fun z9 hz9 => (k717 _ (by omega) (by omega) (by omega) (by omega)).trans (f710 z9 hz9)
      have hh : GH Γ b (105) mem711 s _ _ := hh
      refine mm_aast hx hb hE hh 5 2 (by omega) f743 rfl (by omega) f713 rfl (by omega) (by decide) dX9_init_117 (fun H locs mem754 f755 k756 hh => ?_)
      have hfr757 : ∀ j, j ≠ 0 → j ≠ 1 → j ≠ 2 → ¬ (3 ≤ j ∧ j < 19) → j ≠ 19 → j ≠ 20 → ¬ (21 ≤ j ∧ j < 37) → j ≠ 37 → j ≠ 38 → j ≠ 39 → ¬ (40 ≤ j ∧ j < 71) → ¬ (41 ≤ j ∧ j < 72) → j ≠ 72 → j ≠ 73 → j ≠ 74 → j ≠ 75 → j ≠ 76 → j ≠ 77 → j ≠ 78 → j ≠ 79 → j ≠ 80 → j ≠ 81 → ¬ (82 ≤ j ∧ j < 86) → j ≠ 86 → ¬ (87 ≤ j ∧ j < 91) → j ≠ 91 → j ≠ 92 → j ≠ 93 → j ≠ 94 → j ≠ 95 → j ≠ 96 → j ≠ 97 → j ≠ 98 → j ≠ 99 → j ≠ 100 → j ≠ 101 → j ≠ 102 → j ≠ 103 → j ≠ 104 → j ≠ 105 → j ≠ 106 → j ≠ 107 → j ≠ 108 → j ≠ 109 → j ≠ 110 → j ≠ 111 → j ≠ 112 → j ≠ 113 → j ≠ 114 → mem754 j = mem j := fun j c0 c1 c2 c3 c4 c5 c6 c7 c8 c9 c10 c11 c12 c13 c14 c15 c16 c17 c18 c19 c20 c21 c22 c23 c24 c25 c26 c27 c28 c29 c30 c31 c32 c33 c34 c35 c36 c37 c38 c39 c40 c41 c42 c43 c44 c45 c46 c47 c48 => (k756 j (by omega)).trans (hfr718 j c0 c1 c2 c3 c4 c5 c6 c7 c8 c9 c10 c11 c12 c13 c14 c15 c16 c17 c18 c19 c20 c21 c22 c23 c24 c25 c26 c27 c28 c29 c30 c31 c32 c33 c34 c35 c36 c37 c38 c39 c40 c41 c42 c43 c44 c45 c46 c47 c48)
      have f758 : mem754 0 = .inr (8, [.ref (b + 1), .ref (b + 72), .ref (b + 75), .ref (b + 78), .ref (b + 80), .ref (b + 91), .ref (b + 93), .ref (b + 96), .null]) := (k756 _ (by decide)).trans f719
      have f759 : mem754 1 = .inr (0, [.ref (b + 2), .ref (b + 19), .ref (b + 20), .ref (b + 37), .ref (b + 38), .int (nI 0)]) := (k756 _ (by decide)).trans f720
      have f760 : mem754 2 = aR Γ 7 16 (fun i => some (b + (3 + i))) := (k756 _ (by decide)).trans f721
      have f761 : mem754 19 = aN Γ 16 (fun _ => 0) := (k756 _ (by decide)).trans f722
      have f762 : mem754 20 = aR Γ 8 16 (fun i => some (b + (21 + i))) := (k756 _ (by decide)).trans f723
      have f763 : mem754 37 = aR Γ 6 16 (fun i => some (b + (40 + 2 * i))) := (k756 _ (by decide)).trans f724
      have f764 : mem754 38 = .inr (6, [.ref (b + 39), .int (nI 4), .int (nI 0)]) := (k756 _ (by decide)).trans f725
      have f765 : mem754 39 = aF Γ 16 (fun _ => FP.fconst0) := (k756 _ (by decide)).trans f726
      have f766 : mem754 72 = .inr (5, [.ref (b + 73), .ref (b + 74), .int (nI 0)]) := (k756 _ (by decide)).trans f727
      have f767 : mem754 73 = aN Γ 4 (fun _ => 0) := (k756 _ (by decide)).trans f728
      have f768 : mem754 74 = aN Γ 4 (fun _ => 0) := (k756 _ (by decide)).trans f729
      have f769 : mem754 75 = .inr (5, [.ref (b + 76), .ref (b + 77), .int (nI 0)]) := (k756 _ (by decide)).trans f730
      have f770 : mem754 76 = aN Γ 4 (fun _ => 0) := (k756 _ (by decide)).trans f731
      have f771 : mem754 77 = aN Γ 4 (fun _ => 0) := (k756 _ (by decide)).trans f732
      have f772 : mem754 78 = .inr (6, [.ref (b + 79), .int (nI 3), .int (nI 0)]) := (k756 _ (by decide)).trans f733
      have f773 : mem754 79 = aF Γ 12 (fun _ => FP.fconst0) := (k756 _ (by decide)).trans f734
      have f774 : mem754 80 = .inr (3, [.ref (b + 81), .ref (b + 86), .int (nI 0)]) := (k756 _ (by decide)).trans f735
      have f775 : mem754 81 = aR Γ 9 4 (fun i => some (b + (82 + i))) := (k756 _ (by decide)).trans f736
      have f776 : mem754 86 = aR Γ 9 4 (fun i => some (b + (87 + i))) := (k756 _ (by decide)).trans f737
      have f777 : mem754 91 = .inr (7, [.ref (b + 1), .ref (b + 78), .ref (b + 92), .int (bI false)]) := (k756 _ (by decide)).trans f738
      have f778 : mem754 92 = aB Γ 4 (fun _ => false) := (k756 _ (by decide)).trans f739
      have f779 : mem754 93 = .inr (4, [.ref (b + 94), .ref (b + 95), .int (nI 0), .int (nI 0)]) := (k756 _ (by decide)).trans f740
      have f780 : mem754 94 = aN Γ 20 (fun _ => 0) := (k756 _ (by decide)).trans f741
      have f781 : mem754 95 = aD Γ 20 (fun _ => FP.dconst0) := (k756 _ (by decide)).trans f742
      have f782 : mem754 97 = .inr (2, [.ref (b + 98), .int (bI false), .int (nI 0), .int (nI 0), .int (nI 0)]) := (k756 _ (by decide)).trans f744
      have f783 : mem754 98 = .inr (4, [.ref (b + 99), .ref (b + 100), .int (nI 0), .int (nI 0)]) := (k756 _ (by decide)).trans f745
      have f784 : mem754 99 = aN Γ 20 (fun _ => 0) := (k756 _ (by decide)).trans f746
      have f785 : mem754 100 = aD Γ 20 (fun _ => FP.dconst0) := (k756 _ (by decide)).trans f747
      have f786 : mem754 101 = .inr (2, [.ref (b + 102), .int (bI false), .int (nI 0), .int (nI 0), .int (nI 0)]) := (k756 _ (by decide)).trans f713
      have f787 : mem754 102 = .inr (4, [.ref (b + 103), .ref (b + 104), .int (nI 0), .int (nI 0)]) := (k756 _ (by decide)).trans f714
      have f788 : mem754 103 = aN Γ 20 (fun _ => 0) := (k756 _ (by decide)).trans f715
      have f789 : mem754 104 = aD Γ 20 (fun _ => FP.dconst0) := (k756 _ (by decide)).trans f716
      have f790 : ∀ z9, z9 < 16 → mem754 (3 + z9) = aN Γ 12 ((fun _ _ => 0) z9) := fun z9 hz9 => (k756 _ (by omega)).trans (f748 z9 hz9)
      have f791 : ∀ z9, z9 < 16 → mem754 (21 + z9) = aF Γ 12 ((fun _ _ => FP.fconst0) z9) := fun z9 hz9 => (k756 _ (by omega)).trans (f749 z9 hz9)
      have f792 : ∀ z9, z9 < 16 → mem754 (40 + 2 * z9) = .inr (6, [.ref (b + (40 + 2 * z9 + 1)), .int (nI 4), .int (nI ((fun _ => 0) z9))]) := fun z9 hz9 => (k756 _ (by omega)).trans (f750 z9 hz9)
      have f793 : ∀ z9, z9 < 16 → mem754 (40 + 2 * z9 + 1) = aF Γ 16 ((fun _ _ => FP.fconst0) z9) := fun z9 hz9 => (k756 _ (by omega)).trans (f751 z9 hz9)
      have f794 : ∀ z9, z9 < 4 → mem754 (82 + z9) = aD Γ 16 ((fun _ _ => FP.dconst0) z9) := fun z9 hz9 => (k756 _ (by omega)).trans (f752 z9 hz9)
      have f795 : ∀ z9, z9 < 4 → mem754 (87 + z9) = aD Γ 4 ((fun _ _ => FP.dconst0) z9) := fun z9 hz9 => (k756 _ (by omega)).trans (f753 z9 hz9)
      refine nn_iinc (x := 1) (d := 1) (lv' := [(1, .int (nI 2)), (0, .ref (b + 0))]) hx hb dX9_init_118 hl (k := 0) rfl (by decide) (by decide) rfl (fun ls hl => ?_)
      refine lv_goto (tgt := 100) hx hb dX9_init_121 (by decide) ?_
      refine lv_iload_n hx hb dX9_init_100 rfl (lv_at hl 0 rfl) ?_
      refine lv_iconst (v := (nI 3)) hx hb dX9_init_101 (by decide) ?_
      refine nn_icmp_ge (tgt := 124) hx hb dX9_init_102 (by decide) (by omega) (by omega) (fun h796 => ?_) (fun h796 => ?_)
      ·
        exact absurd h796 (by decide)
      ·
        refine lv_aload_n hx hb dX9_init_105 rfl (lv_at hl 1 rfl) ?_
        refine gf_X9_lists hx hb hE hown hh (by omega) f758 rfl dX9_init_106 ?_
        refine lv_iload_n hx hb dX9_init_109 rfl (lv_at hl 0 rfl) ?_
        refine mn_new (ci := 2) (fs := [.null, .int (bI false), .int (nI 0), .int (nI 0), .int (nI 0)]) hx hb hE hown (uw_X2 hE.2.1 args) tyX2 tyX2_ok (wc_X9_58 hE.2.1 args) (wi_X2 hE.2.1 args) (wn_X2 hE.2.1 args) rfl (by decide +kernel) (by omega) hh (by show _ ≤ 114; omega) (by show _ ≤ 1186; omega) dX9_init_110 (fun H mem797 f798 k799 hh => ?_)
        have hfr800 : ∀ j, j ≠ 0 → j ≠ 1 → j ≠ 2 → ¬ (3 ≤ j ∧ j < 19) → j ≠ 19 → j ≠ 20 → ¬ (21 ≤ j ∧ j < 37) → j ≠ 37 → j ≠ 38 → j ≠ 39 → ¬ (40 ≤ j ∧ j < 71) → ¬ (41 ≤ j ∧ j < 72) → j ≠ 72 → j ≠ 73 → j ≠ 74 → j ≠ 75 → j ≠ 76 → j ≠ 77 → j ≠ 78 → j ≠ 79 → j ≠ 80 → j ≠ 81 → ¬ (82 ≤ j ∧ j < 86) → j ≠ 86 → ¬ (87 ≤ j ∧ j < 91) → j ≠ 91 → j ≠ 92 → j ≠ 93 → j ≠ 94 → j ≠ 95 → j ≠ 96 → j ≠ 97 → j ≠ 98 → j ≠ 99 → j ≠ 100 → j ≠ 101 → j ≠ 102 → j ≠ 103 → j ≠ 104 → j ≠ 105 → j ≠ 106 → j ≠ 107 → j ≠ 108 → j ≠ 109 → j ≠ 110 → j ≠ 111 → j ≠ 112 → j ≠ 113 → j ≠ 114 → mem797 j = mem j := fun j c0 c1 c2 c3 c4 c5 c6 c7 c8 c9 c10 c11 c12 c13 c14 c15 c16 c17 c18 c19 c20 c21 c22 c23 c24 c25 c26 c27 c28 c29 c30 c31 c32 c33 c34 c35 c36 c37 c38 c39 c40 c41 c42 c43 c44 c45 c46 c47 c48 => (k799 j (by omega)).trans (hfr757 j c0 c1 c2 c3 c4 c5 c6 c7 c8 c9 c10 c11 c12 c13 c14 c15 c16 c17 c18 c19 c20 c21 c22 c23 c24 c25 c26 c27 c28 c29 c30 c31 c32 c33 c34 c35 c36 c37 c38 c39 c40 c41 c42 c43 c44 c45 c46 c47 c48)
        have f801 : mem797 0 = .inr (8, [.ref (b + 1), .ref (b + 72), .ref (b + 75), .ref (b + 78), .ref (b + 80), .ref (b + 91), .ref (b + 93), .ref (b + 96), .null]) := (k799 _ (by decide)).trans f758
        have f802 : mem797 1 = .inr (0, [.ref (b + 2), .ref (b + 19), .ref (b + 20), .ref (b + 37), .ref (b + 38), .int (nI 0)]) := (k799 _ (by decide)).trans f759
        have f803 : mem797 2 = aR Γ 7 16 (fun i => some (b + (3 + i))) := (k799 _ (by decide)).trans f760
        have f804 : mem797 19 = aN Γ 16 (fun _ => 0) := (k799 _ (by decide)).trans f761
        have f805 : mem797 20 = aR Γ 8 16 (fun i => some (b + (21 + i))) := (k799 _ (by decide)).trans f762
        have f806 : mem797 37 = aR Γ 6 16 (fun i => some (b + (40 + 2 * i))) := (k799 _ (by decide)).trans f763
        have f807 : mem797 38 = .inr (6, [.ref (b + 39), .int (nI 4), .int (nI 0)]) := (k799 _ (by decide)).trans f764
        have f808 : mem797 39 = aF Γ 16 (fun _ => FP.fconst0) := (k799 _ (by decide)).trans f765
        have f809 : mem797 72 = .inr (5, [.ref (b + 73), .ref (b + 74), .int (nI 0)]) := (k799 _ (by decide)).trans f766
        have f810 : mem797 73 = aN Γ 4 (fun _ => 0) := (k799 _ (by decide)).trans f767
        have f811 : mem797 74 = aN Γ 4 (fun _ => 0) := (k799 _ (by decide)).trans f768
        have f812 : mem797 75 = .inr (5, [.ref (b + 76), .ref (b + 77), .int (nI 0)]) := (k799 _ (by decide)).trans f769
        have f813 : mem797 76 = aN Γ 4 (fun _ => 0) := (k799 _ (by decide)).trans f770
        have f814 : mem797 77 = aN Γ 4 (fun _ => 0) := (k799 _ (by decide)).trans f771
        have f815 : mem797 78 = .inr (6, [.ref (b + 79), .int (nI 3), .int (nI 0)]) := (k799 _ (by decide)).trans f772
        have f816 : mem797 79 = aF Γ 12 (fun _ => FP.fconst0) := (k799 _ (by decide)).trans f773
        have f817 : mem797 80 = .inr (3, [.ref (b + 81), .ref (b + 86), .int (nI 0)]) := (k799 _ (by decide)).trans f774
        have f818 : mem797 81 = aR Γ 9 4 (fun i => some (b + (82 + i))) := (k799 _ (by decide)).trans f775
        have f819 : mem797 86 = aR Γ 9 4 (fun i => some (b + (87 + i))) := (k799 _ (by decide)).trans f776
        have f820 : mem797 91 = .inr (7, [.ref (b + 1), .ref (b + 78), .ref (b + 92), .int (bI false)]) := (k799 _ (by decide)).trans f777
        have f821 : mem797 92 = aB Γ 4 (fun _ => false) := (k799 _ (by decide)).trans f778
        have f822 : mem797 93 = .inr (4, [.ref (b + 94), .ref (b + 95), .int (nI 0), .int (nI 0)]) := (k799 _ (by decide)).trans f779
        have f823 : mem797 94 = aN Γ 20 (fun _ => 0) := (k799 _ (by decide)).trans f780
        have f824 : mem797 95 = aD Γ 20 (fun _ => FP.dconst0) := (k799 _ (by decide)).trans f781
        have f825 : mem797 96 = aR Γ 5 3 (va_up (va_up (fun _ => none) 0 (some (b + 97))) 1 (some (b + 101))) := (k799 _ (by decide)).trans f755
        have f826 : mem797 97 = .inr (2, [.ref (b + 98), .int (bI false), .int (nI 0), .int (nI 0), .int (nI 0)]) := (k799 _ (by decide)).trans f782
        have f827 : mem797 98 = .inr (4, [.ref (b + 99), .ref (b + 100), .int (nI 0), .int (nI 0)]) := (k799 _ (by decide)).trans f783
        have f828 : mem797 99 = aN Γ 20 (fun _ => 0) := (k799 _ (by decide)).trans f784
        have f829 : mem797 100 = aD Γ 20 (fun _ => FP.dconst0) := (k799 _ (by decide)).trans f785
        have f830 : mem797 101 = .inr (2, [.ref (b + 102), .int (bI false), .int (nI 0), .int (nI 0), .int (nI 0)]) := (k799 _ (by decide)).trans f786
        have f831 : mem797 102 = .inr (4, [.ref (b + 103), .ref (b + 104), .int (nI 0), .int (nI 0)]) := (k799 _ (by decide)).trans f787
        have f832 : mem797 103 = aN Γ 20 (fun _ => 0) := (k799 _ (by decide)).trans f788
        have f833 : mem797 104 = aD Γ 20 (fun _ => FP.dconst0) := (k799 _ (by decide)).trans f789
        have f834 : ∀ z9, z9 < 16 → mem797 (3 + z9) = aN Γ 12 ((fun _ _ => 0) z9) := fun z9 hz9 => (k799 _ (by omega)).trans (f790 z9 hz9)
        have f835 : ∀ z9, z9 < 16 → mem797 (21 + z9) = aF Γ 12 ((fun _ _ => FP.fconst0) z9) := fun z9 hz9 => (k799 _ (by omega)).trans (f791 z9 hz9)
        have f836 : ∀ z9, z9 < 16 → mem797 (40 + 2 * z9) = .inr (6, [.ref (b + (40 + 2 * z9 + 1)), .int (nI 4), .int (nI ((fun _ => 0) z9))]) := fun z9 hz9 => (k799 _ (by omega)).trans (f792 z9 hz9)
        have f837 : ∀ z9, z9 < 16 → mem797 (40 + 2 * z9 + 1) = aF Γ 16 ((fun _ _ => FP.fconst0) z9) := fun z9 hz9 => (k799 _ (by omega)).trans (f793 z9 hz9)
        have f838 : ∀ z9, z9 < 4 → mem797 (82 + z9) = aD Γ 16 ((fun _ _ => FP.dconst0) z9) := fun z9 hz9 => (k799 _ (by omega)).trans (f794 z9 hz9)
        have f839 : ∀ z9, z9 < 4 → mem797 (87 + z9) = aD Γ 4 ((fun _ _ => FP.dconst0) z9) := fun z9 hz9 => (k799 _ (by omega)).trans (f795 z9 hz9)
        have hh : GH Γ b (106) mem797 s _ _ := hh
        refine lv_dup hx hb dX9_init_113 rfl ?_
        refine mn_IN (As := []) (rest := [.ref (b + 105), .int (nI 2), .ref (b + 96)]) (mc := 3) (ms := 44) hx hb hml hown hE hl.1 (by omega) hh (kc_X9_64 hE.2.1 hE.2.2.1 ⟨Nat.le_of_ble_eq_true rfl, Nat.le_of_ble_eq_true rfl⟩) (c_X2_init l Γ b mem797 (a := 105) f798) rfl rfl (Nat.le_of_ble_eq_true rfl) dX9_init_114 rfl rfl ⟨by show _ ≤ 114; omega, by show _ ≤ 1186; omega⟩ (fun H locs mem840 hP841 hh => ?_)
        obtain ⟨f842, f843, f844, f845, k846⟩ := hP841
        have hfr847 : ∀ j, j ≠ 0 → j ≠ 1 → j ≠ 2 → ¬ (3 ≤ j ∧ j < 19) → j ≠ 19 → j ≠ 20 → ¬ (21 ≤ j ∧ j < 37) → j ≠ 37 → j ≠ 38 → j ≠ 39 → ¬ (40 ≤ j ∧ j < 71) → ¬ (41 ≤ j ∧ j < 72) → j ≠ 72 → j ≠ 73 → j ≠ 74 → j ≠ 75 → j ≠ 76 → j ≠ 77 → j ≠ 78 → j ≠ 79 → j ≠ 80 → j ≠ 81 → ¬ (82 ≤ j ∧ j < 86) → j ≠ 86 → ¬ (87 ≤ j ∧ j < 91) → j ≠ 91 → j ≠ 92 → j ≠ 93 → j ≠ 94 → j ≠ 95 → j ≠ 96 → j ≠ 97 → j ≠ 98 → j ≠ 99 → j ≠ 100 → j ≠ 101 → j ≠ 102 → j ≠ 103 → j ≠ 104 → j ≠ 105 → j ≠ 106 → j ≠ 107 → j ≠ 108 → j ≠ 109 → j ≠ 110 → j ≠ 111 → j ≠ 112 → j ≠ 113 → j ≠ 114 → mem840 j = mem j := fun j c0 c1 c2 c3 c4 c5 c6 c7 c8 c9 c10 c11 c12 c13 c14 c15 c16 c17 c18 c19 c20 c21 c22 c23 c24 c25 c26 c27 c28 c29 c30 c31 c32 c33 c34 c35 c36 c37 c38 c39 c40 c41 c42 c43 c44 c45 c46 c47 c48 => (k846 j (by omega) (by omega) (by omega) (by omega)).trans (hfr800 j c0 c1 c2 c3 c4 c5 c6 c7 c8 c9 c10 c11 c12 c13 c14 c15 c16 c17 c18 c19 c20 c21 c22 c23 c24 c25 c26 c27 c28 c29 c30 c31 c32 c33 c34 c35 c36 c37 c38 c39 c40 c41 c42 c43 c44 c45 c46 c47 c48)
        have f848 : mem840 0 = .inr (8, [.ref (b + 1), .ref (b + 72), .ref (b + 75), .ref (b + 78), .ref (b + 80), .ref (b + 91), .ref (b + 93), .ref (b + 96), .null]) := (k846 _ (by decide) (by decide) (by decide) (by decide)).trans f801
        have f849 : mem840 1 = .inr (0, [.ref (b + 2), .ref (b + 19), .ref (b + 20), .ref (b + 37), .ref (b + 38), .int (nI 0)]) := (k846 _ (by decide) (by decide) (by decide) (by decide)).trans f802
        have f850 : mem840 2 = aR Γ 7 16 (fun i => some (b + (3 + i))) := (k846 _ (by decide) (by decide) (by decide) (by decide)).trans f803
        have f851 : mem840 19 = aN Γ 16 (fun _ => 0) := (k846 _ (by decide) (by decide) (by decide) (by decide)).trans f804
        have f852 : mem840 20 = aR Γ 8 16 (fun i => some (b + (21 + i))) := (k846 _ (by decide) (by decide) (by decide) (by decide)).trans f805
        have f853 : mem840 37 = aR Γ 6 16 (fun i => some (b + (40 + 2 * i))) := (k846 _ (by decide) (by decide) (by decide) (by decide)).trans f806
        have f854 : mem840 38 = .inr (6, [.ref (b + 39), .int (nI 4), .int (nI 0)]) := (k846 _ (by decide) (by decide) (by decide) (by decide)).trans f807
        have f855 : mem840 39 = aF Γ 16 (fun _ => FP.fconst0) := (k846 _ (by decide) (by decide) (by decide) (by decide)).trans f808
        have f856 : mem840 72 = .inr (5, [.ref (b + 73), .ref (b + 74), .int (nI 0)]) := (k846 _ (by decide) (by decide) (by decide) (by decide)).trans f809
        have f857 : mem840 73 = aN Γ 4 (fun _ => 0) := (k846 _ (by decide) (by decide) (by decide) (by decide)).trans f810
        have f858 : mem840 74 = aN Γ 4 (fun _ => 0) := (k846 _ (by decide) (by decide) (by decide) (by decide)).trans f811
        have f859 : mem840 75 = .inr (5, [.ref (b + 76), .ref (b + 77), .int (nI 0)]) := (k846 _ (by decide) (by decide) (by decide) (by decide)).trans f812
        have f860 : mem840 76 = aN Γ 4 (fun _ => 0) := (k846 _ (by decide) (by decide) (by decide) (by decide)).trans f813
        have f861 : mem840 77 = aN Γ 4 (fun _ => 0) := (k846 _ (by decide) (by decide) (by decide) (by decide)).trans f814
        have f862 : mem840 78 = .inr (6, [.ref (b + 79), .int (nI 3), .int (nI 0)]) := (k846 _ (by decide) (by decide) (by decide) (by decide)).trans f815
        have f863 : mem840 79 = aF Γ 12 (fun _ => FP.fconst0) := (k846 _ (by decide) (by decide) (by decide) (by decide)).trans f816
        have f864 : mem840 80 = .inr (3, [.ref (b + 81), .ref (b + 86), .int (nI 0)]) := (k846 _ (by decide) (by decide) (by decide) (by decide)).trans f817
        have f865 : mem840 81 = aR Γ 9 4 (fun i => some (b + (82 + i))) := (k846 _ (by decide) (by decide) (by decide) (by decide)).trans f818
        have f866 : mem840 86 = aR Γ 9 4 (fun i => some (b + (87 + i))) := (k846 _ (by decide) (by decide) (by decide) (by decide)).trans f819
        have f867 : mem840 91 = .inr (7, [.ref (b + 1), .ref (b + 78), .ref (b + 92), .int (bI false)]) := (k846 _ (by decide) (by decide) (by decide) (by decide)).trans f820
        have f868 : mem840 92 = aB Γ 4 (fun _ => false) := (k846 _ (by decide) (by decide) (by decide) (by decide)).trans f821
        have f869 : mem840 93 = .inr (4, [.ref (b + 94), .ref (b + 95), .int (nI 0), .int (nI 0)]) := (k846 _ (by decide) (by decide) (by decide) (by decide)).trans f822
        have f870 : mem840 94 = aN Γ 20 (fun _ => 0) := (k846 _ (by decide) (by decide) (by decide) (by decide)).trans f823
        have f871 : mem840 95 = aD Γ 20 (fun _ => FP.dconst0) := (k846 _ (by decide) (by decide) (by decide) (by decide)).trans f824
        have f872 : mem840 96 = aR Γ 5 3 (va_up (va_up (fun _ => none) 0 (some (b + 97))) 1 (some (b + 101))) := (k846 _ (by decide) (by decide) (by decide) (by decide)).trans f825
        have f873 : mem840 97 = .inr (2, [.ref (b + 98), .int (bI false), .int (nI 0), .int (nI 0), .int (nI 0)]) := (k846 _ (by decide) (by decide) (by decide) (by decide)).trans f826
        have f874 : mem840 98 = .inr (4, [.ref (b + 99), .ref (b + 100), .int (nI 0), .int (nI 0)]) := (k846 _ (by decide) (by decide) (by decide) (by decide)).trans f827
        have f875 : mem840 99 = aN Γ 20 (fun _ => 0) := (k846 _ (by decide) (by decide) (by decide) (by decide)).trans f828
        have f876 : mem840 100 = aD Γ 20 (fun _ => FP.dconst0) := (k846 _ (by decide) (by decide) (by decide) (by decide)).trans f829
        have f877 : mem840 101 = .inr (2, [.ref (b + 102), .int (bI false), .int (nI 0), .int (nI 0), .int (nI 0)]) := (k846 _ (by decide) (by decide) (by decide) (by decide)).trans f830
        have f878 : mem840 102 = .inr (4, [.ref (b + 103), .ref (b + 104), .int (nI 0), .int (nI 0)]) := (k846 _ (by decide) (by decide) (by decide) (by decide)).trans f831
        have f879 : mem840 103 = aN Γ 20 (fun _ => 0) := (k846 _ (by decide) (by decide) (by decide) (by decide)).trans f832
        have f880 : mem840 104 = aD Γ 20 (fun _ => FP.dconst0) := (k846 _ (by decide) (by decide) (by decide) (by decide)).trans f833
        have f881 : ∀ z9, z9 < 16 → mem840 (3 + z9) = aN Γ 12 ((fun _ _ => 0) z9) := fun z9 hz9 => (k846 _ (by omega) (by omega) (by omega) (by omega)).trans (f834 z9 hz9)
        have f882 : ∀ z9, z9 < 16 → mem840 (21 + z9) = aF Γ 12 ((fun _ _ => FP.fconst0) z9) := fun z9 hz9 => (k846 _ (by omega) (by omega) (by omega) (by omega)).trans (f835 z9 hz9)
        have f883 : ∀ z9, z9 < 16 → mem840 (40 + 2 * z9) = .inr (6, [.ref (b + (40 + 2 * z9 + 1)), .int (nI 4), .int (nI ((fun _ => 0) z9))]) := fun z9 hz9 => (k846 _ (by omega) (by omega) (by omega) (by omega)).trans (f836 z9 hz9)
        have f884 : ∀ z9, z9 < 16 → mem840 (40 + 2 * z9 + 1) = aF Γ 16 ((fun _ _ => FP.fconst0) z9) := fun z9 hz9 => (k846 _ (by omega) (by omega) (by omega) (by omega)).trans (f837 z9 hz9)
        have f885 : ∀ z9, z9 < 4 → mem840 (82 + z9) = aD Γ 16 ((fun _ _ => FP.dconst0) z9) := fun z9 hz9 => (k846 _ (by omega) (by omega) (by omega) (by omega)).trans (f838 z9 hz9)
        have f886 : ∀ z9, z9 < 4 → mem840 (87 + z9) = aD Γ 4 ((fun _ _ => FP.dconst0) z9) := fun z9 hz9 => (k846 _ (by omega) (by omega) (by omega) (by omega)).trans (f839 z9 hz9)
        have hh : GH Γ b (109) mem840 s _ _ := hh
        refine mm_aast hx hb hE hh 5 2 (by omega) f872 rfl (by omega) f842 rfl (by omega) (by decide) dX9_init_117 (fun H locs mem887 f888 k889 hh => ?_)
        have hfr890 : ∀ j, j ≠ 0 → j ≠ 1 → j ≠ 2 → ¬ (3 ≤ j ∧ j < 19) → j ≠ 19 → j ≠ 20 → ¬ (21 ≤ j ∧ j < 37) → j ≠ 37 → j ≠ 38 → j ≠ 39 → ¬ (40 ≤ j ∧ j < 71) → ¬ (41 ≤ j ∧ j < 72) → j ≠ 72 → j ≠ 73 → j ≠ 74 → j ≠ 75 → j ≠ 76 → j ≠ 77 → j ≠ 78 → j ≠ 79 → j ≠ 80 → j ≠ 81 → ¬ (82 ≤ j ∧ j < 86) → j ≠ 86 → ¬ (87 ≤ j ∧ j < 91) → j ≠ 91 → j ≠ 92 → j ≠ 93 → j ≠ 94 → j ≠ 95 → j ≠ 96 → j ≠ 97 → j ≠ 98 → j ≠ 99 → j ≠ 100 → j ≠ 101 → j ≠ 102 → j ≠ 103 → j ≠ 104 → j ≠ 105 → j ≠ 106 → j ≠ 107 → j ≠ 108 → j ≠ 109 → j ≠ 110 → j ≠ 111 → j ≠ 112 → j ≠ 113 → j ≠ 114 → mem887 j = mem j := fun j c0 c1 c2 c3 c4 c5 c6 c7 c8 c9 c10 c11 c12 c13 c14 c15 c16 c17 c18 c19 c20 c21 c22 c23 c24 c25 c26 c27 c28 c29 c30 c31 c32 c33 c34 c35 c36 c37 c38 c39 c40 c41 c42 c43 c44 c45 c46 c47 c48 => (k889 j (by omega)).trans (hfr847 j c0 c1 c2 c3 c4 c5 c6 c7 c8 c9 c10 c11 c12 c13 c14 c15 c16 c17 c18 c19 c20 c21 c22 c23 c24 c25 c26 c27 c28 c29 c30 c31 c32 c33 c34 c35 c36 c37 c38 c39 c40 c41 c42 c43 c44 c45 c46 c47 c48)
        have f891 : mem887 0 = .inr (8, [.ref (b + 1), .ref (b + 72), .ref (b + 75), .ref (b + 78), .ref (b + 80), .ref (b + 91), .ref (b + 93), .ref (b + 96), .null]) := (k889 _ (by decide)).trans f848
        have f892 : mem887 1 = .inr (0, [.ref (b + 2), .ref (b + 19), .ref (b + 20), .ref (b + 37), .ref (b + 38), .int (nI 0)]) := (k889 _ (by decide)).trans f849
        have f893 : mem887 2 = aR Γ 7 16 (fun i => some (b + (3 + i))) := (k889 _ (by decide)).trans f850
        have f894 : mem887 19 = aN Γ 16 (fun _ => 0) := (k889 _ (by decide)).trans f851
        have f895 : mem887 20 = aR Γ 8 16 (fun i => some (b + (21 + i))) := (k889 _ (by decide)).trans f852
        have f896 : mem887 37 = aR Γ 6 16 (fun i => some (b + (40 + 2 * i))) := (k889 _ (by decide)).trans f853
        have f897 : mem887 38 = .inr (6, [.ref (b + 39), .int (nI 4), .int (nI 0)]) := (k889 _ (by decide)).trans f854
        have f898 : mem887 39 = aF Γ 16 (fun _ => FP.fconst0) := (k889 _ (by decide)).trans f855
        have f899 : mem887 72 = .inr (5, [.ref (b + 73), .ref (b + 74), .int (nI 0)]) := (k889 _ (by decide)).trans f856
        have f900 : mem887 73 = aN Γ 4 (fun _ => 0) := (k889 _ (by decide)).trans f857
        have f901 : mem887 74 = aN Γ 4 (fun _ => 0) := (k889 _ (by decide)).trans f858
        have f902 : mem887 75 = .inr (5, [.ref (b + 76), .ref (b + 77), .int (nI 0)]) := (k889 _ (by decide)).trans f859
        have f903 : mem887 76 = aN Γ 4 (fun _ => 0) := (k889 _ (by decide)).trans f860
        have f904 : mem887 77 = aN Γ 4 (fun _ => 0) := (k889 _ (by decide)).trans f861
        have f905 : mem887 78 = .inr (6, [.ref (b + 79), .int (nI 3), .int (nI 0)]) := (k889 _ (by decide)).trans f862
        have f906 : mem887 79 = aF Γ 12 (fun _ => FP.fconst0) := (k889 _ (by decide)).trans f863
        have f907 : mem887 80 = .inr (3, [.ref (b + 81), .ref (b + 86), .int (nI 0)]) := (k889 _ (by decide)).trans f864
        have f908 : mem887 81 = aR Γ 9 4 (fun i => some (b + (82 + i))) := (k889 _ (by decide)).trans f865
        have f909 : mem887 86 = aR Γ 9 4 (fun i => some (b + (87 + i))) := (k889 _ (by decide)).trans f866
        have f910 : mem887 91 = .inr (7, [.ref (b + 1), .ref (b + 78), .ref (b + 92), .int (bI false)]) := (k889 _ (by decide)).trans f867
        have f911 : mem887 92 = aB Γ 4 (fun _ => false) := (k889 _ (by decide)).trans f868
        have f912 : mem887 93 = .inr (4, [.ref (b + 94), .ref (b + 95), .int (nI 0), .int (nI 0)]) := (k889 _ (by decide)).trans f869
        have f913 : mem887 94 = aN Γ 20 (fun _ => 0) := (k889 _ (by decide)).trans f870
        have f914 : mem887 95 = aD Γ 20 (fun _ => FP.dconst0) := (k889 _ (by decide)).trans f871
        have f915 : mem887 97 = .inr (2, [.ref (b + 98), .int (bI false), .int (nI 0), .int (nI 0), .int (nI 0)]) := (k889 _ (by decide)).trans f873
        have f916 : mem887 98 = .inr (4, [.ref (b + 99), .ref (b + 100), .int (nI 0), .int (nI 0)]) := (k889 _ (by decide)).trans f874
        have f917 : mem887 99 = aN Γ 20 (fun _ => 0) := (k889 _ (by decide)).trans f875
        have f918 : mem887 100 = aD Γ 20 (fun _ => FP.dconst0) := (k889 _ (by decide)).trans f876
        have f919 : mem887 101 = .inr (2, [.ref (b + 102), .int (bI false), .int (nI 0), .int (nI 0), .int (nI 0)]) := (k889 _ (by decide)).trans f877
        have f920 : mem887 102 = .inr (4, [.ref (b + 103), .ref (b + 104), .int (nI 0), .int (nI 0)]) := (k889 _ (by decide)).trans f878
        have f921 : mem887 103 = aN Γ 20 (fun _ => 0) := (k889 _ (by decide)).trans f879
        have f922 : mem887 104 = aD Γ 20 (fun _ => FP.dconst0) := (k889 _ (by decide)).trans f880
        have f923 : mem887 105 = .inr (2, [.ref (b + 106), .int (bI false), .int (nI 0), .int (nI 0), .int (nI 0)]) := (k889 _ (by decide)).trans f842
        have f924 : mem887 106 = .inr (4, [.ref (b + 107), .ref (b + 108), .int (nI 0), .int (nI 0)]) := (k889 _ (by decide)).trans f843
        have f925 : mem887 107 = aN Γ 20 (fun _ => 0) := (k889 _ (by decide)).trans f844
        have f926 : mem887 108 = aD Γ 20 (fun _ => FP.dconst0) := (k889 _ (by decide)).trans f845
        have f927 : ∀ z9, z9 < 16 → mem887 (3 + z9) = aN Γ 12 ((fun _ _ => 0) z9) := fun z9 hz9 => (k889 _ (by omega)).trans (f881 z9 hz9)
        have f928 : ∀ z9, z9 < 16 → mem887 (21 + z9) = aF Γ 12 ((fun _ _ => FP.fconst0) z9) := fun z9 hz9 => (k889 _ (by omega)).trans (f882 z9 hz9)
        have f929 : ∀ z9, z9 < 16 → mem887 (40 + 2 * z9) = .inr (6, [.ref (b + (40 + 2 * z9 + 1)), .int (nI 4), .int (nI ((fun _ => 0) z9))]) := fun z9 hz9 => (k889 _ (by omega)).trans (f883 z9 hz9)
        have f930 : ∀ z9, z9 < 16 → mem887 (40 + 2 * z9 + 1) = aF Γ 16 ((fun _ _ => FP.fconst0) z9) := fun z9 hz9 => (k889 _ (by omega)).trans (f884 z9 hz9)
        have f931 : ∀ z9, z9 < 4 → mem887 (82 + z9) = aD Γ 16 ((fun _ _ => FP.dconst0) z9) := fun z9 hz9 => (k889 _ (by omega)).trans (f885 z9 hz9)
        have f932 : ∀ z9, z9 < 4 → mem887 (87 + z9) = aD Γ 4 ((fun _ _ => FP.dconst0) z9) := fun z9 hz9 => (k889 _ (by omega)).trans (f886 z9 hz9)
        refine nn_iinc (x := 2) (d := 1) (lv' := [(1, .int (nI 3)), (0, .ref (b + 0))]) hx hb dX9_init_118 hl (k := 0) rfl (by decide) (by decide) rfl (fun ls hl => ?_)
        refine lv_goto (tgt := 100) hx hb dX9_init_121 (by decide) ?_
        refine lv_iload_n hx hb dX9_init_100 rfl (lv_at hl 0 rfl) ?_
        refine lv_iconst (v := (nI 3)) hx hb dX9_init_101 (by decide) ?_
        refine nn_icmp_ge (tgt := 124) hx hb dX9_init_102 (by decide) (by omega) (by omega) (fun h933 => ?_) (fun h933 => ?_)
        ·
          refine lv_aload_n hx hb dX9_init_124 rfl (lv_at hl 1 rfl) ?_
          refine mn_new (ci := 1) (fs := [.null, .null, .null]) hx hb hE hown (uw_X1 hE.2.1 args) tyX1 tyX1_ok (wc_X9_65 hE.2.1 args) (wi_X1 hE.2.1 args) (wn_X1 hE.2.1 args) rfl (by decide +kernel) (by omega) hh (by show _ ≤ 114; omega) (by show _ ≤ 1186; omega) dX9_init_125 (fun H mem934 f935 k936 hh => ?_)
          have hfr937 : ∀ j, j ≠ 0 → j ≠ 1 → j ≠ 2 → ¬ (3 ≤ j ∧ j < 19) → j ≠ 19 → j ≠ 20 → ¬ (21 ≤ j ∧ j < 37) → j ≠ 37 → j ≠ 38 → j ≠ 39 → ¬ (40 ≤ j ∧ j < 71) → ¬ (41 ≤ j ∧ j < 72) → j ≠ 72 → j ≠ 73 → j ≠ 74 → j ≠ 75 → j ≠ 76 → j ≠ 77 → j ≠ 78 → j ≠ 79 → j ≠ 80 → j ≠ 81 → ¬ (82 ≤ j ∧ j < 86) → j ≠ 86 → ¬ (87 ≤ j ∧ j < 91) → j ≠ 91 → j ≠ 92 → j ≠ 93 → j ≠ 94 → j ≠ 95 → j ≠ 96 → j ≠ 97 → j ≠ 98 → j ≠ 99 → j ≠ 100 → j ≠ 101 → j ≠ 102 → j ≠ 103 → j ≠ 104 → j ≠ 105 → j ≠ 106 → j ≠ 107 → j ≠ 108 → j ≠ 109 → j ≠ 110 → j ≠ 111 → j ≠ 112 → j ≠ 113 → j ≠ 114 → mem934 j = mem j := fun j c0 c1 c2 c3 c4 c5 c6 c7 c8 c9 c10 c11 c12 c13 c14 c15 c16 c17 c18 c19 c20 c21 c22 c23 c24 c25 c26 c27 c28 c29 c30 c31 c32 c33 c34 c35 c36 c37 c38 c39 c40 c41 c42 c43 c44 c45 c46 c47 c48 => (k936 j (by omega)).trans (hfr890 j c0 c1 c2 c3 c4 c5 c6 c7 c8 c9 c10 c11 c12 c13 c14 c15 c16 c17 c18 c19 c20 c21 c22 c23 c24 c25 c26 c27 c28 c29 c30 c31 c32 c33 c34 c35 c36 c37 c38 c39 c40 c41 c42 c43 c44 c45 c46 c47 c48)
          have f938 : mem934 0 = .inr (8, [.ref (b + 1), .ref (b + 72), .ref (b + 75), .ref (b + 78), .ref (b + 80), .ref (b + 91), .ref (b + 93), .ref (b + 96), .null]) := (k936 _ (by decide)).trans f891
          have f939 : mem934 1 = .inr (0, [.ref (b + 2), .ref (b + 19), .ref (b + 20), .ref (b + 37), .ref (b + 38), .int (nI 0)]) := (k936 _ (by decide)).trans f892
          have f940 : mem934 2 = aR Γ 7 16 (fun i => some (b + (3 + i))) := (k936 _ (by decide)).trans f893
          have f941 : mem934 19 = aN Γ 16 (fun _ => 0) := (k936 _ (by decide)).trans f894
          have f942 : mem934 20 = aR Γ 8 16 (fun i => some (b + (21 + i))) := (k936 _ (by decide)).trans f895
          have f943 : mem934 37 = aR Γ 6 16 (fun i => some (b + (40 + 2 * i))) := (k936 _ (by decide)).trans f896
          have f944 : mem934 38 = .inr (6, [.ref (b + 39), .int (nI 4), .int (nI 0)]) := (k936 _ (by decide)).trans f897
          have f945 : mem934 39 = aF Γ 16 (fun _ => FP.fconst0) := (k936 _ (by decide)).trans f898
          have f946 : mem934 72 = .inr (5, [.ref (b + 73), .ref (b + 74), .int (nI 0)]) := (k936 _ (by decide)).trans f899
          have f947 : mem934 73 = aN Γ 4 (fun _ => 0) := (k936 _ (by decide)).trans f900
          have f948 : mem934 74 = aN Γ 4 (fun _ => 0) := (k936 _ (by decide)).trans f901
          have f949 : mem934 75 = .inr (5, [.ref (b + 76), .ref (b + 77), .int (nI 0)]) := (k936 _ (by decide)).trans f902
          have f950 : mem934 76 = aN Γ 4 (fun _ => 0) := (k936 _ (by decide)).trans f903
          have f951 : mem934 77 = aN Γ 4 (fun _ => 0) := (k936 _ (by decide)).trans f904
          have f952 : mem934 78 = .inr (6, [.ref (b + 79), .int (nI 3), .int (nI 0)]) := (k936 _ (by decide)).trans f905
          have f953 : mem934 79 = aF Γ 12 (fun _ => FP.fconst0) := (k936 _ (by decide)).trans f906
          have f954 : mem934 80 = .inr (3, [.ref (b + 81), .ref (b + 86), .int (nI 0)]) := (k936 _ (by decide)).trans f907
          have f955 : mem934 81 = aR Γ 9 4 (fun i => some (b + (82 + i))) := (k936 _ (by decide)).trans f908
          have f956 : mem934 86 = aR Γ 9 4 (fun i => some (b + (87 + i))) := (k936 _ (by decide)).trans f909
          have f957 : mem934 91 = .inr (7, [.ref (b + 1), .ref (b + 78), .ref (b + 92), .int (bI false)]) := (k936 _ (by decide)).trans f910
          have f958 : mem934 92 = aB Γ 4 (fun _ => false) := (k936 _ (by decide)).trans f911
          have f959 : mem934 93 = .inr (4, [.ref (b + 94), .ref (b + 95), .int (nI 0), .int (nI 0)]) := (k936 _ (by decide)).trans f912
          have f960 : mem934 94 = aN Γ 20 (fun _ => 0) := (k936 _ (by decide)).trans f913
          have f961 : mem934 95 = aD Γ 20 (fun _ => FP.dconst0) := (k936 _ (by decide)).trans f914
          have f962 : mem934 96 = aR Γ 5 3 (va_up (va_up (va_up (fun _ => none) 0 (some (b + 97))) 1 (some (b + 101))) 2 (some (b + 105))) := (k936 _ (by decide)).trans f888
          have f963 : mem934 97 = .inr (2, [.ref (b + 98), .int (bI false), .int (nI 0), .int (nI 0), .int (nI 0)]) := (k936 _ (by decide)).trans f915
          have f964 : mem934 98 = .inr (4, [.ref (b + 99), .ref (b + 100), .int (nI 0), .int (nI 0)]) := (k936 _ (by decide)).trans f916
          have f965 : mem934 99 = aN Γ 20 (fun _ => 0) := (k936 _ (by decide)).trans f917
          have f966 : mem934 100 = aD Γ 20 (fun _ => FP.dconst0) := (k936 _ (by decide)).trans f918
          have f967 : mem934 101 = .inr (2, [.ref (b + 102), .int (bI false), .int (nI 0), .int (nI 0), .int (nI 0)]) := (k936 _ (by decide)).trans f919
          have f968 : mem934 102 = .inr (4, [.ref (b + 103), .ref (b + 104), .int (nI 0), .int (nI 0)]) := (k936 _ (by decide)).trans f920
          have f969 : mem934 103 = aN Γ 20 (fun _ => 0) := (k936 _ (by decide)).trans f921
          have f970 : mem934 104 = aD Γ 20 (fun _ => FP.dconst0) := (k936 _ (by decide)).trans f922
          have f971 : mem934 105 = .inr (2, [.ref (b + 106), .int (bI false), .int (nI 0), .int (nI 0), .int (nI 0)]) := (k936 _ (by decide)).trans f923
          have f972 : mem934 106 = .inr (4, [.ref (b + 107), .ref (b + 108), .int (nI 0), .int (nI 0)]) := (k936 _ (by decide)).trans f924
          have f973 : mem934 107 = aN Γ 20 (fun _ => 0) := (k936 _ (by decide)).trans f925
          have f974 : mem934 108 = aD Γ 20 (fun _ => FP.dconst0) := (k936 _ (by decide)).trans f926
          have f975 : ∀ z9, z9 < 16 → mem934 (3 + z9) = aN Γ 12 ((fun _ _ => 0) z9) := fun z9 hz9 => (k936 _ (by omega)).trans (f927 z9 hz9)
          have f976 : ∀ z9, z9 < 16 → mem934 (21 + z9) = aF Γ 12 ((fun _ _ => FP.fconst0) z9) := fun z9 hz9 => (k936 _ (by omega)).trans (f928 z9 hz9)
          have f977 : ∀ z9, z9 < 16 → mem934 (40 + 2 * z9) = .inr (6, [.ref (b + (40 + 2 * z9 + 1)), .int (nI 4), .int (nI ((fun _ => 0) z9))]) := fun z9 hz9 => (k936 _ (by omega)).trans (f929 z9 hz9)
          have f978 : ∀ z9, z9 < 16 → mem934 (40 + 2 * z9 + 1) = aF Γ 16 ((fun _ _ => FP.fconst0) z9) := fun z9 hz9 => (k936 _ (by omega)).trans (f930 z9 hz9)
          have f979 : ∀ z9, z9 < 4 → mem934 (82 + z9) = aD Γ 16 ((fun _ _ => FP.dconst0) z9) := fun z9 hz9 => (k936 _ (by omega)).trans (f931 z9 hz9)
          have f980 : ∀ z9, z9 < 4 → mem934 (87 + z9) = aD Γ 4 ((fun _ _ => FP.dconst0) z9) := fun z9 hz9 => (k936 _ (by omega)).trans (f932 z9 hz9)
          have hh : GH Γ b (110) mem934 s _ _ := hh
          refine lv_dup hx hb dX9_init_128 rfl ?_
          refine mn_IN (As := []) (rest := [.ref (b + 109), .ref (b + 0)]) (mc := 5) (ms := 76) hx hb hml hown hE hl.1 (by omega) hh (kc_X9_67 hE.2.1 hE.2.2.1 ⟨Nat.le_of_ble_eq_true rfl, Nat.le_of_ble_eq_true rfl⟩) (c_X1_init l Γ b mem934 (a := 109) f935) rfl rfl (Nat.le_of_ble_eq_true rfl) dX9_init_129 rfl rfl ⟨by show _ ≤ 114; omega, by show _ ≤ 1186; omega⟩ (fun H locs mem981 hP982 hh => ?_)
          obtain ⟨f983, f984, f985, f986, f987, f988, k989⟩ := hP982
          have hfr990 : ∀ j, j ≠ 0 → j ≠ 1 → j ≠ 2 → ¬ (3 ≤ j ∧ j < 19) → j ≠ 19 → j ≠ 20 → ¬ (21 ≤ j ∧ j < 37) → j ≠ 37 → j ≠ 38 → j ≠ 39 → ¬ (40 ≤ j ∧ j < 71) → ¬ (41 ≤ j ∧ j < 72) → j ≠ 72 → j ≠ 73 → j ≠ 74 → j ≠ 75 → j ≠ 76 → j ≠ 77 → j ≠ 78 → j ≠ 79 → j ≠ 80 → j ≠ 81 → ¬ (82 ≤ j ∧ j < 86) → j ≠ 86 → ¬ (87 ≤ j ∧ j < 91) → j ≠ 91 → j ≠ 92 → j ≠ 93 → j ≠ 94 → j ≠ 95 → j ≠ 96 → j ≠ 97 → j ≠ 98 → j ≠ 99 → j ≠ 100 → j ≠ 101 → j ≠ 102 → j ≠ 103 → j ≠ 104 → j ≠ 105 → j ≠ 106 → j ≠ 107 → j ≠ 108 → j ≠ 109 → j ≠ 110 → j ≠ 111 → j ≠ 112 → j ≠ 113 → j ≠ 114 → mem981 j = mem j := fun j c0 c1 c2 c3 c4 c5 c6 c7 c8 c9 c10 c11 c12 c13 c14 c15 c16 c17 c18 c19 c20 c21 c22 c23 c24 c25 c26 c27 c28 c29 c30 c31 c32 c33 c34 c35 c36 c37 c38 c39 c40 c41 c42 c43 c44 c45 c46 c47 c48 => (k989 j (by omega) (by omega) (by omega) (by omega) (by omega) (by omega)).trans (hfr937 j c0 c1 c2 c3 c4 c5 c6 c7 c8 c9 c10 c11 c12 c13 c14 c15 c16 c17 c18 c19 c20 c21 c22 c23 c24 c25 c26 c27 c28 c29 c30 c31 c32 c33 c34 c35 c36 c37 c38 c39 c40 c41 c42 c43 c44 c45 c46 c47 c48)
          have f991 : mem981 0 = .inr (8, [.ref (b + 1), .ref (b + 72), .ref (b + 75), .ref (b + 78), .ref (b + 80), .ref (b + 91), .ref (b + 93), .ref (b + 96), .null]) := (k989 _ (by decide) (by decide) (by decide) (by decide) (by decide) (by decide)).trans f938
          have f992 : mem981 1 = .inr (0, [.ref (b + 2), .ref (b + 19), .ref (b + 20), .ref (b + 37), .ref (b + 38), .int (nI 0)]) := (k989 _ (by decide) (by decide) (by decide) (by decide) (by decide) (by decide)).trans f939
          have f993 : mem981 2 = aR Γ 7 16 (fun i => some (b + (3 + i))) := (k989 _ (by decide) (by decide) (by decide) (by decide) (by decide) (by decide)).trans f940
          have f994 : mem981 19 = aN Γ 16 (fun _ => 0) := (k989 _ (by decide) (by decide) (by decide) (by decide) (by decide) (by decide)).trans f941
          have f995 : mem981 20 = aR Γ 8 16 (fun i => some (b + (21 + i))) := (k989 _ (by decide) (by decide) (by decide) (by decide) (by decide) (by decide)).trans f942
          have f996 : mem981 37 = aR Γ 6 16 (fun i => some (b + (40 + 2 * i))) := (k989 _ (by decide) (by decide) (by decide) (by decide) (by decide) (by decide)).trans f943
          have f997 : mem981 38 = .inr (6, [.ref (b + 39), .int (nI 4), .int (nI 0)]) := (k989 _ (by decide) (by decide) (by decide) (by decide) (by decide) (by decide)).trans f944
          have f998 : mem981 39 = aF Γ 16 (fun _ => FP.fconst0) := (k989 _ (by decide) (by decide) (by decide) (by decide) (by decide) (by decide)).trans f945
          have f999 : mem981 72 = .inr (5, [.ref (b + 73), .ref (b + 74), .int (nI 0)]) := (k989 _ (by decide) (by decide) (by decide) (by decide) (by decide) (by decide)).trans f946
          have f1000 : mem981 73 = aN Γ 4 (fun _ => 0) := (k989 _ (by decide) (by decide) (by decide) (by decide) (by decide) (by decide)).trans f947
          have f1001 : mem981 74 = aN Γ 4 (fun _ => 0) := (k989 _ (by decide) (by decide) (by decide) (by decide) (by decide) (by decide)).trans f948
          have f1002 : mem981 75 = .inr (5, [.ref (b + 76), .ref (b + 77), .int (nI 0)]) := (k989 _ (by decide) (by decide) (by decide) (by decide) (by decide) (by decide)).trans f949
          have f1003 : mem981 76 = aN Γ 4 (fun _ => 0) := (k989 _ (by decide) (by decide) (by decide) (by decide) (by decide) (by decide)).trans f950
          have f1004 : mem981 77 = aN Γ 4 (fun _ => 0) := (k989 _ (by decide) (by decide) (by decide) (by decide) (by decide) (by decide)).trans f951
          have f1005 : mem981 78 = .inr (6, [.ref (b + 79), .int (nI 3), .int (nI 0)]) := (k989 _ (by decide) (by decide) (by decide) (by decide) (by decide) (by decide)).trans f952
          have f1006 : mem981 79 = aF Γ 12 (fun _ => FP.fconst0) := (k989 _ (by decide) (by decide) (by decide) (by decide) (by decide) (by decide)).trans f953
          have f1007 : mem981 80 = .inr (3, [.ref (b + 81), .ref (b + 86), .int (nI 0)]) := (k989 _ (by decide) (by decide) (by decide) (by decide) (by decide) (by decide)).trans f954
          have f1008 : mem981 81 = aR Γ 9 4 (fun i => some (b + (82 + i))) := (k989 _ (by decide) (by decide) (by decide) (by decide) (by decide) (by decide)).trans f955
          have f1009 : mem981 86 = aR Γ 9 4 (fun i => some (b + (87 + i))) := (k989 _ (by decide) (by decide) (by decide) (by decide) (by decide) (by decide)).trans f956
          have f1010 : mem981 91 = .inr (7, [.ref (b + 1), .ref (b + 78), .ref (b + 92), .int (bI false)]) := (k989 _ (by decide) (by decide) (by decide) (by decide) (by decide) (by decide)).trans f957
          have f1011 : mem981 92 = aB Γ 4 (fun _ => false) := (k989 _ (by decide) (by decide) (by decide) (by decide) (by decide) (by decide)).trans f958
          have f1012 : mem981 93 = .inr (4, [.ref (b + 94), .ref (b + 95), .int (nI 0), .int (nI 0)]) := (k989 _ (by decide) (by decide) (by decide) (by decide) (by decide) (by decide)).trans f959
          have f1013 : mem981 94 = aN Γ 20 (fun _ => 0) := (k989 _ (by decide) (by decide) (by decide) (by decide) (by decide) (by decide)).trans f960
          have f1014 : mem981 95 = aD Γ 20 (fun _ => FP.dconst0) := (k989 _ (by decide) (by decide) (by decide) (by decide) (by decide) (by decide)).trans f961
          have f1015 : mem981 96 = aR Γ 5 3 (va_up (va_up (va_up (fun _ => none) 0 (some (b + 97))) 1 (some (b + 101))) 2 (some (b + 105))) := (k989 _ (by decide) (by decide) (by decide) (by decide) (by decide) (by decide)).trans f962
          have f1016 : mem981 97 = .inr (2, [.ref (b + 98), .int (bI false), .int (nI 0), .int (nI 0), .int (nI 0)]) := (k989 _ (by decide) (by decide) (by decide) (by decide) (by decide) (by decide)).trans f963
          have f1017 : mem981 98 = .inr (4, [.ref (b + 99), .ref (b + 100), .int (nI 0), .int (nI 0)]) := (k989 _ (by decide) (by decide) (by decide) (by decide) (by decide) (by decide)).trans f964
          have f1018 : mem981 99 = aN Γ 20 (fun _ => 0) := (k989 _ (by decide) (by decide) (by decide) (by decide) (by decide) (by decide)).trans f965
          have f1019 : mem981 100 = aD Γ 20 (fun _ => FP.dconst0) := (k989 _ (by decide) (by decide) (by decide) (by decide) (by decide) (by decide)).trans f966
          have f1020 : mem981 101 = .inr (2, [.ref (b + 102), .int (bI false), .int (nI 0), .int (nI 0), .int (nI 0)]) := (k989 _ (by decide) (by decide) (by decide) (by decide) (by decide) (by decide)).trans f967
          have f1021 : mem981 102 = .inr (4, [.ref (b + 103), .ref (b + 104), .int (nI 0), .int (nI 0)]) := (k989 _ (by decide) (by decide) (by decide) (by decide) (by decide) (by decide)).trans f968
          have f1022 : mem981 103 = aN Γ 20 (fun _ => 0) := (k989 _ (by decide) (by decide) (by decide) (by decide) (by decide) (by decide)).trans f969
          have f1023 : mem981 104 = aD Γ 20 (fun _ => FP.dconst0) := (k989 _ (by decide) (by decide) (by decide) (by decide) (by decide) (by decide)).trans f970
          have f1024 : mem981 105 = .inr (2, [.ref (b + 106), .int (bI false), .int (nI 0), .int (nI 0), .int (nI 0)]) := (k989 _ (by decide) (by decide) (by decide) (by decide) (by decide) (by decide)).trans f971
          have f1025 : mem981 106 = .inr (4, [.ref (b + 107), .ref (b + 108), .int (nI 0), .int (nI 0)]) := (k989 _ (by decide) (by decide) (by decide) (by decide) (by decide) (by decide)).trans f972
          have f1026 : mem981 107 = aN Γ 20 (fun _ => 0) := (k989 _ (by decide) (by decide) (by decide) (by decide) (by decide) (by decide)).trans f973
          have f1027 : mem981 108 = aD Γ 20 (fun _ => FP.dconst0) := (k989 _ (by decide) (by decide) (by decide) (by decide) (by decide) (by decide)).trans f974
          have f1028 : ∀ z9, z9 < 16 → mem981 (3 + z9) = aN Γ 12 ((fun _ _ => 0) z9) := fun z9 hz9 => (k989 _ (by omega) (by omega) (by omega) (by omega) (by omega) (by omega)).trans (f975 z9 hz9)
          have f1029 : ∀ z9, z9 < 16 → mem981 (21 + z9) = aF Γ 12 ((fun _ _ => FP.fconst0) z9) := fun z9 hz9 => (k989 _ (by omega) (by omega) (by omega) (by omega) (by omega) (by omega)).trans (f976 z9 hz9)
          have f1030 : ∀ z9, z9 < 16 → mem981 (40 + 2 * z9) = .inr (6, [.ref (b + (40 + 2 * z9 + 1)), .int (nI 4), .int (nI ((fun _ => 0) z9))]) := fun z9 hz9 => (k989 _ (by omega) (by omega) (by omega) (by omega) (by omega) (by omega)).trans (f977 z9 hz9)
          have f1031 : ∀ z9, z9 < 16 → mem981 (40 + 2 * z9 + 1) = aF Γ 16 ((fun _ _ => FP.fconst0) z9) := fun z9 hz9 => (k989 _ (by omega) (by omega) (by omega) (by omega) (by omega) (by omega)).trans (f978 z9 hz9)
          have f1032 : ∀ z9, z9 < 4 → mem981 (82 + z9) = aD Γ 16 ((fun _ _ => FP.dconst0) z9) := fun z9 hz9 => (k989 _ (by omega) (by omega) (by omega) (by omega) (by omega) (by omega)).trans (f979 z9 hz9)
          have f1033 : ∀ z9, z9 < 4 → mem981 (87 + z9) = aD Γ 4 ((fun _ _ => FP.dconst0) z9) := fun z9 hz9 => (k989 _ (by omega) (by omega) (by omega) (by omega) (by omega) (by omega)).trans (f980 z9 hz9)
          have hh : GH Γ b (115) mem981 s _ _ := hh
          refine gq_X9_fusion (fs' := [.ref (b + 1), .ref (b + 72), .ref (b + 75), .ref (b + 78), .ref (b + 80), .ref (b + 91), .ref (b + 93), .ref (b + 96), .ref (b + 109)]) hx hb hE hown hname hh (by omega) f991 rfl rfl (show 8 < 9 by decide) rfl dX9_init_132 (fun H locs mem1034 f1035 k1036 hh => ?_)
          have hfr1037 : ∀ j, j ≠ 0 → j ≠ 1 → j ≠ 2 → ¬ (3 ≤ j ∧ j < 19) → j ≠ 19 → j ≠ 20 → ¬ (21 ≤ j ∧ j < 37) → j ≠ 37 → j ≠ 38 → j ≠ 39 → ¬ (40 ≤ j ∧ j < 71) → ¬ (41 ≤ j ∧ j < 72) → j ≠ 72 → j ≠ 73 → j ≠ 74 → j ≠ 75 → j ≠ 76 → j ≠ 77 → j ≠ 78 → j ≠ 79 → j ≠ 80 → j ≠ 81 → ¬ (82 ≤ j ∧ j < 86) → j ≠ 86 → ¬ (87 ≤ j ∧ j < 91) → j ≠ 91 → j ≠ 92 → j ≠ 93 → j ≠ 94 → j ≠ 95 → j ≠ 96 → j ≠ 97 → j ≠ 98 → j ≠ 99 → j ≠ 100 → j ≠ 101 → j ≠ 102 → j ≠ 103 → j ≠ 104 → j ≠ 105 → j ≠ 106 → j ≠ 107 → j ≠ 108 → j ≠ 109 → j ≠ 110 → j ≠ 111 → j ≠ 112 → j ≠ 113 → j ≠ 114 → mem1034 j = mem j := fun j c0 c1 c2 c3 c4 c5 c6 c7 c8 c9 c10 c11 c12 c13 c14 c15 c16 c17 c18 c19 c20 c21 c22 c23 c24 c25 c26 c27 c28 c29 c30 c31 c32 c33 c34 c35 c36 c37 c38 c39 c40 c41 c42 c43 c44 c45 c46 c47 c48 => (k1036 j (by omega)).trans (hfr990 j c0 c1 c2 c3 c4 c5 c6 c7 c8 c9 c10 c11 c12 c13 c14 c15 c16 c17 c18 c19 c20 c21 c22 c23 c24 c25 c26 c27 c28 c29 c30 c31 c32 c33 c34 c35 c36 c37 c38 c39 c40 c41 c42 c43 c44 c45 c46 c47 c48)
          have f1038 : mem1034 1 = .inr (0, [.ref (b + 2), .ref (b + 19), .ref (b + 20), .ref (b + 37), .ref (b + 38), .int (nI 0)]) := (k1036 _ (by decide)).trans f992
          have f1039 : mem1034 2 = aR Γ 7 16 (fun i => some (b + (3 + i))) := (k1036 _ (by decide)).trans f993
          have f1040 : mem1034 19 = aN Γ 16 (fun _ => 0) := (k1036 _ (by decide)).trans f994
          have f1041 : mem1034 20 = aR Γ 8 16 (fun i => some (b + (21 + i))) := (k1036 _ (by decide)).trans f995
          have f1042 : mem1034 37 = aR Γ 6 16 (fun i => some (b + (40 + 2 * i))) := (k1036 _ (by decide)).trans f996
          have f1043 : mem1034 38 = .inr (6, [.ref (b + 39), .int (nI 4), .int (nI 0)]) := (k1036 _ (by decide)).trans f997
          have f1044 : mem1034 39 = aF Γ 16 (fun _ => FP.fconst0) := (k1036 _ (by decide)).trans f998
          have f1045 : mem1034 72 = .inr (5, [.ref (b + 73), .ref (b + 74), .int (nI 0)]) := (k1036 _ (by decide)).trans f999
          have f1046 : mem1034 73 = aN Γ 4 (fun _ => 0) := (k1036 _ (by decide)).trans f1000
          have f1047 : mem1034 74 = aN Γ 4 (fun _ => 0) := (k1036 _ (by decide)).trans f1001
          have f1048 : mem1034 75 = .inr (5, [.ref (b + 76), .ref (b + 77), .int (nI 0)]) := (k1036 _ (by decide)).trans f1002
          have f1049 : mem1034 76 = aN Γ 4 (fun _ => 0) := (k1036 _ (by decide)).trans f1003
          have f1050 : mem1034 77 = aN Γ 4 (fun _ => 0) := (k1036 _ (by decide)).trans f1004
          have f1051 : mem1034 78 = .inr (6, [.ref (b + 79), .int (nI 3), .int (nI 0)]) := (k1036 _ (by decide)).trans f1005
          have f1052 : mem1034 79 = aF Γ 12 (fun _ => FP.fconst0) := (k1036 _ (by decide)).trans f1006
          have f1053 : mem1034 80 = .inr (3, [.ref (b + 81), .ref (b + 86), .int (nI 0)]) := (k1036 _ (by decide)).trans f1007
          have f1054 : mem1034 81 = aR Γ 9 4 (fun i => some (b + (82 + i))) := (k1036 _ (by decide)).trans f1008
          have f1055 : mem1034 86 = aR Γ 9 4 (fun i => some (b + (87 + i))) := (k1036 _ (by decide)).trans f1009
          have f1056 : mem1034 91 = .inr (7, [.ref (b + 1), .ref (b + 78), .ref (b + 92), .int (bI false)]) := (k1036 _ (by decide)).trans f1010
          have f1057 : mem1034 92 = aB Γ 4 (fun _ => false) := (k1036 _ (by decide)).trans f1011
          have f1058 : mem1034 93 = .inr (4, [.ref (b + 94), .ref (b + 95), .int (nI 0), .int (nI 0)]) := (k1036 _ (by decide)).trans f1012
          have f1059 : mem1034 94 = aN Γ 20 (fun _ => 0) := (k1036 _ (by decide)).trans f1013
          have f1060 : mem1034 95 = aD Γ 20 (fun _ => FP.dconst0) := (k1036 _ (by decide)).trans f1014
          have f1061 : mem1034 96 = aR Γ 5 3 (va_up (va_up (va_up (fun _ => none) 0 (some (b + 97))) 1 (some (b + 101))) 2 (some (b + 105))) := (k1036 _ (by decide)).trans f1015
          have f1062 : mem1034 97 = .inr (2, [.ref (b + 98), .int (bI false), .int (nI 0), .int (nI 0), .int (nI 0)]) := (k1036 _ (by decide)).trans f1016
          have f1063 : mem1034 98 = .inr (4, [.ref (b + 99), .ref (b + 100), .int (nI 0), .int (nI 0)]) := (k1036 _ (by decide)).trans f1017
          have f1064 : mem1034 99 = aN Γ 20 (fun _ => 0) := (k1036 _ (by decide)).trans f1018
          have f1065 : mem1034 100 = aD Γ 20 (fun _ => FP.dconst0) := (k1036 _ (by decide)).trans f1019
          have f1066 : mem1034 101 = .inr (2, [.ref (b + 102), .int (bI false), .int (nI 0), .int (nI 0), .int (nI 0)]) := (k1036 _ (by decide)).trans f1020
          have f1067 : mem1034 102 = .inr (4, [.ref (b + 103), .ref (b + 104), .int (nI 0), .int (nI 0)]) := (k1036 _ (by decide)).trans f1021
          have f1068 : mem1034 103 = aN Γ 20 (fun _ => 0) := (k1036 _ (by decide)).trans f1022
          have f1069 : mem1034 104 = aD Γ 20 (fun _ => FP.dconst0) := (k1036 _ (by decide)).trans f1023
          have f1070 : mem1034 105 = .inr (2, [.ref (b + 106), .int (bI false), .int (nI 0), .int (nI 0), .int (nI 0)]) := (k1036 _ (by decide)).trans f1024
          have f1071 : mem1034 106 = .inr (4, [.ref (b + 107), .ref (b + 108), .int (nI 0), .int (nI 0)]) := (k1036 _ (by decide)).trans f1025
          have f1072 : mem1034 107 = aN Γ 20 (fun _ => 0) := (k1036 _ (by decide)).trans f1026
          have f1073 : mem1034 108 = aD Γ 20 (fun _ => FP.dconst0) := (k1036 _ (by decide)).trans f1027
          have f1074 : mem1034 109 = .inr (1, [.ref (b + 110), .ref (b + 113), .ref (b + 114)]) := (k1036 _ (by decide)).trans f983
          have f1075 : mem1034 110 = .inr (4, [.ref (b + 111), .ref (b + 112), .int (nI 0), .int (nI 0)]) := (k1036 _ (by decide)).trans f984
          have f1076 : mem1034 111 = aN Γ 20 (fun _ => 0) := (k1036 _ (by decide)).trans f985
          have f1077 : mem1034 112 = aD Γ 20 (fun _ => FP.dconst0) := (k1036 _ (by decide)).trans f986
          have f1078 : mem1034 113 = aD Γ 16 (fun _ => FP.dconst0) := (k1036 _ (by decide)).trans f987
          have f1079 : mem1034 114 = aN Γ 16 (fun _ => 0) := (k1036 _ (by decide)).trans f988
          have f1080 : ∀ z9, z9 < 16 → mem1034 (3 + z9) = aN Γ 12 ((fun _ _ => 0) z9) := fun z9 hz9 => (k1036 _ (by omega)).trans (f1028 z9 hz9)
          have f1081 : ∀ z9, z9 < 16 → mem1034 (21 + z9) = aF Γ 12 ((fun _ _ => FP.fconst0) z9) := fun z9 hz9 => (k1036 _ (by omega)).trans (f1029 z9 hz9)
          have f1082 : ∀ z9, z9 < 16 → mem1034 (40 + 2 * z9) = .inr (6, [.ref (b + (40 + 2 * z9 + 1)), .int (nI 4), .int (nI ((fun _ => 0) z9))]) := fun z9 hz9 => (k1036 _ (by omega)).trans (f1030 z9 hz9)
          have f1083 : ∀ z9, z9 < 16 → mem1034 (40 + 2 * z9 + 1) = aF Γ 16 ((fun _ _ => FP.fconst0) z9) := fun z9 hz9 => (k1036 _ (by omega)).trans (f1031 z9 hz9)
          have f1084 : ∀ z9, z9 < 4 → mem1034 (82 + z9) = aD Γ 16 ((fun _ _ => FP.dconst0) z9) := fun z9 hz9 => (k1036 _ (by omega)).trans (f1032 z9 hz9)
          have f1085 : ∀ z9, z9 < 4 → mem1034 (87 + z9) = aD Γ 4 ((fun _ _ => FP.dconst0) z9) := fun z9 hz9 => (k1036 _ (by omega)).trans (f1033 z9 hz9)
          refine mn_swap (g := fun i => some (b + (97 + 4 * i))) hh (by omega) f1061 (fun k9 hk9 => by rcases (show k9 = 0 ∨ k9 = 1 ∨ k9 = 2 by omega) with h | h | h <;> subst h <;> rfl) (fun mem1086 f1087 k1088 hh => ?_)
          have hfr1089 : ∀ j, j ≠ 0 → j ≠ 1 → j ≠ 2 → ¬ (3 ≤ j ∧ j < 19) → j ≠ 19 → j ≠ 20 → ¬ (21 ≤ j ∧ j < 37) → j ≠ 37 → j ≠ 38 → j ≠ 39 → ¬ (40 ≤ j ∧ j < 71) → ¬ (41 ≤ j ∧ j < 72) → j ≠ 72 → j ≠ 73 → j ≠ 74 → j ≠ 75 → j ≠ 76 → j ≠ 77 → j ≠ 78 → j ≠ 79 → j ≠ 80 → j ≠ 81 → ¬ (82 ≤ j ∧ j < 86) → j ≠ 86 → ¬ (87 ≤ j ∧ j < 91) → j ≠ 91 → j ≠ 92 → j ≠ 93 → j ≠ 94 → j ≠ 95 → j ≠ 96 → j ≠ 97 → j ≠ 98 → j ≠ 99 → j ≠ 100 → j ≠ 101 → j ≠ 102 → j ≠ 103 → j ≠ 104 → j ≠ 105 → j ≠ 106 → j ≠ 107 → j ≠ 108 → j ≠ 109 → j ≠ 110 → j ≠ 111 → j ≠ 112 → j ≠ 113 → j ≠ 114 → mem1086 j = mem j := fun j c0 c1 c2 c3 c4 c5 c6 c7 c8 c9 c10 c11 c12 c13 c14 c15 c16 c17 c18 c19 c20 c21 c22 c23 c24 c25 c26 c27 c28 c29 c30 c31 c32 c33 c34 c35 c36 c37 c38 c39 c40 c41 c42 c43 c44 c45 c46 c47 c48 => (k1088 j (by omega)).trans (hfr1037 j c0 c1 c2 c3 c4 c5 c6 c7 c8 c9 c10 c11 c12 c13 c14 c15 c16 c17 c18 c19 c20 c21 c22 c23 c24 c25 c26 c27 c28 c29 c30 c31 c32 c33 c34 c35 c36 c37 c38 c39 c40 c41 c42 c43 c44 c45 c46 c47 c48)
          have f1090 : mem1086 0 = .inr (8, [.ref (b + 1), .ref (b + 72), .ref (b + 75), .ref (b + 78), .ref (b + 80), .ref (b + 91), .ref (b + 93), .ref (b + 96), .ref (b + 109)]) := (k1088 _ (by decide)).trans f1035
          have f1091 : mem1086 1 = .inr (0, [.ref (b + 2), .ref (b + 19), .ref (b + 20), .ref (b + 37), .ref (b + 38), .int (nI 0)]) := (k1088 _ (by decide)).trans f1038
          have f1092 : mem1086 2 = aR Γ 7 16 (fun i => some (b + (3 + i))) := (k1088 _ (by decide)).trans f1039
          have f1093 : mem1086 19 = aN Γ 16 (fun _ => 0) := (k1088 _ (by decide)).trans f1040
          have f1094 : mem1086 20 = aR Γ 8 16 (fun i => some (b + (21 + i))) := (k1088 _ (by decide)).trans f1041
          have f1095 : mem1086 37 = aR Γ 6 16 (fun i => some (b + (40 + 2 * i))) := (k1088 _ (by decide)).trans f1042
          have f1096 : mem1086 38 = .inr (6, [.ref (b + 39), .int (nI 4), .int (nI 0)]) := (k1088 _ (by decide)).trans f1043
          have f1097 : mem1086 39 = aF Γ 16 (fun _ => FP.fconst0) := (k1088 _ (by decide)).trans f1044
          have f1098 : mem1086 72 = .inr (5, [.ref (b + 73), .ref (b + 74), .int (nI 0)]) := (k1088 _ (by decide)).trans f1045
          have f1099 : mem1086 73 = aN Γ 4 (fun _ => 0) := (k1088 _ (by decide)).trans f1046
          have f1100 : mem1086 74 = aN Γ 4 (fun _ => 0) := (k1088 _ (by decide)).trans f1047
          have f1101 : mem1086 75 = .inr (5, [.ref (b + 76), .ref (b + 77), .int (nI 0)]) := (k1088 _ (by decide)).trans f1048
          have f1102 : mem1086 76 = aN Γ 4 (fun _ => 0) := (k1088 _ (by decide)).trans f1049
          have f1103 : mem1086 77 = aN Γ 4 (fun _ => 0) := (k1088 _ (by decide)).trans f1050
          have f1104 : mem1086 78 = .inr (6, [.ref (b + 79), .int (nI 3), .int (nI 0)]) := (k1088 _ (by decide)).trans f1051
          have f1105 : mem1086 79 = aF Γ 12 (fun _ => FP.fconst0) := (k1088 _ (by decide)).trans f1052
          have f1106 : mem1086 80 = .inr (3, [.ref (b + 81), .ref (b + 86), .int (nI 0)]) := (k1088 _ (by decide)).trans f1053
          have f1107 : mem1086 81 = aR Γ 9 4 (fun i => some (b + (82 + i))) := (k1088 _ (by decide)).trans f1054
          have f1108 : mem1086 86 = aR Γ 9 4 (fun i => some (b + (87 + i))) := (k1088 _ (by decide)).trans f1055
          have f1109 : mem1086 91 = .inr (7, [.ref (b + 1), .ref (b + 78), .ref (b + 92), .int (bI false)]) := (k1088 _ (by decide)).trans f1056
          have f1110 : mem1086 92 = aB Γ 4 (fun _ => false) := (k1088 _ (by decide)).trans f1057
          have f1111 : mem1086 93 = .inr (4, [.ref (b + 94), .ref (b + 95), .int (nI 0), .int (nI 0)]) := (k1088 _ (by decide)).trans f1058
          have f1112 : mem1086 94 = aN Γ 20 (fun _ => 0) := (k1088 _ (by decide)).trans f1059
          have f1113 : mem1086 95 = aD Γ 20 (fun _ => FP.dconst0) := (k1088 _ (by decide)).trans f1060
          have f1114 : mem1086 97 = .inr (2, [.ref (b + 98), .int (bI false), .int (nI 0), .int (nI 0), .int (nI 0)]) := (k1088 _ (by decide)).trans f1062
          have f1115 : mem1086 98 = .inr (4, [.ref (b + 99), .ref (b + 100), .int (nI 0), .int (nI 0)]) := (k1088 _ (by decide)).trans f1063
          have f1116 : mem1086 99 = aN Γ 20 (fun _ => 0) := (k1088 _ (by decide)).trans f1064
          have f1117 : mem1086 100 = aD Γ 20 (fun _ => FP.dconst0) := (k1088 _ (by decide)).trans f1065
          have f1118 : mem1086 101 = .inr (2, [.ref (b + 102), .int (bI false), .int (nI 0), .int (nI 0), .int (nI 0)]) := (k1088 _ (by decide)).trans f1066
          have f1119 : mem1086 102 = .inr (4, [.ref (b + 103), .ref (b + 104), .int (nI 0), .int (nI 0)]) := (k1088 _ (by decide)).trans f1067
          have f1120 : mem1086 103 = aN Γ 20 (fun _ => 0) := (k1088 _ (by decide)).trans f1068
          have f1121 : mem1086 104 = aD Γ 20 (fun _ => FP.dconst0) := (k1088 _ (by decide)).trans f1069
          have f1122 : mem1086 105 = .inr (2, [.ref (b + 106), .int (bI false), .int (nI 0), .int (nI 0), .int (nI 0)]) := (k1088 _ (by decide)).trans f1070
          have f1123 : mem1086 106 = .inr (4, [.ref (b + 107), .ref (b + 108), .int (nI 0), .int (nI 0)]) := (k1088 _ (by decide)).trans f1071
          have f1124 : mem1086 107 = aN Γ 20 (fun _ => 0) := (k1088 _ (by decide)).trans f1072
          have f1125 : mem1086 108 = aD Γ 20 (fun _ => FP.dconst0) := (k1088 _ (by decide)).trans f1073
          have f1126 : mem1086 109 = .inr (1, [.ref (b + 110), .ref (b + 113), .ref (b + 114)]) := (k1088 _ (by decide)).trans f1074
          have f1127 : mem1086 110 = .inr (4, [.ref (b + 111), .ref (b + 112), .int (nI 0), .int (nI 0)]) := (k1088 _ (by decide)).trans f1075
          have f1128 : mem1086 111 = aN Γ 20 (fun _ => 0) := (k1088 _ (by decide)).trans f1076
          have f1129 : mem1086 112 = aD Γ 20 (fun _ => FP.dconst0) := (k1088 _ (by decide)).trans f1077
          have f1130 : mem1086 113 = aD Γ 16 (fun _ => FP.dconst0) := (k1088 _ (by decide)).trans f1078
          have f1131 : mem1086 114 = aN Γ 16 (fun _ => 0) := (k1088 _ (by decide)).trans f1079
          have f1132 : ∀ z9, z9 < 16 → mem1086 (3 + z9) = aN Γ 12 ((fun _ _ => 0) z9) := fun z9 hz9 => (k1088 _ (by omega)).trans (f1080 z9 hz9)
          have f1133 : ∀ z9, z9 < 16 → mem1086 (21 + z9) = aF Γ 12 ((fun _ _ => FP.fconst0) z9) := fun z9 hz9 => (k1088 _ (by omega)).trans (f1081 z9 hz9)
          have f1134 : ∀ z9, z9 < 16 → mem1086 (40 + 2 * z9) = .inr (6, [.ref (b + (40 + 2 * z9 + 1)), .int (nI 4), .int (nI ((fun _ => 0) z9))]) := fun z9 hz9 => (k1088 _ (by omega)).trans (f1082 z9 hz9)
          have f1135 : ∀ z9, z9 < 16 → mem1086 (40 + 2 * z9 + 1) = aF Γ 16 ((fun _ _ => FP.fconst0) z9) := fun z9 hz9 => (k1088 _ (by omega)).trans (f1083 z9 hz9)
          have f1136 : ∀ z9, z9 < 4 → mem1086 (82 + z9) = aD Γ 16 ((fun _ _ => FP.dconst0) z9) := fun z9 hz9 => (k1088 _ (by omega)).trans (f1084 z9 hz9)
          have f1137 : ∀ z9, z9 < 4 → mem1086 (87 + z9) = aD Γ 4 ((fun _ _ => FP.dconst0) z9) := fun z9 hz9 => (k1088 _ (by omega)).trans (f1085 z9 hz9)
          exact mm_vret hx hb hr hlocks hE hh (⟨f1090, f1091, f1092, f1132, f1093, f1094, f1133, f1095, f1096, f1097, f1134, f1135, f1098, f1099, f1100, f1101, f1102, f1103, f1104, f1105, f1106, f1107, f1136, f1108, f1137, f1109, f1110, f1111, f1112, f1113, f1087, f1114, f1115, f1116, f1117, f1118, f1119, f1120, f1121, f1122, f1123, f1124, f1125, f1126, f1127, f1128, f1129, f1130, f1131, hfr1089⟩) dX9_init_135
        ·
          exact absurd h933 (by decide)
def P_c_X10_init (Γ : Gm) (b : Nat) (mem u : Nat → va_E) : Prop := (fun u => u 115 = .inr (9, [.int (nI 0), .int (nI 0), .ref (b + 116), .ref (b + 117), .ref (b + 118), .ref (b + 119), .int (nI 0), .ref (b + 120), .int (nI 0), .int (nI 0), .int (nI 0), .ref (b + 121), .ref (b + 122), .ref (b + 123), .ref (b + 124), .ref (b + 125), .ref (b + 126), .ref (b + 127), .ref (b + 128), .ref (b + 129), .int (nI 0), .ref (b + 130), .ref (b + 131), .int (nI 0), .ref (b + 132), .ref (b + 133), .int (nI 0), .int (nI 0), .int (nI 0), .int (nI 0), .ref (b + 134), .ref (b + 135)]) ∧ u 116 = aN Γ 192 (fun _ => 0) ∧ u 117 = aF Γ 192 (fun _ => FP.fconst0) ∧ u 118 = aN Γ 16 (fun _ => 0) ∧ u 119 = aF Γ 256 (fun _ => FP.fconst0) ∧ u 120 = aF Γ 16 (fun _ => FP.fconst0) ∧ u 121 = aN Γ 4 (fun _ => 0) ∧ u 122 = aN Γ 4 (fun _ => 0) ∧ u 123 = aN Γ 4 (fun _ => 0) ∧ u 124 = aF Γ 12 (fun _ => FP.fconst0) ∧ u 125 = aB Γ 3 (fun _ => false) ∧ u 126 = aN Γ 3 (fun _ => 0) ∧ u 127 = aN Γ 60 (fun _ => 0) ∧ u 128 = aD Γ 60 (fun _ => FP.dconst0) ∧ u 129 = aN Γ 9 (fun _ => 0) ∧ u 130 = aN Γ 21 (fun _ => 0) ∧ u 131 = aD Γ 21 (fun _ => FP.dconst0) ∧ u 132 = aN Γ 21 (fun _ => 0) ∧ u 133 = aD Γ 21 (fun _ => FP.dconst0) ∧ u 134 = aN Γ 17 (fun _ => 0) ∧ u 135 = aD Γ 17 (fun _ => FP.dconst0) ∧ ∀ j, j ≠ 115 → j ≠ 116 → j ≠ 117 → j ≠ 118 → j ≠ 119 → j ≠ 120 → j ≠ 121 → j ≠ 122 → j ≠ 123 → j ≠ 124 → j ≠ 125 → j ≠ 126 → j ≠ 127 → j ≠ 128 → j ≠ 129 → j ≠ 130 → j ≠ 131 → j ≠ 132 → j ≠ 133 → j ≠ 134 → j ≠ 135 → u j = mem j) u
set_option maxHeartbeats 4000000 in
set_option maxRecDepth 100000 in
/-- reference: new -/
theorem c_X10_init (l : Launch) (Γ : Gm) (b : Nat) (mem : Nat → va_E)  (fa : mem 115 = .inr (9, [.int (nI 0), .int (nI 0), .null, .null, .null, .null, .int (nI 0), .null, .int (nI 0), .int (nI 0), .int (nI 0), .null, .null, .null, .null, .null, .null, .null, .null, .null, .int (nI 0), .null, .null, .int (nI 0), .null, .null, .int (nI 0), .int (nI 0), .int (nI 0), .int (nI 0), .null, .null])) : Cn l yX10_init (.code yX10_init cX10_init 1 none) ({ frames := 1, cells := 20, slots := 949, locals := 12 } : Room) Γ b (116) (136) [.ref (b + 115)] mem (P_c_X10_init Γ b mem) := by
  refine mn_enter (cc := cX10_init) (by decide) (Nat.le_of_ble_eq_true rfl) ?_
  intro p e s m args below meth c ls hx hb hml hown hr hlocks hname hE hh hsz hl
  have hl : lv_has ls 1 [(0, .ref (b + 115))] := hl
  have hfr : ∀ j, j ≠ 115 → j ≠ 116 → j ≠ 117 → j ≠ 118 → j ≠ 119 → j ≠ 120 → j ≠ 121 → j ≠ 122 → j ≠ 123 → j ≠ 124 → j ≠ 125 → j ≠ 126 → j ≠ 127 → j ≠ 128 → j ≠ 129 → j ≠ 130 → j ≠ 131 → j ≠ 132 → j ≠ 133 → j ≠ 134 → j ≠ 135 → mem j = mem j := fun j _ _ _ _ _ _ _ _ _ _ _ _ _ _ _ _ _ _ _ _ _ => rfl
  refine lv_aload_n hx hb dX10_init_0 rfl (lv_at hl 0 rfl) ?_
  refine W.objInit hx hb hown (wo_X10 hE.2.1 args) (wo_m hE.2.1 args) (wo_c hE.2.1 args) rfl (by rw [hml]; exact hl.1) rfl dX10_init_1 (Nat.le_of_ble_eq_true rfl) (Nat.le_of_ble_eq_true rfl) ?_
  refine W.eq (g2 := F0 m 4 ls []) rfl ?_
  refine lv_aload_n hx hb dX10_init_4 rfl (lv_at hl 0 rfl) ?_
  refine lv_sipush (v := (nI 192)) hx hb dX10_init_5 (by decide) ?_
  refine mn_newa 0 (atype := .int) (ty := .int) (n := 192) (a0 := (192, .inl (fun _ => nI 0))) hx hb hE (wa_I hE.2.1 args) rfl rfl (fun _ => rfl) (by decide) (by decide) (by omega) hh (by show _ ≤ 20; omega) (by show _ ≤ 949; omega) dX10_init_8 (fun H mem1 f2 k3 hh => ?_)
  have hfr4 : ∀ j, j ≠ 115 → j ≠ 116 → j ≠ 117 → j ≠ 118 → j ≠ 119 → j ≠ 120 → j ≠ 121 → j ≠ 122 → j ≠ 123 → j ≠ 124 → j ≠ 125 → j ≠ 126 → j ≠ 127 → j ≠ 128 → j ≠ 129 → j ≠ 130 → j ≠ 131 → j ≠ 132 → j ≠ 133 → j ≠ 134 → j ≠ 135 → mem1 j = mem j := fun j c0 c1 c2 c3 c4 c5 c6 c7 c8 c9 c10 c11 c12 c13 c14 c15 c16 c17 c18 c19 c20 => (k3 j (by omega)).trans (hfr j c0 c1 c2 c3 c4 c5 c6 c7 c8 c9 c10 c11 c12 c13 c14 c15 c16 c17 c18 c19 c20)
  have f5 : mem1 115 = .inr (9, [.int (nI 0), .int (nI 0), .null, .null, .null, .null, .int (nI 0), .null, .int (nI 0), .int (nI 0), .int (nI 0), .null, .null, .null, .null, .null, .null, .null, .null, .null, .int (nI 0), .null, .null, .int (nI 0), .null, .null, .int (nI 0), .int (nI 0), .int (nI 0), .int (nI 0), .null, .null]) := (k3 _ (by decide)).trans fa
  have hh : GH Γ b (117) mem1 s _ _ := hh
  refine gq_X10_counts (fs' := [.int (nI 0), .int (nI 0), .ref (b + 116), .null, .null, .null, .int (nI 0), .null, .int (nI 0), .int (nI 0), .int (nI 0), .null, .null, .null, .null, .null, .null, .null, .null, .null, .int (nI 0), .null, .null, .int (nI 0), .null, .null, .int (nI 0), .int (nI 0), .int (nI 0), .int (nI 0), .null, .null]) hx hb hE hown hname hh (by omega) f5 rfl rfl (show 2 < 32 by decide) rfl dX10_init_10 (fun H locs mem6 f7 k8 hh => ?_)
  have hfr9 : ∀ j, j ≠ 115 → j ≠ 116 → j ≠ 117 → j ≠ 118 → j ≠ 119 → j ≠ 120 → j ≠ 121 → j ≠ 122 → j ≠ 123 → j ≠ 124 → j ≠ 125 → j ≠ 126 → j ≠ 127 → j ≠ 128 → j ≠ 129 → j ≠ 130 → j ≠ 131 → j ≠ 132 → j ≠ 133 → j ≠ 134 → j ≠ 135 → mem6 j = mem j := fun j c0 c1 c2 c3 c4 c5 c6 c7 c8 c9 c10 c11 c12 c13 c14 c15 c16 c17 c18 c19 c20 => (k8 j (by omega)).trans (hfr4 j c0 c1 c2 c3 c4 c5 c6 c7 c8 c9 c10 c11 c12 c13 c14 c15 c16 c17 c18 c19 c20)
  have f10 : mem6 116 = aN Γ 192 (fun _ => 0) := (k8 _ (by decide)).trans f2
  refine lv_aload_n hx hb dX10_init_13 rfl (lv_at hl 0 rfl) ?_
  refine lv_sipush (v := (nI 192)) hx hb dX10_init_14 (by decide) ?_
  refine mn_newa 1 (atype := .float) (ty := .float) (n := 192) (a0 := (192, .inr (.inr (.inl (fun _ => FP.fconst0))))) hx hb hE (wa_F hE.2.1 args) rfl rfl (fun _ => rfl) (by decide) (by decide) (by omega) hh (by show _ ≤ 20; omega) (by show _ ≤ 949; omega) dX10_init_17 (fun H mem11 f12 k13 hh => ?_)
  have hfr14 : ∀ j, j ≠ 115 → j ≠ 116 → j ≠ 117 → j ≠ 118 → j ≠ 119 → j ≠ 120 → j ≠ 121 → j ≠ 122 → j ≠ 123 → j ≠ 124 → j ≠ 125 → j ≠ 126 → j ≠ 127 → j ≠ 128 → j ≠ 129 → j ≠ 130 → j ≠ 131 → j ≠ 132 → j ≠ 133 → j ≠ 134 → j ≠ 135 → mem11 j = mem j := fun j c0 c1 c2 c3 c4 c5 c6 c7 c8 c9 c10 c11 c12 c13 c14 c15 c16 c17 c18 c19 c20 => (k13 j (by omega)).trans (hfr9 j c0 c1 c2 c3 c4 c5 c6 c7 c8 c9 c10 c11 c12 c13 c14 c15 c16 c17 c18 c19 c20)
  have f15 : mem11 115 = .inr (9, [.int (nI 0), .int (nI 0), .ref (b + 116), .null, .null, .null, .int (nI 0), .null, .int (nI 0), .int (nI 0), .int (nI 0), .null, .null, .null, .null, .null, .null, .null, .null, .null, .int (nI 0), .null, .null, .int (nI 0), .null, .null, .int (nI 0), .int (nI 0), .int (nI 0), .int (nI 0), .null, .null]) := (k13 _ (by decide)).trans f7
  have f16 : mem11 116 = aN Γ 192 (fun _ => 0) := (k13 _ (by decide)).trans f10
  have hh : GH Γ b (118) mem11 s _ _ := hh
  refine gq_X10_weights (fs' := [.int (nI 0), .int (nI 0), .ref (b + 116), .ref (b + 117), .null, .null, .int (nI 0), .null, .int (nI 0), .int (nI 0), .int (nI 0), .null, .null, .null, .null, .null, .null, .null, .null, .null, .int (nI 0), .null, .null, .int (nI 0), .null, .null, .int (nI 0), .int (nI 0), .int (nI 0), .int (nI 0), .null, .null]) hx hb hE hown hname hh (by omega) f15 rfl rfl (show 3 < 32 by decide) rfl dX10_init_19 (fun H locs mem17 f18 k19 hh => ?_)
  have hfr20 : ∀ j, j ≠ 115 → j ≠ 116 → j ≠ 117 → j ≠ 118 → j ≠ 119 → j ≠ 120 → j ≠ 121 → j ≠ 122 → j ≠ 123 → j ≠ 124 → j ≠ 125 → j ≠ 126 → j ≠ 127 → j ≠ 128 → j ≠ 129 → j ≠ 130 → j ≠ 131 → j ≠ 132 → j ≠ 133 → j ≠ 134 → j ≠ 135 → mem17 j = mem j := fun j c0 c1 c2 c3 c4 c5 c6 c7 c8 c9 c10 c11 c12 c13 c14 c15 c16 c17 c18 c19 c20 => (k19 j (by omega)).trans (hfr14 j c0 c1 c2 c3 c4 c5 c6 c7 c8 c9 c10 c11 c12 c13 c14 c15 c16 c17 c18 c19 c20)
  have f21 : mem17 116 = aN Γ 192 (fun _ => 0) := (k19 _ (by decide)).trans f16
  have f22 : mem17 117 = aF Γ 192 (fun _ => FP.fconst0) := (k19 _ (by decide)).trans f12
  refine lv_aload_n hx hb dX10_init_22 rfl (lv_at hl 0 rfl) ?_
  refine lv_bipush (v := (nI 16)) hx hb dX10_init_23 (by decide) ?_
  refine mn_newa 0 (atype := .int) (ty := .int) (n := 16) (a0 := (16, .inl (fun _ => nI 0))) hx hb hE (wa_I hE.2.1 args) rfl rfl (fun _ => rfl) (by decide) (by decide) (by omega) hh (by show _ ≤ 20; omega) (by show _ ≤ 949; omega) dX10_init_25 (fun H mem23 f24 k25 hh => ?_)
  have hfr26 : ∀ j, j ≠ 115 → j ≠ 116 → j ≠ 117 → j ≠ 118 → j ≠ 119 → j ≠ 120 → j ≠ 121 → j ≠ 122 → j ≠ 123 → j ≠ 124 → j ≠ 125 → j ≠ 126 → j ≠ 127 → j ≠ 128 → j ≠ 129 → j ≠ 130 → j ≠ 131 → j ≠ 132 → j ≠ 133 → j ≠ 134 → j ≠ 135 → mem23 j = mem j := fun j c0 c1 c2 c3 c4 c5 c6 c7 c8 c9 c10 c11 c12 c13 c14 c15 c16 c17 c18 c19 c20 => (k25 j (by omega)).trans (hfr20 j c0 c1 c2 c3 c4 c5 c6 c7 c8 c9 c10 c11 c12 c13 c14 c15 c16 c17 c18 c19 c20)
  have f27 : mem23 115 = .inr (9, [.int (nI 0), .int (nI 0), .ref (b + 116), .ref (b + 117), .null, .null, .int (nI 0), .null, .int (nI 0), .int (nI 0), .int (nI 0), .null, .null, .null, .null, .null, .null, .null, .null, .null, .int (nI 0), .null, .null, .int (nI 0), .null, .null, .int (nI 0), .int (nI 0), .int (nI 0), .int (nI 0), .null, .null]) := (k25 _ (by decide)).trans f18
  have f28 : mem23 116 = aN Γ 192 (fun _ => 0) := (k25 _ (by decide)).trans f21
  have f29 : mem23 117 = aF Γ 192 (fun _ => FP.fconst0) := (k25 _ (by decide)).trans f22
  have hh : GH Γ b (119) mem23 s _ _ := hh
  refine gq_X10_tokens (fs' := [.int (nI 0), .int (nI 0), .ref (b + 116), .ref (b + 117), .ref (b + 118), .null, .int (nI 0), .null, .int (nI 0), .int (nI 0), .int (nI 0), .null, .null, .null, .null, .null, .null, .null, .null, .null, .int (nI 0), .null, .null, .int (nI 0), .null, .null, .int (nI 0), .int (nI 0), .int (nI 0), .int (nI 0), .null, .null]) hx hb hE hown hname hh (by omega) f27 rfl rfl (show 4 < 32 by decide) rfl dX10_init_27 (fun H locs mem30 f31 k32 hh => ?_)
  have hfr33 : ∀ j, j ≠ 115 → j ≠ 116 → j ≠ 117 → j ≠ 118 → j ≠ 119 → j ≠ 120 → j ≠ 121 → j ≠ 122 → j ≠ 123 → j ≠ 124 → j ≠ 125 → j ≠ 126 → j ≠ 127 → j ≠ 128 → j ≠ 129 → j ≠ 130 → j ≠ 131 → j ≠ 132 → j ≠ 133 → j ≠ 134 → j ≠ 135 → mem30 j = mem j := fun j c0 c1 c2 c3 c4 c5 c6 c7 c8 c9 c10 c11 c12 c13 c14 c15 c16 c17 c18 c19 c20 => (k32 j (by omega)).trans (hfr26 j c0 c1 c2 c3 c4 c5 c6 c7 c8 c9 c10 c11 c12 c13 c14 c15 c16 c17 c18 c19 c20)
  have f34 : mem30 116 = aN Γ 192 (fun _ => 0) := (k32 _ (by decide)).trans f28
  have f35 : mem30 117 = aF Γ 192 (fun _ => FP.fconst0) := (k32 _ (by decide)).trans f29
  have f36 : mem30 118 = aN Γ 16 (fun _ => 0) := (k32 _ (by decide)).trans f24
  refine lv_aload_n hx hb dX10_init_30 rfl (lv_at hl 0 rfl) ?_
  refine lv_sipush (v := (nI 256)) hx hb dX10_init_31 (by decide) ?_
  refine mn_newa 1 (atype := .float) (ty := .float) (n := 256) (a0 := (256, .inr (.inr (.inl (fun _ => FP.fconst0))))) hx hb hE (wa_F hE.2.1 args) rfl rfl (fun _ => rfl) (by decide) (by decide) (by omega) hh (by show _ ≤ 20; omega) (by show _ ≤ 949; omega) dX10_init_34 (fun H mem37 f38 k39 hh => ?_)
  have hfr40 : ∀ j, j ≠ 115 → j ≠ 116 → j ≠ 117 → j ≠ 118 → j ≠ 119 → j ≠ 120 → j ≠ 121 → j ≠ 122 → j ≠ 123 → j ≠ 124 → j ≠ 125 → j ≠ 126 → j ≠ 127 → j ≠ 128 → j ≠ 129 → j ≠ 130 → j ≠ 131 → j ≠ 132 → j ≠ 133 → j ≠ 134 → j ≠ 135 → mem37 j = mem j := fun j c0 c1 c2 c3 c4 c5 c6 c7 c8 c9 c10 c11 c12 c13 c14 c15 c16 c17 c18 c19 c20 => (k39 j (by omega)).trans (hfr33 j c0 c1 c2 c3 c4 c5 c6 c7 c8 c9 c10 c11 c12 c13 c14 c15 c16 c17 c18 c19 c20)
  have f41 : mem37 115 = .inr (9, [.int (nI 0), .int (nI 0), .ref (b + 116), .ref (b + 117), .ref (b + 118), .null, .int (nI 0), .null, .int (nI 0), .int (nI 0), .int (nI 0), .null, .null, .null, .null, .null, .null, .null, .null, .null, .int (nI 0), .null, .null, .int (nI 0), .null, .null, .int (nI 0), .int (nI 0), .int (nI 0), .int (nI 0), .null, .null]) := (k39 _ (by decide)).trans f31
  have f42 : mem37 116 = aN Γ 192 (fun _ => 0) := (k39 _ (by decide)).trans f34
  have f43 : mem37 117 = aF Γ 192 (fun _ => FP.fconst0) := (k39 _ (by decide)).trans f35
  have f44 : mem37 118 = aN Γ 16 (fun _ => 0) := (k39 _ (by decide)).trans f36
  have hh : GH Γ b (120) mem37 s _ _ := hh
  refine gq_X10_parts (fs' := [.int (nI 0), .int (nI 0), .ref (b + 116), .ref (b + 117), .ref (b + 118), .ref (b + 119), .int (nI 0), .null, .int (nI 0), .int (nI 0), .int (nI 0), .null, .null, .null, .null, .null, .null, .null, .null, .null, .int (nI 0), .null, .null, .int (nI 0), .null, .null, .int (nI 0), .int (nI 0), .int (nI 0), .int (nI 0), .null, .null]) hx hb hE hown hname hh (by omega) f41 rfl rfl (show 5 < 32 by decide) rfl dX10_init_36 (fun H locs mem45 f46 k47 hh => ?_)
  have hfr48 : ∀ j, j ≠ 115 → j ≠ 116 → j ≠ 117 → j ≠ 118 → j ≠ 119 → j ≠ 120 → j ≠ 121 → j ≠ 122 → j ≠ 123 → j ≠ 124 → j ≠ 125 → j ≠ 126 → j ≠ 127 → j ≠ 128 → j ≠ 129 → j ≠ 130 → j ≠ 131 → j ≠ 132 → j ≠ 133 → j ≠ 134 → j ≠ 135 → mem45 j = mem j := fun j c0 c1 c2 c3 c4 c5 c6 c7 c8 c9 c10 c11 c12 c13 c14 c15 c16 c17 c18 c19 c20 => (k47 j (by omega)).trans (hfr40 j c0 c1 c2 c3 c4 c5 c6 c7 c8 c9 c10 c11 c12 c13 c14 c15 c16 c17 c18 c19 c20)
  have f49 : mem45 116 = aN Γ 192 (fun _ => 0) := (k47 _ (by decide)).trans f42
  have f50 : mem45 117 = aF Γ 192 (fun _ => FP.fconst0) := (k47 _ (by decide)).trans f43
  have f51 : mem45 118 = aN Γ 16 (fun _ => 0) := (k47 _ (by decide)).trans f44
  have f52 : mem45 119 = aF Γ 256 (fun _ => FP.fconst0) := (k47 _ (by decide)).trans f38
  refine lv_aload_n hx hb dX10_init_39 rfl (lv_at hl 0 rfl) ?_
  refine lv_bipush (v := (nI 16)) hx hb dX10_init_40 (by decide) ?_
  refine mn_newa 1 (atype := .float) (ty := .float) (n := 16) (a0 := (16, .inr (.inr (.inl (fun _ => FP.fconst0))))) hx hb hE (wa_F hE.2.1 args) rfl rfl (fun _ => rfl) (by decide) (by decide) (by omega) hh (by show _ ≤ 20; omega) (by show _ ≤ 949; omega) dX10_init_42 (fun H mem53 f54 k55 hh => ?_)
  have hfr56 : ∀ j, j ≠ 115 → j ≠ 116 → j ≠ 117 → j ≠ 118 → j ≠ 119 → j ≠ 120 → j ≠ 121 → j ≠ 122 → j ≠ 123 → j ≠ 124 → j ≠ 125 → j ≠ 126 → j ≠ 127 → j ≠ 128 → j ≠ 129 → j ≠ 130 → j ≠ 131 → j ≠ 132 → j ≠ 133 → j ≠ 134 → j ≠ 135 → mem53 j = mem j := fun j c0 c1 c2 c3 c4 c5 c6 c7 c8 c9 c10 c11 c12 c13 c14 c15 c16 c17 c18 c19 c20 => (k55 j (by omega)).trans (hfr48 j c0 c1 c2 c3 c4 c5 c6 c7 c8 c9 c10 c11 c12 c13 c14 c15 c16 c17 c18 c19 c20)
  have f57 : mem53 115 = .inr (9, [.int (nI 0), .int (nI 0), .ref (b + 116), .ref (b + 117), .ref (b + 118), .ref (b + 119), .int (nI 0), .null, .int (nI 0), .int (nI 0), .int (nI 0), .null, .null, .null, .null, .null, .null, .null, .null, .null, .int (nI 0), .null, .null, .int (nI 0), .null, .null, .int (nI 0), .int (nI 0), .int (nI 0), .int (nI 0), .null, .null]) := (k55 _ (by decide)).trans f46
  have f58 : mem53 116 = aN Γ 192 (fun _ => 0) := (k55 _ (by decide)).trans f49
  have f59 : mem53 117 = aF Γ 192 (fun _ => FP.fconst0) := (k55 _ (by decide)).trans f50
  have f60 : mem53 118 = aN Γ 16 (fun _ => 0) := (k55 _ (by decide)).trans f51
  have f61 : mem53 119 = aF Γ 256 (fun _ => FP.fconst0) := (k55 _ (by decide)).trans f52
  have hh : GH Γ b (121) mem53 s _ _ := hh
  refine gq_X10_centres (fs' := [.int (nI 0), .int (nI 0), .ref (b + 116), .ref (b + 117), .ref (b + 118), .ref (b + 119), .int (nI 0), .ref (b + 120), .int (nI 0), .int (nI 0), .int (nI 0), .null, .null, .null, .null, .null, .null, .null, .null, .null, .int (nI 0), .null, .null, .int (nI 0), .null, .null, .int (nI 0), .int (nI 0), .int (nI 0), .int (nI 0), .null, .null]) hx hb hE hown hname hh (by omega) f57 rfl rfl (show 7 < 32 by decide) rfl dX10_init_44 (fun H locs mem62 f63 k64 hh => ?_)
  have hfr65 : ∀ j, j ≠ 115 → j ≠ 116 → j ≠ 117 → j ≠ 118 → j ≠ 119 → j ≠ 120 → j ≠ 121 → j ≠ 122 → j ≠ 123 → j ≠ 124 → j ≠ 125 → j ≠ 126 → j ≠ 127 → j ≠ 128 → j ≠ 129 → j ≠ 130 → j ≠ 131 → j ≠ 132 → j ≠ 133 → j ≠ 134 → j ≠ 135 → mem62 j = mem j := fun j c0 c1 c2 c3 c4 c5 c6 c7 c8 c9 c10 c11 c12 c13 c14 c15 c16 c17 c18 c19 c20 => (k64 j (by omega)).trans (hfr56 j c0 c1 c2 c3 c4 c5 c6 c7 c8 c9 c10 c11 c12 c13 c14 c15 c16 c17 c18 c19 c20)
  have f66 : mem62 116 = aN Γ 192 (fun _ => 0) := (k64 _ (by decide)).trans f58
  have f67 : mem62 117 = aF Γ 192 (fun _ => FP.fconst0) := (k64 _ (by decide)).trans f59
  have f68 : mem62 118 = aN Γ 16 (fun _ => 0) := (k64 _ (by decide)).trans f60
  have f69 : mem62 119 = aF Γ 256 (fun _ => FP.fconst0) := (k64 _ (by decide)).trans f61
  have f70 : mem62 120 = aF Γ 16 (fun _ => FP.fconst0) := (k64 _ (by decide)).trans f54
  refine lv_aload_n hx hb dX10_init_47 rfl (lv_at hl 0 rfl) ?_
  refine lv_iconst (v := (nI 4)) hx hb dX10_init_48 (by decide) ?_
  refine mn_newa 0 (atype := .int) (ty := .int) (n := 4) (a0 := (4, .inl (fun _ => nI 0))) hx hb hE (wa_I hE.2.1 args) rfl rfl (fun _ => rfl) (by decide) (by decide) (by omega) hh (by show _ ≤ 20; omega) (by show _ ≤ 949; omega) dX10_init_49 (fun H mem71 f72 k73 hh => ?_)
  have hfr74 : ∀ j, j ≠ 115 → j ≠ 116 → j ≠ 117 → j ≠ 118 → j ≠ 119 → j ≠ 120 → j ≠ 121 → j ≠ 122 → j ≠ 123 → j ≠ 124 → j ≠ 125 → j ≠ 126 → j ≠ 127 → j ≠ 128 → j ≠ 129 → j ≠ 130 → j ≠ 131 → j ≠ 132 → j ≠ 133 → j ≠ 134 → j ≠ 135 → mem71 j = mem j := fun j c0 c1 c2 c3 c4 c5 c6 c7 c8 c9 c10 c11 c12 c13 c14 c15 c16 c17 c18 c19 c20 => (k73 j (by omega)).trans (hfr65 j c0 c1 c2 c3 c4 c5 c6 c7 c8 c9 c10 c11 c12 c13 c14 c15 c16 c17 c18 c19 c20)
  have f75 : mem71 115 = .inr (9, [.int (nI 0), .int (nI 0), .ref (b + 116), .ref (b + 117), .ref (b + 118), .ref (b + 119), .int (nI 0), .ref (b + 120), .int (nI 0), .int (nI 0), .int (nI 0), .null, .null, .null, .null, .null, .null, .null, .null, .null, .int (nI 0), .null, .null, .int (nI 0), .null, .null, .int (nI 0), .int (nI 0), .int (nI 0), .int (nI 0), .null, .null]) := (k73 _ (by decide)).trans f63
  have f76 : mem71 116 = aN Γ 192 (fun _ => 0) := (k73 _ (by decide)).trans f66
  have f77 : mem71 117 = aF Γ 192 (fun _ => FP.fconst0) := (k73 _ (by decide)).trans f67
  have f78 : mem71 118 = aN Γ 16 (fun _ => 0) := (k73 _ (by decide)).trans f68
  have f79 : mem71 119 = aF Γ 256 (fun _ => FP.fconst0) := (k73 _ (by decide)).trans f69
  have f80 : mem71 120 = aF Γ 16 (fun _ => FP.fconst0) := (k73 _ (by decide)).trans f70
  have hh : GH Γ b (122) mem71 s _ _ := hh
  refine gq_X10_word (fs' := [.int (nI 0), .int (nI 0), .ref (b + 116), .ref (b + 117), .ref (b + 118), .ref (b + 119), .int (nI 0), .ref (b + 120), .int (nI 0), .int (nI 0), .int (nI 0), .ref (b + 121), .null, .null, .null, .null, .null, .null, .null, .null, .int (nI 0), .null, .null, .int (nI 0), .null, .null, .int (nI 0), .int (nI 0), .int (nI 0), .int (nI 0), .null, .null]) hx hb hE hown hname hh (by omega) f75 rfl rfl (show 11 < 32 by decide) rfl dX10_init_51 (fun H locs mem81 f82 k83 hh => ?_)
  have hfr84 : ∀ j, j ≠ 115 → j ≠ 116 → j ≠ 117 → j ≠ 118 → j ≠ 119 → j ≠ 120 → j ≠ 121 → j ≠ 122 → j ≠ 123 → j ≠ 124 → j ≠ 125 → j ≠ 126 → j ≠ 127 → j ≠ 128 → j ≠ 129 → j ≠ 130 → j ≠ 131 → j ≠ 132 → j ≠ 133 → j ≠ 134 → j ≠ 135 → mem81 j = mem j := fun j c0 c1 c2 c3 c4 c5 c6 c7 c8 c9 c10 c11 c12 c13 c14 c15 c16 c17 c18 c19 c20 => (k83 j (by omega)).trans (hfr74 j c0 c1 c2 c3 c4 c5 c6 c7 c8 c9 c10 c11 c12 c13 c14 c15 c16 c17 c18 c19 c20)
  have f85 : mem81 116 = aN Γ 192 (fun _ => 0) := (k83 _ (by decide)).trans f76
  have f86 : mem81 117 = aF Γ 192 (fun _ => FP.fconst0) := (k83 _ (by decide)).trans f77
  have f87 : mem81 118 = aN Γ 16 (fun _ => 0) := (k83 _ (by decide)).trans f78
  have f88 : mem81 119 = aF Γ 256 (fun _ => FP.fconst0) := (k83 _ (by decide)).trans f79
  have f89 : mem81 120 = aF Γ 16 (fun _ => FP.fconst0) := (k83 _ (by decide)).trans f80
  have f90 : mem81 121 = aN Γ 4 (fun _ => 0) := (k83 _ (by decide)).trans f72
  refine lv_aload_n hx hb dX10_init_54 rfl (lv_at hl 0 rfl) ?_
  refine lv_iconst (v := (nI 4)) hx hb dX10_init_55 (by decide) ?_
  refine mn_newa 0 (atype := .int) (ty := .int) (n := 4) (a0 := (4, .inl (fun _ => nI 0))) hx hb hE (wa_I hE.2.1 args) rfl rfl (fun _ => rfl) (by decide) (by decide) (by omega) hh (by show _ ≤ 20; omega) (by show _ ≤ 949; omega) dX10_init_56 (fun H mem91 f92 k93 hh => ?_)
  have hfr94 : ∀ j, j ≠ 115 → j ≠ 116 → j ≠ 117 → j ≠ 118 → j ≠ 119 → j ≠ 120 → j ≠ 121 → j ≠ 122 → j ≠ 123 → j ≠ 124 → j ≠ 125 → j ≠ 126 → j ≠ 127 → j ≠ 128 → j ≠ 129 → j ≠ 130 → j ≠ 131 → j ≠ 132 → j ≠ 133 → j ≠ 134 → j ≠ 135 → mem91 j = mem j := fun j c0 c1 c2 c3 c4 c5 c6 c7 c8 c9 c10 c11 c12 c13 c14 c15 c16 c17 c18 c19 c20 => (k93 j (by omega)).trans (hfr84 j c0 c1 c2 c3 c4 c5 c6 c7 c8 c9 c10 c11 c12 c13 c14 c15 c16 c17 c18 c19 c20)
  have f95 : mem91 115 = .inr (9, [.int (nI 0), .int (nI 0), .ref (b + 116), .ref (b + 117), .ref (b + 118), .ref (b + 119), .int (nI 0), .ref (b + 120), .int (nI 0), .int (nI 0), .int (nI 0), .ref (b + 121), .null, .null, .null, .null, .null, .null, .null, .null, .int (nI 0), .null, .null, .int (nI 0), .null, .null, .int (nI 0), .int (nI 0), .int (nI 0), .int (nI 0), .null, .null]) := (k93 _ (by decide)).trans f82
  have f96 : mem91 116 = aN Γ 192 (fun _ => 0) := (k93 _ (by decide)).trans f85
  have f97 : mem91 117 = aF Γ 192 (fun _ => FP.fconst0) := (k93 _ (by decide)).trans f86
  have f98 : mem91 118 = aN Γ 16 (fun _ => 0) := (k93 _ (by decide)).trans f87
  have f99 : mem91 119 = aF Γ 256 (fun _ => FP.fconst0) := (k93 _ (by decide)).trans f88
  have f100 : mem91 120 = aF Γ 16 (fun _ => FP.fconst0) := (k93 _ (by decide)).trans f89
  have f101 : mem91 121 = aN Γ 4 (fun _ => 0) := (k93 _ (by decide)).trans f90
  have hh : GH Γ b (123) mem91 s _ _ := hh
  refine gq_X10_impact (fs' := [.int (nI 0), .int (nI 0), .ref (b + 116), .ref (b + 117), .ref (b + 118), .ref (b + 119), .int (nI 0), .ref (b + 120), .int (nI 0), .int (nI 0), .int (nI 0), .ref (b + 121), .ref (b + 122), .null, .null, .null, .null, .null, .null, .null, .int (nI 0), .null, .null, .int (nI 0), .null, .null, .int (nI 0), .int (nI 0), .int (nI 0), .int (nI 0), .null, .null]) hx hb hE hown hname hh (by omega) f95 rfl rfl (show 12 < 32 by decide) rfl dX10_init_58 (fun H locs mem102 f103 k104 hh => ?_)
  have hfr105 : ∀ j, j ≠ 115 → j ≠ 116 → j ≠ 117 → j ≠ 118 → j ≠ 119 → j ≠ 120 → j ≠ 121 → j ≠ 122 → j ≠ 123 → j ≠ 124 → j ≠ 125 → j ≠ 126 → j ≠ 127 → j ≠ 128 → j ≠ 129 → j ≠ 130 → j ≠ 131 → j ≠ 132 → j ≠ 133 → j ≠ 134 → j ≠ 135 → mem102 j = mem j := fun j c0 c1 c2 c3 c4 c5 c6 c7 c8 c9 c10 c11 c12 c13 c14 c15 c16 c17 c18 c19 c20 => (k104 j (by omega)).trans (hfr94 j c0 c1 c2 c3 c4 c5 c6 c7 c8 c9 c10 c11 c12 c13 c14 c15 c16 c17 c18 c19 c20)
  have f106 : mem102 116 = aN Γ 192 (fun _ => 0) := (k104 _ (by decide)).trans f96
  have f107 : mem102 117 = aF Γ 192 (fun _ => FP.fconst0) := (k104 _ (by decide)).trans f97
  have f108 : mem102 118 = aN Γ 16 (fun _ => 0) := (k104 _ (by decide)).trans f98
  have f109 : mem102 119 = aF Γ 256 (fun _ => FP.fconst0) := (k104 _ (by decide)).trans f99
  have f110 : mem102 120 = aF Γ 16 (fun _ => FP.fconst0) := (k104 _ (by decide)).trans f100
  have f111 : mem102 121 = aN Γ 4 (fun _ => 0) := (k104 _ (by decide)).trans f101
  have f112 : mem102 122 = aN Γ 4 (fun _ => 0) := (k104 _ (by decide)).trans f92
  refine lv_aload_n hx hb dX10_init_61 rfl (lv_at hl 0 rfl) ?_
  refine lv_iconst (v := (nI 4)) hx hb dX10_init_62 (by decide) ?_
  refine mn_newa 0 (atype := .int) (ty := .int) (n := 4) (a0 := (4, .inl (fun _ => nI 0))) hx hb hE (wa_I hE.2.1 args) rfl rfl (fun _ => rfl) (by decide) (by decide) (by omega) hh (by show _ ≤ 20; omega) (by show _ ≤ 949; omega) dX10_init_63 (fun H mem113 f114 k115 hh => ?_)
  have hfr116 : ∀ j, j ≠ 115 → j ≠ 116 → j ≠ 117 → j ≠ 118 → j ≠ 119 → j ≠ 120 → j ≠ 121 → j ≠ 122 → j ≠ 123 → j ≠ 124 → j ≠ 125 → j ≠ 126 → j ≠ 127 → j ≠ 128 → j ≠ 129 → j ≠ 130 → j ≠ 131 → j ≠ 132 → j ≠ 133 → j ≠ 134 → j ≠ 135 → mem113 j = mem j := fun j c0 c1 c2 c3 c4 c5 c6 c7 c8 c9 c10 c11 c12 c13 c14 c15 c16 c17 c18 c19 c20 => (k115 j (by omega)).trans (hfr105 j c0 c1 c2 c3 c4 c5 c6 c7 c8 c9 c10 c11 c12 c13 c14 c15 c16 c17 c18 c19 c20)
  have f117 : mem113 115 = .inr (9, [.int (nI 0), .int (nI 0), .ref (b + 116), .ref (b + 117), .ref (b + 118), .ref (b + 119), .int (nI 0), .ref (b + 120), .int (nI 0), .int (nI 0), .int (nI 0), .ref (b + 121), .ref (b + 122), .null, .null, .null, .null, .null, .null, .null, .int (nI 0), .null, .null, .int (nI 0), .null, .null, .int (nI 0), .int (nI 0), .int (nI 0), .int (nI 0), .null, .null]) := (k115 _ (by decide)).trans f103
  have f118 : mem113 116 = aN Γ 192 (fun _ => 0) := (k115 _ (by decide)).trans f106
  have f119 : mem113 117 = aF Γ 192 (fun _ => FP.fconst0) := (k115 _ (by decide)).trans f107
  have f120 : mem113 118 = aN Γ 16 (fun _ => 0) := (k115 _ (by decide)).trans f108
  have f121 : mem113 119 = aF Γ 256 (fun _ => FP.fconst0) := (k115 _ (by decide)).trans f109
  have f122 : mem113 120 = aF Γ 16 (fun _ => FP.fconst0) := (k115 _ (by decide)).trans f110
  have f123 : mem113 121 = aN Γ 4 (fun _ => 0) := (k115 _ (by decide)).trans f111
  have f124 : mem113 122 = aN Γ 4 (fun _ => 0) := (k115 _ (by decide)).trans f112
  have hh : GH Γ b (124) mem113 s _ _ := hh
  refine gq_X10_weight (fs' := [.int (nI 0), .int (nI 0), .ref (b + 116), .ref (b + 117), .ref (b + 118), .ref (b + 119), .int (nI 0), .ref (b + 120), .int (nI 0), .int (nI 0), .int (nI 0), .ref (b + 121), .ref (b + 122), .ref (b + 123), .null, .null, .null, .null, .null, .null, .int (nI 0), .null, .null, .int (nI 0), .null, .null, .int (nI 0), .int (nI 0), .int (nI 0), .int (nI 0), .null, .null]) hx hb hE hown hname hh (by omega) f117 rfl rfl (show 13 < 32 by decide) rfl dX10_init_65 (fun H locs mem125 f126 k127 hh => ?_)
  have hfr128 : ∀ j, j ≠ 115 → j ≠ 116 → j ≠ 117 → j ≠ 118 → j ≠ 119 → j ≠ 120 → j ≠ 121 → j ≠ 122 → j ≠ 123 → j ≠ 124 → j ≠ 125 → j ≠ 126 → j ≠ 127 → j ≠ 128 → j ≠ 129 → j ≠ 130 → j ≠ 131 → j ≠ 132 → j ≠ 133 → j ≠ 134 → j ≠ 135 → mem125 j = mem j := fun j c0 c1 c2 c3 c4 c5 c6 c7 c8 c9 c10 c11 c12 c13 c14 c15 c16 c17 c18 c19 c20 => (k127 j (by omega)).trans (hfr116 j c0 c1 c2 c3 c4 c5 c6 c7 c8 c9 c10 c11 c12 c13 c14 c15 c16 c17 c18 c19 c20)
  have f129 : mem125 116 = aN Γ 192 (fun _ => 0) := (k127 _ (by decide)).trans f118
  have f130 : mem125 117 = aF Γ 192 (fun _ => FP.fconst0) := (k127 _ (by decide)).trans f119
  have f131 : mem125 118 = aN Γ 16 (fun _ => 0) := (k127 _ (by decide)).trans f120
  have f132 : mem125 119 = aF Γ 256 (fun _ => FP.fconst0) := (k127 _ (by decide)).trans f121
  have f133 : mem125 120 = aF Γ 16 (fun _ => FP.fconst0) := (k127 _ (by decide)).trans f122
  have f134 : mem125 121 = aN Γ 4 (fun _ => 0) := (k127 _ (by decide)).trans f123
  have f135 : mem125 122 = aN Γ 4 (fun _ => 0) := (k127 _ (by decide)).trans f124
  have f136 : mem125 123 = aN Γ 4 (fun _ => 0) := (k127 _ (by decide)).trans f114
  refine lv_aload_n hx hb dX10_init_68 rfl (lv_at hl 0 rfl) ?_
  refine lv_bipush (v := (nI 12)) hx hb dX10_init_69 (by decide) ?_
  refine mn_newa 1 (atype := .float) (ty := .float) (n := 12) (a0 := (12, .inr (.inr (.inl (fun _ => FP.fconst0))))) hx hb hE (wa_F hE.2.1 args) rfl rfl (fun _ => rfl) (by decide) (by decide) (by omega) hh (by show _ ≤ 20; omega) (by show _ ≤ 949; omega) dX10_init_71 (fun H mem137 f138 k139 hh => ?_)
  have hfr140 : ∀ j, j ≠ 115 → j ≠ 116 → j ≠ 117 → j ≠ 118 → j ≠ 119 → j ≠ 120 → j ≠ 121 → j ≠ 122 → j ≠ 123 → j ≠ 124 → j ≠ 125 → j ≠ 126 → j ≠ 127 → j ≠ 128 → j ≠ 129 → j ≠ 130 → j ≠ 131 → j ≠ 132 → j ≠ 133 → j ≠ 134 → j ≠ 135 → mem137 j = mem j := fun j c0 c1 c2 c3 c4 c5 c6 c7 c8 c9 c10 c11 c12 c13 c14 c15 c16 c17 c18 c19 c20 => (k139 j (by omega)).trans (hfr128 j c0 c1 c2 c3 c4 c5 c6 c7 c8 c9 c10 c11 c12 c13 c14 c15 c16 c17 c18 c19 c20)
  have f141 : mem137 115 = .inr (9, [.int (nI 0), .int (nI 0), .ref (b + 116), .ref (b + 117), .ref (b + 118), .ref (b + 119), .int (nI 0), .ref (b + 120), .int (nI 0), .int (nI 0), .int (nI 0), .ref (b + 121), .ref (b + 122), .ref (b + 123), .null, .null, .null, .null, .null, .null, .int (nI 0), .null, .null, .int (nI 0), .null, .null, .int (nI 0), .int (nI 0), .int (nI 0), .int (nI 0), .null, .null]) := (k139 _ (by decide)).trans f126
  have f142 : mem137 116 = aN Γ 192 (fun _ => 0) := (k139 _ (by decide)).trans f129
  have f143 : mem137 117 = aF Γ 192 (fun _ => FP.fconst0) := (k139 _ (by decide)).trans f130
  have f144 : mem137 118 = aN Γ 16 (fun _ => 0) := (k139 _ (by decide)).trans f131
  have f145 : mem137 119 = aF Γ 256 (fun _ => FP.fconst0) := (k139 _ (by decide)).trans f132
  have f146 : mem137 120 = aF Γ 16 (fun _ => FP.fconst0) := (k139 _ (by decide)).trans f133
  have f147 : mem137 121 = aN Γ 4 (fun _ => 0) := (k139 _ (by decide)).trans f134
  have f148 : mem137 122 = aN Γ 4 (fun _ => 0) := (k139 _ (by decide)).trans f135
  have f149 : mem137 123 = aN Γ 4 (fun _ => 0) := (k139 _ (by decide)).trans f136
  have hh : GH Γ b (125) mem137 s _ _ := hh
  refine gq_X10_vector (fs' := [.int (nI 0), .int (nI 0), .ref (b + 116), .ref (b + 117), .ref (b + 118), .ref (b + 119), .int (nI 0), .ref (b + 120), .int (nI 0), .int (nI 0), .int (nI 0), .ref (b + 121), .ref (b + 122), .ref (b + 123), .ref (b + 124), .null, .null, .null, .null, .null, .int (nI 0), .null, .null, .int (nI 0), .null, .null, .int (nI 0), .int (nI 0), .int (nI 0), .int (nI 0), .null, .null]) hx hb hE hown hname hh (by omega) f141 rfl rfl (show 14 < 32 by decide) rfl dX10_init_73 (fun H locs mem150 f151 k152 hh => ?_)
  have hfr153 : ∀ j, j ≠ 115 → j ≠ 116 → j ≠ 117 → j ≠ 118 → j ≠ 119 → j ≠ 120 → j ≠ 121 → j ≠ 122 → j ≠ 123 → j ≠ 124 → j ≠ 125 → j ≠ 126 → j ≠ 127 → j ≠ 128 → j ≠ 129 → j ≠ 130 → j ≠ 131 → j ≠ 132 → j ≠ 133 → j ≠ 134 → j ≠ 135 → mem150 j = mem j := fun j c0 c1 c2 c3 c4 c5 c6 c7 c8 c9 c10 c11 c12 c13 c14 c15 c16 c17 c18 c19 c20 => (k152 j (by omega)).trans (hfr140 j c0 c1 c2 c3 c4 c5 c6 c7 c8 c9 c10 c11 c12 c13 c14 c15 c16 c17 c18 c19 c20)
  have f154 : mem150 116 = aN Γ 192 (fun _ => 0) := (k152 _ (by decide)).trans f142
  have f155 : mem150 117 = aF Γ 192 (fun _ => FP.fconst0) := (k152 _ (by decide)).trans f143
  have f156 : mem150 118 = aN Γ 16 (fun _ => 0) := (k152 _ (by decide)).trans f144
  have f157 : mem150 119 = aF Γ 256 (fun _ => FP.fconst0) := (k152 _ (by decide)).trans f145
  have f158 : mem150 120 = aF Γ 16 (fun _ => FP.fconst0) := (k152 _ (by decide)).trans f146
  have f159 : mem150 121 = aN Γ 4 (fun _ => 0) := (k152 _ (by decide)).trans f147
  have f160 : mem150 122 = aN Γ 4 (fun _ => 0) := (k152 _ (by decide)).trans f148
  have f161 : mem150 123 = aN Γ 4 (fun _ => 0) := (k152 _ (by decide)).trans f149
  have f162 : mem150 124 = aF Γ 12 (fun _ => FP.fconst0) := (k152 _ (by decide)).trans f138
  refine lv_aload_n hx hb dX10_init_76 rfl (lv_at hl 0 rfl) ?_
  refine lv_iconst (v := (nI 3)) hx hb dX10_init_77 (by decide) ?_
  refine mn_newa 3 (atype := .boolean) (ty := .boolean) (n := 3) (a0 := (3, .inl (fun _ => bI false))) hx hb hE (wa_Z hE.2.1 args) rfl rfl (fun _ => rfl) (by decide) (by decide) (by omega) hh (by show _ ≤ 20; omega) (by show _ ≤ 949; omega) dX10_init_78 (fun H mem163 f164 k165 hh => ?_)
  have hfr166 : ∀ j, j ≠ 115 → j ≠ 116 → j ≠ 117 → j ≠ 118 → j ≠ 119 → j ≠ 120 → j ≠ 121 → j ≠ 122 → j ≠ 123 → j ≠ 124 → j ≠ 125 → j ≠ 126 → j ≠ 127 → j ≠ 128 → j ≠ 129 → j ≠ 130 → j ≠ 131 → j ≠ 132 → j ≠ 133 → j ≠ 134 → j ≠ 135 → mem163 j = mem j := fun j c0 c1 c2 c3 c4 c5 c6 c7 c8 c9 c10 c11 c12 c13 c14 c15 c16 c17 c18 c19 c20 => (k165 j (by omega)).trans (hfr153 j c0 c1 c2 c3 c4 c5 c6 c7 c8 c9 c10 c11 c12 c13 c14 c15 c16 c17 c18 c19 c20)
  have f167 : mem163 115 = .inr (9, [.int (nI 0), .int (nI 0), .ref (b + 116), .ref (b + 117), .ref (b + 118), .ref (b + 119), .int (nI 0), .ref (b + 120), .int (nI 0), .int (nI 0), .int (nI 0), .ref (b + 121), .ref (b + 122), .ref (b + 123), .ref (b + 124), .null, .null, .null, .null, .null, .int (nI 0), .null, .null, .int (nI 0), .null, .null, .int (nI 0), .int (nI 0), .int (nI 0), .int (nI 0), .null, .null]) := (k165 _ (by decide)).trans f151
  have f168 : mem163 116 = aN Γ 192 (fun _ => 0) := (k165 _ (by decide)).trans f154
  have f169 : mem163 117 = aF Γ 192 (fun _ => FP.fconst0) := (k165 _ (by decide)).trans f155
  have f170 : mem163 118 = aN Γ 16 (fun _ => 0) := (k165 _ (by decide)).trans f156
  have f171 : mem163 119 = aF Γ 256 (fun _ => FP.fconst0) := (k165 _ (by decide)).trans f157
  have f172 : mem163 120 = aF Γ 16 (fun _ => FP.fconst0) := (k165 _ (by decide)).trans f158
  have f173 : mem163 121 = aN Γ 4 (fun _ => 0) := (k165 _ (by decide)).trans f159
  have f174 : mem163 122 = aN Γ 4 (fun _ => 0) := (k165 _ (by decide)).trans f160
  have f175 : mem163 123 = aN Γ 4 (fun _ => 0) := (k165 _ (by decide)).trans f161
  have f176 : mem163 124 = aF Γ 12 (fun _ => FP.fconst0) := (k165 _ (by decide)).trans f162
  have hh : GH Γ b (126) mem163 s _ _ := hh
  refine gq_X10_has (fs' := [.int (nI 0), .int (nI 0), .ref (b + 116), .ref (b + 117), .ref (b + 118), .ref (b + 119), .int (nI 0), .ref (b + 120), .int (nI 0), .int (nI 0), .int (nI 0), .ref (b + 121), .ref (b + 122), .ref (b + 123), .ref (b + 124), .ref (b + 125), .null, .null, .null, .null, .int (nI 0), .null, .null, .int (nI 0), .null, .null, .int (nI 0), .int (nI 0), .int (nI 0), .int (nI 0), .null, .null]) hx hb hE hown hname hh (by omega) f167 rfl rfl (show 15 < 32 by decide) rfl dX10_init_80 (fun H locs mem177 f178 k179 hh => ?_)
  have hfr180 : ∀ j, j ≠ 115 → j ≠ 116 → j ≠ 117 → j ≠ 118 → j ≠ 119 → j ≠ 120 → j ≠ 121 → j ≠ 122 → j ≠ 123 → j ≠ 124 → j ≠ 125 → j ≠ 126 → j ≠ 127 → j ≠ 128 → j ≠ 129 → j ≠ 130 → j ≠ 131 → j ≠ 132 → j ≠ 133 → j ≠ 134 → j ≠ 135 → mem177 j = mem j := fun j c0 c1 c2 c3 c4 c5 c6 c7 c8 c9 c10 c11 c12 c13 c14 c15 c16 c17 c18 c19 c20 => (k179 j (by omega)).trans (hfr166 j c0 c1 c2 c3 c4 c5 c6 c7 c8 c9 c10 c11 c12 c13 c14 c15 c16 c17 c18 c19 c20)
  have f181 : mem177 116 = aN Γ 192 (fun _ => 0) := (k179 _ (by decide)).trans f168
  have f182 : mem177 117 = aF Γ 192 (fun _ => FP.fconst0) := (k179 _ (by decide)).trans f169
  have f183 : mem177 118 = aN Γ 16 (fun _ => 0) := (k179 _ (by decide)).trans f170
  have f184 : mem177 119 = aF Γ 256 (fun _ => FP.fconst0) := (k179 _ (by decide)).trans f171
  have f185 : mem177 120 = aF Γ 16 (fun _ => FP.fconst0) := (k179 _ (by decide)).trans f172
  have f186 : mem177 121 = aN Γ 4 (fun _ => 0) := (k179 _ (by decide)).trans f173
  have f187 : mem177 122 = aN Γ 4 (fun _ => 0) := (k179 _ (by decide)).trans f174
  have f188 : mem177 123 = aN Γ 4 (fun _ => 0) := (k179 _ (by decide)).trans f175
  have f189 : mem177 124 = aF Γ 12 (fun _ => FP.fconst0) := (k179 _ (by decide)).trans f176
  have f190 : mem177 125 = aB Γ 3 (fun _ => false) := (k179 _ (by decide)).trans f164
  refine lv_aload_n hx hb dX10_init_83 rfl (lv_at hl 0 rfl) ?_
  refine lv_iconst (v := (nI 3)) hx hb dX10_init_84 (by decide) ?_
  refine mn_newa 0 (atype := .int) (ty := .int) (n := 3) (a0 := (3, .inl (fun _ => nI 0))) hx hb hE (wa_I hE.2.1 args) rfl rfl (fun _ => rfl) (by decide) (by decide) (by omega) hh (by show _ ≤ 20; omega) (by show _ ≤ 949; omega) dX10_init_85 (fun H mem191 f192 k193 hh => ?_)
  have hfr194 : ∀ j, j ≠ 115 → j ≠ 116 → j ≠ 117 → j ≠ 118 → j ≠ 119 → j ≠ 120 → j ≠ 121 → j ≠ 122 → j ≠ 123 → j ≠ 124 → j ≠ 125 → j ≠ 126 → j ≠ 127 → j ≠ 128 → j ≠ 129 → j ≠ 130 → j ≠ 131 → j ≠ 132 → j ≠ 133 → j ≠ 134 → j ≠ 135 → mem191 j = mem j := fun j c0 c1 c2 c3 c4 c5 c6 c7 c8 c9 c10 c11 c12 c13 c14 c15 c16 c17 c18 c19 c20 => (k193 j (by omega)).trans (hfr180 j c0 c1 c2 c3 c4 c5 c6 c7 c8 c9 c10 c11 c12 c13 c14 c15 c16 c17 c18 c19 c20)
  have f195 : mem191 115 = .inr (9, [.int (nI 0), .int (nI 0), .ref (b + 116), .ref (b + 117), .ref (b + 118), .ref (b + 119), .int (nI 0), .ref (b + 120), .int (nI 0), .int (nI 0), .int (nI 0), .ref (b + 121), .ref (b + 122), .ref (b + 123), .ref (b + 124), .ref (b + 125), .null, .null, .null, .null, .int (nI 0), .null, .null, .int (nI 0), .null, .null, .int (nI 0), .int (nI 0), .int (nI 0), .int (nI 0), .null, .null]) := (k193 _ (by decide)).trans f178
  have f196 : mem191 116 = aN Γ 192 (fun _ => 0) := (k193 _ (by decide)).trans f181
  have f197 : mem191 117 = aF Γ 192 (fun _ => FP.fconst0) := (k193 _ (by decide)).trans f182
  have f198 : mem191 118 = aN Γ 16 (fun _ => 0) := (k193 _ (by decide)).trans f183
  have f199 : mem191 119 = aF Γ 256 (fun _ => FP.fconst0) := (k193 _ (by decide)).trans f184
  have f200 : mem191 120 = aF Γ 16 (fun _ => FP.fconst0) := (k193 _ (by decide)).trans f185
  have f201 : mem191 121 = aN Γ 4 (fun _ => 0) := (k193 _ (by decide)).trans f186
  have f202 : mem191 122 = aN Γ 4 (fun _ => 0) := (k193 _ (by decide)).trans f187
  have f203 : mem191 123 = aN Γ 4 (fun _ => 0) := (k193 _ (by decide)).trans f188
  have f204 : mem191 124 = aF Γ 12 (fun _ => FP.fconst0) := (k193 _ (by decide)).trans f189
  have f205 : mem191 125 = aB Γ 3 (fun _ => false) := (k193 _ (by decide)).trans f190
  have hh : GH Γ b (127) mem191 s _ _ := hh
  refine gq_X10_length (fs' := [.int (nI 0), .int (nI 0), .ref (b + 116), .ref (b + 117), .ref (b + 118), .ref (b + 119), .int (nI 0), .ref (b + 120), .int (nI 0), .int (nI 0), .int (nI 0), .ref (b + 121), .ref (b + 122), .ref (b + 123), .ref (b + 124), .ref (b + 125), .ref (b + 126), .null, .null, .null, .int (nI 0), .null, .null, .int (nI 0), .null, .null, .int (nI 0), .int (nI 0), .int (nI 0), .int (nI 0), .null, .null]) hx hb hE hown hname hh (by omega) f195 rfl rfl (show 16 < 32 by decide) rfl dX10_init_87 (fun H locs mem206 f207 k208 hh => ?_)
  have hfr209 : ∀ j, j ≠ 115 → j ≠ 116 → j ≠ 117 → j ≠ 118 → j ≠ 119 → j ≠ 120 → j ≠ 121 → j ≠ 122 → j ≠ 123 → j ≠ 124 → j ≠ 125 → j ≠ 126 → j ≠ 127 → j ≠ 128 → j ≠ 129 → j ≠ 130 → j ≠ 131 → j ≠ 132 → j ≠ 133 → j ≠ 134 → j ≠ 135 → mem206 j = mem j := fun j c0 c1 c2 c3 c4 c5 c6 c7 c8 c9 c10 c11 c12 c13 c14 c15 c16 c17 c18 c19 c20 => (k208 j (by omega)).trans (hfr194 j c0 c1 c2 c3 c4 c5 c6 c7 c8 c9 c10 c11 c12 c13 c14 c15 c16 c17 c18 c19 c20)
  have f210 : mem206 116 = aN Γ 192 (fun _ => 0) := (k208 _ (by decide)).trans f196
  have f211 : mem206 117 = aF Γ 192 (fun _ => FP.fconst0) := (k208 _ (by decide)).trans f197
  have f212 : mem206 118 = aN Γ 16 (fun _ => 0) := (k208 _ (by decide)).trans f198
  have f213 : mem206 119 = aF Γ 256 (fun _ => FP.fconst0) := (k208 _ (by decide)).trans f199
  have f214 : mem206 120 = aF Γ 16 (fun _ => FP.fconst0) := (k208 _ (by decide)).trans f200
  have f215 : mem206 121 = aN Γ 4 (fun _ => 0) := (k208 _ (by decide)).trans f201
  have f216 : mem206 122 = aN Γ 4 (fun _ => 0) := (k208 _ (by decide)).trans f202
  have f217 : mem206 123 = aN Γ 4 (fun _ => 0) := (k208 _ (by decide)).trans f203
  have f218 : mem206 124 = aF Γ 12 (fun _ => FP.fconst0) := (k208 _ (by decide)).trans f204
  have f219 : mem206 125 = aB Γ 3 (fun _ => false) := (k208 _ (by decide)).trans f205
  have f220 : mem206 126 = aN Γ 3 (fun _ => 0) := (k208 _ (by decide)).trans f192
  refine lv_aload_n hx hb dX10_init_90 rfl (lv_at hl 0 rfl) ?_
  refine lv_bipush (v := (nI 60)) hx hb dX10_init_91 (by decide) ?_
  refine mn_newa 0 (atype := .int) (ty := .int) (n := 60) (a0 := (60, .inl (fun _ => nI 0))) hx hb hE (wa_I hE.2.1 args) rfl rfl (fun _ => rfl) (by decide) (by decide) (by omega) hh (by show _ ≤ 20; omega) (by show _ ≤ 949; omega) dX10_init_93 (fun H mem221 f222 k223 hh => ?_)
  have hfr224 : ∀ j, j ≠ 115 → j ≠ 116 → j ≠ 117 → j ≠ 118 → j ≠ 119 → j ≠ 120 → j ≠ 121 → j ≠ 122 → j ≠ 123 → j ≠ 124 → j ≠ 125 → j ≠ 126 → j ≠ 127 → j ≠ 128 → j ≠ 129 → j ≠ 130 → j ≠ 131 → j ≠ 132 → j ≠ 133 → j ≠ 134 → j ≠ 135 → mem221 j = mem j := fun j c0 c1 c2 c3 c4 c5 c6 c7 c8 c9 c10 c11 c12 c13 c14 c15 c16 c17 c18 c19 c20 => (k223 j (by omega)).trans (hfr209 j c0 c1 c2 c3 c4 c5 c6 c7 c8 c9 c10 c11 c12 c13 c14 c15 c16 c17 c18 c19 c20)
  have f225 : mem221 115 = .inr (9, [.int (nI 0), .int (nI 0), .ref (b + 116), .ref (b + 117), .ref (b + 118), .ref (b + 119), .int (nI 0), .ref (b + 120), .int (nI 0), .int (nI 0), .int (nI 0), .ref (b + 121), .ref (b + 122), .ref (b + 123), .ref (b + 124), .ref (b + 125), .ref (b + 126), .null, .null, .null, .int (nI 0), .null, .null, .int (nI 0), .null, .null, .int (nI 0), .int (nI 0), .int (nI 0), .int (nI 0), .null, .null]) := (k223 _ (by decide)).trans f207
  have f226 : mem221 116 = aN Γ 192 (fun _ => 0) := (k223 _ (by decide)).trans f210
  have f227 : mem221 117 = aF Γ 192 (fun _ => FP.fconst0) := (k223 _ (by decide)).trans f211
  have f228 : mem221 118 = aN Γ 16 (fun _ => 0) := (k223 _ (by decide)).trans f212
  have f229 : mem221 119 = aF Γ 256 (fun _ => FP.fconst0) := (k223 _ (by decide)).trans f213
  have f230 : mem221 120 = aF Γ 16 (fun _ => FP.fconst0) := (k223 _ (by decide)).trans f214
  have f231 : mem221 121 = aN Γ 4 (fun _ => 0) := (k223 _ (by decide)).trans f215
  have f232 : mem221 122 = aN Γ 4 (fun _ => 0) := (k223 _ (by decide)).trans f216
  have f233 : mem221 123 = aN Γ 4 (fun _ => 0) := (k223 _ (by decide)).trans f217
  have f234 : mem221 124 = aF Γ 12 (fun _ => FP.fconst0) := (k223 _ (by decide)).trans f218
  have f235 : mem221 125 = aB Γ 3 (fun _ => false) := (k223 _ (by decide)).trans f219
  have f236 : mem221 126 = aN Γ 3 (fun _ => 0) := (k223 _ (by decide)).trans f220
  have hh : GH Γ b (128) mem221 s _ _ := hh
  refine gq_X10_list (fs' := [.int (nI 0), .int (nI 0), .ref (b + 116), .ref (b + 117), .ref (b + 118), .ref (b + 119), .int (nI 0), .ref (b + 120), .int (nI 0), .int (nI 0), .int (nI 0), .ref (b + 121), .ref (b + 122), .ref (b + 123), .ref (b + 124), .ref (b + 125), .ref (b + 126), .ref (b + 127), .null, .null, .int (nI 0), .null, .null, .int (nI 0), .null, .null, .int (nI 0), .int (nI 0), .int (nI 0), .int (nI 0), .null, .null]) hx hb hE hown hname hh (by omega) f225 rfl rfl (show 17 < 32 by decide) rfl dX10_init_95 (fun H locs mem237 f238 k239 hh => ?_)
  have hfr240 : ∀ j, j ≠ 115 → j ≠ 116 → j ≠ 117 → j ≠ 118 → j ≠ 119 → j ≠ 120 → j ≠ 121 → j ≠ 122 → j ≠ 123 → j ≠ 124 → j ≠ 125 → j ≠ 126 → j ≠ 127 → j ≠ 128 → j ≠ 129 → j ≠ 130 → j ≠ 131 → j ≠ 132 → j ≠ 133 → j ≠ 134 → j ≠ 135 → mem237 j = mem j := fun j c0 c1 c2 c3 c4 c5 c6 c7 c8 c9 c10 c11 c12 c13 c14 c15 c16 c17 c18 c19 c20 => (k239 j (by omega)).trans (hfr224 j c0 c1 c2 c3 c4 c5 c6 c7 c8 c9 c10 c11 c12 c13 c14 c15 c16 c17 c18 c19 c20)
  have f241 : mem237 116 = aN Γ 192 (fun _ => 0) := (k239 _ (by decide)).trans f226
  have f242 : mem237 117 = aF Γ 192 (fun _ => FP.fconst0) := (k239 _ (by decide)).trans f227
  have f243 : mem237 118 = aN Γ 16 (fun _ => 0) := (k239 _ (by decide)).trans f228
  have f244 : mem237 119 = aF Γ 256 (fun _ => FP.fconst0) := (k239 _ (by decide)).trans f229
  have f245 : mem237 120 = aF Γ 16 (fun _ => FP.fconst0) := (k239 _ (by decide)).trans f230
  have f246 : mem237 121 = aN Γ 4 (fun _ => 0) := (k239 _ (by decide)).trans f231
  have f247 : mem237 122 = aN Γ 4 (fun _ => 0) := (k239 _ (by decide)).trans f232
  have f248 : mem237 123 = aN Γ 4 (fun _ => 0) := (k239 _ (by decide)).trans f233
  have f249 : mem237 124 = aF Γ 12 (fun _ => FP.fconst0) := (k239 _ (by decide)).trans f234
  have f250 : mem237 125 = aB Γ 3 (fun _ => false) := (k239 _ (by decide)).trans f235
  have f251 : mem237 126 = aN Γ 3 (fun _ => 0) := (k239 _ (by decide)).trans f236
  have f252 : mem237 127 = aN Γ 60 (fun _ => 0) := (k239 _ (by decide)).trans f222
  refine lv_aload_n hx hb dX10_init_98 rfl (lv_at hl 0 rfl) ?_
  refine lv_bipush (v := (nI 60)) hx hb dX10_init_99 (by decide) ?_
  refine mn_newa 2 (atype := .double) (ty := .double) (n := 60) (a0 := (60, .inr (.inr (.inr (.inl (fun _ => FP.dconst0)))))) hx hb hE (wa_D hE.2.1 args) rfl rfl (fun _ => rfl) (by decide) (by decide) (by omega) hh (by show _ ≤ 20; omega) (by show _ ≤ 949; omega) dX10_init_101 (fun H mem253 f254 k255 hh => ?_)
  have hfr256 : ∀ j, j ≠ 115 → j ≠ 116 → j ≠ 117 → j ≠ 118 → j ≠ 119 → j ≠ 120 → j ≠ 121 → j ≠ 122 → j ≠ 123 → j ≠ 124 → j ≠ 125 → j ≠ 126 → j ≠ 127 → j ≠ 128 → j ≠ 129 → j ≠ 130 → j ≠ 131 → j ≠ 132 → j ≠ 133 → j ≠ 134 → j ≠ 135 → mem253 j = mem j := fun j c0 c1 c2 c3 c4 c5 c6 c7 c8 c9 c10 c11 c12 c13 c14 c15 c16 c17 c18 c19 c20 => (k255 j (by omega)).trans (hfr240 j c0 c1 c2 c3 c4 c5 c6 c7 c8 c9 c10 c11 c12 c13 c14 c15 c16 c17 c18 c19 c20)
  have f257 : mem253 115 = .inr (9, [.int (nI 0), .int (nI 0), .ref (b + 116), .ref (b + 117), .ref (b + 118), .ref (b + 119), .int (nI 0), .ref (b + 120), .int (nI 0), .int (nI 0), .int (nI 0), .ref (b + 121), .ref (b + 122), .ref (b + 123), .ref (b + 124), .ref (b + 125), .ref (b + 126), .ref (b + 127), .null, .null, .int (nI 0), .null, .null, .int (nI 0), .null, .null, .int (nI 0), .int (nI 0), .int (nI 0), .int (nI 0), .null, .null]) := (k255 _ (by decide)).trans f238
  have f258 : mem253 116 = aN Γ 192 (fun _ => 0) := (k255 _ (by decide)).trans f241
  have f259 : mem253 117 = aF Γ 192 (fun _ => FP.fconst0) := (k255 _ (by decide)).trans f242
  have f260 : mem253 118 = aN Γ 16 (fun _ => 0) := (k255 _ (by decide)).trans f243
  have f261 : mem253 119 = aF Γ 256 (fun _ => FP.fconst0) := (k255 _ (by decide)).trans f244
  have f262 : mem253 120 = aF Γ 16 (fun _ => FP.fconst0) := (k255 _ (by decide)).trans f245
  have f263 : mem253 121 = aN Γ 4 (fun _ => 0) := (k255 _ (by decide)).trans f246
  have f264 : mem253 122 = aN Γ 4 (fun _ => 0) := (k255 _ (by decide)).trans f247
  have f265 : mem253 123 = aN Γ 4 (fun _ => 0) := (k255 _ (by decide)).trans f248
  have f266 : mem253 124 = aF Γ 12 (fun _ => FP.fconst0) := (k255 _ (by decide)).trans f249
  have f267 : mem253 125 = aB Γ 3 (fun _ => false) := (k255 _ (by decide)).trans f250
  have f268 : mem253 126 = aN Γ 3 (fun _ => 0) := (k255 _ (by decide)).trans f251
  have f269 : mem253 127 = aN Γ 60 (fun _ => 0) := (k255 _ (by decide)).trans f252
  have hh : GH Γ b (129) mem253 s _ _ := hh
  refine gq_X10_scores (fs' := [.int (nI 0), .int (nI 0), .ref (b + 116), .ref (b + 117), .ref (b + 118), .ref (b + 119), .int (nI 0), .ref (b + 120), .int (nI 0), .int (nI 0), .int (nI 0), .ref (b + 121), .ref (b + 122), .ref (b + 123), .ref (b + 124), .ref (b + 125), .ref (b + 126), .ref (b + 127), .ref (b + 128), .null, .int (nI 0), .null, .null, .int (nI 0), .null, .null, .int (nI 0), .int (nI 0), .int (nI 0), .int (nI 0), .null, .null]) hx hb hE hown hname hh (by omega) f257 rfl rfl (show 18 < 32 by decide) rfl dX10_init_103 (fun H locs mem270 f271 k272 hh => ?_)
  have hfr273 : ∀ j, j ≠ 115 → j ≠ 116 → j ≠ 117 → j ≠ 118 → j ≠ 119 → j ≠ 120 → j ≠ 121 → j ≠ 122 → j ≠ 123 → j ≠ 124 → j ≠ 125 → j ≠ 126 → j ≠ 127 → j ≠ 128 → j ≠ 129 → j ≠ 130 → j ≠ 131 → j ≠ 132 → j ≠ 133 → j ≠ 134 → j ≠ 135 → mem270 j = mem j := fun j c0 c1 c2 c3 c4 c5 c6 c7 c8 c9 c10 c11 c12 c13 c14 c15 c16 c17 c18 c19 c20 => (k272 j (by omega)).trans (hfr256 j c0 c1 c2 c3 c4 c5 c6 c7 c8 c9 c10 c11 c12 c13 c14 c15 c16 c17 c18 c19 c20)
  have f274 : mem270 116 = aN Γ 192 (fun _ => 0) := (k272 _ (by decide)).trans f258
  have f275 : mem270 117 = aF Γ 192 (fun _ => FP.fconst0) := (k272 _ (by decide)).trans f259
  have f276 : mem270 118 = aN Γ 16 (fun _ => 0) := (k272 _ (by decide)).trans f260
  have f277 : mem270 119 = aF Γ 256 (fun _ => FP.fconst0) := (k272 _ (by decide)).trans f261
  have f278 : mem270 120 = aF Γ 16 (fun _ => FP.fconst0) := (k272 _ (by decide)).trans f262
  have f279 : mem270 121 = aN Γ 4 (fun _ => 0) := (k272 _ (by decide)).trans f263
  have f280 : mem270 122 = aN Γ 4 (fun _ => 0) := (k272 _ (by decide)).trans f264
  have f281 : mem270 123 = aN Γ 4 (fun _ => 0) := (k272 _ (by decide)).trans f265
  have f282 : mem270 124 = aF Γ 12 (fun _ => FP.fconst0) := (k272 _ (by decide)).trans f266
  have f283 : mem270 125 = aB Γ 3 (fun _ => false) := (k272 _ (by decide)).trans f267
  have f284 : mem270 126 = aN Γ 3 (fun _ => 0) := (k272 _ (by decide)).trans f268
  have f285 : mem270 127 = aN Γ 60 (fun _ => 0) := (k272 _ (by decide)).trans f269
  have f286 : mem270 128 = aD Γ 60 (fun _ => FP.dconst0) := (k272 _ (by decide)).trans f254
  refine lv_aload_n hx hb dX10_init_106 rfl (lv_at hl 0 rfl) ?_
  refine lv_bipush (v := (nI 9)) hx hb dX10_init_107 (by decide) ?_
  refine mn_newa 0 (atype := .int) (ty := .int) (n := 9) (a0 := (9, .inl (fun _ => nI 0))) hx hb hE (wa_I hE.2.1 args) rfl rfl (fun _ => rfl) (by decide) (by decide) (by omega) hh (by show _ ≤ 20; omega) (by show _ ≤ 949; omega) dX10_init_109 (fun H mem287 f288 k289 hh => ?_)
  have hfr290 : ∀ j, j ≠ 115 → j ≠ 116 → j ≠ 117 → j ≠ 118 → j ≠ 119 → j ≠ 120 → j ≠ 121 → j ≠ 122 → j ≠ 123 → j ≠ 124 → j ≠ 125 → j ≠ 126 → j ≠ 127 → j ≠ 128 → j ≠ 129 → j ≠ 130 → j ≠ 131 → j ≠ 132 → j ≠ 133 → j ≠ 134 → j ≠ 135 → mem287 j = mem j := fun j c0 c1 c2 c3 c4 c5 c6 c7 c8 c9 c10 c11 c12 c13 c14 c15 c16 c17 c18 c19 c20 => (k289 j (by omega)).trans (hfr273 j c0 c1 c2 c3 c4 c5 c6 c7 c8 c9 c10 c11 c12 c13 c14 c15 c16 c17 c18 c19 c20)
  have f291 : mem287 115 = .inr (9, [.int (nI 0), .int (nI 0), .ref (b + 116), .ref (b + 117), .ref (b + 118), .ref (b + 119), .int (nI 0), .ref (b + 120), .int (nI 0), .int (nI 0), .int (nI 0), .ref (b + 121), .ref (b + 122), .ref (b + 123), .ref (b + 124), .ref (b + 125), .ref (b + 126), .ref (b + 127), .ref (b + 128), .null, .int (nI 0), .null, .null, .int (nI 0), .null, .null, .int (nI 0), .int (nI 0), .int (nI 0), .int (nI 0), .null, .null]) := (k289 _ (by decide)).trans f271
  have f292 : mem287 116 = aN Γ 192 (fun _ => 0) := (k289 _ (by decide)).trans f274
  have f293 : mem287 117 = aF Γ 192 (fun _ => FP.fconst0) := (k289 _ (by decide)).trans f275
  have f294 : mem287 118 = aN Γ 16 (fun _ => 0) := (k289 _ (by decide)).trans f276
  have f295 : mem287 119 = aF Γ 256 (fun _ => FP.fconst0) := (k289 _ (by decide)).trans f277
  have f296 : mem287 120 = aF Γ 16 (fun _ => FP.fconst0) := (k289 _ (by decide)).trans f278
  have f297 : mem287 121 = aN Γ 4 (fun _ => 0) := (k289 _ (by decide)).trans f279
  have f298 : mem287 122 = aN Γ 4 (fun _ => 0) := (k289 _ (by decide)).trans f280
  have f299 : mem287 123 = aN Γ 4 (fun _ => 0) := (k289 _ (by decide)).trans f281
  have f300 : mem287 124 = aF Γ 12 (fun _ => FP.fconst0) := (k289 _ (by decide)).trans f282
  have f301 : mem287 125 = aB Γ 3 (fun _ => false) := (k289 _ (by decide)).trans f283
  have f302 : mem287 126 = aN Γ 3 (fun _ => 0) := (k289 _ (by decide)).trans f284
  have f303 : mem287 127 = aN Γ 60 (fun _ => 0) := (k289 _ (by decide)).trans f285
  have f304 : mem287 128 = aD Γ 60 (fun _ => FP.dconst0) := (k289 _ (by decide)).trans f286
  have hh : GH Γ b (130) mem287 s _ _ := hh
  refine gq_X10_work (fs' := [.int (nI 0), .int (nI 0), .ref (b + 116), .ref (b + 117), .ref (b + 118), .ref (b + 119), .int (nI 0), .ref (b + 120), .int (nI 0), .int (nI 0), .int (nI 0), .ref (b + 121), .ref (b + 122), .ref (b + 123), .ref (b + 124), .ref (b + 125), .ref (b + 126), .ref (b + 127), .ref (b + 128), .ref (b + 129), .int (nI 0), .null, .null, .int (nI 0), .null, .null, .int (nI 0), .int (nI 0), .int (nI 0), .int (nI 0), .null, .null]) hx hb hE hown hname hh (by omega) f291 rfl rfl (show 19 < 32 by decide) rfl dX10_init_111 (fun H locs mem305 f306 k307 hh => ?_)
  have hfr308 : ∀ j, j ≠ 115 → j ≠ 116 → j ≠ 117 → j ≠ 118 → j ≠ 119 → j ≠ 120 → j ≠ 121 → j ≠ 122 → j ≠ 123 → j ≠ 124 → j ≠ 125 → j ≠ 126 → j ≠ 127 → j ≠ 128 → j ≠ 129 → j ≠ 130 → j ≠ 131 → j ≠ 132 → j ≠ 133 → j ≠ 134 → j ≠ 135 → mem305 j = mem j := fun j c0 c1 c2 c3 c4 c5 c6 c7 c8 c9 c10 c11 c12 c13 c14 c15 c16 c17 c18 c19 c20 => (k307 j (by omega)).trans (hfr290 j c0 c1 c2 c3 c4 c5 c6 c7 c8 c9 c10 c11 c12 c13 c14 c15 c16 c17 c18 c19 c20)
  have f309 : mem305 116 = aN Γ 192 (fun _ => 0) := (k307 _ (by decide)).trans f292
  have f310 : mem305 117 = aF Γ 192 (fun _ => FP.fconst0) := (k307 _ (by decide)).trans f293
  have f311 : mem305 118 = aN Γ 16 (fun _ => 0) := (k307 _ (by decide)).trans f294
  have f312 : mem305 119 = aF Γ 256 (fun _ => FP.fconst0) := (k307 _ (by decide)).trans f295
  have f313 : mem305 120 = aF Γ 16 (fun _ => FP.fconst0) := (k307 _ (by decide)).trans f296
  have f314 : mem305 121 = aN Γ 4 (fun _ => 0) := (k307 _ (by decide)).trans f297
  have f315 : mem305 122 = aN Γ 4 (fun _ => 0) := (k307 _ (by decide)).trans f298
  have f316 : mem305 123 = aN Γ 4 (fun _ => 0) := (k307 _ (by decide)).trans f299
  have f317 : mem305 124 = aF Γ 12 (fun _ => FP.fconst0) := (k307 _ (by decide)).trans f300
  have f318 : mem305 125 = aB Γ 3 (fun _ => false) := (k307 _ (by decide)).trans f301
  have f319 : mem305 126 = aN Γ 3 (fun _ => 0) := (k307 _ (by decide)).trans f302
  have f320 : mem305 127 = aN Γ 60 (fun _ => 0) := (k307 _ (by decide)).trans f303
  have f321 : mem305 128 = aD Γ 60 (fun _ => FP.dconst0) := (k307 _ (by decide)).trans f304
  have f322 : mem305 129 = aN Γ 9 (fun _ => 0) := (k307 _ (by decide)).trans f288
  refine lv_aload_n hx hb dX10_init_114 rfl (lv_at hl 0 rfl) ?_
  refine lv_bipush (v := (nI 21)) hx hb dX10_init_115 (by decide) ?_
  refine mn_newa 0 (atype := .int) (ty := .int) (n := 21) (a0 := (21, .inl (fun _ => nI 0))) hx hb hE (wa_I hE.2.1 args) rfl rfl (fun _ => rfl) (by decide) (by decide) (by omega) hh (by show _ ≤ 20; omega) (by show _ ≤ 949; omega) dX10_init_117 (fun H mem323 f324 k325 hh => ?_)
  have hfr326 : ∀ j, j ≠ 115 → j ≠ 116 → j ≠ 117 → j ≠ 118 → j ≠ 119 → j ≠ 120 → j ≠ 121 → j ≠ 122 → j ≠ 123 → j ≠ 124 → j ≠ 125 → j ≠ 126 → j ≠ 127 → j ≠ 128 → j ≠ 129 → j ≠ 130 → j ≠ 131 → j ≠ 132 → j ≠ 133 → j ≠ 134 → j ≠ 135 → mem323 j = mem j := fun j c0 c1 c2 c3 c4 c5 c6 c7 c8 c9 c10 c11 c12 c13 c14 c15 c16 c17 c18 c19 c20 => (k325 j (by omega)).trans (hfr308 j c0 c1 c2 c3 c4 c5 c6 c7 c8 c9 c10 c11 c12 c13 c14 c15 c16 c17 c18 c19 c20)
  have f327 : mem323 115 = .inr (9, [.int (nI 0), .int (nI 0), .ref (b + 116), .ref (b + 117), .ref (b + 118), .ref (b + 119), .int (nI 0), .ref (b + 120), .int (nI 0), .int (nI 0), .int (nI 0), .ref (b + 121), .ref (b + 122), .ref (b + 123), .ref (b + 124), .ref (b + 125), .ref (b + 126), .ref (b + 127), .ref (b + 128), .ref (b + 129), .int (nI 0), .null, .null, .int (nI 0), .null, .null, .int (nI 0), .int (nI 0), .int (nI 0), .int (nI 0), .null, .null]) := (k325 _ (by decide)).trans f306
  have f328 : mem323 116 = aN Γ 192 (fun _ => 0) := (k325 _ (by decide)).trans f309
  have f329 : mem323 117 = aF Γ 192 (fun _ => FP.fconst0) := (k325 _ (by decide)).trans f310
  have f330 : mem323 118 = aN Γ 16 (fun _ => 0) := (k325 _ (by decide)).trans f311
  have f331 : mem323 119 = aF Γ 256 (fun _ => FP.fconst0) := (k325 _ (by decide)).trans f312
  have f332 : mem323 120 = aF Γ 16 (fun _ => FP.fconst0) := (k325 _ (by decide)).trans f313
  have f333 : mem323 121 = aN Γ 4 (fun _ => 0) := (k325 _ (by decide)).trans f314
  have f334 : mem323 122 = aN Γ 4 (fun _ => 0) := (k325 _ (by decide)).trans f315
  have f335 : mem323 123 = aN Γ 4 (fun _ => 0) := (k325 _ (by decide)).trans f316
  have f336 : mem323 124 = aF Γ 12 (fun _ => FP.fconst0) := (k325 _ (by decide)).trans f317
  have f337 : mem323 125 = aB Γ 3 (fun _ => false) := (k325 _ (by decide)).trans f318
  have f338 : mem323 126 = aN Γ 3 (fun _ => 0) := (k325 _ (by decide)).trans f319
  have f339 : mem323 127 = aN Γ 60 (fun _ => 0) := (k325 _ (by decide)).trans f320
  have f340 : mem323 128 = aD Γ 60 (fun _ => FP.dconst0) := (k325 _ (by decide)).trans f321
  have f341 : mem323 129 = aN Γ 9 (fun _ => 0) := (k325 _ (by decide)).trans f322
  have hh : GH Γ b (131) mem323 s _ _ := hh
  refine gq_X10_row (fs' := [.int (nI 0), .int (nI 0), .ref (b + 116), .ref (b + 117), .ref (b + 118), .ref (b + 119), .int (nI 0), .ref (b + 120), .int (nI 0), .int (nI 0), .int (nI 0), .ref (b + 121), .ref (b + 122), .ref (b + 123), .ref (b + 124), .ref (b + 125), .ref (b + 126), .ref (b + 127), .ref (b + 128), .ref (b + 129), .int (nI 0), .ref (b + 130), .null, .int (nI 0), .null, .null, .int (nI 0), .int (nI 0), .int (nI 0), .int (nI 0), .null, .null]) hx hb hE hown hname hh (by omega) f327 rfl rfl (show 21 < 32 by decide) rfl dX10_init_119 (fun H locs mem342 f343 k344 hh => ?_)
  have hfr345 : ∀ j, j ≠ 115 → j ≠ 116 → j ≠ 117 → j ≠ 118 → j ≠ 119 → j ≠ 120 → j ≠ 121 → j ≠ 122 → j ≠ 123 → j ≠ 124 → j ≠ 125 → j ≠ 126 → j ≠ 127 → j ≠ 128 → j ≠ 129 → j ≠ 130 → j ≠ 131 → j ≠ 132 → j ≠ 133 → j ≠ 134 → j ≠ 135 → mem342 j = mem j := fun j c0 c1 c2 c3 c4 c5 c6 c7 c8 c9 c10 c11 c12 c13 c14 c15 c16 c17 c18 c19 c20 => (k344 j (by omega)).trans (hfr326 j c0 c1 c2 c3 c4 c5 c6 c7 c8 c9 c10 c11 c12 c13 c14 c15 c16 c17 c18 c19 c20)
  have f346 : mem342 116 = aN Γ 192 (fun _ => 0) := (k344 _ (by decide)).trans f328
  have f347 : mem342 117 = aF Γ 192 (fun _ => FP.fconst0) := (k344 _ (by decide)).trans f329
  have f348 : mem342 118 = aN Γ 16 (fun _ => 0) := (k344 _ (by decide)).trans f330
  have f349 : mem342 119 = aF Γ 256 (fun _ => FP.fconst0) := (k344 _ (by decide)).trans f331
  have f350 : mem342 120 = aF Γ 16 (fun _ => FP.fconst0) := (k344 _ (by decide)).trans f332
  have f351 : mem342 121 = aN Γ 4 (fun _ => 0) := (k344 _ (by decide)).trans f333
  have f352 : mem342 122 = aN Γ 4 (fun _ => 0) := (k344 _ (by decide)).trans f334
  have f353 : mem342 123 = aN Γ 4 (fun _ => 0) := (k344 _ (by decide)).trans f335
  have f354 : mem342 124 = aF Γ 12 (fun _ => FP.fconst0) := (k344 _ (by decide)).trans f336
  have f355 : mem342 125 = aB Γ 3 (fun _ => false) := (k344 _ (by decide)).trans f337
  have f356 : mem342 126 = aN Γ 3 (fun _ => 0) := (k344 _ (by decide)).trans f338
  have f357 : mem342 127 = aN Γ 60 (fun _ => 0) := (k344 _ (by decide)).trans f339
  have f358 : mem342 128 = aD Γ 60 (fun _ => FP.dconst0) := (k344 _ (by decide)).trans f340
  have f359 : mem342 129 = aN Γ 9 (fun _ => 0) := (k344 _ (by decide)).trans f341
  have f360 : mem342 130 = aN Γ 21 (fun _ => 0) := (k344 _ (by decide)).trans f324
  refine lv_aload_n hx hb dX10_init_122 rfl (lv_at hl 0 rfl) ?_
  refine lv_bipush (v := (nI 21)) hx hb dX10_init_123 (by decide) ?_
  refine mn_newa 2 (atype := .double) (ty := .double) (n := 21) (a0 := (21, .inr (.inr (.inr (.inl (fun _ => FP.dconst0)))))) hx hb hE (wa_D hE.2.1 args) rfl rfl (fun _ => rfl) (by decide) (by decide) (by omega) hh (by show _ ≤ 20; omega) (by show _ ≤ 949; omega) dX10_init_125 (fun H mem361 f362 k363 hh => ?_)
  have hfr364 : ∀ j, j ≠ 115 → j ≠ 116 → j ≠ 117 → j ≠ 118 → j ≠ 119 → j ≠ 120 → j ≠ 121 → j ≠ 122 → j ≠ 123 → j ≠ 124 → j ≠ 125 → j ≠ 126 → j ≠ 127 → j ≠ 128 → j ≠ 129 → j ≠ 130 → j ≠ 131 → j ≠ 132 → j ≠ 133 → j ≠ 134 → j ≠ 135 → mem361 j = mem j := fun j c0 c1 c2 c3 c4 c5 c6 c7 c8 c9 c10 c11 c12 c13 c14 c15 c16 c17 c18 c19 c20 => (k363 j (by omega)).trans (hfr345 j c0 c1 c2 c3 c4 c5 c6 c7 c8 c9 c10 c11 c12 c13 c14 c15 c16 c17 c18 c19 c20)
  have f365 : mem361 115 = .inr (9, [.int (nI 0), .int (nI 0), .ref (b + 116), .ref (b + 117), .ref (b + 118), .ref (b + 119), .int (nI 0), .ref (b + 120), .int (nI 0), .int (nI 0), .int (nI 0), .ref (b + 121), .ref (b + 122), .ref (b + 123), .ref (b + 124), .ref (b + 125), .ref (b + 126), .ref (b + 127), .ref (b + 128), .ref (b + 129), .int (nI 0), .ref (b + 130), .null, .int (nI 0), .null, .null, .int (nI 0), .int (nI 0), .int (nI 0), .int (nI 0), .null, .null]) := (k363 _ (by decide)).trans f343
  have f366 : mem361 116 = aN Γ 192 (fun _ => 0) := (k363 _ (by decide)).trans f346
  have f367 : mem361 117 = aF Γ 192 (fun _ => FP.fconst0) := (k363 _ (by decide)).trans f347
  have f368 : mem361 118 = aN Γ 16 (fun _ => 0) := (k363 _ (by decide)).trans f348
  have f369 : mem361 119 = aF Γ 256 (fun _ => FP.fconst0) := (k363 _ (by decide)).trans f349
  have f370 : mem361 120 = aF Γ 16 (fun _ => FP.fconst0) := (k363 _ (by decide)).trans f350
  have f371 : mem361 121 = aN Γ 4 (fun _ => 0) := (k363 _ (by decide)).trans f351
  have f372 : mem361 122 = aN Γ 4 (fun _ => 0) := (k363 _ (by decide)).trans f352
  have f373 : mem361 123 = aN Γ 4 (fun _ => 0) := (k363 _ (by decide)).trans f353
  have f374 : mem361 124 = aF Γ 12 (fun _ => FP.fconst0) := (k363 _ (by decide)).trans f354
  have f375 : mem361 125 = aB Γ 3 (fun _ => false) := (k363 _ (by decide)).trans f355
  have f376 : mem361 126 = aN Γ 3 (fun _ => 0) := (k363 _ (by decide)).trans f356
  have f377 : mem361 127 = aN Γ 60 (fun _ => 0) := (k363 _ (by decide)).trans f357
  have f378 : mem361 128 = aD Γ 60 (fun _ => FP.dconst0) := (k363 _ (by decide)).trans f358
  have f379 : mem361 129 = aN Γ 9 (fun _ => 0) := (k363 _ (by decide)).trans f359
  have f380 : mem361 130 = aN Γ 21 (fun _ => 0) := (k363 _ (by decide)).trans f360
  have hh : GH Γ b (132) mem361 s _ _ := hh
  refine gq_X10_rowScore (fs' := [.int (nI 0), .int (nI 0), .ref (b + 116), .ref (b + 117), .ref (b + 118), .ref (b + 119), .int (nI 0), .ref (b + 120), .int (nI 0), .int (nI 0), .int (nI 0), .ref (b + 121), .ref (b + 122), .ref (b + 123), .ref (b + 124), .ref (b + 125), .ref (b + 126), .ref (b + 127), .ref (b + 128), .ref (b + 129), .int (nI 0), .ref (b + 130), .ref (b + 131), .int (nI 0), .null, .null, .int (nI 0), .int (nI 0), .int (nI 0), .int (nI 0), .null, .null]) hx hb hE hown hname hh (by omega) f365 rfl rfl (show 22 < 32 by decide) rfl dX10_init_127 (fun H locs mem381 f382 k383 hh => ?_)
  have hfr384 : ∀ j, j ≠ 115 → j ≠ 116 → j ≠ 117 → j ≠ 118 → j ≠ 119 → j ≠ 120 → j ≠ 121 → j ≠ 122 → j ≠ 123 → j ≠ 124 → j ≠ 125 → j ≠ 126 → j ≠ 127 → j ≠ 128 → j ≠ 129 → j ≠ 130 → j ≠ 131 → j ≠ 132 → j ≠ 133 → j ≠ 134 → j ≠ 135 → mem381 j = mem j := fun j c0 c1 c2 c3 c4 c5 c6 c7 c8 c9 c10 c11 c12 c13 c14 c15 c16 c17 c18 c19 c20 => (k383 j (by omega)).trans (hfr364 j c0 c1 c2 c3 c4 c5 c6 c7 c8 c9 c10 c11 c12 c13 c14 c15 c16 c17 c18 c19 c20)
  have f385 : mem381 116 = aN Γ 192 (fun _ => 0) := (k383 _ (by decide)).trans f366
  have f386 : mem381 117 = aF Γ 192 (fun _ => FP.fconst0) := (k383 _ (by decide)).trans f367
  have f387 : mem381 118 = aN Γ 16 (fun _ => 0) := (k383 _ (by decide)).trans f368
  have f388 : mem381 119 = aF Γ 256 (fun _ => FP.fconst0) := (k383 _ (by decide)).trans f369
  have f389 : mem381 120 = aF Γ 16 (fun _ => FP.fconst0) := (k383 _ (by decide)).trans f370
  have f390 : mem381 121 = aN Γ 4 (fun _ => 0) := (k383 _ (by decide)).trans f371
  have f391 : mem381 122 = aN Γ 4 (fun _ => 0) := (k383 _ (by decide)).trans f372
  have f392 : mem381 123 = aN Γ 4 (fun _ => 0) := (k383 _ (by decide)).trans f373
  have f393 : mem381 124 = aF Γ 12 (fun _ => FP.fconst0) := (k383 _ (by decide)).trans f374
  have f394 : mem381 125 = aB Γ 3 (fun _ => false) := (k383 _ (by decide)).trans f375
  have f395 : mem381 126 = aN Γ 3 (fun _ => 0) := (k383 _ (by decide)).trans f376
  have f396 : mem381 127 = aN Γ 60 (fun _ => 0) := (k383 _ (by decide)).trans f377
  have f397 : mem381 128 = aD Γ 60 (fun _ => FP.dconst0) := (k383 _ (by decide)).trans f378
  have f398 : mem381 129 = aN Γ 9 (fun _ => 0) := (k383 _ (by decide)).trans f379
  have f399 : mem381 130 = aN Γ 21 (fun _ => 0) := (k383 _ (by decide)).trans f380
  have f400 : mem381 131 = aD Γ 21 (fun _ => FP.dconst0) := (k383 _ (by decide)).trans f362
  refine lv_aload_n hx hb dX10_init_130 rfl (lv_at hl 0 rfl) ?_
  refine lv_bipush (v := (nI 21)) hx hb dX10_init_131 (by decide) ?_
  refine mn_newa 0 (atype := .int) (ty := .int) (n := 21) (a0 := (21, .inl (fun _ => nI 0))) hx hb hE (wa_I hE.2.1 args) rfl rfl (fun _ => rfl) (by decide) (by decide) (by omega) hh (by show _ ≤ 20; omega) (by show _ ≤ 949; omega) dX10_init_133 (fun H mem401 f402 k403 hh => ?_)
  have hfr404 : ∀ j, j ≠ 115 → j ≠ 116 → j ≠ 117 → j ≠ 118 → j ≠ 119 → j ≠ 120 → j ≠ 121 → j ≠ 122 → j ≠ 123 → j ≠ 124 → j ≠ 125 → j ≠ 126 → j ≠ 127 → j ≠ 128 → j ≠ 129 → j ≠ 130 → j ≠ 131 → j ≠ 132 → j ≠ 133 → j ≠ 134 → j ≠ 135 → mem401 j = mem j := fun j c0 c1 c2 c3 c4 c5 c6 c7 c8 c9 c10 c11 c12 c13 c14 c15 c16 c17 c18 c19 c20 => (k403 j (by omega)).trans (hfr384 j c0 c1 c2 c3 c4 c5 c6 c7 c8 c9 c10 c11 c12 c13 c14 c15 c16 c17 c18 c19 c20)
  have f405 : mem401 115 = .inr (9, [.int (nI 0), .int (nI 0), .ref (b + 116), .ref (b + 117), .ref (b + 118), .ref (b + 119), .int (nI 0), .ref (b + 120), .int (nI 0), .int (nI 0), .int (nI 0), .ref (b + 121), .ref (b + 122), .ref (b + 123), .ref (b + 124), .ref (b + 125), .ref (b + 126), .ref (b + 127), .ref (b + 128), .ref (b + 129), .int (nI 0), .ref (b + 130), .ref (b + 131), .int (nI 0), .null, .null, .int (nI 0), .int (nI 0), .int (nI 0), .int (nI 0), .null, .null]) := (k403 _ (by decide)).trans f382
  have f406 : mem401 116 = aN Γ 192 (fun _ => 0) := (k403 _ (by decide)).trans f385
  have f407 : mem401 117 = aF Γ 192 (fun _ => FP.fconst0) := (k403 _ (by decide)).trans f386
  have f408 : mem401 118 = aN Γ 16 (fun _ => 0) := (k403 _ (by decide)).trans f387
  have f409 : mem401 119 = aF Γ 256 (fun _ => FP.fconst0) := (k403 _ (by decide)).trans f388
  have f410 : mem401 120 = aF Γ 16 (fun _ => FP.fconst0) := (k403 _ (by decide)).trans f389
  have f411 : mem401 121 = aN Γ 4 (fun _ => 0) := (k403 _ (by decide)).trans f390
  have f412 : mem401 122 = aN Γ 4 (fun _ => 0) := (k403 _ (by decide)).trans f391
  have f413 : mem401 123 = aN Γ 4 (fun _ => 0) := (k403 _ (by decide)).trans f392
  have f414 : mem401 124 = aF Γ 12 (fun _ => FP.fconst0) := (k403 _ (by decide)).trans f393
  have f415 : mem401 125 = aB Γ 3 (fun _ => false) := (k403 _ (by decide)).trans f394
  have f416 : mem401 126 = aN Γ 3 (fun _ => 0) := (k403 _ (by decide)).trans f395
  have f417 : mem401 127 = aN Γ 60 (fun _ => 0) := (k403 _ (by decide)).trans f396
  have f418 : mem401 128 = aD Γ 60 (fun _ => FP.dconst0) := (k403 _ (by decide)).trans f397
  have f419 : mem401 129 = aN Γ 9 (fun _ => 0) := (k403 _ (by decide)).trans f398
  have f420 : mem401 130 = aN Γ 21 (fun _ => 0) := (k403 _ (by decide)).trans f399
  have f421 : mem401 131 = aD Γ 21 (fun _ => FP.dconst0) := (k403 _ (by decide)).trans f400
  have hh : GH Γ b (133) mem401 s _ _ := hh
  refine gq_X10_all (fs' := [.int (nI 0), .int (nI 0), .ref (b + 116), .ref (b + 117), .ref (b + 118), .ref (b + 119), .int (nI 0), .ref (b + 120), .int (nI 0), .int (nI 0), .int (nI 0), .ref (b + 121), .ref (b + 122), .ref (b + 123), .ref (b + 124), .ref (b + 125), .ref (b + 126), .ref (b + 127), .ref (b + 128), .ref (b + 129), .int (nI 0), .ref (b + 130), .ref (b + 131), .int (nI 0), .ref (b + 132), .null, .int (nI 0), .int (nI 0), .int (nI 0), .int (nI 0), .null, .null]) hx hb hE hown hname hh (by omega) f405 rfl rfl (show 24 < 32 by decide) rfl dX10_init_135 (fun H locs mem422 f423 k424 hh => ?_)
  have hfr425 : ∀ j, j ≠ 115 → j ≠ 116 → j ≠ 117 → j ≠ 118 → j ≠ 119 → j ≠ 120 → j ≠ 121 → j ≠ 122 → j ≠ 123 → j ≠ 124 → j ≠ 125 → j ≠ 126 → j ≠ 127 → j ≠ 128 → j ≠ 129 → j ≠ 130 → j ≠ 131 → j ≠ 132 → j ≠ 133 → j ≠ 134 → j ≠ 135 → mem422 j = mem j := fun j c0 c1 c2 c3 c4 c5 c6 c7 c8 c9 c10 c11 c12 c13 c14 c15 c16 c17 c18 c19 c20 => (k424 j (by omega)).trans (hfr404 j c0 c1 c2 c3 c4 c5 c6 c7 c8 c9 c10 c11 c12 c13 c14 c15 c16 c17 c18 c19 c20)
  have f426 : mem422 116 = aN Γ 192 (fun _ => 0) := (k424 _ (by decide)).trans f406
  have f427 : mem422 117 = aF Γ 192 (fun _ => FP.fconst0) := (k424 _ (by decide)).trans f407
  have f428 : mem422 118 = aN Γ 16 (fun _ => 0) := (k424 _ (by decide)).trans f408
  have f429 : mem422 119 = aF Γ 256 (fun _ => FP.fconst0) := (k424 _ (by decide)).trans f409
  have f430 : mem422 120 = aF Γ 16 (fun _ => FP.fconst0) := (k424 _ (by decide)).trans f410
  have f431 : mem422 121 = aN Γ 4 (fun _ => 0) := (k424 _ (by decide)).trans f411
  have f432 : mem422 122 = aN Γ 4 (fun _ => 0) := (k424 _ (by decide)).trans f412
  have f433 : mem422 123 = aN Γ 4 (fun _ => 0) := (k424 _ (by decide)).trans f413
  have f434 : mem422 124 = aF Γ 12 (fun _ => FP.fconst0) := (k424 _ (by decide)).trans f414
  have f435 : mem422 125 = aB Γ 3 (fun _ => false) := (k424 _ (by decide)).trans f415
  have f436 : mem422 126 = aN Γ 3 (fun _ => 0) := (k424 _ (by decide)).trans f416
  have f437 : mem422 127 = aN Γ 60 (fun _ => 0) := (k424 _ (by decide)).trans f417
  have f438 : mem422 128 = aD Γ 60 (fun _ => FP.dconst0) := (k424 _ (by decide)).trans f418
  have f439 : mem422 129 = aN Γ 9 (fun _ => 0) := (k424 _ (by decide)).trans f419
  have f440 : mem422 130 = aN Γ 21 (fun _ => 0) := (k424 _ (by decide)).trans f420
  have f441 : mem422 131 = aD Γ 21 (fun _ => FP.dconst0) := (k424 _ (by decide)).trans f421
  have f442 : mem422 132 = aN Γ 21 (fun _ => 0) := (k424 _ (by decide)).trans f402
  refine lv_aload_n hx hb dX10_init_138 rfl (lv_at hl 0 rfl) ?_
  refine lv_bipush (v := (nI 21)) hx hb dX10_init_139 (by decide) ?_
  refine mn_newa 2 (atype := .double) (ty := .double) (n := 21) (a0 := (21, .inr (.inr (.inr (.inl (fun _ => FP.dconst0)))))) hx hb hE (wa_D hE.2.1 args) rfl rfl (fun _ => rfl) (by decide) (by decide) (by omega) hh (by show _ ≤ 20; omega) (by show _ ≤ 949; omega) dX10_init_141 (fun H mem443 f444 k445 hh => ?_)
  have hfr446 : ∀ j, j ≠ 115 → j ≠ 116 → j ≠ 117 → j ≠ 118 → j ≠ 119 → j ≠ 120 → j ≠ 121 → j ≠ 122 → j ≠ 123 → j ≠ 124 → j ≠ 125 → j ≠ 126 → j ≠ 127 → j ≠ 128 → j ≠ 129 → j ≠ 130 → j ≠ 131 → j ≠ 132 → j ≠ 133 → j ≠ 134 → j ≠ 135 → mem443 j = mem j := fun j c0 c1 c2 c3 c4 c5 c6 c7 c8 c9 c10 c11 c12 c13 c14 c15 c16 c17 c18 c19 c20 => (k445 j (by omega)).trans (hfr425 j c0 c1 c2 c3 c4 c5 c6 c7 c8 c9 c10 c11 c12 c13 c14 c15 c16 c17 c18 c19 c20)
  have f447 : mem443 115 = .inr (9, [.int (nI 0), .int (nI 0), .ref (b + 116), .ref (b + 117), .ref (b + 118), .ref (b + 119), .int (nI 0), .ref (b + 120), .int (nI 0), .int (nI 0), .int (nI 0), .ref (b + 121), .ref (b + 122), .ref (b + 123), .ref (b + 124), .ref (b + 125), .ref (b + 126), .ref (b + 127), .ref (b + 128), .ref (b + 129), .int (nI 0), .ref (b + 130), .ref (b + 131), .int (nI 0), .ref (b + 132), .null, .int (nI 0), .int (nI 0), .int (nI 0), .int (nI 0), .null, .null]) := (k445 _ (by decide)).trans f423
  have f448 : mem443 116 = aN Γ 192 (fun _ => 0) := (k445 _ (by decide)).trans f426
  have f449 : mem443 117 = aF Γ 192 (fun _ => FP.fconst0) := (k445 _ (by decide)).trans f427
  have f450 : mem443 118 = aN Γ 16 (fun _ => 0) := (k445 _ (by decide)).trans f428
  have f451 : mem443 119 = aF Γ 256 (fun _ => FP.fconst0) := (k445 _ (by decide)).trans f429
  have f452 : mem443 120 = aF Γ 16 (fun _ => FP.fconst0) := (k445 _ (by decide)).trans f430
  have f453 : mem443 121 = aN Γ 4 (fun _ => 0) := (k445 _ (by decide)).trans f431
  have f454 : mem443 122 = aN Γ 4 (fun _ => 0) := (k445 _ (by decide)).trans f432
  have f455 : mem443 123 = aN Γ 4 (fun _ => 0) := (k445 _ (by decide)).trans f433
  have f456 : mem443 124 = aF Γ 12 (fun _ => FP.fconst0) := (k445 _ (by decide)).trans f434
  have f457 : mem443 125 = aB Γ 3 (fun _ => false) := (k445 _ (by decide)).trans f435
  have f458 : mem443 126 = aN Γ 3 (fun _ => 0) := (k445 _ (by decide)).trans f436
  have f459 : mem443 127 = aN Γ 60 (fun _ => 0) := (k445 _ (by decide)).trans f437
  have f460 : mem443 128 = aD Γ 60 (fun _ => FP.dconst0) := (k445 _ (by decide)).trans f438
  have f461 : mem443 129 = aN Γ 9 (fun _ => 0) := (k445 _ (by decide)).trans f439
  have f462 : mem443 130 = aN Γ 21 (fun _ => 0) := (k445 _ (by decide)).trans f440
  have f463 : mem443 131 = aD Γ 21 (fun _ => FP.dconst0) := (k445 _ (by decide)).trans f441
  have f464 : mem443 132 = aN Γ 21 (fun _ => 0) := (k445 _ (by decide)).trans f442
  have hh : GH Γ b (134) mem443 s _ _ := hh
  refine gq_X10_allScore (fs' := [.int (nI 0), .int (nI 0), .ref (b + 116), .ref (b + 117), .ref (b + 118), .ref (b + 119), .int (nI 0), .ref (b + 120), .int (nI 0), .int (nI 0), .int (nI 0), .ref (b + 121), .ref (b + 122), .ref (b + 123), .ref (b + 124), .ref (b + 125), .ref (b + 126), .ref (b + 127), .ref (b + 128), .ref (b + 129), .int (nI 0), .ref (b + 130), .ref (b + 131), .int (nI 0), .ref (b + 132), .ref (b + 133), .int (nI 0), .int (nI 0), .int (nI 0), .int (nI 0), .null, .null]) hx hb hE hown hname hh (by omega) f447 rfl rfl (show 25 < 32 by decide) rfl dX10_init_143 (fun H locs mem465 f466 k467 hh => ?_)
  have hfr468 : ∀ j, j ≠ 115 → j ≠ 116 → j ≠ 117 → j ≠ 118 → j ≠ 119 → j ≠ 120 → j ≠ 121 → j ≠ 122 → j ≠ 123 → j ≠ 124 → j ≠ 125 → j ≠ 126 → j ≠ 127 → j ≠ 128 → j ≠ 129 → j ≠ 130 → j ≠ 131 → j ≠ 132 → j ≠ 133 → j ≠ 134 → j ≠ 135 → mem465 j = mem j := fun j c0 c1 c2 c3 c4 c5 c6 c7 c8 c9 c10 c11 c12 c13 c14 c15 c16 c17 c18 c19 c20 => (k467 j (by omega)).trans (hfr446 j c0 c1 c2 c3 c4 c5 c6 c7 c8 c9 c10 c11 c12 c13 c14 c15 c16 c17 c18 c19 c20)
  have f469 : mem465 116 = aN Γ 192 (fun _ => 0) := (k467 _ (by decide)).trans f448
  have f470 : mem465 117 = aF Γ 192 (fun _ => FP.fconst0) := (k467 _ (by decide)).trans f449
  have f471 : mem465 118 = aN Γ 16 (fun _ => 0) := (k467 _ (by decide)).trans f450
  have f472 : mem465 119 = aF Γ 256 (fun _ => FP.fconst0) := (k467 _ (by decide)).trans f451
  have f473 : mem465 120 = aF Γ 16 (fun _ => FP.fconst0) := (k467 _ (by decide)).trans f452
  have f474 : mem465 121 = aN Γ 4 (fun _ => 0) := (k467 _ (by decide)).trans f453
  have f475 : mem465 122 = aN Γ 4 (fun _ => 0) := (k467 _ (by decide)).trans f454
  have f476 : mem465 123 = aN Γ 4 (fun _ => 0) := (k467 _ (by decide)).trans f455
  have f477 : mem465 124 = aF Γ 12 (fun _ => FP.fconst0) := (k467 _ (by decide)).trans f456
  have f478 : mem465 125 = aB Γ 3 (fun _ => false) := (k467 _ (by decide)).trans f457
  have f479 : mem465 126 = aN Γ 3 (fun _ => 0) := (k467 _ (by decide)).trans f458
  have f480 : mem465 127 = aN Γ 60 (fun _ => 0) := (k467 _ (by decide)).trans f459
  have f481 : mem465 128 = aD Γ 60 (fun _ => FP.dconst0) := (k467 _ (by decide)).trans f460
  have f482 : mem465 129 = aN Γ 9 (fun _ => 0) := (k467 _ (by decide)).trans f461
  have f483 : mem465 130 = aN Γ 21 (fun _ => 0) := (k467 _ (by decide)).trans f462
  have f484 : mem465 131 = aD Γ 21 (fun _ => FP.dconst0) := (k467 _ (by decide)).trans f463
  have f485 : mem465 132 = aN Γ 21 (fun _ => 0) := (k467 _ (by decide)).trans f464
  have f486 : mem465 133 = aD Γ 21 (fun _ => FP.dconst0) := (k467 _ (by decide)).trans f444
  refine lv_aload_n hx hb dX10_init_146 rfl (lv_at hl 0 rfl) ?_
  refine lv_bipush (v := (nI 17)) hx hb dX10_init_147 (by decide) ?_
  refine mn_newa 0 (atype := .int) (ty := .int) (n := 17) (a0 := (17, .inl (fun _ => nI 0))) hx hb hE (wa_I hE.2.1 args) rfl rfl (fun _ => rfl) (by decide) (by decide) (by omega) hh (by show _ ≤ 20; omega) (by show _ ≤ 949; omega) dX10_init_149 (fun H mem487 f488 k489 hh => ?_)
  have hfr490 : ∀ j, j ≠ 115 → j ≠ 116 → j ≠ 117 → j ≠ 118 → j ≠ 119 → j ≠ 120 → j ≠ 121 → j ≠ 122 → j ≠ 123 → j ≠ 124 → j ≠ 125 → j ≠ 126 → j ≠ 127 → j ≠ 128 → j ≠ 129 → j ≠ 130 → j ≠ 131 → j ≠ 132 → j ≠ 133 → j ≠ 134 → j ≠ 135 → mem487 j = mem j := fun j c0 c1 c2 c3 c4 c5 c6 c7 c8 c9 c10 c11 c12 c13 c14 c15 c16 c17 c18 c19 c20 => (k489 j (by omega)).trans (hfr468 j c0 c1 c2 c3 c4 c5 c6 c7 c8 c9 c10 c11 c12 c13 c14 c15 c16 c17 c18 c19 c20)
  have f491 : mem487 115 = .inr (9, [.int (nI 0), .int (nI 0), .ref (b + 116), .ref (b + 117), .ref (b + 118), .ref (b + 119), .int (nI 0), .ref (b + 120), .int (nI 0), .int (nI 0), .int (nI 0), .ref (b + 121), .ref (b + 122), .ref (b + 123), .ref (b + 124), .ref (b + 125), .ref (b + 126), .ref (b + 127), .ref (b + 128), .ref (b + 129), .int (nI 0), .ref (b + 130), .ref (b + 131), .int (nI 0), .ref (b + 132), .ref (b + 133), .int (nI 0), .int (nI 0), .int (nI 0), .int (nI 0), .null, .null]) := (k489 _ (by decide)).trans f466
  have f492 : mem487 116 = aN Γ 192 (fun _ => 0) := (k489 _ (by decide)).trans f469
  have f493 : mem487 117 = aF Γ 192 (fun _ => FP.fconst0) := (k489 _ (by decide)).trans f470
  have f494 : mem487 118 = aN Γ 16 (fun _ => 0) := (k489 _ (by decide)).trans f471
  have f495 : mem487 119 = aF Γ 256 (fun _ => FP.fconst0) := (k489 _ (by decide)).trans f472
  have f496 : mem487 120 = aF Γ 16 (fun _ => FP.fconst0) := (k489 _ (by decide)).trans f473
  have f497 : mem487 121 = aN Γ 4 (fun _ => 0) := (k489 _ (by decide)).trans f474
  have f498 : mem487 122 = aN Γ 4 (fun _ => 0) := (k489 _ (by decide)).trans f475
  have f499 : mem487 123 = aN Γ 4 (fun _ => 0) := (k489 _ (by decide)).trans f476
  have f500 : mem487 124 = aF Γ 12 (fun _ => FP.fconst0) := (k489 _ (by decide)).trans f477
  have f501 : mem487 125 = aB Γ 3 (fun _ => false) := (k489 _ (by decide)).trans f478
  have f502 : mem487 126 = aN Γ 3 (fun _ => 0) := (k489 _ (by decide)).trans f479
  have f503 : mem487 127 = aN Γ 60 (fun _ => 0) := (k489 _ (by decide)).trans f480
  have f504 : mem487 128 = aD Γ 60 (fun _ => FP.dconst0) := (k489 _ (by decide)).trans f481
  have f505 : mem487 129 = aN Γ 9 (fun _ => 0) := (k489 _ (by decide)).trans f482
  have f506 : mem487 130 = aN Γ 21 (fun _ => 0) := (k489 _ (by decide)).trans f483
  have f507 : mem487 131 = aD Γ 21 (fun _ => FP.dconst0) := (k489 _ (by decide)).trans f484
  have f508 : mem487 132 = aN Γ 21 (fun _ => 0) := (k489 _ (by decide)).trans f485
  have f509 : mem487 133 = aD Γ 21 (fun _ => FP.dconst0) := (k489 _ (by decide)).trans f486
  have hh : GH Γ b (135) mem487 s _ _ := hh
  refine gq_X10_fusedRow (fs' := [.int (nI 0), .int (nI 0), .ref (b + 116), .ref (b + 117), .ref (b + 118), .ref (b + 119), .int (nI 0), .ref (b + 120), .int (nI 0), .int (nI 0), .int (nI 0), .ref (b + 121), .ref (b + 122), .ref (b + 123), .ref (b + 124), .ref (b + 125), .ref (b + 126), .ref (b + 127), .ref (b + 128), .ref (b + 129), .int (nI 0), .ref (b + 130), .ref (b + 131), .int (nI 0), .ref (b + 132), .ref (b + 133), .int (nI 0), .int (nI 0), .int (nI 0), .int (nI 0), .ref (b + 134), .null]) hx hb hE hown hname hh (by omega) f491 rfl rfl (show 30 < 32 by decide) rfl dX10_init_151 (fun H locs mem510 f511 k512 hh => ?_)
  have hfr513 : ∀ j, j ≠ 115 → j ≠ 116 → j ≠ 117 → j ≠ 118 → j ≠ 119 → j ≠ 120 → j ≠ 121 → j ≠ 122 → j ≠ 123 → j ≠ 124 → j ≠ 125 → j ≠ 126 → j ≠ 127 → j ≠ 128 → j ≠ 129 → j ≠ 130 → j ≠ 131 → j ≠ 132 → j ≠ 133 → j ≠ 134 → j ≠ 135 → mem510 j = mem j := fun j c0 c1 c2 c3 c4 c5 c6 c7 c8 c9 c10 c11 c12 c13 c14 c15 c16 c17 c18 c19 c20 => (k512 j (by omega)).trans (hfr490 j c0 c1 c2 c3 c4 c5 c6 c7 c8 c9 c10 c11 c12 c13 c14 c15 c16 c17 c18 c19 c20)
  have f514 : mem510 116 = aN Γ 192 (fun _ => 0) := (k512 _ (by decide)).trans f492
  have f515 : mem510 117 = aF Γ 192 (fun _ => FP.fconst0) := (k512 _ (by decide)).trans f493
  have f516 : mem510 118 = aN Γ 16 (fun _ => 0) := (k512 _ (by decide)).trans f494
  have f517 : mem510 119 = aF Γ 256 (fun _ => FP.fconst0) := (k512 _ (by decide)).trans f495
  have f518 : mem510 120 = aF Γ 16 (fun _ => FP.fconst0) := (k512 _ (by decide)).trans f496
  have f519 : mem510 121 = aN Γ 4 (fun _ => 0) := (k512 _ (by decide)).trans f497
  have f520 : mem510 122 = aN Γ 4 (fun _ => 0) := (k512 _ (by decide)).trans f498
  have f521 : mem510 123 = aN Γ 4 (fun _ => 0) := (k512 _ (by decide)).trans f499
  have f522 : mem510 124 = aF Γ 12 (fun _ => FP.fconst0) := (k512 _ (by decide)).trans f500
  have f523 : mem510 125 = aB Γ 3 (fun _ => false) := (k512 _ (by decide)).trans f501
  have f524 : mem510 126 = aN Γ 3 (fun _ => 0) := (k512 _ (by decide)).trans f502
  have f525 : mem510 127 = aN Γ 60 (fun _ => 0) := (k512 _ (by decide)).trans f503
  have f526 : mem510 128 = aD Γ 60 (fun _ => FP.dconst0) := (k512 _ (by decide)).trans f504
  have f527 : mem510 129 = aN Γ 9 (fun _ => 0) := (k512 _ (by decide)).trans f505
  have f528 : mem510 130 = aN Γ 21 (fun _ => 0) := (k512 _ (by decide)).trans f506
  have f529 : mem510 131 = aD Γ 21 (fun _ => FP.dconst0) := (k512 _ (by decide)).trans f507
  have f530 : mem510 132 = aN Γ 21 (fun _ => 0) := (k512 _ (by decide)).trans f508
  have f531 : mem510 133 = aD Γ 21 (fun _ => FP.dconst0) := (k512 _ (by decide)).trans f509
  have f532 : mem510 134 = aN Γ 17 (fun _ => 0) := (k512 _ (by decide)).trans f488
  refine lv_aload_n hx hb dX10_init_154 rfl (lv_at hl 0 rfl) ?_
  refine lv_bipush (v := (nI 17)) hx hb dX10_init_155 (by decide) ?_
  refine mn_newa 2 (atype := .double) (ty := .double) (n := 17) (a0 := (17, .inr (.inr (.inr (.inl (fun _ => FP.dconst0)))))) hx hb hE (wa_D hE.2.1 args) rfl rfl (fun _ => rfl) (by decide) (by decide) (by omega) hh (by show _ ≤ 20; omega) (by show _ ≤ 949; omega) dX10_init_157 (fun H mem533 f534 k535 hh => ?_)
  have hfr536 : ∀ j, j ≠ 115 → j ≠ 116 → j ≠ 117 → j ≠ 118 → j ≠ 119 → j ≠ 120 → j ≠ 121 → j ≠ 122 → j ≠ 123 → j ≠ 124 → j ≠ 125 → j ≠ 126 → j ≠ 127 → j ≠ 128 → j ≠ 129 → j ≠ 130 → j ≠ 131 → j ≠ 132 → j ≠ 133 → j ≠ 134 → j ≠ 135 → mem533 j = mem j := fun j c0 c1 c2 c3 c4 c5 c6 c7 c8 c9 c10 c11 c12 c13 c14 c15 c16 c17 c18 c19 c20 => (k535 j (by omega)).trans (hfr513 j c0 c1 c2 c3 c4 c5 c6 c7 c8 c9 c10 c11 c12 c13 c14 c15 c16 c17 c18 c19 c20)
  have f537 : mem533 115 = .inr (9, [.int (nI 0), .int (nI 0), .ref (b + 116), .ref (b + 117), .ref (b + 118), .ref (b + 119), .int (nI 0), .ref (b + 120), .int (nI 0), .int (nI 0), .int (nI 0), .ref (b + 121), .ref (b + 122), .ref (b + 123), .ref (b + 124), .ref (b + 125), .ref (b + 126), .ref (b + 127), .ref (b + 128), .ref (b + 129), .int (nI 0), .ref (b + 130), .ref (b + 131), .int (nI 0), .ref (b + 132), .ref (b + 133), .int (nI 0), .int (nI 0), .int (nI 0), .int (nI 0), .ref (b + 134), .null]) := (k535 _ (by decide)).trans f511
  have f538 : mem533 116 = aN Γ 192 (fun _ => 0) := (k535 _ (by decide)).trans f514
  have f539 : mem533 117 = aF Γ 192 (fun _ => FP.fconst0) := (k535 _ (by decide)).trans f515
  have f540 : mem533 118 = aN Γ 16 (fun _ => 0) := (k535 _ (by decide)).trans f516
  have f541 : mem533 119 = aF Γ 256 (fun _ => FP.fconst0) := (k535 _ (by decide)).trans f517
  have f542 : mem533 120 = aF Γ 16 (fun _ => FP.fconst0) := (k535 _ (by decide)).trans f518
  have f543 : mem533 121 = aN Γ 4 (fun _ => 0) := (k535 _ (by decide)).trans f519
  have f544 : mem533 122 = aN Γ 4 (fun _ => 0) := (k535 _ (by decide)).trans f520
  have f545 : mem533 123 = aN Γ 4 (fun _ => 0) := (k535 _ (by decide)).trans f521
  have f546 : mem533 124 = aF Γ 12 (fun _ => FP.fconst0) := (k535 _ (by decide)).trans f522
  have f547 : mem533 125 = aB Γ 3 (fun _ => false) := (k535 _ (by decide)).trans f523
  have f548 : mem533 126 = aN Γ 3 (fun _ => 0) := (k535 _ (by decide)).trans f524
  have f549 : mem533 127 = aN Γ 60 (fun _ => 0) := (k535 _ (by decide)).trans f525
  have f550 : mem533 128 = aD Γ 60 (fun _ => FP.dconst0) := (k535 _ (by decide)).trans f526
  have f551 : mem533 129 = aN Γ 9 (fun _ => 0) := (k535 _ (by decide)).trans f527
  have f552 : mem533 130 = aN Γ 21 (fun _ => 0) := (k535 _ (by decide)).trans f528
  have f553 : mem533 131 = aD Γ 21 (fun _ => FP.dconst0) := (k535 _ (by decide)).trans f529
  have f554 : mem533 132 = aN Γ 21 (fun _ => 0) := (k535 _ (by decide)).trans f530
  have f555 : mem533 133 = aD Γ 21 (fun _ => FP.dconst0) := (k535 _ (by decide)).trans f531
  have f556 : mem533 134 = aN Γ 17 (fun _ => 0) := (k535 _ (by decide)).trans f532
  have hh : GH Γ b (136) mem533 s _ _ := hh
  refine gq_X10_fusedScore (fs' := [.int (nI 0), .int (nI 0), .ref (b + 116), .ref (b + 117), .ref (b + 118), .ref (b + 119), .int (nI 0), .ref (b + 120), .int (nI 0), .int (nI 0), .int (nI 0), .ref (b + 121), .ref (b + 122), .ref (b + 123), .ref (b + 124), .ref (b + 125), .ref (b + 126), .ref (b + 127), .ref (b + 128), .ref (b + 129), .int (nI 0), .ref (b + 130), .ref (b + 131), .int (nI 0), .ref (b + 132), .ref (b + 133), .int (nI 0), .int (nI 0), .int (nI 0), .int (nI 0), .ref (b + 134), .ref (b + 135)]) hx hb hE hown hname hh (by omega) f537 rfl rfl (show 31 < 32 by decide) rfl dX10_init_159 (fun H locs mem557 f558 k559 hh => ?_)
  have hfr560 : ∀ j, j ≠ 115 → j ≠ 116 → j ≠ 117 → j ≠ 118 → j ≠ 119 → j ≠ 120 → j ≠ 121 → j ≠ 122 → j ≠ 123 → j ≠ 124 → j ≠ 125 → j ≠ 126 → j ≠ 127 → j ≠ 128 → j ≠ 129 → j ≠ 130 → j ≠ 131 → j ≠ 132 → j ≠ 133 → j ≠ 134 → j ≠ 135 → mem557 j = mem j := fun j c0 c1 c2 c3 c4 c5 c6 c7 c8 c9 c10 c11 c12 c13 c14 c15 c16 c17 c18 c19 c20 => (k559 j (by omega)).trans (hfr536 j c0 c1 c2 c3 c4 c5 c6 c7 c8 c9 c10 c11 c12 c13 c14 c15 c16 c17 c18 c19 c20)
  have f561 : mem557 116 = aN Γ 192 (fun _ => 0) := (k559 _ (by decide)).trans f538
  have f562 : mem557 117 = aF Γ 192 (fun _ => FP.fconst0) := (k559 _ (by decide)).trans f539
  have f563 : mem557 118 = aN Γ 16 (fun _ => 0) := (k559 _ (by decide)).trans f540
  have f564 : mem557 119 = aF Γ 256 (fun _ => FP.fconst0) := (k559 _ (by decide)).trans f541
  have f565 : mem557 120 = aF Γ 16 (fun _ => FP.fconst0) := (k559 _ (by decide)).trans f542
  have f566 : mem557 121 = aN Γ 4 (fun _ => 0) := (k559 _ (by decide)).trans f543
  have f567 : mem557 122 = aN Γ 4 (fun _ => 0) := (k559 _ (by decide)).trans f544
  have f568 : mem557 123 = aN Γ 4 (fun _ => 0) := (k559 _ (by decide)).trans f545
  have f569 : mem557 124 = aF Γ 12 (fun _ => FP.fconst0) := (k559 _ (by decide)).trans f546
  have f570 : mem557 125 = aB Γ 3 (fun _ => false) := (k559 _ (by decide)).trans f547
  have f571 : mem557 126 = aN Γ 3 (fun _ => 0) := (k559 _ (by decide)).trans f548
  have f572 : mem557 127 = aN Γ 60 (fun _ => 0) := (k559 _ (by decide)).trans f549
  have f573 : mem557 128 = aD Γ 60 (fun _ => FP.dconst0) := (k559 _ (by decide)).trans f550
  have f574 : mem557 129 = aN Γ 9 (fun _ => 0) := (k559 _ (by decide)).trans f551
  have f575 : mem557 130 = aN Γ 21 (fun _ => 0) := (k559 _ (by decide)).trans f552
  have f576 : mem557 131 = aD Γ 21 (fun _ => FP.dconst0) := (k559 _ (by decide)).trans f553
  have f577 : mem557 132 = aN Γ 21 (fun _ => 0) := (k559 _ (by decide)).trans f554
  have f578 : mem557 133 = aD Γ 21 (fun _ => FP.dconst0) := (k559 _ (by decide)).trans f555
  have f579 : mem557 134 = aN Γ 17 (fun _ => 0) := (k559 _ (by decide)).trans f556
  have f580 : mem557 135 = aD Γ 17 (fun _ => FP.dconst0) := (k559 _ (by decide)).trans f534
  exact mm_vret hx hb hr hlocks hE hh (⟨f558, f561, f562, f563, f564, f565, f566, f567, f568, f569, f570, f571, f572, f573, f574, f575, f576, f577, f578, f579, f580, hfr560⟩) dX10_init_162
