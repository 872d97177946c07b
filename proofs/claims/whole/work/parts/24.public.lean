/-! PUBLIC METHODS, where they don't throw -/
theorem inR_y {d n : Nat} (h : d < n) (hn : n < 2 ^ 31) : inR (nI d) n = true := by rw [inR_nI (by omega) hn]; exact decide_eq_true h
theorem no_tf {x : Bool} (h1 : x = true) (h2 : x = false) : False := by rw [h1] at h2; exact absurd h2 (by decide)
def up4 (f : Nat → UInt32) (k : Nat) (v0 v1 v2 v3 : UInt32) : Nat → UInt32 := va_up (va_up (va_up (va_up f k v0) (k + 1) v1) (k + 2) v2) (k + 3) v3
def lgX (x : UInt64) : UInt64 := if (FP.dcmp x FP.dconst1 = some .gt ∨ FP.dcmp x FP.dconst1 = some .eq) ∧ (FP.dcmp x 9218868437227405311 = some .lt ∨ FP.dcmp x 9218868437227405311 = some .eq) then lgF x else 13830554455654793216

set_option maxHeartbeats 4000000 in
set_option maxRecDepth 100000 in
/-- document -/
theorem c_X9_document (l : Launch) (Γ : Gm) (b M : Nat) (mem : Nat → va_E) {nd : Nat} {lf sf : Nat} {lst : Nat → Bool × Nat × Nat × Nat} {lrk : Nat → Nat × Nat} {ldc : Nat → Nat → Nat} {lsc : Nat → Nat → UInt64} (hM : 138 ≤ M) (fH : mem 0 = .inr (8, [.ref (b + 1), .ref (b + 72), .ref (b + 75), .ref (b + 78), .ref (b + 80), .ref (b + 91), .ref (b + 93), .ref (b + 96), .ref (b + 109)])) (fLo : mem 96 = aR Γ 5 3 (fun i => some (b + (97 + 4 * i)))) (fls : ∀ z9, z9 < 3 → mem (97 + 4 * z9) = .inr (2, [.ref (b + (97 + 4 * z9 + 1)), .int (bI ((lst z9).1)), .int (nI ((lst z9).2.1)), .int (nI ((lst z9).2.2.1)), .int (nI ((lst z9).2.2.2))])) (flr : ∀ z9, z9 < 3 → mem (97 + 4 * z9 + 1) = .inr (4, [.ref (b + (97 + 4 * z9 + 2)), .ref (b + (97 + 4 * z9 + 3)), .int (nI ((lrk z9).1)), .int (nI ((lrk z9).2))])) (fld : ∀ z9, z9 < 3 → mem (97 + 4 * z9 + 2) = aN Γ 20 (ldc z9)) (flc : ∀ z9, z9 < 3 → mem (97 + 4 * z9 + 3) = aD Γ 20 (lsc z9)) (fF : mem 109 = .inr (1, [.ref (b + 110), .ref (b + 113), .ref (b + 114)])) (fR0 : mem 110 = .inr (4, [.ref (b + 111), .ref (b + 112), .int (nI lf), .int (nI sf)])) (fC : mem 1 = .inr (0, [.ref (b + 2), .ref (b + 19), .ref (b + 20), .ref (b + 37), .ref (b + 38), .int (nI nd)])) (hnd : nd < 16) : Ct l yX9_document (.code yX9_document cX9_document 1 (some .int)) ({ frames := 5, cells := 0, slots := 0, locals := 97 } : Room) Γ b M [.ref (b + 0)] mem (fun u => u 1 = .inr (0, [.ref (b + 2), .ref (b + 19), .ref (b + 20), .ref (b + 37), .ref (b + 38), .int (nI (nd + 1))]) ∧ (∀ z9, z9 < 3 → u (97 + 4 * z9) = .inr (2, [.ref (b + (97 + 4 * z9 + 1)), .int (bI (((fgL lst 3) z9).1)), .int (nI (((fgL lst 3) z9).2.1)), .int (nI (((fgL lst 3) z9).2.2.1)), .int (nI (((fgL lst 3) z9).2.2.2))])) ∧ (∀ z9, z9 < 3 → u (97 + 4 * z9 + 1) = .inr (4, [.ref (b + (97 + 4 * z9 + 2)), .ref (b + (97 + 4 * z9 + 3)), .int (nI ((lrk z9).1)), .int (nI ((lrk z9).2))])) ∧ (∀ z9, z9 < 3 → u (97 + 4 * z9 + 2) = aN Γ 20 (ldc z9)) ∧ (∀ z9, z9 < 3 → u (97 + 4 * z9 + 3) = aD Γ 20 (lsc z9)) ∧ u 110 = .inr (4, [.ref (b + 111), .ref (b + 112), .int (nI 0), .int (nI 0)]) ∧ ∀ j, j ≠ 1 → ¬ (97 ≤ j ∧ j < 106) → ¬ (98 ≤ j ∧ j < 107) → ¬ (99 ≤ j ∧ j < 108) → ¬ (100 ≤ j ∧ j < 109) → j ≠ 110 → u j = mem j) (some (.int (nI nd))) := by
  refine mm_enter (cc := cX9_document) (by decide) (Nat.le_of_ble_eq_true rfl) ?_
  intro p e s m args below meth c ls hx hb hml hown hr hlocks hname hE hh hl
  have hl : lv_has ls 1 [(0, .ref (b + 0))] := hl
  have hfr : ∀ j, j ≠ 1 → ¬ (97 ≤ j ∧ j < 106) → ¬ (98 ≤ j ∧ j < 107) → ¬ (99 ≤ j ∧ j < 108) → ¬ (100 ≤ j ∧ j < 109) → j ≠ 110 → mem j = mem j := fun j _ _ _ _ _ _ => rfl
  refine lv_aload_n hx hb dX9_document_0 rfl (lv_at hl 0 rfl) ?_
  refine gf_X9_collection hx hb hE hown hh (by omega) fH rfl dX9_document_1 ?_
  refine mm_V0r (As := []) (rest := []) hx hb hml hown hE hl.1 hh (kc_X9_72 hE.2.1 ⟨Nat.le_of_ble_eq_true rfl, Nat.le_of_ble_eq_true rfl⟩) (c_X0_isFull l Γ b M mem (nd := nd) (by omega) fC (by omega)) rfl (by omega) fC rfl rfl (Nat.le_of_ble_eq_true rfl) dX9_document_4 rfl rfl (fun H locs hh => ?_)
  refine nn_beq (tgt := 20) hx hb dX9_document_7 (by decide) (fun h1 => ?_) (fun h1 => ?_)
  ·
    refine lv_aload_n hx hb dX9_document_20 rfl (lv_at hl 0 rfl) ?_
    refine mm_V0 (As := []) (rest := []) hx hb hml hown hE hl.1 hh (kc_X9_83 hE.2.1 ⟨Nat.le_of_ble_eq_true rfl, Nat.le_of_ble_eq_true rfl⟩) (c_X9_forgetAllLists l Γ b M mem (lf := lf) (sf := sf) (lst := lst) (lrk := lrk) (ldc := ldc) (lsc := lsc) (by omega) fH fLo fls flr fld flc fF fR0) rfl (by omega) fH rfl rfl (Nat.le_of_ble_eq_true rfl) dX9_document_21 rfl rfl (fun H locs mem2 hP3 hh => ?_)
    obtain ⟨f4, f5, f6, f7, f8, k9⟩ := hP3
    have hfr10 : ∀ j, j ≠ 1 → ¬ (97 ≤ j ∧ j < 106) → ¬ (98 ≤ j ∧ j < 107) → ¬ (99 ≤ j ∧ j < 108) → ¬ (100 ≤ j ∧ j < 109) → j ≠ 110 → mem2 j = mem j := fun j c0 c1 c2 c3 c4 c5 => (k9 j (by omega) (by omega) (by omega) (by omega) (by omega)).trans (hfr j c0 c1 c2 c3 c4 c5)
    have f11 : mem2 0 = .inr (8, [.ref (b + 1), .ref (b + 72), .ref (b + 75), .ref (b + 78), .ref (b + 80), .ref (b + 91), .ref (b + 93), .ref (b + 96), .ref (b + 109)]) := (k9 _ (by omega) (by omega) (by omega) (by omega) (by omega)).trans fH
    have f12 : mem2 96 = aR Γ 5 3 (fun i => some (b + (97 + 4 * i))) := (k9 _ (by omega) (by omega) (by omega) (by omega) (by omega)).trans fLo
    have f13 : mem2 109 = .inr (1, [.ref (b + 110), .ref (b + 113), .ref (b + 114)]) := (k9 _ (by omega) (by omega) (by omega) (by omega) (by omega)).trans fF
    have f14 : mem2 1 = .inr (0, [.ref (b + 2), .ref (b + 19), .ref (b + 20), .ref (b + 37), .ref (b + 38), .int (nI nd)]) := (k9 _ (by omega) (by omega) (by omega) (by omega) (by omega)).trans fC
    refine lv_aload_n hx hb dX9_document_24 rfl (lv_at hl 0 rfl) ?_
    refine gf_X9_collection hx hb hE hown hh (by omega) f11 rfl dX9_document_25 ?_
    refine mm_V0 (As := []) (rest := []) hx hb hml hown hE hl.1 hh (kc_X9_86 hE.2.1 ⟨Nat.le_of_ble_eq_true rfl, Nat.le_of_ble_eq_true rfl⟩) (c_X0_addDocument l Γ b M mem2 (nd := nd) (by omega) f14) rfl (by omega) f14 rfl rfl (Nat.le_of_ble_eq_true rfl) dX9_document_28 rfl rfl (fun H locs mem15 hP16 hh => ?_)
    obtain ⟨f17, k18⟩ := hP16
    have hfr19 : ∀ j, j ≠ 1 → ¬ (97 ≤ j ∧ j < 106) → ¬ (98 ≤ j ∧ j < 107) → ¬ (99 ≤ j ∧ j < 108) → ¬ (100 ≤ j ∧ j < 109) → j ≠ 110 → mem15 j = mem j := fun j c0 c1 c2 c3 c4 c5 => (k18 j (by omega)).trans (hfr10 j c0 c1 c2 c3 c4 c5)
    have f20 : mem15 0 = .inr (8, [.ref (b + 1), .ref (b + 72), .ref (b + 75), .ref (b + 78), .ref (b + 80), .ref (b + 91), .ref (b + 93), .ref (b + 96), .ref (b + 109)]) := (k18 _ (by omega)).trans f11
    have f21 : mem15 96 = aR Γ 5 3 (fun i => some (b + (97 + 4 * i))) := (k18 _ (by omega)).trans f12
    have f22 : mem15 109 = .inr (1, [.ref (b + 110), .ref (b + 113), .ref (b + 114)]) := (k18 _ (by omega)).trans f13
    have f23 : mem15 110 = .inr (4, [.ref (b + 111), .ref (b + 112), .int (nI 0), .int (nI 0)]) := (k18 _ (by omega)).trans f8
    have f24 : ∀ z9, z9 < 3 → mem15 (97 + 4 * z9) = .inr (2, [.ref (b + (97 + 4 * z9 + 1)), .int (bI (((fgL lst 3) z9).1)), .int (nI (((fgL lst 3) z9).2.1)), .int (nI (((fgL lst 3) z9).2.2.1)), .int (nI (((fgL lst 3) z9).2.2.2))]) := fun z9 hz9 => (k18 _ (by omega)).trans (f4 z9 hz9)
    have f25 : ∀ z9, z9 < 3 → mem15 (97 + 4 * z9 + 1) = .inr (4, [.ref (b + (97 + 4 * z9 + 2)), .ref (b + (97 + 4 * z9 + 3)), .int (nI ((lrk z9).1)), .int (nI ((lrk z9).2))]) := fun z9 hz9 => (k18 _ (by omega)).trans (f5 z9 hz9)
    have f26 : ∀ z9, z9 < 3 → mem15 (97 + 4 * z9 + 2) = aN Γ 20 (ldc z9) := fun z9 hz9 => (k18 _ (by omega)).trans (f6 z9 hz9)
    have f27 : ∀ z9, z9 < 3 → mem15 (97 + 4 * z9 + 3) = aD Γ 20 (lsc z9) := fun z9 hz9 => (k18 _ (by omega)).trans (f7 z9 hz9)
    exact mm_iret hx hb hr hlocks hE hh (rfl) (⟨f17, f24, f25, f26, f27, f23, hfr19⟩) dX9_document_31
  ·
    exact absurd (of_decide_eq_true h1) (by omega)
set_option maxHeartbeats 4000000 in
set_option maxRecDepth 100000 in
/-- count -/
theorem c_X9_count (l : Launch) (Γ : Gm) (b M : Nat) (mem : Nat → va_E) {nd : Nat} {d t : Nat} {cn : Nat → Nat → Nat} {ln : Nat → Nat} {lf sf : Nat} {lst : Nat → Bool × Nat × Nat × Nat} {lrk : Nat → Nat × Nat} {ldc : Nat → Nat → Nat} {lsc : Nat → Nat → UInt64} (hM : 138 ≤ M) (fH : mem 0 = .inr (8, [.ref (b + 1), .ref (b + 72), .ref (b + 75), .ref (b + 78), .ref (b + 80), .ref (b + 91), .ref (b + 93), .ref (b + 96), .ref (b + 109)])) (fLo : mem 96 = aR Γ 5 3 (fun i => some (b + (97 + 4 * i)))) (fls : ∀ z9, z9 < 3 → mem (97 + 4 * z9) = .inr (2, [.ref (b + (97 + 4 * z9 + 1)), .int (bI ((lst z9).1)), .int (nI ((lst z9).2.1)), .int (nI ((lst z9).2.2.1)), .int (nI ((lst z9).2.2.2))])) (flr : ∀ z9, z9 < 3 → mem (97 + 4 * z9 + 1) = .inr (4, [.ref (b + (97 + 4 * z9 + 2)), .ref (b + (97 + 4 * z9 + 3)), .int (nI ((lrk z9).1)), .int (nI ((lrk z9).2))])) (fld : ∀ z9, z9 < 3 → mem (97 + 4 * z9 + 2) = aN Γ 20 (ldc z9)) (flc : ∀ z9, z9 < 3 → mem (97 + 4 * z9 + 3) = aD Γ 20 (lsc z9)) (fF : mem 109 = .inr (1, [.ref (b + 110), .ref (b + 113), .ref (b + 114)])) (fR0 : mem 110 = .inr (4, [.ref (b + 111), .ref (b + 112), .int (nI lf), .int (nI sf)])) (fC : mem 1 = .inr (0, [.ref (b + 2), .ref (b + 19), .ref (b + 20), .ref (b + 37), .ref (b + 38), .int (nI nd)])) (fCo : mem 2 = aR Γ 7 16 (fun i => some (b + (3 + i)))) (fcn : ∀ z9, z9 < 16 → mem (3 + z9) = aN Γ 12 (cn z9)) (fL : mem 19 = aN Γ 16 ln) (hnd : nd ≤ 16) (hd : d < nd) (ht : t < 12) (hc : cn d t < 1000) : Ct l yX9_count (.code yX9_count cX9_count 3 (some .int)) ({ frames := 5, cells := 0, slots := 0, locals := 97 } : Room) Γ b M [.ref (b + 0), .int (nI d), .int (nI t)] mem (fun u => (∀ z9, z9 < 16 → u (3 + z9) = aN Γ 12 ((va_up cn d (va_up (cn d) t (cn d t + 1))) z9)) ∧ u 19 = aN Γ 16 (va_up ln d (ln d + 1)) ∧ (∀ z9, z9 < 3 → u (97 + 4 * z9) = .inr (2, [.ref (b + (97 + 4 * z9 + 1)), .int (bI (((fgL lst 3) z9).1)), .int (nI (((fgL lst 3) z9).2.1)), .int (nI (((fgL lst 3) z9).2.2.1)), .int (nI (((fgL lst 3) z9).2.2.2))])) ∧ (∀ z9, z9 < 3 → u (97 + 4 * z9 + 1) = .inr (4, [.ref (b + (97 + 4 * z9 + 2)), .ref (b + (97 + 4 * z9 + 3)), .int (nI ((lrk z9).1)), .int (nI ((lrk z9).2))])) ∧ (∀ z9, z9 < 3 → u (97 + 4 * z9 + 2) = aN Γ 20 (ldc z9)) ∧ (∀ z9, z9 < 3 → u (97 + 4 * z9 + 3) = aD Γ 20 (lsc z9)) ∧ u 110 = .inr (4, [.ref (b + 111), .ref (b + 112), .int (nI 0), .int (nI 0)]) ∧ ∀ j, ¬ (3 ≤ j ∧ j < 19) → j ≠ 19 → ¬ (97 ≤ j ∧ j < 106) → ¬ (98 ≤ j ∧ j < 107) → ¬ (99 ≤ j ∧ j < 108) → ¬ (100 ≤ j ∧ j < 109) → j ≠ 110 → u j = mem j) (some (.int (nI (cn d t + 1)))) := by
  refine mm_enter (cc := cX9_count) (by decide) (Nat.le_of_ble_eq_true rfl) ?_
  intro p e s m args below meth c ls hx hb hml hown hr hlocks hname hE hh hl
  have hl : lv_has ls 3 [(0, .ref (b + 0)), (1, .int (nI d)), (2, .int (nI t))] := hl
  have hfr : ∀ j, ¬ (3 ≤ j ∧ j < 19) → j ≠ 19 → ¬ (97 ≤ j ∧ j < 106) → ¬ (98 ≤ j ∧ j < 107) → ¬ (99 ≤ j ∧ j < 108) → ¬ (100 ≤ j ∧ j < 109) → j ≠ 110 → mem j = mem j := fun j _ _ _ _ _ _ _ => rfl
  refine lv_aload_n hx hb dX9_count_0 rfl (lv_at hl 0 rfl) ?_
  refine gf_X9_collection hx hb hE hown hh (by omega) fH rfl dX9_count_1 ?_
  refine lv_iload_n hx hb dX9_count_4 rfl (lv_at hl 1 rfl) ?_
  refine mm_V0r (As := [.int (nI d)]) (rest := []) hx hb hml hown hE hl.1 hh (kc_X9_90 hE.2.1 ⟨Nat.le_of_ble_eq_true rfl, Nat.le_of_ble_eq_true rfl⟩) (c_X0_holds l Γ b M mem (nd := nd) (d := (nI d)) (by omega) fC) rfl (by omega) fC rfl rfl (Nat.le_of_ble_eq_true rfl) dX9_count_5 rfl rfl (fun H locs hh => ?_)
  refine nn_beq (tgt := 18) hx hb dX9_count_8 (by decide) (fun h1 => ?_) (fun h1 => ?_)
  ·
    exact (no_tf (inR_y hd (by omega)) h1).elim
  ·
    refine lv_iload_n hx hb dX9_count_11 rfl (lv_at hl 2 rfl) ?_
    refine mm_S0r (As := [.int (nI t)]) (rest := []) hx hb hml hown hE hl.1 hh (kc_X9_94 hE.2.1 ⟨Nat.le_of_ble_eq_true rfl, Nat.le_of_ble_eq_true rfl⟩) (c_X9_isTerm l Γ b M mem (t := (nI t))) rfl rfl (Nat.le_of_ble_eq_true rfl) dX9_count_12 rfl rfl (fun H locs hh => ?_)
    refine nn_bne (tgt := 28) hx hb dX9_count_15 (by decide) (fun h2 => ?_) (fun h2 => ?_)
    ·
      refine lv_aload_n hx hb dX9_count_28 rfl (lv_at hl 0 rfl) ?_
      refine gf_X9_collection hx hb hE hown hh (by omega) fH rfl dX9_count_29 ?_
      refine lv_iload_n hx hb dX9_count_32 rfl (lv_at hl 1 rfl) ?_
      refine lv_iload_n hx hb dX9_count_33 rfl (lv_at hl 2 rfl) ?_
      refine mm_V0r (As := [.int (nI d), .int (nI t)]) (rest := []) hx hb hml hown hE hl.1 hh (kc_X9_102 hE.2.1 ⟨Nat.le_of_ble_eq_true rfl, Nat.le_of_ble_eq_true rfl⟩) (c_X0_countOf l Γ b M mem (nd := nd) (d := d) (t := t) (cn := cn) (by omega) fC fCo fcn (by omega) (by omega)) rfl (by omega) fC rfl rfl (Nat.le_of_ble_eq_true rfl) dX9_count_34 rfl rfl (fun H locs hh => ?_)
      refine lv_sipush (v := (nI 1000)) hx hb dX9_count_37 (by decide) ?_
      refine nn_icmp_lt (tgt := 53) hx hb dX9_count_40 (by decide) (by omega) (by omega) (fun h3 => ?_) (fun h3 => ?_)
      ·
        refine lv_aload_n hx hb dX9_count_53 rfl (lv_at hl 0 rfl) ?_
        refine mm_V0 (As := []) (rest := []) hx hb hml hown hE hl.1 hh (kc_X9_83 hE.2.1 ⟨Nat.le_of_ble_eq_true rfl, Nat.le_of_ble_eq_true rfl⟩) (c_X9_forgetAllLists l Γ b M mem (lf := lf) (sf := sf) (lst := lst) (lrk := lrk) (ldc := ldc) (lsc := lsc) (by omega) fH fLo fls flr fld flc fF fR0) rfl (by omega) fH rfl rfl (Nat.le_of_ble_eq_true rfl) dX9_count_54 rfl rfl (fun H locs mem4 hP5 hh => ?_)
        obtain ⟨f6, f7, f8, f9, f10, k11⟩ := hP5
        have hfr12 : ∀ j, ¬ (3 ≤ j ∧ j < 19) → j ≠ 19 → ¬ (97 ≤ j ∧ j < 106) → ¬ (98 ≤ j ∧ j < 107) → ¬ (99 ≤ j ∧ j < 108) → ¬ (100 ≤ j ∧ j < 109) → j ≠ 110 → mem4 j = mem j := fun j c0 c1 c2 c3 c4 c5 c6 => (k11 j (by omega) (by omega) (by omega) (by omega) (by omega)).trans (hfr j c0 c1 c2 c3 c4 c5 c6)
        have f13 : mem4 0 = .inr (8, [.ref (b + 1), .ref (b + 72), .ref (b + 75), .ref (b + 78), .ref (b + 80), .ref (b + 91), .ref (b + 93), .ref (b + 96), .ref (b + 109)]) := (k11 _ (by omega) (by omega) (by omega) (by omega) (by omega)).trans fH
        have f14 : mem4 96 = aR Γ 5 3 (fun i => some (b + (97 + 4 * i))) := (k11 _ (by omega) (by omega) (by omega) (by omega) (by omega)).trans fLo
        have f15 : mem4 109 = .inr (1, [.ref (b + 110), .ref (b + 113), .ref (b + 114)]) := (k11 _ (by omega) (by omega) (by omega) (by omega) (by omega)).trans fF
        have f16 : mem4 1 = .inr (0, [.ref (b + 2), .ref (b + 19), .ref (b + 20), .ref (b + 37), .ref (b + 38), .int (nI nd)]) := (k11 _ (by omega) (by omega) (by omega) (by omega) (by omega)).trans fC
        have f17 : mem4 2 = aR Γ 7 16 (fun i => some (b + (3 + i))) := (k11 _ (by omega) (by omega) (by omega) (by omega) (by omega)).trans fCo
        have f18 : mem4 19 = aN Γ 16 ln := (k11 _ (by omega) (by omega) (by omega) (by omega) (by omega)).trans fL
        have f19 : ∀ z9, z9 < 16 → mem4 (3 + z9) = aN Γ 12 (cn z9) := fun z9 hz9 => (k11 _ (by omega) (by omega) (by omega) (by omega) (by omega)).trans (fcn z9 hz9)
        refine lv_aload_n hx hb dX9_count_57 rfl (lv_at hl 0 rfl) ?_
        refine gf_X9_collection hx hb hE hown hh (by omega) f13 rfl dX9_count_58 ?_
        refine lv_iload_n hx hb dX9_count_61 rfl (lv_at hl 1 rfl) ?_
        refine lv_iload_n hx hb dX9_count_62 rfl (lv_at hl 2 rfl) ?_
        refine mm_V0 (As := [.int (nI d), .int (nI t)]) (rest := []) hx hb hml hown hE hl.1 hh (kc_X9_108 hE.2.1 ⟨Nat.le_of_ble_eq_true rfl, Nat.le_of_ble_eq_true rfl⟩) (c_X0_addCount l Γ b M mem4 (nd := nd) (d := d) (t := t) (cn := cn) (ln := ln) (by omega) f16 f17 f19 f18 (by omega) (by omega)) rfl (by omega) f16 rfl rfl (Nat.le_of_ble_eq_true rfl) dX9_count_63 rfl rfl (fun H locs mem20 hP21 hh => ?_)
        obtain ⟨f22, f23, k24⟩ := hP21
        have hfr25 : ∀ j, ¬ (3 ≤ j ∧ j < 19) → j ≠ 19 → ¬ (97 ≤ j ∧ j < 106) → ¬ (98 ≤ j ∧ j < 107) → ¬ (99 ≤ j ∧ j < 108) → ¬ (100 ≤ j ∧ j < 109) → j ≠ 110 → mem20 j = mem j := fun j c0 c1 c2 c3 c4 c5 c6 => (k24 j (by omega) (by omega)).trans (hfr12 j c0 c1 c2 c3 c4 c5 c6)
        have f26 : mem20 0 = .inr (8, [.ref (b + 1), .ref (b + 72), .ref (b + 75), .ref (b + 78), .ref (b + 80), .ref (b + 91), .ref (b + 93), .ref (b + 96), .ref (b + 109)]) := (k24 _ (by omega) (by omega)).trans f13
        have f27 : mem20 96 = aR Γ 5 3 (fun i => some (b + (97 + 4 * i))) := (k24 _ (by omega) (by omega)).trans f14
        have f28 : mem20 109 = .inr (1, [.ref (b + 110), .ref (b + 113), .ref (b + 114)]) := (k24 _ (by omega) (by omega)).trans f15
        have f29 : mem20 110 = .inr (4, [.ref (b + 111), .ref (b + 112), .int (nI 0), .int (nI 0)]) := (k24 _ (by omega) (by omega)).trans f10
        have f30 : mem20 1 = .inr (0, [.ref (b + 2), .ref (b + 19), .ref (b + 20), .ref (b + 37), .ref (b + 38), .int (nI nd)]) := (k24 _ (by omega) (by omega)).trans f16
        have f31 : mem20 2 = aR Γ 7 16 (fun i => some (b + (3 + i))) := (k24 _ (by omega) (by omega)).trans f17
        have f32 : ∀ z9, z9 < 3 → mem20 (97 + 4 * z9) = .inr (2, [.ref (b + (97 + 4 * z9 + 1)), .int (bI (((fgL lst 3) z9).1)), .int (nI (((fgL lst 3) z9).2.1)), .int (nI (((fgL lst 3) z9).2.2.1)), .int (nI (((fgL lst 3) z9).2.2.2))]) := fun z9 hz9 => (k24 _ (by omega) (by omega)).trans (f6 z9 hz9)
        have f33 : ∀ z9, z9 < 3 → mem20 (97 + 4 * z9 + 1) = .inr (4, [.ref (b + (97 + 4 * z9 + 2)), .ref (b + (97 + 4 * z9 + 3)), .int (nI ((lrk z9).1)), .int (nI ((lrk z9).2))]) := fun z9 hz9 => (k24 _ (by omega) (by omega)).trans (f7 z9 hz9)
        have f34 : ∀ z9, z9 < 3 → mem20 (97 + 4 * z9 + 2) = aN Γ 20 (ldc z9) := fun z9 hz9 => (k24 _ (by omega) (by omega)).trans (f8 z9 hz9)
        have f35 : ∀ z9, z9 < 3 → mem20 (97 + 4 * z9 + 3) = aD Γ 20 (lsc z9) := fun z9 hz9 => (k24 _ (by omega) (by omega)).trans (f9 z9 hz9)
        have f36 : ∀ z9, z9 < 16 → mem20 (3 + z9) = aN Γ 12 ((va_up cn d (va_up (cn d) t (cn d t + 1))) z9) := by
          intro z9 hz9
          by_cases e9 : z9 = d
          · rw [e9, va_up_self]; exact f22
          · rw [va_up_ne _ _ e9]; exact (k24 _ (by omega) (by omega)).trans (f19 z9 hz9)
        exact mm_iret hx hb hr hlocks hE hh (rfl) (⟨f36, f23, f32, f33, f34, f35, f29, hfr25⟩) dX9_count_66
      ·
        exact absurd h3 (by omega)
    ·
      exact (no_tf (inR_y ht (by decide)) h2).elim
set_option maxHeartbeats 4000000 in
set_option maxRecDepth 100000 in
/-- weigh -/
theorem c_X9_weigh (l : Launch) (Γ : Gm) (b M : Nat) (mem : Nat → va_E) {nd : Nat} {d t : Nat} {x : UInt32} {wt : Nat → Nat → UInt32} {lf sf : Nat} {lst : Nat → Bool × Nat × Nat × Nat} {lrk : Nat → Nat × Nat} {ldc : Nat → Nat → Nat} {lsc : Nat → Nat → UInt64} (hM : 138 ≤ M) (fH : mem 0 = .inr (8, [.ref (b + 1), .ref (b + 72), .ref (b + 75), .ref (b + 78), .ref (b + 80), .ref (b + 91), .ref (b + 93), .ref (b + 96), .ref (b + 109)])) (fLo : mem 96 = aR Γ 5 3 (fun i => some (b + (97 + 4 * i)))) (fls : ∀ z9, z9 < 3 → mem (97 + 4 * z9) = .inr (2, [.ref (b + (97 + 4 * z9 + 1)), .int (bI ((lst z9).1)), .int (nI ((lst z9).2.1)), .int (nI ((lst z9).2.2.1)), .int (nI ((lst z9).2.2.2))])) (flr : ∀ z9, z9 < 3 → mem (97 + 4 * z9 + 1) = .inr (4, [.ref (b + (97 + 4 * z9 + 2)), .ref (b + (97 + 4 * z9 + 3)), .int (nI ((lrk z9).1)), .int (nI ((lrk z9).2))])) (fld : ∀ z9, z9 < 3 → mem (97 + 4 * z9 + 2) = aN Γ 20 (ldc z9)) (flc : ∀ z9, z9 < 3 → mem (97 + 4 * z9 + 3) = aD Γ 20 (lsc z9)) (fF : mem 109 = .inr (1, [.ref (b + 110), .ref (b + 113), .ref (b + 114)])) (fR0 : mem 110 = .inr (4, [.ref (b + 111), .ref (b + 112), .int (nI lf), .int (nI sf)])) (fC : mem 1 = .inr (0, [.ref (b + 2), .ref (b + 19), .ref (b + 20), .ref (b + 37), .ref (b + 38), .int (nI nd)])) (fWo : mem 20 = aR Γ 8 16 (fun i => some (b + (21 + i)))) (fwt : ∀ z9, z9 < 16 → mem (21 + z9) = aF Γ 12 (wt z9)) (hnd : nd ≤ 16) (hd : d < nd) (ht : t < 12) (hx1 : okF x = true) (hx2 : ¬ FP.fcmp x FP.fconst0 = some .lt) : Ct l yX9_weigh (.code yX9_weigh cX9_weigh 4 none) ({ frames := 5, cells := 0, slots := 0, locals := 97 } : Room) Γ b M [.ref (b + 0), .int (nI d), .int (nI t), .float x] mem (fun u => (∀ z9, z9 < 16 → u (21 + z9) = aF Γ 12 ((va_up wt d (va_up (wt d) t x)) z9)) ∧ (∀ z9, z9 < 3 → u (97 + 4 * z9) = .inr (2, [.ref (b + (97 + 4 * z9 + 1)), .int (bI (((fgL lst 3) z9).1)), .int (nI (((fgL lst 3) z9).2.1)), .int (nI (((fgL lst 3) z9).2.2.1)), .int (nI (((fgL lst 3) z9).2.2.2))])) ∧ (∀ z9, z9 < 3 → u (97 + 4 * z9 + 1) = .inr (4, [.ref (b + (97 + 4 * z9 + 2)), .ref (b + (97 + 4 * z9 + 3)), .int (nI ((lrk z9).1)), .int (nI ((lrk z9).2))])) ∧ (∀ z9, z9 < 3 → u (97 + 4 * z9 + 2) = aN Γ 20 (ldc z9)) ∧ (∀ z9, z9 < 3 → u (97 + 4 * z9 + 3) = aD Γ 20 (lsc z9)) ∧ u 110 = .inr (4, [.ref (b + 111), .ref (b + 112), .int (nI 0), .int (nI 0)]) ∧ ∀ j, ¬ (21 ≤ j ∧ j < 37) → ¬ (97 ≤ j ∧ j < 106) → ¬ (98 ≤ j ∧ j < 107) → ¬ (99 ≤ j ∧ j < 108) → ¬ (100 ≤ j ∧ j < 109) → j ≠ 110 → u j = mem j) none := by
  refine mm_enter (cc := cX9_weigh) (by decide) (Nat.le_of_ble_eq_true rfl) ?_
  intro p e s m args below meth c ls hx hb hml hown hr hlocks hname hE hh hl
  have hl : lv_has ls 4 [(0, .ref (b + 0)), (1, .int (nI d)), (2, .int (nI t)), (3, .float x)] := hl
  have hfr : ∀ j, ¬ (21 ≤ j ∧ j < 37) → ¬ (97 ≤ j ∧ j < 106) → ¬ (98 ≤ j ∧ j < 107) → ¬ (99 ≤ j ∧ j < 108) → ¬ (100 ≤ j ∧ j < 109) → j ≠ 110 → mem j = mem j := fun j _ _ _ _ _ _ => rfl
  refine lv_aload_n hx hb dX9_weigh_0 rfl (lv_at hl 0 rfl) ?_
  refine gf_X9_collection hx hb hE hown hh (by omega) fH rfl dX9_weigh_1 ?_
  refine lv_iload_n hx hb dX9_weigh_4 rfl (lv_at hl 1 rfl) ?_
  refine mm_V0r (As := [.int (nI d)]) (rest := []) hx hb hml hown hE hl.1 hh (kc_X9_90 hE.2.1 ⟨Nat.le_of_ble_eq_true rfl, Nat.le_of_ble_eq_true rfl⟩) (c_X0_holds l Γ b M mem (nd := nd) (d := (nI d)) (by omega) fC) rfl (by omega) fC rfl rfl (Nat.le_of_ble_eq_true rfl) dX9_weigh_5 rfl rfl (fun H locs hh => ?_)
  refine nn_beq (tgt := 18) hx hb dX9_weigh_8 (by decide) (fun h1 => ?_) (fun h1 => ?_)
  ·
    exact (no_tf (inR_y hd (by omega)) h1).elim
  ·
    refine lv_iload_n hx hb dX9_weigh_11 rfl (lv_at hl 2 rfl) ?_
    refine mm_S0r (As := [.int (nI t)]) (rest := []) hx hb hml hown hE hl.1 hh (kc_X9_94 hE.2.1 ⟨Nat.le_of_ble_eq_true rfl, Nat.le_of_ble_eq_true rfl⟩) (c_X9_isTerm l Γ b M mem (t := (nI t))) rfl rfl (Nat.le_of_ble_eq_true rfl) dX9_weigh_12 rfl rfl (fun H locs hh => ?_)
    refine nn_bne (tgt := 28) hx hb dX9_weigh_15 (by decide) (fun h2 => ?_) (fun h2 => ?_)
    ·
      refine lv_fload_n hx hb dX9_weigh_28 rfl (lv_at hl 3 rfl) ?_
      refine mm_S0r (As := [.float x]) (rest := []) hx hb hml hown hE hl.1 hh (kc_X9_111 hE.2.1 ⟨Nat.le_of_ble_eq_true rfl, Nat.le_of_ble_eq_true rfl⟩) (c_X9_isAllowed l Γ b M mem (x := x)) rfl rfl (Nat.le_of_ble_eq_true rfl) dX9_weigh_29 rfl rfl (fun H locs hh => ?_)
      refine nn_beq (tgt := 41) hx hb dX9_weigh_32 (by decide) (fun h3 => ?_) (fun h3 => ?_)
      ·
        exact (no_tf hx1 h3).elim
      ·
        refine lv_fload_n hx hb dX9_weigh_35 rfl (lv_at hl 3 rfl) ?_
        refine lv_fconst0 hx hb dX9_weigh_36 ?_
        refine lv_fcmp hx hb dX9_weigh_37 ?_
        refine nn_cg_ge (tgt := 51) hx hb dX9_weigh_38 (by decide) (fun h4 => ?_) (fun h4 => ?_)
        ·
          refine lv_aload_n hx hb dX9_weigh_51 rfl (lv_at hl 0 rfl) ?_
          refine mm_V0 (As := []) (rest := []) hx hb hml hown hE hl.1 hh (kc_X9_83 hE.2.1 ⟨Nat.le_of_ble_eq_true rfl, Nat.le_of_ble_eq_true rfl⟩) (c_X9_forgetAllLists l Γ b M mem (lf := lf) (sf := sf) (lst := lst) (lrk := lrk) (ldc := ldc) (lsc := lsc) (by omega) fH fLo fls flr fld flc fF fR0) rfl (by omega) fH rfl rfl (Nat.le_of_ble_eq_true rfl) dX9_weigh_52 rfl rfl (fun H locs mem5 hP6 hh => ?_)
          obtain ⟨f7, f8, f9, f10, f11, k12⟩ := hP6
          have hfr13 : ∀ j, ¬ (21 ≤ j ∧ j < 37) → ¬ (97 ≤ j ∧ j < 106) → ¬ (98 ≤ j ∧ j < 107) → ¬ (99 ≤ j ∧ j < 108) → ¬ (100 ≤ j ∧ j < 109) → j ≠ 110 → mem5 j = mem j := fun j c0 c1 c2 c3 c4 c5 => (k12 j (by omega) (by omega) (by omega) (by omega) (by omega)).trans (hfr j c0 c1 c2 c3 c4 c5)
          have f14 : mem5 0 = .inr (8, [.ref (b + 1), .ref (b + 72), .ref (b + 75), .ref (b + 78), .ref (b + 80), .ref (b + 91), .ref (b + 93), .ref (b + 96), .ref (b + 109)]) := (k12 _ (by omega) (by omega) (by omega) (by omega) (by omega)).trans fH
          have f15 : mem5 96 = aR Γ 5 3 (fun i => some (b + (97 + 4 * i))) := (k12 _ (by omega) (by omega) (by omega) (by omega) (by omega)).trans fLo
          have f16 : mem5 109 = .inr (1, [.ref (b + 110), .ref (b + 113), .ref (b + 114)]) := (k12 _ (by omega) (by omega) (by omega) (by omega) (by omega)).trans fF
          have f17 : mem5 1 = .inr (0, [.ref (b + 2), .ref (b + 19), .ref (b + 20), .ref (b + 37), .ref (b + 38), .int (nI nd)]) := (k12 _ (by omega) (by omega) (by omega) (by omega) (by omega)).trans fC
          have f18 : mem5 20 = aR Γ 8 16 (fun i => some (b + (21 + i))) := (k12 _ (by omega) (by omega) (by omega) (by omega) (by omega)).trans fWo
          have f19 : ∀ z9, z9 < 16 → mem5 (21 + z9) = aF Γ 12 (wt z9) := fun z9 hz9 => (k12 _ (by omega) (by omega) (by omega) (by omega) (by omega)).trans (fwt z9 hz9)
          refine lv_aload_n hx hb dX9_weigh_55 rfl (lv_at hl 0 rfl) ?_
          refine gf_X9_collection hx hb hE hown hh (by omega) f14 rfl dX9_weigh_56 ?_
          refine lv_iload_n hx hb dX9_weigh_59 rfl (lv_at hl 1 rfl) ?_
          refine lv_iload_n hx hb dX9_weigh_60 rfl (lv_at hl 2 rfl) ?_
          refine lv_fload_n hx hb dX9_weigh_61 rfl (lv_at hl 3 rfl) ?_
          refine mm_V0 (As := [.int (nI d), .int (nI t), .float x]) (rest := []) hx hb hml hown hE hl.1 hh (kc_X9_120 hE.2.1 ⟨Nat.le_of_ble_eq_true rfl, Nat.le_of_ble_eq_true rfl⟩) (c_X0_setWeight l Γ b M mem5 (nd := nd) (d := d) (t := t) (wt := wt) (x := x) (by omega) f17 f18 f19 (by omega) (by omega)) rfl (by omega) f17 rfl rfl (Nat.le_of_ble_eq_true rfl) dX9_weigh_62 rfl rfl (fun H locs mem20 hP21 hh => ?_)
          obtain ⟨f22, k23⟩ := hP21
          have hfr24 : ∀ j, ¬ (21 ≤ j ∧ j < 37) → ¬ (97 ≤ j ∧ j < 106) → ¬ (98 ≤ j ∧ j < 107) → ¬ (99 ≤ j ∧ j < 108) → ¬ (100 ≤ j ∧ j < 109) → j ≠ 110 → mem20 j = mem j := fun j c0 c1 c2 c3 c4 c5 => (k23 j (by omega)).trans (hfr13 j c0 c1 c2 c3 c4 c5)
          have f25 : mem20 0 = .inr (8, [.ref (b + 1), .ref (b + 72), .ref (b + 75), .ref (b + 78), .ref (b + 80), .ref (b + 91), .ref (b + 93), .ref (b + 96), .ref (b + 109)]) := (k23 _ (by omega)).trans f14
          have f26 : mem20 96 = aR Γ 5 3 (fun i => some (b + (97 + 4 * i))) := (k23 _ (by omega)).trans f15
          have f27 : mem20 109 = .inr (1, [.ref (b + 110), .ref (b + 113), .ref (b + 114)]) := (k23 _ (by omega)).trans f16
          have f28 : mem20 110 = .inr (4, [.ref (b + 111), .ref (b + 112), .int (nI 0), .int (nI 0)]) := (k23 _ (by omega)).trans f11
          have f29 : mem20 1 = .inr (0, [.ref (b + 2), .ref (b + 19), .ref (b + 20), .ref (b + 37), .ref (b + 38), .int (nI nd)]) := (k23 _ (by omega)).trans f17
          have f30 : mem20 20 = aR Γ 8 16 (fun i => some (b + (21 + i))) := (k23 _ (by omega)).trans f18
          have f31 : ∀ z9, z9 < 3 → mem20 (97 + 4 * z9) = .inr (2, [.ref (b + (97 + 4 * z9 + 1)), .int (bI (((fgL lst 3) z9).1)), .int (nI (((fgL lst 3) z9).2.1)), .int (nI (((fgL lst 3) z9).2.2.1)), .int (nI (((fgL lst 3) z9).2.2.2))]) := fun z9 hz9 => (k23 _ (by omega)).trans (f7 z9 hz9)
          have f32 : ∀ z9, z9 < 3 → mem20 (97 + 4 * z9 + 1) = .inr (4, [.ref (b + (97 + 4 * z9 + 2)), .ref (b + (97 + 4 * z9 + 3)), .int (nI ((lrk z9).1)), .int (nI ((lrk z9).2))]) := fun z9 hz9 => (k23 _ (by omega)).trans (f8 z9 hz9)
          have f33 : ∀ z9, z9 < 3 → mem20 (97 + 4 * z9 + 2) = aN Γ 20 (ldc z9) := fun z9 hz9 => (k23 _ (by omega)).trans (f9 z9 hz9)
          have f34 : ∀ z9, z9 < 3 → mem20 (97 + 4 * z9 + 3) = aD Γ 20 (lsc z9) := fun z9 hz9 => (k23 _ (by omega)).trans (f10 z9 hz9)
          have f35 : ∀ z9, z9 < 16 → mem20 (21 + z9) = aF Γ 12 ((va_up wt d (va_up (wt d) t x)) z9) := by
            intro z9 hz9
            by_cases e9 : z9 = d
            · rw [e9, va_up_self]; exact f22
            · rw [va_up_ne _ _ e9]; exact (k23 _ (by omega)).trans (f19 z9 hz9)
          exact mm_vret hx hb hr hlocks hE hh (⟨f35, f31, f32, f33, f34, f28, hfr24⟩) dX9_weigh_65
        ·
          exact absurd hx2 h4
    ·
      exact (no_tf (inR_y ht (by decide)) h2).elim
set_option maxHeartbeats 4000000 in
set_option maxRecDepth 100000 in
/-- token -/
theorem c_X9_token (l : Launch) (Γ : Gm) (b M : Nat) (mem : Nat → va_E) {nd : Nat} {d : Nat} {tz : Nat → Nat} {tf : Nat → Nat → UInt32} {v0 v1 v2 v3 : UInt32} {lf sf : Nat} {lst : Nat → Bool × Nat × Nat × Nat} {lrk : Nat → Nat × Nat} {ldc : Nat → Nat → Nat} {lsc : Nat → Nat → UInt64} (hM : 138 ≤ M) (fH : mem 0 = .inr (8, [.ref (b + 1), .ref (b + 72), .ref (b + 75), .ref (b + 78), .ref (b + 80), .ref (b + 91), .ref (b + 93), .ref (b + 96), .ref (b + 109)])) (fLo : mem 96 = aR Γ 5 3 (fun i => some (b + (97 + 4 * i)))) (fls : ∀ z9, z9 < 3 → mem (97 + 4 * z9) = .inr (2, [.ref (b + (97 + 4 * z9 + 1)), .int (bI ((lst z9).1)), .int (nI ((lst z9).2.1)), .int (nI ((lst z9).2.2.1)), .int (nI ((lst z9).2.2.2))])) (flr : ∀ z9, z9 < 3 → mem (97 + 4 * z9 + 1) = .inr (4, [.ref (b + (97 + 4 * z9 + 2)), .ref (b + (97 + 4 * z9 + 3)), .int (nI ((lrk z9).1)), .int (nI ((lrk z9).2))])) (fld : ∀ z9, z9 < 3 → mem (97 + 4 * z9 + 2) = aN Γ 20 (ldc z9)) (flc : ∀ z9, z9 < 3 → mem (97 + 4 * z9 + 3) = aD Γ 20 (lsc z9)) (fF : mem 109 = .inr (1, [.ref (b + 110), .ref (b + 113), .ref (b + 114)])) (fR0 : mem 110 = .inr (4, [.ref (b + 111), .ref (b + 112), .int (nI lf), .int (nI sf)])) (fC : mem 1 = .inr (0, [.ref (b + 2), .ref (b + 19), .ref (b + 20), .ref (b + 37), .ref (b + 38), .int (nI nd)])) (fTo : mem 37 = aR Γ 6 16 (fun i => some (b + (40 + 2 * i)))) (ftz : ∀ z9, z9 < 16 → mem (40 + 2 * z9) = .inr (6, [.ref (b + (40 + 2 * z9 + 1)), .int (nI 4), .int (nI (tz z9))])) (ftf : ∀ z9, z9 < 16 → mem (40 + 2 * z9 + 1) = aF Γ 16 (tf z9)) (hnd : nd ≤ 16) (hd : d < nd) (h4 : (okF v0 && okF v1 && okF v2 && okF v3) = true) (htd : tz d < 4) : Ct l yX9_token (.code yX9_token cX9_token 7 (some .int)) ({ frames := 5, cells := 0, slots := 0, locals := 97 } : Room) Γ b M [.ref (b + 0), .int (nI d), .float v0, .float v1, .float v2, .float v3] mem (fun u => (∀ z9, z9 < 16 → u (40 + 2 * z9) = .inr (6, [.ref (b + (40 + 2 * z9 + 1)), .int (nI 4), .int (nI ((va_up tz d (tz d + 1)) z9))])) ∧ (∀ z9, z9 < 16 → u (40 + 2 * z9 + 1) = aF Γ 16 ((va_up tf d (up4 (tf d) (tz d * 4) v0 v1 v2 v3)) z9)) ∧ (∀ z9, z9 < 3 → u (97 + 4 * z9) = .inr (2, [.ref (b + (97 + 4 * z9 + 1)), .int (bI (((fgL lst 3) z9).1)), .int (nI (((fgL lst 3) z9).2.1)), .int (nI (((fgL lst 3) z9).2.2.1)), .int (nI (((fgL lst 3) z9).2.2.2))])) ∧ (∀ z9, z9 < 3 → u (97 + 4 * z9 + 1) = .inr (4, [.ref (b + (97 + 4 * z9 + 2)), .ref (b + (97 + 4 * z9 + 3)), .int (nI ((lrk z9).1)), .int (nI ((lrk z9).2))])) ∧ (∀ z9, z9 < 3 → u (97 + 4 * z9 + 2) = aN Γ 20 (ldc z9)) ∧ (∀ z9, z9 < 3 → u (97 + 4 * z9 + 3) = aD Γ 20 (lsc z9)) ∧ u 110 = .inr (4, [.ref (b + 111), .ref (b + 112), .int (nI 0), .int (nI 0)]) ∧ ∀ j, ¬ (40 ≤ j ∧ j < 71) → ¬ (41 ≤ j ∧ j < 72) → ¬ (97 ≤ j ∧ j < 106) → ¬ (98 ≤ j ∧ j < 107) → ¬ (99 ≤ j ∧ j < 108) → ¬ (100 ≤ j ∧ j < 109) → j ≠ 110 → u j = mem j) (some (.int (nI (tz d)))) := by
  refine mm_enter (cc := cX9_token) (by decide) (Nat.le_of_ble_eq_true rfl) ?_
  intro p e s m args below meth c ls hx hb hml hown hr hlocks hname hE hh hl
  have hl : lv_has ls 7 [(0, .ref (b + 0)), (1, .int (nI d)), (2, .float v0), (3, .float v1), (4, .float v2), (5, .float v3)] := hl
  have hfr : ∀ j, ¬ (40 ≤ j ∧ j < 71) → ¬ (41 ≤ j ∧ j < 72) → ¬ (97 ≤ j ∧ j < 106) → ¬ (98 ≤ j ∧ j < 107) → ¬ (99 ≤ j ∧ j < 108) → ¬ (100 ≤ j ∧ j < 109) → j ≠ 110 → mem j = mem j := fun j _ _ _ _ _ _ _ => rfl
  refine lv_aload_n hx hb dX9_token_0 rfl (lv_at hl 0 rfl) ?_
  refine gf_X9_collection hx hb hE hown hh (by omega) fH rfl dX9_token_1 ?_
  refine lv_iload_n hx hb dX9_token_4 rfl (lv_at hl 1 rfl) ?_
  refine mm_V0r (As := [.int (nI d)]) (rest := []) hx hb hml hown hE hl.1 hh (kc_X9_90 hE.2.1 ⟨Nat.le_of_ble_eq_true rfl, Nat.le_of_ble_eq_true rfl⟩) (c_X0_holds l Γ b M mem (nd := nd) (d := (nI d)) (by omega) fC) rfl (by omega) fC rfl rfl (Nat.le_of_ble_eq_true rfl) dX9_token_5 rfl rfl (fun H locs hh => ?_)
  refine nn_bne (tgt := 21) hx hb dX9_token_8 (by decide) (fun h1 => ?_) (fun h1 => ?_)
  ·
    refine lv_fload_n hx hb dX9_token_21 rfl (lv_at hl 2 rfl) ?_
    refine lv_fload_n hx hb dX9_token_22 rfl (lv_at hl 3 rfl) ?_
    refine lv_fload hx hb dX9_token_23 (lv_at hl 4 rfl) ?_
    refine lv_fload hx hb dX9_token_25 (lv_at hl 5 rfl) ?_
    refine mm_S0r (As := [.float v0, .float v1, .float v2, .float v3]) (rest := []) hx hb hml hown hE hl.1 hh (kc_X9_126 hE.2.1 ⟨Nat.le_of_ble_eq_true rfl, Nat.le_of_ble_eq_true rfl⟩) (c_X9_areAllowed l Γ b M mem (v0 := v0) (v1 := v1) (v2 := v2) (v3 := v3)) rfl rfl (Nat.le_of_ble_eq_true rfl) dX9_token_27 rfl rfl (fun H locs hh => ?_)
    refine nn_bne (tgt := 43) hx hb dX9_token_30 (by decide) (fun h2 => ?_) (fun h2 => ?_)
    ·
      refine lv_aload_n hx hb dX9_token_43 rfl (lv_at hl 0 rfl) ?_
      refine gf_X9_collection hx hb hE hown hh (by omega) fH rfl dX9_token_44 ?_
      refine lv_iload_n hx hb dX9_token_47 rfl (lv_at hl 1 rfl) ?_
      refine mm_V0r (As := [.int (nI d)]) (rest := []) hx hb hml hown hE hl.1 hh (kc_X9_132 hE.2.1 ⟨Nat.le_of_ble_eq_true rfl, Nat.le_of_ble_eq_true rfl⟩) (c_X0_tokensOf l Γ b M mem (nd := nd) (d := d) (by omega) fC fTo (by omega)) rfl (by omega) fC rfl rfl (Nat.le_of_ble_eq_true rfl) dX9_token_48 rfl rfl (fun H locs hh => ?_)
      refine lv_astore (lv' := [(6, .ref (b + (40 + 2 * d))), (0, .ref (b + 0)), (1, .int (nI d)), (2, .float v0), (3, .float v1), (4, .float v2), (5, .float v3)]) hx hb dX9_token_51 hl (by decide) rfl (fun ls hl => ?_)
      refine lv_aload hx hb dX9_token_53 (lv_at hl 0 rfl) ?_
      refine mm_V0r (As := []) (rest := []) hx hb hml hown hE hl.1 hh (kc_X9_136 hE.2.1 ⟨Nat.le_of_ble_eq_true rfl, Nat.le_of_ble_eq_true rfl⟩) (c_X7_isFull l Γ b M mem (a := 40 + 2 * d) (lim := 4) (sz := tz d) (by omega) (ftz d (by omega)) (by omega) (by omega)) rfl (by omega) (ftz d (by omega)) rfl rfl (Nat.le_of_ble_eq_true rfl) dX9_token_55 rfl rfl (fun H locs hh => ?_)
      refine nn_beq (tgt := 71) hx hb dX9_token_58 (by decide) (fun h3 => ?_) (fun h3 => ?_)
      ·
        refine lv_aload_n hx hb dX9_token_71 rfl (lv_at hl 1 rfl) ?_
        refine mm_V0 (As := []) (rest := []) hx hb hml hown hE hl.1 hh (kc_X9_83 hE.2.1 ⟨Nat.le_of_ble_eq_true rfl, Nat.le_of_ble_eq_true rfl⟩) (c_X9_forgetAllLists l Γ b M mem (lf := lf) (sf := sf) (lst := lst) (lrk := lrk) (ldc := ldc) (lsc := lsc) (by omega) fH fLo fls flr fld flc fF fR0) rfl (by omega) fH rfl rfl (Nat.le_of_ble_eq_true rfl) dX9_token_72 rfl rfl (fun H locs mem4 hP5 hh => ?_)
        obtain ⟨f6, f7, f8, f9, f10, k11⟩ := hP5
        have hfr12 : ∀ j, ¬ (40 ≤ j ∧ j < 71) → ¬ (41 ≤ j ∧ j < 72) → ¬ (97 ≤ j ∧ j < 106) → ¬ (98 ≤ j ∧ j < 107) → ¬ (99 ≤ j ∧ j < 108) → ¬ (100 ≤ j ∧ j < 109) → j ≠ 110 → mem4 j = mem j := fun j c0 c1 c2 c3 c4 c5 c6 => (k11 j (by omega) (by omega) (by omega) (by omega) (by omega)).trans (hfr j c0 c1 c2 c3 c4 c5 c6)
        have f13 : mem4 0 = .inr (8, [.ref (b + 1), .ref (b + 72), .ref (b + 75), .ref (b + 78), .ref (b + 80), .ref (b + 91), .ref (b + 93), .ref (b + 96), .ref (b + 109)]) := (k11 _ (by omega) (by omega) (by omega) (by omega) (by omega)).trans fH
        have f14 : mem4 96 = aR Γ 5 3 (fun i => some (b + (97 + 4 * i))) := (k11 _ (by omega) (by omega) (by omega) (by omega) (by omega)).trans fLo
        have f15 : mem4 109 = .inr (1, [.ref (b + 110), .ref (b + 113), .ref (b + 114)]) := (k11 _ (by omega) (by omega) (by omega) (by omega) (by omega)).trans fF
        have f16 : mem4 1 = .inr (0, [.ref (b + 2), .ref (b + 19), .ref (b + 20), .ref (b + 37), .ref (b + 38), .int (nI nd)]) := (k11 _ (by omega) (by omega) (by omega) (by omega) (by omega)).trans fC
        have f17 : mem4 37 = aR Γ 6 16 (fun i => some (b + (40 + 2 * i))) := (k11 _ (by omega) (by omega) (by omega) (by omega) (by omega)).trans fTo
        have f18 : ∀ z9, z9 < 16 → mem4 (40 + 2 * z9) = .inr (6, [.ref (b + (40 + 2 * z9 + 1)), .int (nI 4), .int (nI (tz z9))]) := fun z9 hz9 => (k11 _ (by omega) (by omega) (by omega) (by omega) (by omega)).trans (ftz z9 hz9)
        have f19 : ∀ z9, z9 < 16 → mem4 (40 + 2 * z9 + 1) = aF Γ 16 (tf z9) := fun z9 hz9 => (k11 _ (by omega) (by omega) (by omega) (by omega) (by omega)).trans (ftf z9 hz9)
        refine lv_aload hx hb dX9_token_75 (lv_at hl 0 rfl) ?_
        refine lv_fload_n hx hb dX9_token_77 rfl (lv_at hl 3 rfl) ?_
        refine lv_fload_n hx hb dX9_token_78 rfl (lv_at hl 4 rfl) ?_
        refine lv_fload hx hb dX9_token_79 (lv_at hl 5 rfl) ?_
        refine lv_fload hx hb dX9_token_81 (lv_at hl 6 rfl) ?_
        refine mm_V0 (As := [.float v0, .float v1, .float v2, .float v3]) (rest := []) hx hb hml hown hE hl.1 hh (kc_X9_139 hE.2.1 ⟨Nat.le_of_ble_eq_true rfl, Nat.le_of_ble_eq_true rfl⟩) (c_X7_add l Γ b M mem4 (a := 40 + 2 * d) (lim := 4) (sz := tz d) (L := 16) (f := tf d) (v0 := v0) (v1 := v1) (v2 := v2) (v3 := v3) (by omega) (f18 d (by omega)) (by omega) (by omega) (f19 d (by omega)) (by omega)) rfl (by omega) (f18 d (by omega)) rfl rfl (Nat.le_of_ble_eq_true rfl) dX9_token_83 rfl rfl (fun H locs mem20 hP21 hh => ?_)
        obtain ⟨f22, f23, k24⟩ := hP21
        have hfr25 : ∀ j, ¬ (40 ≤ j ∧ j < 71) → ¬ (41 ≤ j ∧ j < 72) → ¬ (97 ≤ j ∧ j < 106) → ¬ (98 ≤ j ∧ j < 107) → ¬ (99 ≤ j ∧ j < 108) → ¬ (100 ≤ j ∧ j < 109) → j ≠ 110 → mem20 j = mem j := fun j c0 c1 c2 c3 c4 c5 c6 => (k24 j (by omega) (by omega)).trans (hfr12 j c0 c1 c2 c3 c4 c5 c6)
        have f26 : mem20 0 = .inr (8, [.ref (b + 1), .ref (b + 72), .ref (b + 75), .ref (b + 78), .ref (b + 80), .ref (b + 91), .ref (b + 93), .ref (b + 96), .ref (b + 109)]) := (k24 _ (by omega) (by omega)).trans f13
        have f27 : mem20 96 = aR Γ 5 3 (fun i => some (b + (97 + 4 * i))) := (k24 _ (by omega) (by omega)).trans f14
        have f28 : mem20 109 = .inr (1, [.ref (b + 110), .ref (b + 113), .ref (b + 114)]) := (k24 _ (by omega) (by omega)).trans f15
        have f29 : mem20 110 = .inr (4, [.ref (b + 111), .ref (b + 112), .int (nI 0), .int (nI 0)]) := (k24 _ (by omega) (by omega)).trans f10
        have f30 : mem20 1 = .inr (0, [.ref (b + 2), .ref (b + 19), .ref (b + 20), .ref (b + 37), .ref (b + 38), .int (nI nd)]) := (k24 _ (by omega) (by omega)).trans f16
        have f31 : mem20 37 = aR Γ 6 16 (fun i => some (b + (40 + 2 * i))) := (k24 _ (by omega) (by omega)).trans f17
        have f32 : ∀ z9, z9 < 3 → mem20 (97 + 4 * z9) = .inr (2, [.ref (b + (97 + 4 * z9 + 1)), .int (bI (((fgL lst 3) z9).1)), .int (nI (((fgL lst 3) z9).2.1)), .int (nI (((fgL lst 3) z9).2.2.1)), .int (nI (((fgL lst 3) z9).2.2.2))]) := fun z9 hz9 => (k24 _ (by omega) (by omega)).trans (f6 z9 hz9)
        have f33 : ∀ z9, z9 < 3 → mem20 (97 + 4 * z9 + 1) = .inr (4, [.ref (b + (97 + 4 * z9 + 2)), .ref (b + (97 + 4 * z9 + 3)), .int (nI ((lrk z9).1)), .int (nI ((lrk z9).2))]) := fun z9 hz9 => (k24 _ (by omega) (by omega)).trans (f7 z9 hz9)
        have f34 : ∀ z9, z9 < 3 → mem20 (97 + 4 * z9 + 2) = aN Γ 20 (ldc z9) := fun z9 hz9 => (k24 _ (by omega) (by omega)).trans (f8 z9 hz9)
        have f35 : ∀ z9, z9 < 3 → mem20 (97 + 4 * z9 + 3) = aD Γ 20 (lsc z9) := fun z9 hz9 => (k24 _ (by omega) (by omega)).trans (f9 z9 hz9)
        have f36 : ∀ z9, z9 < 16 → mem20 (40 + 2 * z9) = .inr (6, [.ref (b + (40 + 2 * z9 + 1)), .int (nI 4), .int (nI ((va_up tz d ((tz d) + 1)) z9))]) := by
          intro z9 hz9
          by_cases e9 : z9 = d
          · rw [e9, va_up_self]; exact f22
          · rw [va_up_ne _ _ e9]; exact (k24 _ (by omega) (by omega)).trans (f18 z9 hz9)
        have f37 : ∀ z9, z9 < 16 → mem20 (40 + 2 * z9 + 1) = aF Γ 16 ((va_up tf d (va_up (va_up (va_up (va_up (tf d) ((tz d) * 4) v0) ((tz d) * 4 + 1) v1) ((tz d) * 4 + 2) v2) ((tz d) * 4 + 3) v3)) z9) := by
          intro z9 hz9
          by_cases e9 : z9 = d
          · rw [e9, va_up_self]; exact f23
          · rw [va_up_ne _ _ e9]; exact (k24 _ (by omega) (by omega)).trans (f19 z9 hz9)
        refine lv_iconst (v := (nI 1)) hx hb dX9_token_86 (by decide) ?_
        refine nn_isub hx hb (by omega) dX9_token_87 ?_
        exact mm_iret hx hb hr hlocks hE hh (rfl) (⟨f36, f37, f32, f33, f34, f35, f29, hfr25⟩) dX9_token_88
      ·
        exact absurd (of_decide_eq_true h3) (by omega)
    ·
      exact (no_tf h4 h2).elim
  ·
    exact (no_tf (inR_y hd (by omega)) h1).elim
set_option maxHeartbeats 4000000 in
set_option maxRecDepth 100000 in
/-- centroid -/
theorem c_X9_centroid (l : Launch) (Γ : Gm) (b M : Nat) (mem : Nat → va_E) {nd : Nat} {cz : Nat} {cf : Nat → UInt32} {v0 v1 v2 v3 : UInt32} {lf sf : Nat} {lst : Nat → Bool × Nat × Nat × Nat} {lrk : Nat → Nat × Nat} {ldc : Nat → Nat → Nat} {lsc : Nat → Nat → UInt64} (hM : 138 ≤ M) (fH : mem 0 = .inr (8, [.ref (b + 1), .ref (b + 72), .ref (b + 75), .ref (b + 78), .ref (b + 80), .ref (b + 91), .ref (b + 93), .ref (b + 96), .ref (b + 109)])) (fLo : mem 96 = aR Γ 5 3 (fun i => some (b + (97 + 4 * i)))) (fls : ∀ z9, z9 < 3 → mem (97 + 4 * z9) = .inr (2, [.ref (b + (97 + 4 * z9 + 1)), .int (bI ((lst z9).1)), .int (nI ((lst z9).2.1)), .int (nI ((lst z9).2.2.1)), .int (nI ((lst z9).2.2.2))])) (flr : ∀ z9, z9 < 3 → mem (97 + 4 * z9 + 1) = .inr (4, [.ref (b + (97 + 4 * z9 + 2)), .ref (b + (97 + 4 * z9 + 3)), .int (nI ((lrk z9).1)), .int (nI ((lrk z9).2))])) (fld : ∀ z9, z9 < 3 → mem (97 + 4 * z9 + 2) = aN Γ 20 (ldc z9)) (flc : ∀ z9, z9 < 3 → mem (97 + 4 * z9 + 3) = aD Γ 20 (lsc z9)) (fF : mem 109 = .inr (1, [.ref (b + 110), .ref (b + 113), .ref (b + 114)])) (fR0 : mem 110 = .inr (4, [.ref (b + 111), .ref (b + 112), .int (nI lf), .int (nI sf)])) (fC : mem 1 = .inr (0, [.ref (b + 2), .ref (b + 19), .ref (b + 20), .ref (b + 37), .ref (b + 38), .int (nI nd)])) (fZ : mem 38 = .inr (6, [.ref (b + 39), .int (nI 4), .int (nI cz)])) (fZf : mem 39 = aF Γ 16 cf) (h4 : (okF v0 && okF v1 && okF v2 && okF v3) = true) (hcz : cz < 4) : Ct l yX9_centroid (.code yX9_centroid cX9_centroid 5 (some .int)) ({ frames := 5, cells := 0, slots := 0, locals := 97 } : Room) Γ b M [.ref (b + 0), .float v0, .float v1, .float v2, .float v3] mem (fun u => u 38 = .inr (6, [.ref (b + 39), .int (nI 4), .int (nI (cz + 1))]) ∧ u 39 = aF Γ 16 (up4 cf (cz * 4) v0 v1 v2 v3) ∧ (∀ z9, z9 < 3 → u (97 + 4 * z9) = .inr (2, [.ref (b + (97 + 4 * z9 + 1)), .int (bI (((fgL lst 3) z9).1)), .int (nI (((fgL lst 3) z9).2.1)), .int (nI (((fgL lst 3) z9).2.2.1)), .int (nI (((fgL lst 3) z9).2.2.2))])) ∧ (∀ z9, z9 < 3 → u (97 + 4 * z9 + 1) = .inr (4, [.ref (b + (97 + 4 * z9 + 2)), .ref (b + (97 + 4 * z9 + 3)), .int (nI ((lrk z9).1)), .int (nI ((lrk z9).2))])) ∧ (∀ z9, z9 < 3 → u (97 + 4 * z9 + 2) = aN Γ 20 (ldc z9)) ∧ (∀ z9, z9 < 3 → u (97 + 4 * z9 + 3) = aD Γ 20 (lsc z9)) ∧ u 110 = .inr (4, [.ref (b + 111), .ref (b + 112), .int (nI 0), .int (nI 0)]) ∧ ∀ j, j ≠ 38 → j ≠ 39 → ¬ (97 ≤ j ∧ j < 106) → ¬ (98 ≤ j ∧ j < 107) → ¬ (99 ≤ j ∧ j < 108) → ¬ (100 ≤ j ∧ j < 109) → j ≠ 110 → u j = mem j) (some (.int (nI cz))) := by
  refine mm_enter (cc := cX9_centroid) (by decide) (Nat.le_of_ble_eq_true rfl) ?_
  intro p e s m args below meth c ls hx hb hml hown hr hlocks hname hE hh hl
  have hl : lv_has ls 5 [(0, .ref (b + 0)), (1, .float v0), (2, .float v1), (3, .float v2), (4, .float v3)] := hl
  have hfr : ∀ j, j ≠ 38 → j ≠ 39 → ¬ (97 ≤ j ∧ j < 106) → ¬ (98 ≤ j ∧ j < 107) → ¬ (99 ≤ j ∧ j < 108) → ¬ (100 ≤ j ∧ j < 109) → j ≠ 110 → mem j = mem j := fun j _ _ _ _ _ _ _ => rfl
  refine lv_fload_n hx hb dX9_centroid_0 rfl (lv_at hl 1 rfl) ?_
  refine lv_fload_n hx hb dX9_centroid_1 rfl (lv_at hl 2 rfl) ?_
  refine lv_fload_n hx hb dX9_centroid_2 rfl (lv_at hl 3 rfl) ?_
  refine lv_fload hx hb dX9_centroid_3 (lv_at hl 4 rfl) ?_
  refine mm_S0r (As := [.float v0, .float v1, .float v2, .float v3]) (rest := []) hx hb hml hown hE hl.1 hh (kc_X9_126 hE.2.1 ⟨Nat.le_of_ble_eq_true rfl, Nat.le_of_ble_eq_true rfl⟩) (c_X9_areAllowed l Γ b M mem (v0 := v0) (v1 := v1) (v2 := v2) (v3 := v3)) rfl rfl (Nat.le_of_ble_eq_true rfl) dX9_centroid_5 rfl rfl (fun H locs hh => ?_)
  refine nn_bne (tgt := 21) hx hb dX9_centroid_8 (by decide) (fun h1 => ?_) (fun h1 => ?_)
  ·
    refine lv_aload_n hx hb dX9_centroid_21 rfl (lv_at hl 0 rfl) ?_
    refine gf_X9_collection hx hb hE hown hh (by omega) fH rfl dX9_centroid_22 ?_
    refine mm_V0r (As := []) (rest := []) hx hb hml hown hE hl.1 hh (kc_X9_143 hE.2.1 ⟨Nat.le_of_ble_eq_true rfl, Nat.le_of_ble_eq_true rfl⟩) (c_X0_centroidRow l Γ b M mem (nd := nd) (by omega) fC) rfl (by omega) fC rfl rfl (Nat.le_of_ble_eq_true rfl) dX9_centroid_25 rfl rfl (fun H locs hh => ?_)
    refine mm_V0r (As := []) (rest := []) hx hb hml hown hE hl.1 hh (kc_X9_136 hE.2.1 ⟨Nat.le_of_ble_eq_true rfl, Nat.le_of_ble_eq_true rfl⟩) (c_X7_isFull l Γ b M mem (a := 38) (lim := 4) (sz := cz) (by omega) fZ (by omega) (by omega)) rfl (by omega) fZ rfl rfl (Nat.le_of_ble_eq_true rfl) dX9_centroid_28 rfl rfl (fun H locs hh => ?_)
    refine nn_beq (tgt := 44) hx hb dX9_centroid_31 (by decide) (fun h2 => ?_) (fun h2 => ?_)
    ·
      refine lv_aload_n hx hb dX9_centroid_44 rfl (lv_at hl 0 rfl) ?_
      refine mm_V0 (As := []) (rest := []) hx hb hml hown hE hl.1 hh (kc_X9_83 hE.2.1 ⟨Nat.le_of_ble_eq_true rfl, Nat.le_of_ble_eq_true rfl⟩) (c_X9_forgetAllLists l Γ b M mem (lf := lf) (sf := sf) (lst := lst) (lrk := lrk) (ldc := ldc) (lsc := lsc) (by omega) fH fLo fls flr fld flc fF fR0) rfl (by omega) fH rfl rfl (Nat.le_of_ble_eq_true rfl) dX9_centroid_45 rfl rfl (fun H locs mem3 hP4 hh => ?_)
      obtain ⟨f5, f6, f7, f8, f9, k10⟩ := hP4
      have hfr11 : ∀ j, j ≠ 38 → j ≠ 39 → ¬ (97 ≤ j ∧ j < 106) → ¬ (98 ≤ j ∧ j < 107) → ¬ (99 ≤ j ∧ j < 108) → ¬ (100 ≤ j ∧ j < 109) → j ≠ 110 → mem3 j = mem j := fun j c0 c1 c2 c3 c4 c5 c6 => (k10 j (by omega) (by omega) (by omega) (by omega) (by omega)).trans (hfr j c0 c1 c2 c3 c4 c5 c6)
      have f12 : mem3 0 = .inr (8, [.ref (b + 1), .ref (b + 72), .ref (b + 75), .ref (b + 78), .ref (b + 80), .ref (b + 91), .ref (b + 93), .ref (b + 96), .ref (b + 109)]) := (k10 _ (by omega) (by omega) (by omega) (by omega) (by omega)).trans fH
      have f13 : mem3 96 = aR Γ 5 3 (fun i => some (b + (97 + 4 * i))) := (k10 _ (by omega) (by omega) (by omega) (by omega) (by omega)).trans fLo
      have f14 : mem3 109 = .inr (1, [.ref (b + 110), .ref (b + 113), .ref (b + 114)]) := (k10 _ (by omega) (by omega) (by omega) (by omega) (by omega)).trans fF
      have f15 : mem3 1 = .inr (0, [.ref (b + 2), .ref (b + 19), .ref (b + 20), .ref (b + 37), .ref (b + 38), .int (nI nd)]) := (k10 _ (by omega) (by omega) (by omega) (by omega) (by omega)).trans fC
      have f16 : mem3 38 = .inr (6, [.ref (b + 39), .int (nI 4), .int (nI cz)]) := (k10 _ (by omega) (by omega) (by omega) (by omega) (by omega)).trans fZ
      have f17 : mem3 39 = aF Γ 16 cf := (k10 _ (by omega) (by omega) (by omega) (by omega) (by omega)).trans fZf
      refine lv_aload_n hx hb dX9_centroid_48 rfl (lv_at hl 0 rfl) ?_
      refine gf_X9_collection hx hb hE hown hh (by omega) f12 rfl dX9_centroid_49 ?_
      refine mm_V0r (As := []) (rest := []) hx hb hml hown hE hl.1 hh (kc_X9_143 hE.2.1 ⟨Nat.le_of_ble_eq_true rfl, Nat.le_of_ble_eq_true rfl⟩) (c_X0_centroidRow l Γ b M mem3 (nd := nd) (by omega) f15) rfl (by omega) f15 rfl rfl (Nat.le_of_ble_eq_true rfl) dX9_centroid_52 rfl rfl (fun H locs hh => ?_)
      refine lv_fload_n hx hb dX9_centroid_55 rfl (lv_at hl 1 rfl) ?_
      refine lv_fload_n hx hb dX9_centroid_56 rfl (lv_at hl 2 rfl) ?_
      refine lv_fload_n hx hb dX9_centroid_57 rfl (lv_at hl 3 rfl) ?_
      refine lv_fload hx hb dX9_centroid_58 (lv_at hl 4 rfl) ?_
      refine mm_V0 (As := [.float v0, .float v1, .float v2, .float v3]) (rest := []) hx hb hml hown hE hl.1 hh (kc_X9_139 hE.2.1 ⟨Nat.le_of_ble_eq_true rfl, Nat.le_of_ble_eq_true rfl⟩) (c_X7_add l Γ b M mem3 (a := 38) (lim := 4) (sz := cz) (L := 16) (f := cf) (v0 := v0) (v1 := v1) (v2 := v2) (v3 := v3) (by omega) f16 (by omega) (by omega) f17 (by omega)) rfl (by omega) f16 rfl rfl (Nat.le_of_ble_eq_true rfl) dX9_centroid_60 rfl rfl (fun H locs mem18 hP19 hh => ?_)
      obtain ⟨f20, f21, k22⟩ := hP19
      have hfr23 : ∀ j, j ≠ 38 → j ≠ 39 → ¬ (97 ≤ j ∧ j < 106) → ¬ (98 ≤ j ∧ j < 107) → ¬ (99 ≤ j ∧ j < 108) → ¬ (100 ≤ j ∧ j < 109) → j ≠ 110 → mem18 j = mem j := fun j c0 c1 c2 c3 c4 c5 c6 => (k22 j (by omega) (by omega)).trans (hfr11 j c0 c1 c2 c3 c4 c5 c6)
      have f24 : mem18 0 = .inr (8, [.ref (b + 1), .ref (b + 72), .ref (b + 75), .ref (b + 78), .ref (b + 80), .ref (b + 91), .ref (b + 93), .ref (b + 96), .ref (b + 109)]) := (k22 _ (by omega) (by omega)).trans f12
      have f25 : mem18 96 = aR Γ 5 3 (fun i => some (b + (97 + 4 * i))) := (k22 _ (by omega) (by omega)).trans f13
      have f26 : mem18 109 = .inr (1, [.ref (b + 110), .ref (b + 113), .ref (b + 114)]) := (k22 _ (by omega) (by omega)).trans f14
      have f27 : mem18 110 = .inr (4, [.ref (b + 111), .ref (b + 112), .int (nI 0), .int (nI 0)]) := (k22 _ (by omega) (by omega)).trans f9
      have f28 : mem18 1 = .inr (0, [.ref (b + 2), .ref (b + 19), .ref (b + 20), .ref (b + 37), .ref (b + 38), .int (nI nd)]) := (k22 _ (by omega) (by omega)).trans f15
      have f29 : ∀ z9, z9 < 3 → mem18 (97 + 4 * z9) = .inr (2, [.ref (b + (97 + 4 * z9 + 1)), .int (bI (((fgL lst 3) z9).1)), .int (nI (((fgL lst 3) z9).2.1)), .int (nI (((fgL lst 3) z9).2.2.1)), .int (nI (((fgL lst 3) z9).2.2.2))]) := fun z9 hz9 => (k22 _ (by omega) (by omega)).trans (f5 z9 hz9)
      have f30 : ∀ z9, z9 < 3 → mem18 (97 + 4 * z9 + 1) = .inr (4, [.ref (b + (97 + 4 * z9 + 2)), .ref (b + (97 + 4 * z9 + 3)), .int (nI ((lrk z9).1)), .int (nI ((lrk z9).2))]) := fun z9 hz9 => (k22 _ (by omega) (by omega)).trans (f6 z9 hz9)
      have f31 : ∀ z9, z9 < 3 → mem18 (97 + 4 * z9 + 2) = aN Γ 20 (ldc z9) := fun z9 hz9 => (k22 _ (by omega) (by omega)).trans (f7 z9 hz9)
      have f32 : ∀ z9, z9 < 3 → mem18 (97 + 4 * z9 + 3) = aD Γ 20 (lsc z9) := fun z9 hz9 => (k22 _ (by omega) (by omega)).trans (f8 z9 hz9)
      refine lv_iconst (v := (nI 1)) hx hb dX9_centroid_63 (by decide) ?_
      refine nn_isub hx hb (by omega) dX9_centroid_64 ?_
      exact mm_iret hx hb hr hlocks hE hh (rfl) (⟨f20, f21, f29, f30, f31, f32, f27, hfr23⟩) dX9_centroid_65
    ·
      exact absurd (of_decide_eq_true h2) (by omega)
  ·
    exact (no_tf h4 h1).elim
set_option maxHeartbeats 4000000 in
set_option maxRecDepth 100000 in
/-- clear -/
theorem c_X9_clear (l : Launch) (Γ : Gm) (b M : Nat) (mem : Nat → va_E) {wz iz vz : Nat} {lf sf : Nat} {lst : Nat → Bool × Nat × Nat × Nat} {lrk : Nat → Nat × Nat} {ldc : Nat → Nat → Nat} {lsc : Nat → Nat → UInt64} (hM : 138 ≤ M) (fH : mem 0 = .inr (8, [.ref (b + 1), .ref (b + 72), .ref (b + 75), .ref (b + 78), .ref (b + 80), .ref (b + 91), .ref (b + 93), .ref (b + 96), .ref (b + 109)])) (fLo : mem 96 = aR Γ 5 3 (fun i => some (b + (97 + 4 * i)))) (fls : ∀ z9, z9 < 3 → mem (97 + 4 * z9) = .inr (2, [.ref (b + (97 + 4 * z9 + 1)), .int (bI ((lst z9).1)), .int (nI ((lst z9).2.1)), .int (nI ((lst z9).2.2.1)), .int (nI ((lst z9).2.2.2))])) (flr : ∀ z9, z9 < 3 → mem (97 + 4 * z9 + 1) = .inr (4, [.ref (b + (97 + 4 * z9 + 2)), .ref (b + (97 + 4 * z9 + 3)), .int (nI ((lrk z9).1)), .int (nI ((lrk z9).2))])) (fld : ∀ z9, z9 < 3 → mem (97 + 4 * z9 + 2) = aN Γ 20 (ldc z9)) (flc : ∀ z9, z9 < 3 → mem (97 + 4 * z9 + 3) = aD Γ 20 (lsc z9)) (fF : mem 109 = .inr (1, [.ref (b + 110), .ref (b + 113), .ref (b + 114)])) (fR0 : mem 110 = .inr (4, [.ref (b + 111), .ref (b + 112), .int (nI lf), .int (nI sf)])) (fW : mem 72 = .inr (5, [.ref (b + 73), .ref (b + 74), .int (nI wz)])) (fI : mem 75 = .inr (5, [.ref (b + 76), .ref (b + 77), .int (nI iz)])) (fV : mem 78 = .inr (6, [.ref (b + 79), .int (nI 3), .int (nI vz)])) : Ct l yX9_clear (.code yX9_clear cX9_clear 1 none) ({ frames := 5, cells := 0, slots := 0, locals := 97 } : Room) Γ b M [.ref (b + 0)] mem (fun u => u 72 = .inr (5, [.ref (b + 73), .ref (b + 74), .int (nI 0)]) ∧ u 75 = .inr (5, [.ref (b + 76), .ref (b + 77), .int (nI 0)]) ∧ u 78 = .inr (6, [.ref (b + 79), .int (nI 3), .int (nI 0)]) ∧ (∀ z9, z9 < 3 → u (97 + 4 * z9) = .inr (2, [.ref (b + (97 + 4 * z9 + 1)), .int (bI (((fgL lst 3) z9).1)), .int (nI (((fgL lst 3) z9).2.1)), .int (nI (((fgL lst 3) z9).2.2.1)), .int (nI (((fgL lst 3) z9).2.2.2))])) ∧ (∀ z9, z9 < 3 → u (97 + 4 * z9 + 1) = .inr (4, [.ref (b + (97 + 4 * z9 + 2)), .ref (b + (97 + 4 * z9 + 3)), .int (nI ((lrk z9).1)), .int (nI ((lrk z9).2))])) ∧ (∀ z9, z9 < 3 → u (97 + 4 * z9 + 2) = aN Γ 20 (ldc z9)) ∧ (∀ z9, z9 < 3 → u (97 + 4 * z9 + 3) = aD Γ 20 (lsc z9)) ∧ u 110 = .inr (4, [.ref (b + 111), .ref (b + 112), .int (nI 0), .int (nI 0)]) ∧ ∀ j, j ≠ 72 → j ≠ 75 → j ≠ 78 → ¬ (97 ≤ j ∧ j < 106) → ¬ (98 ≤ j ∧ j < 107) → ¬ (99 ≤ j ∧ j < 108) → ¬ (100 ≤ j ∧ j < 109) → j ≠ 110 → u j = mem j) none := by
  refine mm_enter (cc := cX9_clear) (by decide) (Nat.le_of_ble_eq_true rfl) ?_
  intro p e s m args below meth c ls hx hb hml hown hr hlocks hname hE hh hl
  have hl : lv_has ls 1 [(0, .ref (b + 0))] := hl
  have hfr : ∀ j, j ≠ 72 → j ≠ 75 → j ≠ 78 → ¬ (97 ≤ j ∧ j < 106) → ¬ (98 ≤ j ∧ j < 107) → ¬ (99 ≤ j ∧ j < 108) → ¬ (100 ≤ j ∧ j < 109) → j ≠ 110 → mem j = mem j := fun j _ _ _ _ _ _ _ _ => rfl
  refine lv_aload_n hx hb dX9_clear_0 rfl (lv_at hl 0 rfl) ?_
  refine gf_X9_words hx hb hE hown hh (by omega) fH rfl dX9_clear_1 ?_
  refine mm_V0 (As := []) (rest := []) hx hb hml hown hE hl.1 hh (kc_X9_149 hE.2.1 ⟨Nat.le_of_ble_eq_true rfl, Nat.le_of_ble_eq_true rfl⟩) (c_X6_empty l Γ b M mem (a := 72) (sz := wz) (by omega) fW) rfl (by omega) fW rfl rfl (Nat.le_of_ble_eq_true rfl) dX9_clear_4 rfl rfl (fun H locs mem1 hP2 hh => ?_)
  obtain ⟨f3, k4⟩ := hP2
  have hfr5 : ∀ j, j ≠ 72 → j ≠ 75 → j ≠ 78 → ¬ (97 ≤ j ∧ j < 106) → ¬ (98 ≤ j ∧ j < 107) → ¬ (99 ≤ j ∧ j < 108) → ¬ (100 ≤ j ∧ j < 109) → j ≠ 110 → mem1 j = mem j := fun j c0 c1 c2 c3 c4 c5 c6 c7 => (k4 j (by omega)).trans (hfr j c0 c1 c2 c3 c4 c5 c6 c7)
  have f6 : mem1 0 = .inr (8, [.ref (b + 1), .ref (b + 72), .ref (b + 75), .ref (b + 78), .ref (b + 80), .ref (b + 91), .ref (b + 93), .ref (b + 96), .ref (b + 109)]) := (k4 _ (by omega)).trans fH
  have f7 : mem1 96 = aR Γ 5 3 (fun i => some (b + (97 + 4 * i))) := (k4 _ (by omega)).trans fLo
  have f8 : mem1 109 = .inr (1, [.ref (b + 110), .ref (b + 113), .ref (b + 114)]) := (k4 _ (by omega)).trans fF
  have f9 : mem1 110 = .inr (4, [.ref (b + 111), .ref (b + 112), .int (nI lf), .int (nI sf)]) := (k4 _ (by omega)).trans fR0
  have f10 : mem1 75 = .inr (5, [.ref (b + 76), .ref (b + 77), .int (nI iz)]) := (k4 _ (by omega)).trans fI
  have f11 : mem1 78 = .inr (6, [.ref (b + 79), .int (nI 3), .int (nI vz)]) := (k4 _ (by omega)).trans fV
  have f12 : ∀ z9, z9 < 3 → mem1 (97 + 4 * z9) = .inr (2, [.ref (b + (97 + 4 * z9 + 1)), .int (bI ((lst z9).1)), .int (nI ((lst z9).2.1)), .int (nI ((lst z9).2.2.1)), .int (nI ((lst z9).2.2.2))]) := fun z9 hz9 => (k4 _ (by omega)).trans (fls z9 hz9)
  have f13 : ∀ z9, z9 < 3 → mem1 (97 + 4 * z9 + 1) = .inr (4, [.ref (b + (97 + 4 * z9 + 2)), .ref (b + (97 + 4 * z9 + 3)), .int (nI ((lrk z9).1)), .int (nI ((lrk z9).2))]) := fun z9 hz9 => (k4 _ (by omega)).trans (flr z9 hz9)
  have f14 : ∀ z9, z9 < 3 → mem1 (97 + 4 * z9 + 2) = aN Γ 20 (ldc z9) := fun z9 hz9 => (k4 _ (by omega)).trans (fld z9 hz9)
  have f15 : ∀ z9, z9 < 3 → mem1 (97 + 4 * z9 + 3) = aD Γ 20 (lsc z9) := fun z9 hz9 => (k4 _ (by omega)).trans (flc z9 hz9)
  refine lv_aload_n hx hb dX9_clear_7 rfl (lv_at hl 0 rfl) ?_
  refine gf_X9_impacts hx hb hE hown hh (by omega) f6 rfl dX9_clear_8 ?_
  refine mm_V0 (As := []) (rest := []) hx hb hml hown hE hl.1 hh (kc_X9_149 hE.2.1 ⟨Nat.le_of_ble_eq_true rfl, Nat.le_of_ble_eq_true rfl⟩) (c_X6_empty l Γ b M mem1 (a := 75) (sz := iz) (by omega) f10) rfl (by omega) f10 rfl rfl (Nat.le_of_ble_eq_true rfl) dX9_clear_11 rfl rfl (fun H locs mem16 hP17 hh => ?_)
  obtain ⟨f18, k19⟩ := hP17
  have hfr20 : ∀ j, j ≠ 72 → j ≠ 75 → j ≠ 78 → ¬ (97 ≤ j ∧ j < 106) → ¬ (98 ≤ j ∧ j < 107) → ¬ (99 ≤ j ∧ j < 108) → ¬ (100 ≤ j ∧ j < 109) → j ≠ 110 → mem16 j = mem j := fun j c0 c1 c2 c3 c4 c5 c6 c7 => (k19 j (by omega)).trans (hfr5 j c0 c1 c2 c3 c4 c5 c6 c7)
  have f21 : mem16 0 = .inr (8, [.ref (b + 1), .ref (b + 72), .ref (b + 75), .ref (b + 78), .ref (b + 80), .ref (b + 91), .ref (b + 93), .ref (b + 96), .ref (b + 109)]) := (k19 _ (by omega)).trans f6
  have f22 : mem16 96 = aR Γ 5 3 (fun i => some (b + (97 + 4 * i))) := (k19 _ (by omega)).trans f7
  have f23 : mem16 109 = .inr (1, [.ref (b + 110), .ref (b + 113), .ref (b + 114)]) := (k19 _ (by omega)).trans f8
  have f24 : mem16 110 = .inr (4, [.ref (b + 111), .ref (b + 112), .int (nI lf), .int (nI sf)]) := (k19 _ (by omega)).trans f9
  have f25 : mem16 72 = .inr (5, [.ref (b + 73), .ref (b + 74), .int (nI 0)]) := (k19 _ (by omega)).trans f3
  have f26 : mem16 78 = .inr (6, [.ref (b + 79), .int (nI 3), .int (nI vz)]) := (k19 _ (by omega)).trans f11
  have f27 : ∀ z9, z9 < 3 → mem16 (97 + 4 * z9) = .inr (2, [.ref (b + (97 + 4 * z9 + 1)), .int (bI ((lst z9).1)), .int (nI ((lst z9).2.1)), .int (nI ((lst z9).2.2.1)), .int (nI ((lst z9).2.2.2))]) := fun z9 hz9 => (k19 _ (by omega)).trans (f12 z9 hz9)
  have f28 : ∀ z9, z9 < 3 → mem16 (97 + 4 * z9 + 1) = .inr (4, [.ref (b + (97 + 4 * z9 + 2)), .ref (b + (97 + 4 * z9 + 3)), .int (nI ((lrk z9).1)), .int (nI ((lrk z9).2))]) := fun z9 hz9 => (k19 _ (by omega)).trans (f13 z9 hz9)
  have f29 : ∀ z9, z9 < 3 → mem16 (97 + 4 * z9 + 2) = aN Γ 20 (ldc z9) := fun z9 hz9 => (k19 _ (by omega)).trans (f14 z9 hz9)
  have f30 : ∀ z9, z9 < 3 → mem16 (97 + 4 * z9 + 3) = aD Γ 20 (lsc z9) := fun z9 hz9 => (k19 _ (by omega)).trans (f15 z9 hz9)
  refine lv_aload_n hx hb dX9_clear_14 rfl (lv_at hl 0 rfl) ?_
  refine gf_X9_vectors hx hb hE hown hh (by omega) f21 rfl dX9_clear_15 ?_
  refine mm_V0 (As := []) (rest := []) hx hb hml hown hE hl.1 hh (kc_X9_152 hE.2.1 ⟨Nat.le_of_ble_eq_true rfl, Nat.le_of_ble_eq_true rfl⟩) (c_X7_empty l Γ b M mem16 (a := 78) (lim := 3) (sz := vz) (by omega) f26) rfl (by omega) f26 rfl rfl (Nat.le_of_ble_eq_true rfl) dX9_clear_18 rfl rfl (fun H locs mem31 hP32 hh => ?_)
  obtain ⟨f33, k34⟩ := hP32
  have hfr35 : ∀ j, j ≠ 72 → j ≠ 75 → j ≠ 78 → ¬ (97 ≤ j ∧ j < 106) → ¬ (98 ≤ j ∧ j < 107) → ¬ (99 ≤ j ∧ j < 108) → ¬ (100 ≤ j ∧ j < 109) → j ≠ 110 → mem31 j = mem j := fun j c0 c1 c2 c3 c4 c5 c6 c7 => (k34 j (by omega)).trans (hfr20 j c0 c1 c2 c3 c4 c5 c6 c7)
  have f36 : mem31 0 = .inr (8, [.ref (b + 1), .ref (b + 72), .ref (b + 75), .ref (b + 78), .ref (b + 80), .ref (b + 91), .ref (b + 93), .ref (b + 96), .ref (b + 109)]) := (k34 _ (by omega)).trans f21
  have f37 : mem31 96 = aR Γ 5 3 (fun i => some (b + (97 + 4 * i))) := (k34 _ (by omega)).trans f22
  have f38 : mem31 109 = .inr (1, [.ref (b + 110), .ref (b + 113), .ref (b + 114)]) := (k34 _ (by omega)).trans f23
  have f39 : mem31 110 = .inr (4, [.ref (b + 111), .ref (b + 112), .int (nI lf), .int (nI sf)]) := (k34 _ (by omega)).trans f24
  have f40 : mem31 72 = .inr (5, [.ref (b + 73), .ref (b + 74), .int (nI 0)]) := (k34 _ (by omega)).trans f25
  have f41 : mem31 75 = .inr (5, [.ref (b + 76), .ref (b + 77), .int (nI 0)]) := (k34 _ (by omega)).trans f18
  have f42 : ∀ z9, z9 < 3 → mem31 (97 + 4 * z9) = .inr (2, [.ref (b + (97 + 4 * z9 + 1)), .int (bI ((lst z9).1)), .int (nI ((lst z9).2.1)), .int (nI ((lst z9).2.2.1)), .int (nI ((lst z9).2.2.2))]) := fun z9 hz9 => (k34 _ (by omega)).trans (f27 z9 hz9)
  have f43 : ∀ z9, z9 < 3 → mem31 (97 + 4 * z9 + 1) = .inr (4, [.ref (b + (97 + 4 * z9 + 2)), .ref (b + (97 + 4 * z9 + 3)), .int (nI ((lrk z9).1)), .int (nI ((lrk z9).2))]) := fun z9 hz9 => (k34 _ (by omega)).trans (f28 z9 hz9)
  have f44 : ∀ z9, z9 < 3 → mem31 (97 + 4 * z9 + 2) = aN Γ 20 (ldc z9) := fun z9 hz9 => (k34 _ (by omega)).trans (f29 z9 hz9)
  have f45 : ∀ z9, z9 < 3 → mem31 (97 + 4 * z9 + 3) = aD Γ 20 (lsc z9) := fun z9 hz9 => (k34 _ (by omega)).trans (f30 z9 hz9)
  refine lv_aload_n hx hb dX9_clear_21 rfl (lv_at hl 0 rfl) ?_
  refine mm_V0 (As := []) (rest := []) hx hb hml hown hE hl.1 hh (kc_X9_83 hE.2.1 ⟨Nat.le_of_ble_eq_true rfl, Nat.le_of_ble_eq_true rfl⟩) (c_X9_forgetAllLists l Γ b M mem31 (lf := lf) (sf := sf) (lst := lst) (lrk := lrk) (ldc := ldc) (lsc := lsc) (by omega) f36 f37 f42 f43 f44 f45 f38 f39) rfl (by omega) f36 rfl rfl (Nat.le_of_ble_eq_true rfl) dX9_clear_22 rfl rfl (fun H locs mem46 hP47 hh => ?_)
  obtain ⟨f48, f49, f50, f51, f52, k53⟩ := hP47
  have hfr54 : ∀ j, j ≠ 72 → j ≠ 75 → j ≠ 78 → ¬ (97 ≤ j ∧ j < 106) → ¬ (98 ≤ j ∧ j < 107) → ¬ (99 ≤ j ∧ j < 108) → ¬ (100 ≤ j ∧ j < 109) → j ≠ 110 → mem46 j = mem j := fun j c0 c1 c2 c3 c4 c5 c6 c7 => (k53 j (by omega) (by omega) (by omega) (by omega) (by omega)).trans (hfr35 j c0 c1 c2 c3 c4 c5 c6 c7)
  have f55 : mem46 0 = .inr (8, [.ref (b + 1), .ref (b + 72), .ref (b + 75), .ref (b + 78), .ref (b + 80), .ref (b + 91), .ref (b + 93), .ref (b + 96), .ref (b + 109)]) := (k53 _ (by omega) (by omega) (by omega) (by omega) (by omega)).trans f36
  have f56 : mem46 96 = aR Γ 5 3 (fun i => some (b + (97 + 4 * i))) := (k53 _ (by omega) (by omega) (by omega) (by omega) (by omega)).trans f37
  have f57 : mem46 109 = .inr (1, [.ref (b + 110), .ref (b + 113), .ref (b + 114)]) := (k53 _ (by omega) (by omega) (by omega) (by omega) (by omega)).trans f38
  have f58 : mem46 72 = .inr (5, [.ref (b + 73), .ref (b + 74), .int (nI 0)]) := (k53 _ (by omega) (by omega) (by omega) (by omega) (by omega)).trans f40
  have f59 : mem46 75 = .inr (5, [.ref (b + 76), .ref (b + 77), .int (nI 0)]) := (k53 _ (by omega) (by omega) (by omega) (by omega) (by omega)).trans f41
  have f60 : mem46 78 = .inr (6, [.ref (b + 79), .int (nI 3), .int (nI 0)]) := (k53 _ (by omega) (by omega) (by omega) (by omega) (by omega)).trans f33
  exact mm_vret hx hb hr hlocks hE hh (⟨f58, f59, f60, f48, f49, f50, f51, f52, hfr54⟩) dX9_clear_25
set_option maxHeartbeats 4000000 in
set_option maxRecDepth 100000 in
/-- word -/
theorem c_X9_word (l : Launch) (Γ : Gm) (b M : Nat) (mem : Nat → va_E) {t wz : Nat} {wm ww : Nat → Nat} {lf sf : Nat} {lst : Nat → Bool × Nat × Nat × Nat} {lrk : Nat → Nat × Nat} {ldc : Nat → Nat → Nat} {lsc : Nat → Nat → UInt64} (hM : 138 ≤ M) (fH : mem 0 = .inr (8, [.ref (b + 1), .ref (b + 72), .ref (b + 75), .ref (b + 78), .ref (b + 80), .ref (b + 91), .ref (b + 93), .ref (b + 96), .ref (b + 109)])) (fLo : mem 96 = aR Γ 5 3 (fun i => some (b + (97 + 4 * i)))) (fls : ∀ z9, z9 < 3 → mem (97 + 4 * z9) = .inr (2, [.ref (b + (97 + 4 * z9 + 1)), .int (bI ((lst z9).1)), .int (nI ((lst z9).2.1)), .int (nI ((lst z9).2.2.1)), .int (nI ((lst z9).2.2.2))])) (flr : ∀ z9, z9 < 3 → mem (97 + 4 * z9 + 1) = .inr (4, [.ref (b + (97 + 4 * z9 + 2)), .ref (b + (97 + 4 * z9 + 3)), .int (nI ((lrk z9).1)), .int (nI ((lrk z9).2))])) (fld : ∀ z9, z9 < 3 → mem (97 + 4 * z9 + 2) = aN Γ 20 (ldc z9)) (flc : ∀ z9, z9 < 3 → mem (97 + 4 * z9 + 3) = aD Γ 20 (lsc z9)) (fF : mem 109 = .inr (1, [.ref (b + 110), .ref (b + 113), .ref (b + 114)])) (fR0 : mem 110 = .inr (4, [.ref (b + 111), .ref (b + 112), .int (nI lf), .int (nI sf)])) (fW : mem 72 = .inr (5, [.ref (b + 73), .ref (b + 74), .int (nI wz)])) (fW1 : mem 73 = aN Γ 4 wm) (fW2 : mem 74 = aN Γ 4 ww) (ht : t < 12) (hno : hasT (fun i => nI (wm i)) (nI t) wz = false) (hwz : wz < 4) : Ct l yX9_word (.code yX9_word cX9_word 2 (some .int)) ({ frames := 4, cells := 0, slots := 0, locals := 76 } : Room) Γ b M [.ref (b + 0), .int (nI t)] mem (fun u => u 72 = .inr (5, [.ref (b + 73), .ref (b + 74), .int (nI (wz + 1))]) ∧ u 73 = aN Γ 4 (va_up wm wz t) ∧ u 74 = aN Γ 4 (va_up ww wz 1) ∧ (∀ z9, z9 < 3 → u (97 + 4 * z9) = .inr (2, [.ref (b + (97 + 4 * z9 + 1)), .int (bI (((va_up lst 0 (false, (lst 0).2)) z9).1)), .int (nI (((va_up lst 0 (false, (lst 0).2)) z9).2.1)), .int (nI (((va_up lst 0 (false, (lst 0).2)) z9).2.2.1)), .int (nI (((va_up lst 0 (false, (lst 0).2)) z9).2.2.2))])) ∧ (∀ z9, z9 < 3 → u (97 + 4 * z9 + 1) = .inr (4, [.ref (b + (97 + 4 * z9 + 2)), .ref (b + (97 + 4 * z9 + 3)), .int (nI ((lrk z9).1)), .int (nI ((lrk z9).2))])) ∧ (∀ z9, z9 < 3 → u (97 + 4 * z9 + 2) = aN Γ 20 (ldc z9)) ∧ (∀ z9, z9 < 3 → u (97 + 4 * z9 + 3) = aD Γ 20 (lsc z9)) ∧ u 110 = .inr (4, [.ref (b + 111), .ref (b + 112), .int (nI 0), .int (nI 0)]) ∧ ∀ j, j ≠ 72 → j ≠ 73 → j ≠ 74 → ¬ (97 ≤ j ∧ j < 106) → ¬ (98 ≤ j ∧ j < 107) → ¬ (99 ≤ j ∧ j < 108) → ¬ (100 ≤ j ∧ j < 109) → j ≠ 110 → u j = mem j) (some (.int (nI (wz + 1)))) := by
  refine mm_enter (cc := cX9_word) (by decide) (Nat.le_of_ble_eq_true rfl) ?_
  intro p e s m args below meth c ls hx hb hml hown hr hlocks hname hE hh hl
  have hl : lv_has ls 2 [(0, .ref (b + 0)), (1, .int (nI t))] := hl
  have hfr : ∀ j, j ≠ 72 → j ≠ 73 → j ≠ 74 → ¬ (97 ≤ j ∧ j < 106) → ¬ (98 ≤ j ∧ j < 107) → ¬ (99 ≤ j ∧ j < 108) → ¬ (100 ≤ j ∧ j < 109) → j ≠ 110 → mem j = mem j := fun j _ _ _ _ _ _ _ _ => rfl
  refine lv_iload_n hx hb dX9_word_0 rfl (lv_at hl 1 rfl) ?_
  refine mm_S0r (As := [.int (nI t)]) (rest := []) hx hb hml hown hE hl.1 hh (kc_X9_94 hE.2.1 ⟨Nat.le_of_ble_eq_true rfl, Nat.le_of_ble_eq_true rfl⟩) (c_X9_isTerm l Γ b M mem (t := (nI t))) rfl rfl (Nat.le_of_ble_eq_true rfl) dX9_word_1 rfl rfl (fun H locs hh => ?_)
  refine nn_bne (tgt := 17) hx hb dX9_word_4 (by decide) (fun h1 => ?_) (fun h1 => ?_)
  ·
    refine lv_aload_n hx hb dX9_word_17 rfl (lv_at hl 0 rfl) ?_
    refine gf_X9_words hx hb hE hown hh (by omega) fH rfl dX9_word_18 ?_
    refine lv_iload_n hx hb dX9_word_21 rfl (lv_at hl 1 rfl) ?_
    refine mm_V0r (As := [.int (nI t)]) (rest := []) hx hb hml hown hE hl.1 hh (kc_X9_155 hE.2.1 ⟨Nat.le_of_ble_eq_true rfl, Nat.le_of_ble_eq_true rfl⟩) (c_X6_holds l Γ b M mem (a := 72) (sz := wz) (tm := wm) (t := (nI t)) (by omega) fW fW1 (by omega)) rfl (by omega) fW rfl rfl (Nat.le_of_ble_eq_true rfl) dX9_word_22 rfl rfl (fun H locs hh => ?_)
    refine nn_beq (tgt := 38) hx hb dX9_word_25 (by decide) (fun h2 => ?_) (fun h2 => ?_)
    ·
      refine lv_aload_n hx hb dX9_word_38 rfl (lv_at hl 0 rfl) ?_
      refine gf_X9_words hx hb hE hown hh (by omega) fH rfl dX9_word_39 ?_
      refine mm_V0r (As := []) (rest := []) hx hb hml hown hE hl.1 hh (kc_X9_158 hE.2.1 ⟨Nat.le_of_ble_eq_true rfl, Nat.le_of_ble_eq_true rfl⟩) (c_X6_isFull l Γ b M mem (a := 72) (sz := wz) (by omega) fW (by omega)) rfl (by omega) fW rfl rfl (Nat.le_of_ble_eq_true rfl) dX9_word_42 rfl rfl (fun H locs hh => ?_)
      refine nn_beq (tgt := 58) hx hb dX9_word_45 (by decide) (fun h3 => ?_) (fun h3 => ?_)
      ·
        refine lv_aload_n hx hb dX9_word_58 rfl (lv_at hl 0 rfl) ?_
        refine lv_iconst (v := (nI 0)) hx hb dX9_word_59 (by decide) ?_
        refine mm_V0 (As := [.int (nI 0)]) (rest := []) hx hb hml hown hE hl.1 hh (kc_X9_161 hE.2.1 ⟨Nat.le_of_ble_eq_true rfl, Nat.le_of_ble_eq_true rfl⟩) (c_X9_forgetList l Γ b M mem (v := 0) (lf := lf) (sf := sf) (lst := lst) (lrk := lrk) (ldc := ldc) (lsc := lsc) (by omega) fH fLo fls flr fld flc fF fR0 (by omega)) rfl (by omega) fH rfl rfl (Nat.le_of_ble_eq_true rfl) dX9_word_60 rfl rfl (fun H locs mem4 hP5 hh => ?_)
        obtain ⟨f6, f7, f8, f9, f10, k11⟩ := hP5
        have hfr12 : ∀ j, j ≠ 72 → j ≠ 73 → j ≠ 74 → ¬ (97 ≤ j ∧ j < 106) → ¬ (98 ≤ j ∧ j < 107) → ¬ (99 ≤ j ∧ j < 108) → ¬ (100 ≤ j ∧ j < 109) → j ≠ 110 → mem4 j = mem j := fun j c0 c1 c2 c3 c4 c5 c6 c7 => (k11 j (by omega) (by omega) (by omega) (by omega) (by omega)).trans (hfr j c0 c1 c2 c3 c4 c5 c6 c7)
        have f13 : mem4 0 = .inr (8, [.ref (b + 1), .ref (b + 72), .ref (b + 75), .ref (b + 78), .ref (b + 80), .ref (b + 91), .ref (b + 93), .ref (b + 96), .ref (b + 109)]) := (k11 _ (by omega) (by omega) (by omega) (by omega) (by omega)).trans fH
        have f14 : mem4 96 = aR Γ 5 3 (fun i => some (b + (97 + 4 * i))) := (k11 _ (by omega) (by omega) (by omega) (by omega) (by omega)).trans fLo
        have f15 : mem4 109 = .inr (1, [.ref (b + 110), .ref (b + 113), .ref (b + 114)]) := (k11 _ (by omega) (by omega) (by omega) (by omega) (by omega)).trans fF
        have f16 : mem4 72 = .inr (5, [.ref (b + 73), .ref (b + 74), .int (nI wz)]) := (k11 _ (by omega) (by omega) (by omega) (by omega) (by omega)).trans fW
        have f17 : mem4 73 = aN Γ 4 wm := (k11 _ (by omega) (by omega) (by omega) (by omega) (by omega)).trans fW1
        have f18 : mem4 74 = aN Γ 4 ww := (k11 _ (by omega) (by omega) (by omega) (by omega) (by omega)).trans fW2
        refine lv_aload_n hx hb dX9_word_63 rfl (lv_at hl 0 rfl) ?_
        refine gf_X9_words hx hb hE hown hh (by omega) f13 rfl dX9_word_64 ?_
        refine lv_iload_n hx hb dX9_word_67 rfl (lv_at hl 1 rfl) ?_
        refine lv_iconst (v := (nI 1)) hx hb dX9_word_68 (by decide) ?_
        refine mm_V0 (As := [.int (nI t), .int (nI 1)]) (rest := []) hx hb hml hown hE hl.1 hh (kc_X9_164 hE.2.1 ⟨Nat.le_of_ble_eq_true rfl, Nat.le_of_ble_eq_true rfl⟩) (c_X6_add l Γ b M mem4 (a := 72) (sz := wz) (tm := wm) (tw := ww) (t := t) (x := 1) (by omega) f16 f17 f18 (by omega)) rfl (by omega) f16 rfl rfl (Nat.le_of_ble_eq_true rfl) dX9_word_69 rfl rfl (fun H locs mem19 hP20 hh => ?_)
        obtain ⟨f21, f22, f23, k24⟩ := hP20
        have hfr25 : ∀ j, j ≠ 72 → j ≠ 73 → j ≠ 74 → ¬ (97 ≤ j ∧ j < 106) → ¬ (98 ≤ j ∧ j < 107) → ¬ (99 ≤ j ∧ j < 108) → ¬ (100 ≤ j ∧ j < 109) → j ≠ 110 → mem19 j = mem j := fun j c0 c1 c2 c3 c4 c5 c6 c7 => (k24 j (by omega) (by omega) (by omega)).trans (hfr12 j c0 c1 c2 c3 c4 c5 c6 c7)
        have f26 : mem19 0 = .inr (8, [.ref (b + 1), .ref (b + 72), .ref (b + 75), .ref (b + 78), .ref (b + 80), .ref (b + 91), .ref (b + 93), .ref (b + 96), .ref (b + 109)]) := (k24 _ (by omega) (by omega) (by omega)).trans f13
        have f27 : mem19 96 = aR Γ 5 3 (fun i => some (b + (97 + 4 * i))) := (k24 _ (by omega) (by omega) (by omega)).trans f14
        have f28 : mem19 109 = .inr (1, [.ref (b + 110), .ref (b + 113), .ref (b + 114)]) := (k24 _ (by omega) (by omega) (by omega)).trans f15
        have f29 : mem19 110 = .inr (4, [.ref (b + 111), .ref (b + 112), .int (nI 0), .int (nI 0)]) := (k24 _ (by omega) (by omega) (by omega)).trans f10
        have f30 : ∀ z9, z9 < 3 → mem19 (97 + 4 * z9) = .inr (2, [.ref (b + (97 + 4 * z9 + 1)), .int (bI (((va_up lst 0 (false, (lst 0).2)) z9).1)), .int (nI (((va_up lst 0 (false, (lst 0).2)) z9).2.1)), .int (nI (((va_up lst 0 (false, (lst 0).2)) z9).2.2.1)), .int (nI (((va_up lst 0 (false, (lst 0).2)) z9).2.2.2))]) := fun z9 hz9 => (k24 _ (by omega) (by omega) (by omega)).trans (f6 z9 hz9)
        have f31 : ∀ z9, z9 < 3 → mem19 (97 + 4 * z9 + 1) = .inr (4, [.ref (b + (97 + 4 * z9 + 2)), .ref (b + (97 + 4 * z9 + 3)), .int (nI ((lrk z9).1)), .int (nI ((lrk z9).2))]) := fun z9 hz9 => (k24 _ (by omega) (by omega) (by omega)).trans (f7 z9 hz9)
        have f32 : ∀ z9, z9 < 3 → mem19 (97 + 4 * z9 + 2) = aN Γ 20 (ldc z9) := fun z9 hz9 => (k24 _ (by omega) (by omega) (by omega)).trans (f8 z9 hz9)
        have f33 : ∀ z9, z9 < 3 → mem19 (97 + 4 * z9 + 3) = aD Γ 20 (lsc z9) := fun z9 hz9 => (k24 _ (by omega) (by omega) (by omega)).trans (f9 z9 hz9)
        exact mm_iret hx hb hr hlocks hE hh (rfl) (⟨f21, f22, f23, f30, f31, f32, f33, f29, hfr25⟩) dX9_word_72
      ·
        exact absurd (of_decide_eq_true h3) (by omega)
    ·
      exact (no_tf h2 hno).elim
  ·
    exact (no_tf (inR_y ht (by decide)) h1).elim
set_option maxHeartbeats 4000000 in
set_option maxRecDepth 100000 in
/-- impact -/
theorem c_X9_impact (l : Launch) (Γ : Gm) (b M : Nat) (mem : Nat → va_E) {t x iz : Nat} {im iw : Nat → Nat} {lf sf : Nat} {lst : Nat → Bool × Nat × Nat × Nat} {lrk : Nat → Nat × Nat} {ldc : Nat → Nat → Nat} {lsc : Nat → Nat → UInt64} (hM : 138 ≤ M) (fH : mem 0 = .inr (8, [.ref (b + 1), .ref (b + 72), .ref (b + 75), .ref (b + 78), .ref (b + 80), .ref (b + 91), .ref (b + 93), .ref (b + 96), .ref (b + 109)])) (fLo : mem 96 = aR Γ 5 3 (fun i => some (b + (97 + 4 * i)))) (fls : ∀ z9, z9 < 3 → mem (97 + 4 * z9) = .inr (2, [.ref (b + (97 + 4 * z9 + 1)), .int (bI ((lst z9).1)), .int (nI ((lst z9).2.1)), .int (nI ((lst z9).2.2.1)), .int (nI ((lst z9).2.2.2))])) (flr : ∀ z9, z9 < 3 → mem (97 + 4 * z9 + 1) = .inr (4, [.ref (b + (97 + 4 * z9 + 2)), .ref (b + (97 + 4 * z9 + 3)), .int (nI ((lrk z9).1)), .int (nI ((lrk z9).2))])) (fld : ∀ z9, z9 < 3 → mem (97 + 4 * z9 + 2) = aN Γ 20 (ldc z9)) (flc : ∀ z9, z9 < 3 → mem (97 + 4 * z9 + 3) = aD Γ 20 (lsc z9)) (fF : mem 109 = .inr (1, [.ref (b + 110), .ref (b + 113), .ref (b + 114)])) (fR0 : mem 110 = .inr (4, [.ref (b + 111), .ref (b + 112), .int (nI lf), .int (nI sf)])) (fI : mem 75 = .inr (5, [.ref (b + 76), .ref (b + 77), .int (nI iz)])) (fI1 : mem 76 = aN Γ 4 im) (fI2 : mem 77 = aN Γ 4 iw) (ht : t < 12) (hno : hasT (fun i => nI (im i)) (nI t) iz = false) (hx1 : 1 ≤ x ∧ x ≤ 100) (hiz : iz < 4) : Ct l yX9_impact (.code yX9_impact cX9_impact 3 (some .int)) ({ frames := 4, cells := 0, slots := 0, locals := 76 } : Room) Γ b M [.ref (b + 0), .int (nI t), .int (nI x)] mem (fun u => u 75 = .inr (5, [.ref (b + 76), .ref (b + 77), .int (nI (iz + 1))]) ∧ u 76 = aN Γ 4 (va_up im iz t) ∧ u 77 = aN Γ 4 (va_up iw iz x) ∧ (∀ z9, z9 < 3 → u (97 + 4 * z9) = .inr (2, [.ref (b + (97 + 4 * z9 + 1)), .int (bI (((va_up lst 1 (false, (lst 1).2)) z9).1)), .int (nI (((va_up lst 1 (false, (lst 1).2)) z9).2.1)), .int (nI (((va_up lst 1 (false, (lst 1).2)) z9).2.2.1)), .int (nI (((va_up lst 1 (false, (lst 1).2)) z9).2.2.2))])) ∧ (∀ z9, z9 < 3 → u (97 + 4 * z9 + 1) = .inr (4, [.ref (b + (97 + 4 * z9 + 2)), .ref (b + (97 + 4 * z9 + 3)), .int (nI ((lrk z9).1)), .int (nI ((lrk z9).2))])) ∧ (∀ z9, z9 < 3 → u (97 + 4 * z9 + 2) = aN Γ 20 (ldc z9)) ∧ (∀ z9, z9 < 3 → u (97 + 4 * z9 + 3) = aD Γ 20 (lsc z9)) ∧ u 110 = .inr (4, [.ref (b + 111), .ref (b + 112), .int (nI 0), .int (nI 0)]) ∧ ∀ j, j ≠ 75 → j ≠ 76 → j ≠ 77 → ¬ (97 ≤ j ∧ j < 106) → ¬ (98 ≤ j ∧ j < 107) → ¬ (99 ≤ j ∧ j < 108) → ¬ (100 ≤ j ∧ j < 109) → j ≠ 110 → u j = mem j) (some (.int (nI (iz + 1)))) := by
  refine mm_enter (cc := cX9_impact) (by decide) (Nat.le_of_ble_eq_true rfl) ?_
  intro p e s m args below meth c ls hx hb hml hown hr hlocks hname hE hh hl
  have hl : lv_has ls 3 [(0, .ref (b + 0)), (1, .int (nI t)), (2, .int (nI x))] := hl
  have hfr : ∀ j, j ≠ 75 → j ≠ 76 → j ≠ 77 → ¬ (97 ≤ j ∧ j < 106) → ¬ (98 ≤ j ∧ j < 107) → ¬ (99 ≤ j ∧ j < 108) → ¬ (100 ≤ j ∧ j < 109) → j ≠ 110 → mem j = mem j := fun j _ _ _ _ _ _ _ _ => rfl
  refine lv_iload_n hx hb dX9_impact_0 rfl (lv_at hl 1 rfl) ?_
  refine mm_S0r (As := [.int (nI t)]) (rest := []) hx hb hml hown hE hl.1 hh (kc_X9_94 hE.2.1 ⟨Nat.le_of_ble_eq_true rfl, Nat.le_of_ble_eq_true rfl⟩) (c_X9_isTerm l Γ b M mem (t := (nI t))) rfl rfl (Nat.le_of_ble_eq_true rfl) dX9_impact_1 rfl rfl (fun H locs hh => ?_)
  refine nn_bne (tgt := 17) hx hb dX9_impact_4 (by decide) (fun h1 => ?_) (fun h1 => ?_)
  ·
    refine lv_aload_n hx hb dX9_impact_17 rfl (lv_at hl 0 rfl) ?_
    refine gf_X9_impacts hx hb hE hown hh (by omega) fH rfl dX9_impact_18 ?_
    refine lv_iload_n hx hb dX9_impact_21 rfl (lv_at hl 1 rfl) ?_
    refine mm_V0r (As := [.int (nI t)]) (rest := []) hx hb hml hown hE hl.1 hh (kc_X9_155 hE.2.1 ⟨Nat.le_of_ble_eq_true rfl, Nat.le_of_ble_eq_true rfl⟩) (c_X6_holds l Γ b M mem (a := 75) (sz := iz) (tm := im) (t := (nI t)) (by omega) fI fI1 (by omega)) rfl (by omega) fI rfl rfl (Nat.le_of_ble_eq_true rfl) dX9_impact_22 rfl rfl (fun H locs hh => ?_)
    refine nn_bne (tgt := 39) hx hb dX9_impact_25 (by decide) (fun h2 => ?_) (fun h2 => ?_)
    ·
      exact (no_tf h2 hno).elim
    ·
      refine lv_iload_n hx hb dX9_impact_28 rfl (lv_at hl 2 rfl) ?_
      refine lv_iconst (v := (nI 1)) hx hb dX9_impact_29 (by decide) ?_
      refine nn_icmp_lt (tgt := 39) hx hb dX9_impact_30 (by decide) (by omega) (by omega) (fun h3 => ?_) (fun h3 => ?_)
      ·
        exact absurd h3 (by omega)
      ·
        refine lv_iload_n hx hb dX9_impact_33 rfl (lv_at hl 2 rfl) ?_
        refine lv_bipush (v := (nI 100)) hx hb dX9_impact_34 (by decide) ?_
        refine nn_icmp_le (tgt := 49) hx hb dX9_impact_36 (by decide) (by omega) (by omega) (fun h4 => ?_) (fun h4 => ?_)
        ·
          refine lv_aload_n hx hb dX9_impact_49 rfl (lv_at hl 0 rfl) ?_
          refine gf_X9_impacts hx hb hE hown hh (by omega) fH rfl dX9_impact_50 ?_
          refine mm_V0r (As := []) (rest := []) hx hb hml hown hE hl.1 hh (kc_X9_158 hE.2.1 ⟨Nat.le_of_ble_eq_true rfl, Nat.le_of_ble_eq_true rfl⟩) (c_X6_isFull l Γ b M mem (a := 75) (sz := iz) (by omega) fI (by omega)) rfl (by omega) fI rfl rfl (Nat.le_of_ble_eq_true rfl) dX9_impact_53 rfl rfl (fun H locs hh => ?_)
          refine nn_beq (tgt := 69) hx hb dX9_impact_56 (by decide) (fun h5 => ?_) (fun h5 => ?_)
          ·
            refine lv_aload_n hx hb dX9_impact_69 rfl (lv_at hl 0 rfl) ?_
            refine lv_iconst (v := (nI 1)) hx hb dX9_impact_70 (by decide) ?_
            refine mm_V0 (As := [.int (nI 1)]) (rest := []) hx hb hml hown hE hl.1 hh (kc_X9_161 hE.2.1 ⟨Nat.le_of_ble_eq_true rfl, Nat.le_of_ble_eq_true rfl⟩) (c_X9_forgetList l Γ b M mem (v := 1) (lf := lf) (sf := sf) (lst := lst) (lrk := lrk) (ldc := ldc) (lsc := lsc) (by omega) fH fLo fls flr fld flc fF fR0 (by omega)) rfl (by omega) fH rfl rfl (Nat.le_of_ble_eq_true rfl) dX9_impact_71 rfl rfl (fun H locs mem6 hP7 hh => ?_)
            obtain ⟨f8, f9, f10, f11, f12, k13⟩ := hP7
            have hfr14 : ∀ j, j ≠ 75 → j ≠ 76 → j ≠ 77 → ¬ (97 ≤ j ∧ j < 106) → ¬ (98 ≤ j ∧ j < 107) → ¬ (99 ≤ j ∧ j < 108) → ¬ (100 ≤ j ∧ j < 109) → j ≠ 110 → mem6 j = mem j := fun j c0 c1 c2 c3 c4 c5 c6 c7 => (k13 j (by omega) (by omega) (by omega) (by omega) (by omega)).trans (hfr j c0 c1 c2 c3 c4 c5 c6 c7)
            have f15 : mem6 0 = .inr (8, [.ref (b + 1), .ref (b + 72), .ref (b + 75), .ref (b + 78), .ref (b + 80), .ref (b + 91), .ref (b + 93), .ref (b + 96), .ref (b + 109)]) := (k13 _ (by omega) (by omega) (by omega) (by omega) (by omega)).trans fH
            have f16 : mem6 96 = aR Γ 5 3 (fun i => some (b + (97 + 4 * i))) := (k13 _ (by omega) (by omega) (by omega) (by omega) (by omega)).trans fLo
            have f17 : mem6 109 = .inr (1, [.ref (b + 110), .ref (b + 113), .ref (b + 114)]) := (k13 _ (by omega) (by omega) (by omega) (by omega) (by omega)).trans fF
            have f18 : mem6 75 = .inr (5, [.ref (b + 76), .ref (b + 77), .int (nI iz)]) := (k13 _ (by omega) (by omega) (by omega) (by omega) (by omega)).trans fI
            have f19 : mem6 76 = aN Γ 4 im := (k13 _ (by omega) (by omega) (by omega) (by omega) (by omega)).trans fI1
            have f20 : mem6 77 = aN Γ 4 iw := (k13 _ (by omega) (by omega) (by omega) (by omega) (by omega)).trans fI2
            refine lv_aload_n hx hb dX9_impact_74 rfl (lv_at hl 0 rfl) ?_
            refine gf_X9_impacts hx hb hE hown hh (by omega) f15 rfl dX9_impact_75 ?_
            refine lv_iload_n hx hb dX9_impact_78 rfl (lv_at hl 1 rfl) ?_
            refine lv_iload_n hx hb dX9_impact_79 rfl (lv_at hl 2 rfl) ?_
            refine mm_V0 (As := [.int (nI t), .int (nI x)]) (rest := []) hx hb hml hown hE hl.1 hh (kc_X9_164 hE.2.1 ⟨Nat.le_of_ble_eq_true rfl, Nat.le_of_ble_eq_true rfl⟩) (c_X6_add l Γ b M mem6 (a := 75) (sz := iz) (tm := im) (tw := iw) (t := t) (x := x) (by omega) f18 f19 f20 (by omega)) rfl (by omega) f18 rfl rfl (Nat.le_of_ble_eq_true rfl) dX9_impact_80 rfl rfl (fun H locs mem21 hP22 hh => ?_)
            obtain ⟨f23, f24, f25, k26⟩ := hP22
            have hfr27 : ∀ j, j ≠ 75 → j ≠ 76 → j ≠ 77 → ¬ (97 ≤ j ∧ j < 106) → ¬ (98 ≤ j ∧ j < 107) → ¬ (99 ≤ j ∧ j < 108) → ¬ (100 ≤ j ∧ j < 109) → j ≠ 110 → mem21 j = mem j := fun j c0 c1 c2 c3 c4 c5 c6 c7 => (k26 j (by omega) (by omega) (by omega)).trans (hfr14 j c0 c1 c2 c3 c4 c5 c6 c7)
            have f28 : mem21 0 = .inr (8, [.ref (b + 1), .ref (b + 72), .ref (b + 75), .ref (b + 78), .ref (b + 80), .ref (b + 91), .ref (b + 93), .ref (b + 96), .ref (b + 109)]) := (k26 _ (by omega) (by omega) (by omega)).trans f15
            have f29 : mem21 96 = aR Γ 5 3 (fun i => some (b + (97 + 4 * i))) := (k26 _ (by omega) (by omega) (by omega)).trans f16
            have f30 : mem21 109 = .inr (1, [.ref (b + 110), .ref (b + 113), .ref (b + 114)]) := (k26 _ (by omega) (by omega) (by omega)).trans f17
            have f31 : mem21 110 = .inr (4, [.ref (b + 111), .ref (b + 112), .int (nI 0), .int (nI 0)]) := (k26 _ (by omega) (by omega) (by omega)).trans f12
            have f32 : ∀ z9, z9 < 3 → mem21 (97 + 4 * z9) = .inr (2, [.ref (b + (97 + 4 * z9 + 1)), .int (bI (((va_up lst 1 (false, (lst 1).2)) z9).1)), .int (nI (((va_up lst 1 (false, (lst 1).2)) z9).2.1)), .int (nI (((va_up lst 1 (false, (lst 1).2)) z9).2.2.1)), .int (nI (((va_up lst 1 (false, (lst 1).2)) z9).2.2.2))]) := fun z9 hz9 => (k26 _ (by omega) (by omega) (by omega)).trans (f8 z9 hz9)
            have f33 : ∀ z9, z9 < 3 → mem21 (97 + 4 * z9 + 1) = .inr (4, [.ref (b + (97 + 4 * z9 + 2)), .ref (b + (97 + 4 * z9 + 3)), .int (nI ((lrk z9).1)), .int (nI ((lrk z9).2))]) := fun z9 hz9 => (k26 _ (by omega) (by omega) (by omega)).trans (f9 z9 hz9)
            have f34 : ∀ z9, z9 < 3 → mem21 (97 + 4 * z9 + 2) = aN Γ 20 (ldc z9) := fun z9 hz9 => (k26 _ (by omega) (by omega) (by omega)).trans (f10 z9 hz9)
            have f35 : ∀ z9, z9 < 3 → mem21 (97 + 4 * z9 + 3) = aD Γ 20 (lsc z9) := fun z9 hz9 => (k26 _ (by omega) (by omega) (by omega)).trans (f11 z9 hz9)
            exact mm_iret hx hb hr hlocks hE hh (rfl) (⟨f23, f24, f25, f32, f33, f34, f35, f31, hfr27⟩) dX9_impact_83
          ·
            exact absurd (of_decide_eq_true h5) (by omega)
        ·
          exact absurd h4 (by omega)
  ·
    exact (no_tf (inR_y ht (by decide)) h1).elim
set_option maxHeartbeats 4000000 in
set_option maxRecDepth 100000 in
/-- vector -/
theorem c_X9_vector (l : Launch) (Γ : Gm) (b M : Nat) (mem : Nat → va_E) {vz : Nat} {vf : Nat → UInt32} {v0 v1 v2 v3 : UInt32} {lf sf : Nat} {lst : Nat → Bool × Nat × Nat × Nat} {lrk : Nat → Nat × Nat} {ldc : Nat → Nat → Nat} {lsc : Nat → Nat → UInt64} (hM : 138 ≤ M) (fH : mem 0 = .inr (8, [.ref (b + 1), .ref (b + 72), .ref (b + 75), .ref (b + 78), .ref (b + 80), .ref (b + 91), .ref (b + 93), .ref (b + 96), .ref (b + 109)])) (fLo : mem 96 = aR Γ 5 3 (fun i => some (b + (97 + 4 * i)))) (fls : ∀ z9, z9 < 3 → mem (97 + 4 * z9) = .inr (2, [.ref (b + (97 + 4 * z9 + 1)), .int (bI ((lst z9).1)), .int (nI ((lst z9).2.1)), .int (nI ((lst z9).2.2.1)), .int (nI ((lst z9).2.2.2))])) (flr : ∀ z9, z9 < 3 → mem (97 + 4 * z9 + 1) = .inr (4, [.ref (b + (97 + 4 * z9 + 2)), .ref (b + (97 + 4 * z9 + 3)), .int (nI ((lrk z9).1)), .int (nI ((lrk z9).2))])) (fld : ∀ z9, z9 < 3 → mem (97 + 4 * z9 + 2) = aN Γ 20 (ldc z9)) (flc : ∀ z9, z9 < 3 → mem (97 + 4 * z9 + 3) = aD Γ 20 (lsc z9)) (fF : mem 109 = .inr (1, [.ref (b + 110), .ref (b + 113), .ref (b + 114)])) (fR0 : mem 110 = .inr (4, [.ref (b + 111), .ref (b + 112), .int (nI lf), .int (nI sf)])) (fV : mem 78 = .inr (6, [.ref (b + 79), .int (nI 3), .int (nI vz)])) (fVf : mem 79 = aF Γ 12 vf) (h4 : (okF v0 && okF v1 && okF v2 && okF v3) = true) (hvz : vz < 3) : Ct l yX9_vector (.code yX9_vector cX9_vector 5 (some .int)) ({ frames := 4, cells := 0, slots := 0, locals := 76 } : Room) Γ b M [.ref (b + 0), .float v0, .float v1, .float v2, .float v3] mem (fun u => u 78 = .inr (6, [.ref (b + 79), .int (nI 3), .int (nI (vz + 1))]) ∧ u 79 = aF Γ 12 (up4 vf (vz * 4) v0 v1 v2 v3) ∧ (∀ z9, z9 < 3 → u (97 + 4 * z9) = .inr (2, [.ref (b + (97 + 4 * z9 + 1)), .int (bI (((va_up lst 2 (false, (lst 2).2)) z9).1)), .int (nI (((va_up lst 2 (false, (lst 2).2)) z9).2.1)), .int (nI (((va_up lst 2 (false, (lst 2).2)) z9).2.2.1)), .int (nI (((va_up lst 2 (false, (lst 2).2)) z9).2.2.2))])) ∧ (∀ z9, z9 < 3 → u (97 + 4 * z9 + 1) = .inr (4, [.ref (b + (97 + 4 * z9 + 2)), .ref (b + (97 + 4 * z9 + 3)), .int (nI ((lrk z9).1)), .int (nI ((lrk z9).2))])) ∧ (∀ z9, z9 < 3 → u (97 + 4 * z9 + 2) = aN Γ 20 (ldc z9)) ∧ (∀ z9, z9 < 3 → u (97 + 4 * z9 + 3) = aD Γ 20 (lsc z9)) ∧ u 110 = .inr (4, [.ref (b + 111), .ref (b + 112), .int (nI 0), .int (nI 0)]) ∧ ∀ j, j ≠ 78 → j ≠ 79 → ¬ (97 ≤ j ∧ j < 106) → ¬ (98 ≤ j ∧ j < 107) → ¬ (99 ≤ j ∧ j < 108) → ¬ (100 ≤ j ∧ j < 109) → j ≠ 110 → u j = mem j) (some (.int (nI (vz + 1)))) := by
  refine mm_enter (cc := cX9_vector) (by decide) (Nat.le_of_ble_eq_true rfl) ?_
  intro p e s m args below meth c ls hx hb hml hown hr hlocks hname hE hh hl
  have hl : lv_has ls 5 [(0, .ref (b + 0)), (1, .float v0), (2, .float v1), (3, .float v2), (4, .float v3)] := hl
  have hfr : ∀ j, j ≠ 78 → j ≠ 79 → ¬ (97 ≤ j ∧ j < 106) → ¬ (98 ≤ j ∧ j < 107) → ¬ (99 ≤ j ∧ j < 108) → ¬ (100 ≤ j ∧ j < 109) → j ≠ 110 → mem j = mem j := fun j _ _ _ _ _ _ _ => rfl
  refine lv_fload_n hx hb dX9_vector_0 rfl (lv_at hl 1 rfl) ?_
  refine lv_fload_n hx hb dX9_vector_1 rfl (lv_at hl 2 rfl) ?_
  refine lv_fload_n hx hb dX9_vector_2 rfl (lv_at hl 3 rfl) ?_
  refine lv_fload hx hb dX9_vector_3 (lv_at hl 4 rfl) ?_
  refine mm_S0r (As := [.float v0, .float v1, .float v2, .float v3]) (rest := []) hx hb hml hown hE hl.1 hh (kc_X9_126 hE.2.1 ⟨Nat.le_of_ble_eq_true rfl, Nat.le_of_ble_eq_true rfl⟩) (c_X9_areAllowed l Γ b M mem (v0 := v0) (v1 := v1) (v2 := v2) (v3 := v3)) rfl rfl (Nat.le_of_ble_eq_true rfl) dX9_vector_5 rfl rfl (fun H locs hh => ?_)
  refine nn_bne (tgt := 21) hx hb dX9_vector_8 (by decide) (fun h1 => ?_) (fun h1 => ?_)
  ·
    refine lv_aload_n hx hb dX9_vector_21 rfl (lv_at hl 0 rfl) ?_
    refine gf_X9_vectors hx hb hE hown hh (by omega) fH rfl dX9_vector_22 ?_
    refine mm_V0r (As := []) (rest := []) hx hb hml hown hE hl.1 hh (kc_X9_136 hE.2.1 ⟨Nat.le_of_ble_eq_true rfl, Nat.le_of_ble_eq_true rfl⟩) (c_X7_isFull l Γ b M mem (a := 78) (lim := 3) (sz := vz) (by omega) fV (by omega) (by omega)) rfl (by omega) fV rfl rfl (Nat.le_of_ble_eq_true rfl) dX9_vector_25 rfl rfl (fun H locs hh => ?_)
    refine nn_beq (tgt := 41) hx hb dX9_vector_28 (by decide) (fun h2 => ?_) (fun h2 => ?_)
    ·
      refine lv_aload_n hx hb dX9_vector_41 rfl (lv_at hl 0 rfl) ?_
      refine lv_iconst (v := (nI 2)) hx hb dX9_vector_42 (by decide) ?_
      refine mm_V0 (As := [.int (nI 2)]) (rest := []) hx hb hml hown hE hl.1 hh (kc_X9_161 hE.2.1 ⟨Nat.le_of_ble_eq_true rfl, Nat.le_of_ble_eq_true rfl⟩) (c_X9_forgetList l Γ b M mem (v := 2) (lf := lf) (sf := sf) (lst := lst) (lrk := lrk) (ldc := ldc) (lsc := lsc) (by omega) fH fLo fls flr fld flc fF fR0 (by omega)) rfl (by omega) fH rfl rfl (Nat.le_of_ble_eq_true rfl) dX9_vector_43 rfl rfl (fun H locs mem3 hP4 hh => ?_)
      obtain ⟨f5, f6, f7, f8, f9, k10⟩ := hP4
      have hfr11 : ∀ j, j ≠ 78 → j ≠ 79 → ¬ (97 ≤ j ∧ j < 106) → ¬ (98 ≤ j ∧ j < 107) → ¬ (99 ≤ j ∧ j < 108) → ¬ (100 ≤ j ∧ j < 109) → j ≠ 110 → mem3 j = mem j := fun j c0 c1 c2 c3 c4 c5 c6 => (k10 j (by omega) (by omega) (by omega) (by omega) (by omega)).trans (hfr j c0 c1 c2 c3 c4 c5 c6)
      have f12 : mem3 0 = .inr (8, [.ref (b + 1), .ref (b + 72), .ref (b + 75), .ref (b + 78), .ref (b + 80), .ref (b + 91), .ref (b + 93), .ref (b + 96), .ref (b + 109)]) := (k10 _ (by omega) (by omega) (by omega) (by omega) (by omega)).trans fH
      have f13 : mem3 96 = aR Γ 5 3 (fun i => some (b + (97 + 4 * i))) := (k10 _ (by omega) (by omega) (by omega) (by omega) (by omega)).trans fLo
      have f14 : mem3 109 = .inr (1, [.ref (b + 110), .ref (b + 113), .ref (b + 114)]) := (k10 _ (by omega) (by omega) (by omega) (by omega) (by omega)).trans fF
      have f15 : mem3 78 = .inr (6, [.ref (b + 79), .int (nI 3), .int (nI vz)]) := (k10 _ (by omega) (by omega) (by omega) (by omega) (by omega)).trans fV
      have f16 : mem3 79 = aF Γ 12 vf := (k10 _ (by omega) (by omega) (by omega) (by omega) (by omega)).trans fVf
      refine lv_aload_n hx hb dX9_vector_46 rfl (lv_at hl 0 rfl) ?_
      refine gf_X9_vectors hx hb hE hown hh (by omega) f12 rfl dX9_vector_47 ?_
      refine lv_fload_n hx hb dX9_vector_50 rfl (lv_at hl 1 rfl) ?_
      refine lv_fload_n hx hb dX9_vector_51 rfl (lv_at hl 2 rfl) ?_
      refine lv_fload_n hx hb dX9_vector_52 rfl (lv_at hl 3 rfl) ?_
      refine lv_fload hx hb dX9_vector_53 (lv_at hl 4 rfl) ?_
      refine mm_V0 (As := [.float v0, .float v1, .float v2, .float v3]) (rest := []) hx hb hml hown hE hl.1 hh (kc_X9_139 hE.2.1 ⟨Nat.le_of_ble_eq_true rfl, Nat.le_of_ble_eq_true rfl⟩) (c_X7_add l Γ b M mem3 (a := 78) (lim := 3) (sz := vz) (L := 12) (f := vf) (v0 := v0) (v1 := v1) (v2 := v2) (v3 := v3) (by omega) f15 (by omega) (by omega) f16 (by omega)) rfl (by omega) f15 rfl rfl (Nat.le_of_ble_eq_true rfl) dX9_vector_55 rfl rfl (fun H locs mem17 hP18 hh => ?_)
      obtain ⟨f19, f20, k21⟩ := hP18
      have hfr22 : ∀ j, j ≠ 78 → j ≠ 79 → ¬ (97 ≤ j ∧ j < 106) → ¬ (98 ≤ j ∧ j < 107) → ¬ (99 ≤ j ∧ j < 108) → ¬ (100 ≤ j ∧ j < 109) → j ≠ 110 → mem17 j = mem j := fun j c0 c1 c2 c3 c4 c5 c6 => (k21 j (by omega) (by omega)).trans (hfr11 j c0 c1 c2 c3 c4 c5 c6)
      have f23 : mem17 0 = .inr (8, [.ref (b + 1), .ref (b + 72), .ref (b + 75), .ref (b + 78), .ref (b + 80), .ref (b + 91), .ref (b + 93), .ref (b + 96), .ref (b + 109)]) := (k21 _ (by omega) (by omega)).trans f12
      have f24 : mem17 96 = aR Γ 5 3 (fun i => some (b + (97 + 4 * i))) := (k21 _ (by omega) (by omega)).trans f13
      have f25 : mem17 109 = .inr (1, [.ref (b + 110), .ref (b + 113), .ref (b + 114)]) := (k21 _ (by omega) (by omega)).trans f14
      have f26 : mem17 110 = .inr (4, [.ref (b + 111), .ref (b + 112), .int (nI 0), .int (nI 0)]) := (k21 _ (by omega) (by omega)).trans f9
      have f27 : ∀ z9, z9 < 3 → mem17 (97 + 4 * z9) = .inr (2, [.ref (b + (97 + 4 * z9 + 1)), .int (bI (((va_up lst 2 (false, (lst 2).2)) z9).1)), .int (nI (((va_up lst 2 (false, (lst 2).2)) z9).2.1)), .int (nI (((va_up lst 2 (false, (lst 2).2)) z9).2.2.1)), .int (nI (((va_up lst 2 (false, (lst 2).2)) z9).2.2.2))]) := fun z9 hz9 => (k21 _ (by omega) (by omega)).trans (f5 z9 hz9)
      have f28 : ∀ z9, z9 < 3 → mem17 (97 + 4 * z9 + 1) = .inr (4, [.ref (b + (97 + 4 * z9 + 2)), .ref (b + (97 + 4 * z9 + 3)), .int (nI ((lrk z9).1)), .int (nI ((lrk z9).2))]) := fun z9 hz9 => (k21 _ (by omega) (by omega)).trans (f6 z9 hz9)
      have f29 : ∀ z9, z9 < 3 → mem17 (97 + 4 * z9 + 2) = aN Γ 20 (ldc z9) := fun z9 hz9 => (k21 _ (by omega) (by omega)).trans (f7 z9 hz9)
      have f30 : ∀ z9, z9 < 3 → mem17 (97 + 4 * z9 + 3) = aD Γ 20 (lsc z9) := fun z9 hz9 => (k21 _ (by omega) (by omega)).trans (f8 z9 hz9)
      exact mm_iret hx hb hr hlocks hE hh (rfl) (⟨f19, f20, f27, f28, f29, f30, f26, hfr22⟩) dX9_vector_58
    ·
      exact absurd (of_decide_eq_true h2) (by omega)
  ·
    exact (no_tf h4 h1).elim
set_option maxHeartbeats 4000000 in
set_option maxRecDepth 100000 in
/-- madeList -/
theorem c_X9_madeList (l : Launch) (Γ : Gm) (b M : Nat) (mem : Nat → va_E) {v : Nat} {lst : Nat → Bool × Nat × Nat × Nat} (hM : 138 ≤ M) (fH : mem 0 = .inr (8, [.ref (b + 1), .ref (b + 72), .ref (b + 75), .ref (b + 78), .ref (b + 80), .ref (b + 91), .ref (b + 93), .ref (b + 96), .ref (b + 109)])) (fLo : mem 96 = aR Γ 5 3 (fun i => some (b + (97 + 4 * i)))) (fls : ∀ z9, z9 < 3 → mem (97 + 4 * z9) = .inr (2, [.ref (b + (97 + 4 * z9 + 1)), .int (bI ((lst z9).1)), .int (nI ((lst z9).2.1)), .int (nI ((lst z9).2.2.1)), .int (nI ((lst z9).2.2.2))])) (hv : v < 3) (hmd : (lst v).1 = true) : Ct l yX9_madeList (.code yX9_madeList cX9_madeList 2 (some (.object "HybridSearch$Listing"))) ({ frames := 1, cells := 0, slots := 0, locals := 20 } : Room) Γ b M [.ref (b + 0), .int (nI v)] mem (fun u => u = mem) (some (.ref (b + (97 + 4 * v)))) := by
  refine mm_enter (cc := cX9_madeList) (by decide) (Nat.le_of_ble_eq_true rfl) ?_
  intro p e s m args below meth c ls hx hb hml hown hr hlocks hname hE hh hl
  have hl : lv_has ls 2 [(0, .ref (b + 0)), (1, .int (nI v))] := hl
  refine lv_iload_n hx hb dX9_madeList_0 rfl (lv_at hl 1 rfl) ?_
  refine mm_S0r (As := [.int (nI v)]) (rest := []) hx hb hml hown hE hl.1 hh (kc_X9_172 hE.2.1 ⟨Nat.le_of_ble_eq_true rfl, Nat.le_of_ble_eq_true rfl⟩) (c_X9_isView l Γ b M mem (t := (nI v))) rfl rfl (Nat.le_of_ble_eq_true rfl) dX9_madeList_1 rfl rfl (fun H locs hh => ?_)
  refine nn_bne (tgt := 18) hx hb dX9_madeList_4 (by decide) (fun h1 => ?_) (fun h1 => ?_)
  ·
    refine lv_aload_n hx hb dX9_madeList_18 rfl (lv_at hl 0 rfl) ?_
    refine gf_X9_lists hx hb hE hown hh (by omega) fH rfl dX9_madeList_19 ?_
    refine lv_iload_n hx hb dX9_madeList_22 rfl (lv_at hl 1 rfl) ?_
    refine mm_aald (q := b + (97 + 4 * v)) hx hb hE hh 5 (by omega) fLo rfl rfl (by omega) (by decide) (rfl) dX9_madeList_23 ?_
    refine mm_V0r (As := []) (rest := []) hx hb hml hown hE hl.1 hh (kc_X9_262 hE.2.1 ⟨Nat.le_of_ble_eq_true rfl, Nat.le_of_ble_eq_true rfl⟩) (c_X2_isMade l Γ b M mem (a := 97 + 4 * v) (sd := (lst v).2.1) (sk := (lst v).2.2.1) (ps := (lst v).2.2.2) (made := (lst v).1) (by omega) (fls v (by omega))) rfl (by omega) (fls v (by omega)) rfl rfl (Nat.le_of_ble_eq_true rfl) dX9_madeList_24 rfl rfl (fun H locs hh => ?_)
    refine nn_bne (tgt := 41) hx hb dX9_madeList_27 (by decide) (fun h2 => ?_) (fun h2 => ?_)
    ·
      refine lv_aload_n hx hb dX9_madeList_41 rfl (lv_at hl 0 rfl) ?_
      refine gf_X9_lists hx hb hE hown hh (by omega) fH rfl dX9_madeList_42 ?_
      refine lv_iload_n hx hb dX9_madeList_45 rfl (lv_at hl 1 rfl) ?_
      refine mm_aald (q := b + (97 + 4 * v)) hx hb hE hh 5 (by omega) fLo rfl rfl (by omega) (by decide) (rfl) dX9_madeList_46 ?_
      exact mm_aret hx hb hr hlocks hE hh (rfl) (rfl) dX9_madeList_47
    ·
      exact (no_tf hmd h2).elim
  ·
    exact (no_tf (inR_y hv (by decide)) h1).elim
set_option maxHeartbeats 4000000 in
set_option maxRecDepth 100000 in
/-- listWithPlace -/
theorem c_X9_listWithPlace (l : Launch) (Γ : Gm) (b M : Nat) (mem : Nat → va_E) {v i : Nat} {lst : Nat → Bool × Nat × Nat × Nat} {lrk : Nat → Nat × Nat}  (hM : 138 ≤ M) (fH : mem 0 = .inr (8, [.ref (b + 1), .ref (b + 72), .ref (b + 75), .ref (b + 78), .ref (b + 80), .ref (b + 91), .ref (b + 93), .ref (b + 96), .ref (b + 109)])) (fLo : mem 96 = aR Γ 5 3 (fun i => some (b + (97 + 4 * i)))) (fls : ∀ z9, z9 < 3 → mem (97 + 4 * z9) = .inr (2, [.ref (b + (97 + 4 * z9 + 1)), .int (bI ((lst z9).1)), .int (nI ((lst z9).2.1)), .int (nI ((lst z9).2.2.1)), .int (nI ((lst z9).2.2.2))])) (flr : ∀ z9, z9 < 3 → mem (97 + 4 * z9 + 1) = .inr (4, [.ref (b + (97 + 4 * z9 + 2)), .ref (b + (97 + 4 * z9 + 3)), .int (nI ((lrk z9).1)), .int (nI ((lrk z9).2))])) (hv : v < 3) (hmd : (lst v).1 = true) (hi : i < (lrk v).2) (hi2 : (lrk v).2 ≤ 20) : Ct l yX9_listWithPlace (.code yX9_listWithPlace cX9_listWithPlace 4 (some (.object "HybridSearch$Listing"))) ({ frames := 2, cells := 0, slots := 0, locals := 41 } : Room) Γ b M [.ref (b + 0), .int (nI v), .int (nI i)] mem (fun u => u = mem) (some (.ref (b + (97 + 4 * v)))) := by
  refine mm_enter (cc := cX9_listWithPlace) (by decide) (Nat.le_of_ble_eq_true rfl) ?_
  intro p e s m args below meth c ls hx hb hml hown hr hlocks hname hE hh hl
  have hl : lv_has ls 4 [(0, .ref (b + 0)), (1, .int (nI v)), (2, .int (nI i))] := hl
  refine lv_aload_n hx hb dX9_listWithPlace_0 rfl (lv_at hl 0 rfl) ?_
  refine lv_iload_n hx hb dX9_listWithPlace_1 rfl (lv_at hl 1 rfl) ?_
  refine mm_V0r (As := [.int (nI v)]) (rest := []) hx hb hml hown hE hl.1 hh (kc_X9_213 hE.2.1 ⟨Nat.le_of_ble_eq_true rfl, Nat.le_of_ble_eq_true rfl⟩) (c_X9_madeList l Γ b M mem (v := v) (lst := lst) (by omega) fH fLo fls (by omega) (by omega)) rfl (by omega) fH rfl rfl (Nat.le_of_ble_eq_true rfl) dX9_listWithPlace_2 rfl rfl (fun H locs hh => ?_)
  refine lv_astore_n (lv' := [(3, .ref (b + (97 + 4 * v))), (0, .ref (b + 0)), (1, .int (nI v)), (2, .int (nI i))]) hx hb dX9_listWithPlace_5 rfl hl (by decide) rfl (fun ls hl => ?_)
  refine lv_aload_n hx hb dX9_listWithPlace_6 rfl (lv_at hl 0 rfl) ?_
  refine mm_V0r (As := []) (rest := []) hx hb hml hown hE hl.1 hh (kc_X9_199 hE.2.1 ⟨Nat.le_of_ble_eq_true rfl, Nat.le_of_ble_eq_true rfl⟩) (c_X2_ranking l Γ b M mem (a := 97 + 4 * v) (sd := (lst v).2.1) (sk := (lst v).2.2.1) (ps := (lst v).2.2.2) (made := (lst v).1) (by omega) (fls v (by omega))) rfl (by omega) (fls v (by omega)) rfl rfl (Nat.le_of_ble_eq_true rfl) dX9_listWithPlace_7 rfl rfl (fun H locs hh => ?_)
  refine lv_iload_n hx hb dX9_listWithPlace_10 rfl (lv_at hl 3 rfl) ?_
  refine mm_V0r (As := [.int (nI i)]) (rest := []) hx hb hml hown hE hl.1 hh (kc_X9_238 hE.2.1 ⟨Nat.le_of_ble_eq_true rfl, Nat.le_of_ble_eq_true rfl⟩) (c_X4_holdsPlace l Γ b M mem (a := 97 + 4 * v + 1) (lim := (lrk v).1) (sz := (lrk v).2) (i := (nI i)) (by omega) (flr v (by omega))) rfl (by omega) (flr v (by omega)) rfl rfl (Nat.le_of_ble_eq_true rfl) dX9_listWithPlace_11 rfl rfl (fun H locs hh => ?_)
  refine nn_bne (tgt := 27) hx hb dX9_listWithPlace_14 (by decide) (fun h1 => ?_) (fun h1 => ?_)
  ·
    refine lv_aload_n hx hb dX9_listWithPlace_27 rfl (lv_at hl 0 rfl) ?_
    exact mm_aret hx hb hr hlocks hE hh (rfl) (rfl) dX9_listWithPlace_28
  ·
    exact (no_tf (show decide (¬ nI i < 0 ∧ ¬ nI (lrk v).2 ≤ nI i) = true from inR_y hi (by omega)) h1).elim
set_option maxHeartbeats 4000000 in
set_option maxRecDepth 100000 in
/-- hit -/
theorem c_X9_hit (l : Launch) (Γ : Gm) (b M : Nat) (mem : Nat → va_E) {v i : Nat} {lst : Nat → Bool × Nat × Nat × Nat} {lrk : Nat → Nat × Nat} {ldc : Nat → Nat → Nat} (hM : 138 ≤ M) (fH : mem 0 = .inr (8, [.ref (b + 1), .ref (b + 72), .ref (b + 75), .ref (b + 78), .ref (b + 80), .ref (b + 91), .ref (b + 93), .ref (b + 96), .ref (b + 109)])) (fLo : mem 96 = aR Γ 5 3 (fun i => some (b + (97 + 4 * i)))) (fls : ∀ z9, z9 < 3 → mem (97 + 4 * z9) = .inr (2, [.ref (b + (97 + 4 * z9 + 1)), .int (bI ((lst z9).1)), .int (nI ((lst z9).2.1)), .int (nI ((lst z9).2.2.1)), .int (nI ((lst z9).2.2.2))])) (flr : ∀ z9, z9 < 3 → mem (97 + 4 * z9 + 1) = .inr (4, [.ref (b + (97 + 4 * z9 + 2)), .ref (b + (97 + 4 * z9 + 3)), .int (nI ((lrk z9).1)), .int (nI ((lrk z9).2))])) (fld : ∀ z9, z9 < 3 → mem (97 + 4 * z9 + 2) = aN Γ 20 (ldc z9)) (hv : v < 3) (hmd : (lst v).1 = true) (hi : i < (lrk v).2) (hi2 : (lrk v).2 ≤ 20) : Ct l yX9_hit (.code yX9_hit cX9_hit 3 (some .int)) ({ frames := 3, cells := 0, slots := 0, locals := 64 } : Room) Γ b M [.ref (b + 0), .int (nI v), .int (nI i)] mem (fun u => u = mem) (some (.int (nI (ldc v i)))) := by
  refine mm_enter (cc := cX9_hit) (by decide) (Nat.le_of_ble_eq_true rfl) ?_
  intro p e s m args below meth c ls hx hb hml hown hr hlocks hname hE hh hl
  have hl : lv_has ls 3 [(0, .ref (b + 0)), (1, .int (nI v)), (2, .int (nI i))] := hl
  refine lv_aload_n hx hb dX9_hit_0 rfl (lv_at hl 0 rfl) ?_
  refine lv_iload_n hx hb dX9_hit_1 rfl (lv_at hl 1 rfl) ?_
  refine lv_iload_n hx hb dX9_hit_2 rfl (lv_at hl 2 rfl) ?_
  refine mm_V0r (As := [.int (nI v), .int (nI i)]) (rest := []) hx hb hml hown hE hl.1 hh (kc_X9_195 hE.2.1 ⟨Nat.le_of_ble_eq_true rfl, Nat.le_of_ble_eq_true rfl⟩) (c_X9_listWithPlace l Γ b M mem (v := v) (i := i) (lst := lst) (lrk := lrk) (by omega) fH fLo fls flr (by omega) (by omega) (by omega) (by omega)) rfl (by omega) fH rfl rfl (Nat.le_of_ble_eq_true rfl) dX9_hit_3 rfl rfl (fun H locs hh => ?_)
  refine mm_V0r (As := []) (rest := []) hx hb hml hown hE hl.1 hh (kc_X9_199 hE.2.1 ⟨Nat.le_of_ble_eq_true rfl, Nat.le_of_ble_eq_true rfl⟩) (c_X2_ranking l Γ b M mem (a := 97 + 4 * v) (sd := (lst v).2.1) (sk := (lst v).2.2.1) (ps := (lst v).2.2.2) (made := (lst v).1) (by omega) (fls v (by omega))) rfl (by omega) (fls v (by omega)) rfl rfl (Nat.le_of_ble_eq_true rfl) dX9_hit_6 rfl rfl (fun H locs hh => ?_)
  refine lv_iload_n hx hb dX9_hit_9 rfl (lv_at hl 2 rfl) ?_
  refine mm_V0r (As := [.int (nI i)]) (rest := []) hx hb hml hown hE hl.1 hh (kc_X9_203 hE.2.1 ⟨Nat.le_of_ble_eq_true rfl, Nat.le_of_ble_eq_true rfl⟩) (c_X4_documentAt l Γ b M mem (a := 97 + 4 * v + 1) (lim := (lrk v).1) (sz := (lrk v).2) (i := i) (dc := ldc v) (by omega) (flr v (by omega)) (fld v (by omega)) (by omega)) rfl (by omega) (flr v (by omega)) rfl rfl (Nat.le_of_ble_eq_true rfl) dX9_hit_10 rfl rfl (fun H locs hh => ?_)
  exact mm_iret hx hb hr hlocks hE hh (rfl) (rfl) dX9_hit_13
set_option maxHeartbeats 4000000 in
set_option maxRecDepth 100000 in
/-- score -/
theorem c_X9_score (l : Launch) (Γ : Gm) (b M : Nat) (mem : Nat → va_E) {v i : Nat} {lst : Nat → Bool × Nat × Nat × Nat} {lrk : Nat → Nat × Nat} {lsc : Nat → Nat → UInt64} (hM : 138 ≤ M) (fH : mem 0 = .inr (8, [.ref (b + 1), .ref (b + 72), .ref (b + 75), .ref (b + 78), .ref (b + 80), .ref (b + 91), .ref (b + 93), .ref (b + 96), .ref (b + 109)])) (fLo : mem 96 = aR Γ 5 3 (fun i => some (b + (97 + 4 * i)))) (fls : ∀ z9, z9 < 3 → mem (97 + 4 * z9) = .inr (2, [.ref (b + (97 + 4 * z9 + 1)), .int (bI ((lst z9).1)), .int (nI ((lst z9).2.1)), .int (nI ((lst z9).2.2.1)), .int (nI ((lst z9).2.2.2))])) (flr : ∀ z9, z9 < 3 → mem (97 + 4 * z9 + 1) = .inr (4, [.ref (b + (97 + 4 * z9 + 2)), .ref (b + (97 + 4 * z9 + 3)), .int (nI ((lrk z9).1)), .int (nI ((lrk z9).2))])) (flc : ∀ z9, z9 < 3 → mem (97 + 4 * z9 + 3) = aD Γ 20 (lsc z9)) (hv : v < 3) (hmd : (lst v).1 = true) (hi : i < (lrk v).2) (hi2 : (lrk v).2 ≤ 20) : Ct l yX9_score (.code yX9_score cX9_score 3 (some .double)) ({ frames := 3, cells := 0, slots := 0, locals := 64 } : Room) Γ b M [.ref (b + 0), .int (nI v), .int (nI i)] mem (fun u => u = mem) (some (.double (lsc v i))) := by
  refine mm_enter (cc := cX9_score) (by decide) (Nat.le_of_ble_eq_true rfl) ?_
  intro p e s m args below meth c ls hx hb hml hown hr hlocks hname hE hh hl
  have hl : lv_has ls 3 [(0, .ref (b + 0)), (1, .int (nI v)), (2, .int (nI i))] := hl
  refine lv_aload_n hx hb dX9_score_0 rfl (lv_at hl 0 rfl) ?_
  refine lv_iload_n hx hb dX9_score_1 rfl (lv_at hl 1 rfl) ?_
  refine lv_iload_n hx hb dX9_score_2 rfl (lv_at hl 2 rfl) ?_
  refine mm_V0r (As := [.int (nI v), .int (nI i)]) (rest := []) hx hb hml hown hE hl.1 hh (kc_X9_195 hE.2.1 ⟨Nat.le_of_ble_eq_true rfl, Nat.le_of_ble_eq_true rfl⟩) (c_X9_listWithPlace l Γ b M mem (v := v) (i := i) (lst := lst) (lrk := lrk) (by omega) fH fLo fls flr (by omega) (by omega) (by omega) (by omega)) rfl (by omega) fH rfl rfl (Nat.le_of_ble_eq_true rfl) dX9_score_3 rfl rfl (fun H locs hh => ?_)
  refine mm_V0r (As := []) (rest := []) hx hb hml hown hE hl.1 hh (kc_X9_199 hE.2.1 ⟨Nat.le_of_ble_eq_true rfl, Nat.le_of_ble_eq_true rfl⟩) (c_X2_ranking l Γ b M mem (a := 97 + 4 * v) (sd := (lst v).2.1) (sk := (lst v).2.2.1) (ps := (lst v).2.2.2) (made := (lst v).1) (by omega) (fls v (by omega))) rfl (by omega) (fls v (by omega)) rfl rfl (Nat.le_of_ble_eq_true rfl) dX9_score_6 rfl rfl (fun H locs hh => ?_)
  refine lv_iload_n hx hb dX9_score_9 rfl (lv_at hl 2 rfl) ?_
  refine mm_V0r (As := [.int (nI i)]) (rest := []) hx hb hml hown hE hl.1 hh (kc_X9_207 hE.2.1 ⟨Nat.le_of_ble_eq_true rfl, Nat.le_of_ble_eq_true rfl⟩) (c_X4_scoreAt l Γ b M mem (a := 97 + 4 * v + 1) (lim := (lrk v).1) (sz := (lrk v).2) (i := i) (sc := lsc v) (by omega) (flr v (by omega)) (flc v (by omega)) (by omega)) rfl (by omega) (flr v (by omega)) rfl rfl (Nat.le_of_ble_eq_true rfl) dX9_score_10 rfl rfl (fun H locs hh => ?_)
  exact mm_dret hx hb hr hlocks hE hh (rfl) (rfl) dX9_score_13
set_option maxHeartbeats 4000000 in
set_option maxRecDepth 100000 in
/-- work, 0 -/
theorem c_X9_work0 (l : Launch) (Γ : Gm) (b M : Nat) (mem : Nat → va_E) {v : Nat} {lst : Nat → Bool × Nat × Nat × Nat} (hM : 138 ≤ M) (fH : mem 0 = .inr (8, [.ref (b + 1), .ref (b + 72), .ref (b + 75), .ref (b + 78), .ref (b + 80), .ref (b + 91), .ref (b + 93), .ref (b + 96), .ref (b + 109)])) (fLo : mem 96 = aR Γ 5 3 (fun i => some (b + (97 + 4 * i)))) (fls : ∀ z9, z9 < 3 → mem (97 + 4 * z9) = .inr (2, [.ref (b + (97 + 4 * z9 + 1)), .int (bI ((lst z9).1)), .int (nI ((lst z9).2.1)), .int (nI ((lst z9).2.2.1)), .int (nI ((lst z9).2.2.2))])) (hv : v < 3) (hmd : (lst v).1 = true) : Ct l yX9_work (.code yX9_work cX9_work 4 (some .int)) ({ frames := 2, cells := 0, slots := 0, locals := 41 } : Room) Γ b M [.ref (b + 0), .int (nI v), .int (nI 0)] mem (fun u => u = mem) (some (.int (nI ((lst v).2.1)))) := by
  refine mm_enter (cc := cX9_work) (by decide) (Nat.le_of_ble_eq_true rfl) ?_
  intro p e s m args below meth c ls hx hb hml hown hr hlocks hname hE hh hl
  have hl : lv_has ls 4 [(0, .ref (b + 0)), (1, .int (nI v)), (2, .int (nI 0))] := hl
  refine lv_iload_n hx hb dX9_work_0 rfl (lv_at hl 2 rfl) ?_
  refine nn_if_eq (tgt := 24) hx hb dX9_work_1 (by decide) (by omega) (fun h1 => ?_) (fun h1 => ?_)
  ·
    refine lv_aload_n hx hb dX9_work_24 rfl (lv_at hl 0 rfl) ?_
    refine lv_iload_n hx hb dX9_work_25 rfl (lv_at hl 1 rfl) ?_
    refine mm_V0r (As := [.int (nI v)]) (rest := []) hx hb hml hown hE hl.1 hh (kc_X9_213 hE.2.1 ⟨Nat.le_of_ble_eq_true rfl, Nat.le_of_ble_eq_true rfl⟩) (c_X9_madeList l Γ b M mem (v := v) (lst := lst) (by omega) fH fLo fls (by omega) (by omega)) rfl (by omega) fH rfl rfl (Nat.le_of_ble_eq_true rfl) dX9_work_26 rfl rfl (fun H locs hh => ?_)
    refine lv_astore_n (lv' := [(3, .ref (b + (97 + 4 * v))), (0, .ref (b + 0)), (1, .int (nI v)), (2, .int (nI 0))]) hx hb dX9_work_29 rfl hl (by decide) rfl (fun ls hl => ?_)
    refine lv_iload_n hx hb dX9_work_30 rfl (lv_at hl 3 rfl) ?_
    refine lv_lookup (off := 25) (tgt := 56) hx hb dX9_work_31 (by decide) (by decide +kernel) (by decide) ?_
    refine lv_aload_n hx hb dX9_work_56 rfl (lv_at hl 0 rfl) ?_
    refine mm_V0r (As := []) (rest := []) hx hb hml hown hE hl.1 hh (kc_X9_217 hE.2.1 ⟨Nat.le_of_ble_eq_true rfl, Nat.le_of_ble_eq_true rfl⟩) (c_X2_scored l Γ b M mem (a := 97 + 4 * v) (sd := (lst v).2.1) (sk := (lst v).2.2.1) (ps := (lst v).2.2.2) (made := (lst v).1) (by omega) (fls v (by omega))) rfl (by omega) (fls v (by omega)) rfl rfl (Nat.le_of_ble_eq_true rfl) dX9_work_57 rfl rfl (fun H locs hh => ?_)
    exact mm_iret hx hb hr hlocks hE hh (rfl) (rfl) dX9_work_60
  ·
    exact absurd h1 (by decide)
set_option maxHeartbeats 4000000 in
set_option maxRecDepth 100000 in
/-- work, 1 -/
theorem c_X9_work1 (l : Launch) (Γ : Gm) (b M : Nat) (mem : Nat → va_E) {v : Nat} {lst : Nat → Bool × Nat × Nat × Nat} (hM : 138 ≤ M) (fH : mem 0 = .inr (8, [.ref (b + 1), .ref (b + 72), .ref (b + 75), .ref (b + 78), .ref (b + 80), .ref (b + 91), .ref (b + 93), .ref (b + 96), .ref (b + 109)])) (fLo : mem 96 = aR Γ 5 3 (fun i => some (b + (97 + 4 * i)))) (fls : ∀ z9, z9 < 3 → mem (97 + 4 * z9) = .inr (2, [.ref (b + (97 + 4 * z9 + 1)), .int (bI ((lst z9).1)), .int (nI ((lst z9).2.1)), .int (nI ((lst z9).2.2.1)), .int (nI ((lst z9).2.2.2))])) (hv : v < 3) (hmd : (lst v).1 = true) : Ct l yX9_work (.code yX9_work cX9_work 4 (some .int)) ({ frames := 2, cells := 0, slots := 0, locals := 41 } : Room) Γ b M [.ref (b + 0), .int (nI v), .int (nI 1)] mem (fun u => u = mem) (some (.int (nI ((lst v).2.2.1)))) := by
  refine mm_enter (cc := cX9_work) (by decide) (Nat.le_of_ble_eq_true rfl) ?_
  intro p e s m args below meth c ls hx hb hml hown hr hlocks hname hE hh hl
  have hl : lv_has ls 4 [(0, .ref (b + 0)), (1, .int (nI v)), (2, .int (nI 1))] := hl
  refine lv_iload_n hx hb dX9_work_0 rfl (lv_at hl 2 rfl) ?_
  refine nn_if_eq (tgt := 24) hx hb dX9_work_1 (by decide) (by omega) (fun h1 => ?_) (fun h1 => ?_)
  ·
    exact absurd h1 (by decide)
  ·
    refine lv_iload_n hx hb dX9_work_4 rfl (lv_at hl 2 rfl) ?_
    refine lv_iconst (v := (nI 1)) hx hb dX9_work_5 (by decide) ?_
    refine nn_icmp_eq (tgt := 24) hx hb dX9_work_6 (by decide) (by omega) (by omega) (fun h2 => ?_) (fun h2 => ?_)
    ·
      refine lv_aload_n hx hb dX9_work_24 rfl (lv_at hl 0 rfl) ?_
      refine lv_iload_n hx hb dX9_work_25 rfl (lv_at hl 1 rfl) ?_
      refine mm_V0r (As := [.int (nI v)]) (rest := []) hx hb hml hown hE hl.1 hh (kc_X9_213 hE.2.1 ⟨Nat.le_of_ble_eq_true rfl, Nat.le_of_ble_eq_true rfl⟩) (c_X9_madeList l Γ b M mem (v := v) (lst := lst) (by omega) fH fLo fls (by omega) (by omega)) rfl (by omega) fH rfl rfl (Nat.le_of_ble_eq_true rfl) dX9_work_26 rfl rfl (fun H locs hh => ?_)
      refine lv_astore_n (lv' := [(3, .ref (b + (97 + 4 * v))), (0, .ref (b + 0)), (1, .int (nI v)), (2, .int (nI 1))]) hx hb dX9_work_29 rfl hl (by decide) rfl (fun ls hl => ?_)
      refine lv_iload_n hx hb dX9_work_30 rfl (lv_at hl 3 rfl) ?_
      refine lv_lookup (off := 30) (tgt := 61) hx hb dX9_work_31 (by decide) (by decide +kernel) (by decide) ?_
      refine lv_aload_n hx hb dX9_work_61 rfl (lv_at hl 0 rfl) ?_
      refine mm_V0r (As := []) (rest := []) hx hb hml hown hE hl.1 hh (kc_X9_220 hE.2.1 ⟨Nat.le_of_ble_eq_true rfl, Nat.le_of_ble_eq_true rfl⟩) (c_X2_skipped l Γ b M mem (a := 97 + 4 * v) (sd := (lst v).2.1) (sk := (lst v).2.2.1) (ps := (lst v).2.2.2) (made := (lst v).1) (by omega) (fls v (by omega))) rfl (by omega) (fls v (by omega)) rfl rfl (Nat.le_of_ble_eq_true rfl) dX9_work_62 rfl rfl (fun H locs hh => ?_)
      exact mm_iret hx hb hr hlocks hE hh (rfl) (rfl) dX9_work_65
    ·
      exact absurd rfl h2
set_option maxHeartbeats 4000000 in
set_option maxRecDepth 100000 in
/-- work, 2 -/
theorem c_X9_work2 (l : Launch) (Γ : Gm) (b M : Nat) (mem : Nat → va_E) {v : Nat} {lst : Nat → Bool × Nat × Nat × Nat} (hM : 138 ≤ M) (fH : mem 0 = .inr (8, [.ref (b + 1), .ref (b + 72), .ref (b + 75), .ref (b + 78), .ref (b + 80), .ref (b + 91), .ref (b + 93), .ref (b + 96), .ref (b + 109)])) (fLo : mem 96 = aR Γ 5 3 (fun i => some (b + (97 + 4 * i)))) (fls : ∀ z9, z9 < 3 → mem (97 + 4 * z9) = .inr (2, [.ref (b + (97 + 4 * z9 + 1)), .int (bI ((lst z9).1)), .int (nI ((lst z9).2.1)), .int (nI ((lst z9).2.2.1)), .int (nI ((lst z9).2.2.2))])) (hv : v < 3) (hmd : (lst v).1 = true) : Ct l yX9_work (.code yX9_work cX9_work 4 (some .int)) ({ frames := 2, cells := 0, slots := 0, locals := 41 } : Room) Γ b M [.ref (b + 0), .int (nI v), .int (nI 2)] mem (fun u => u = mem) (some (.int (nI ((lst v).2.2.2)))) := by
  refine mm_enter (cc := cX9_work) (by decide) (Nat.le_of_ble_eq_true rfl) ?_
  intro p e s m args below meth c ls hx hb hml hown hr hlocks hname hE hh hl
  have hl : lv_has ls 4 [(0, .ref (b + 0)), (1, .int (nI v)), (2, .int (nI 2))] := hl
  refine lv_iload_n hx hb dX9_work_0 rfl (lv_at hl 2 rfl) ?_
  refine nn_if_eq (tgt := 24) hx hb dX9_work_1 (by decide) (by omega) (fun h1 => ?_) (fun h1 => ?_)
  ·
    exact absurd h1 (by decide)
  ·
    refine lv_iload_n hx hb dX9_work_4 rfl (lv_at hl 2 rfl) ?_
    refine lv_iconst (v := (nI 1)) hx hb dX9_work_5 (by decide) ?_
    refine nn_icmp_eq (tgt := 24) hx hb dX9_work_6 (by decide) (by omega) (by omega) (fun h2 => ?_) (fun h2 => ?_)
    ·
      exact absurd h2 (by decide)
    ·
      refine lv_iload_n hx hb dX9_work_9 rfl (lv_at hl 2 rfl) ?_
      refine lv_iconst (v := (nI 2)) hx hb dX9_work_10 (by decide) ?_
      refine nn_icmp_eq (tgt := 24) hx hb dX9_work_11 (by decide) (by omega) (by omega) (fun h3 => ?_) (fun h3 => ?_)
      ·
        refine lv_aload_n hx hb dX9_work_24 rfl (lv_at hl 0 rfl) ?_
        refine lv_iload_n hx hb dX9_work_25 rfl (lv_at hl 1 rfl) ?_
        refine mm_V0r (As := [.int (nI v)]) (rest := []) hx hb hml hown hE hl.1 hh (kc_X9_213 hE.2.1 ⟨Nat.le_of_ble_eq_true rfl, Nat.le_of_ble_eq_true rfl⟩) (c_X9_madeList l Γ b M mem (v := v) (lst := lst) (by omega) fH fLo fls (by omega) (by omega)) rfl (by omega) fH rfl rfl (Nat.le_of_ble_eq_true rfl) dX9_work_26 rfl rfl (fun H locs hh => ?_)
        refine lv_astore_n (lv' := [(3, .ref (b + (97 + 4 * v))), (0, .ref (b + 0)), (1, .int (nI v)), (2, .int (nI 2))]) hx hb dX9_work_29 rfl hl (by decide) rfl (fun ls hl => ?_)
        refine lv_iload_n hx hb dX9_work_30 rfl (lv_at hl 3 rfl) ?_
        refine lv_lookup (off := 35) (tgt := 66) hx hb dX9_work_31 (by decide) (by decide +kernel) (by decide) ?_
        refine lv_aload_n hx hb dX9_work_66 rfl (lv_at hl 0 rfl) ?_
        refine mm_V0r (As := []) (rest := []) hx hb hml hown hE hl.1 hh (kc_X9_223 hE.2.1 ⟨Nat.le_of_ble_eq_true rfl, Nat.le_of_ble_eq_true rfl⟩) (c_X2_passed l Γ b M mem (a := 97 + 4 * v) (sd := (lst v).2.1) (sk := (lst v).2.2.1) (ps := (lst v).2.2.2) (made := (lst v).1) (by omega) (fls v (by omega))) rfl (by omega) (fls v (by omega)) rfl rfl (Nat.le_of_ble_eq_true rfl) dX9_work_67 rfl rfl (fun H locs hh => ?_)
        exact mm_iret hx hb hr hlocks hE hh (rfl) (rfl) dX9_work_70
      ·
        exact absurd rfl h3
set_option maxHeartbeats 4000000 in
set_option maxRecDepth 100000 in
/-- fuse -/
theorem c_X9_fuse (l : Launch) (Γ : Gm) (b M : Nat) (mem : Nat → va_E) {way lf sf : Nat} {to : Nat → UInt64} {mb fdc : Nat → Nat} {fsc : Nat → UInt64} {lst : Nat → Bool × Nat × Nat × Nat} {lrk : Nat → Nat × Nat} {ldc : Nat → Nat → Nat} {lsc : Nat → Nat → UInt64} (hM : 138 ≤ M) (fH : mem 0 = .inr (8, [.ref (b + 1), .ref (b + 72), .ref (b + 75), .ref (b + 78), .ref (b + 80), .ref (b + 91), .ref (b + 93), .ref (b + 96), .ref (b + 109)])) (fF : mem 109 = .inr (1, [.ref (b + 110), .ref (b + 113), .ref (b + 114)])) (fF1 : mem 113 = aD Γ 16 to) (fF2 : mem 114 = aN Γ 16 mb) (fR0 : mem 110 = .inr (4, [.ref (b + 111), .ref (b + 112), .int (nI lf), .int (nI sf)])) (fR1 : mem 111 = aN Γ 20 fdc) (fR2 : mem 112 = aD Γ 20 fsc) (fLo : mem 96 = aR Γ 5 3 (fun i => some (b + (97 + 4 * i)))) (fls : ∀ z9, z9 < 3 → mem (97 + 4 * z9) = .inr (2, [.ref (b + (97 + 4 * z9 + 1)), .int (bI ((lst z9).1)), .int (nI ((lst z9).2.1)), .int (nI ((lst z9).2.2.1)), .int (nI ((lst z9).2.2.2))])) (flr : ∀ z9, z9 < 3 → mem (97 + 4 * z9 + 1) = .inr (4, [.ref (b + (97 + 4 * z9 + 2)), .ref (b + (97 + 4 * z9 + 3)), .int (nI ((lrk z9).1)), .int (nI ((lrk z9).2))])) (fld : ∀ z9, z9 < 3 → mem (97 + 4 * z9 + 2) = aN Γ 20 (ldc z9)) (flc : ∀ z9, z9 < 3 → mem (97 + 4 * z9 + 3) = aD Γ 20 (lsc z9)) (hw : way < 3) (hls : lsOK (lmd lst) (lsT ldc lsc lrk)) (hfd : ∀ j, fdc j < 16) (han : anL lst 3 = true) : Ct l yX9_fuse (.code yX9_fuse cX9_fuse 2 (some .int)) ({ frames := 4, cells := 0, slots := 0, locals := 93 } : Room) Γ b M [.ref (b + 0), .int (nI way)] mem (fun u => u 110 = .inr (4, [.ref (b + 111), .ref (b + 112), .int (nI 16), .int (nI ((fuR way (fuV way (lmd lst) (lsT ldc lsc lrk) (fu0 to mb) 3) (fdc, fsc, 0) 16).2.2))]) ∧ u 111 = aN Γ 20 ((fuR way (fuV way (lmd lst) (lsT ldc lsc lrk) (fu0 to mb) 3) (fdc, fsc, 0) 16).1) ∧ u 112 = aD Γ 20 ((fuR way (fuV way (lmd lst) (lsT ldc lsc lrk) (fu0 to mb) 3) (fdc, fsc, 0) 16).2.1) ∧ u 113 = aD Γ 16 ((fuV way (lmd lst) (lsT ldc lsc lrk) (fu0 to mb) 3).1) ∧ u 114 = aN Γ 16 ((fuV way (lmd lst) (lsT ldc lsc lrk) (fu0 to mb) 3).2) ∧ ∀ j, j ≠ 110 → j ≠ 111 → j ≠ 112 → j ≠ 113 → j ≠ 114 → u j = mem j) (some (.int (nI ((fuR way (fuV way (lmd lst) (lsT ldc lsc lrk) (fu0 to mb) 3) (fdc, fsc, 0) 16).2.2)))) := by
  refine mm_enter (cc := cX9_fuse) (by decide) (Nat.le_of_ble_eq_true rfl) ?_
  intro p e s m args below meth c ls hx hb hml hown hr hlocks hname hE hh hl
  have hl : lv_has ls 2 [(0, .ref (b + 0)), (1, .int (nI way))] := hl
  have hfr : ∀ j, j ≠ 110 → j ≠ 111 → j ≠ 112 → j ≠ 113 → j ≠ 114 → mem j = mem j := fun j _ _ _ _ _ => rfl
  refine lv_iload_n hx hb dX9_fuse_0 rfl (lv_at hl 1 rfl) ?_
  refine nn_if_eq (tgt := 24) hx hb dX9_fuse_1 (by decide) (by omega) (fun h1 => ?_) (fun h1 => ?_)
  ·
    refine lv_aload_n hx hb dX9_fuse_24 rfl (lv_at hl 0 rfl) ?_
    refine mm_V0r (As := []) (rest := []) hx hb hml hown hE hl.1 hh (kc_X9_228 hE.2.1 ⟨Nat.le_of_ble_eq_true rfl, Nat.le_of_ble_eq_true rfl⟩) (c_X9_isAnyListMade l Γ b M mem (lst := lst) (by omega) fH fLo fls) rfl (by omega) fH rfl rfl (Nat.le_of_ble_eq_true rfl) dX9_fuse_25 rfl rfl (fun H locs hh => ?_)
    refine nn_bne (tgt := 41) hx hb dX9_fuse_28 (by decide) (fun h2 => ?_) (fun h2 => ?_)
    ·
      refine lv_aload_n hx hb dX9_fuse_41 rfl (lv_at hl 0 rfl) ?_
      refine gf_X9_fusion hx hb hE hown hh (by omega) fH rfl dX9_fuse_42 ?_
      refine lv_aload_n hx hb dX9_fuse_45 rfl (lv_at hl 0 rfl) ?_
      refine gf_X9_lists hx hb hE hown hh (by omega) fH rfl dX9_fuse_46 ?_
      refine lv_iload_n hx hb dX9_fuse_49 rfl (lv_at hl 1 rfl) ?_
      refine mm_V0 (As := [.ref (b + 96), .int (nI way)]) (rest := []) hx hb hml hown hE hl.1 hh (kc_X9_233 hE.2.1 ⟨Nat.le_of_ble_eq_true rfl, Nat.le_of_ble_eq_true rfl⟩) (c_X1_make l Γ b M mem (way := way) (lim := lf) (sz := sf) (to := to) (mb := mb) (fdc := fdc) (fsc := fsc) (lst := lst) (lrk := lrk) (ldc := ldc) (lsc := lsc) (by omega) fF fF1 fF2 fR0 fR1 fR2 fLo fls flr fld flc (by omega) (hls) (hfd)) rfl (by omega) fF rfl rfl (Nat.le_of_ble_eq_true rfl) dX9_fuse_50 rfl rfl (fun H locs mem3 hP4 hh => ?_)
      obtain ⟨f5, f6, f7, f8, f9, k10⟩ := hP4
      have hfr11 : ∀ j, j ≠ 110 → j ≠ 111 → j ≠ 112 → j ≠ 113 → j ≠ 114 → mem3 j = mem j := fun j c0 c1 c2 c3 c4 => (k10 j (by omega) (by omega) (by omega) (by omega) (by omega)).trans (hfr j c0 c1 c2 c3 c4)
      have f12 : mem3 0 = .inr (8, [.ref (b + 1), .ref (b + 72), .ref (b + 75), .ref (b + 78), .ref (b + 80), .ref (b + 91), .ref (b + 93), .ref (b + 96), .ref (b + 109)]) := (k10 _ (by omega) (by omega) (by omega) (by omega) (by omega)).trans fH
      have f13 : mem3 109 = .inr (1, [.ref (b + 110), .ref (b + 113), .ref (b + 114)]) := (k10 _ (by omega) (by omega) (by omega) (by omega) (by omega)).trans fF
      have f14 : mem3 96 = aR Γ 5 3 (fun i => some (b + (97 + 4 * i))) := (k10 _ (by omega) (by omega) (by omega) (by omega) (by omega)).trans fLo
      have f15 : ∀ z9, z9 < 3 → mem3 (97 + 4 * z9) = .inr (2, [.ref (b + (97 + 4 * z9 + 1)), .int (bI ((lst z9).1)), .int (nI ((lst z9).2.1)), .int (nI ((lst z9).2.2.1)), .int (nI ((lst z9).2.2.2))]) := fun z9 hz9 => (k10 _ (by omega) (by omega) (by omega) (by omega) (by omega)).trans (fls z9 hz9)
      have f16 : ∀ z9, z9 < 3 → mem3 (97 + 4 * z9 + 1) = .inr (4, [.ref (b + (97 + 4 * z9 + 2)), .ref (b + (97 + 4 * z9 + 3)), .int (nI ((lrk z9).1)), .int (nI ((lrk z9).2))]) := fun z9 hz9 => (k10 _ (by omega) (by omega) (by omega) (by omega) (by omega)).trans (flr z9 hz9)
      have f17 : ∀ z9, z9 < 3 → mem3 (97 + 4 * z9 + 2) = aN Γ 20 (ldc z9) := fun z9 hz9 => (k10 _ (by omega) (by omega) (by omega) (by omega) (by omega)).trans (fld z9 hz9)
      have f18 : ∀ z9, z9 < 3 → mem3 (97 + 4 * z9 + 3) = aD Γ 20 (lsc z9) := fun z9 hz9 => (k10 _ (by omega) (by omega) (by omega) (by omega) (by omega)).trans (flc z9 hz9)
      exact mm_iret hx hb hr hlocks hE hh (rfl) (⟨f5, f6, f7, f8, f9, hfr11⟩) dX9_fuse_53
    ·
      exact (no_tf han h2).elim
  ·
    refine lv_iload_n hx hb dX9_fuse_4 rfl (lv_at hl 1 rfl) ?_
    refine lv_iconst (v := (nI 1)) hx hb dX9_fuse_5 (by decide) ?_
    refine nn_icmp_eq (tgt := 24) hx hb dX9_fuse_6 (by decide) (by omega) (by omega) (fun h19 => ?_) (fun h19 => ?_)
    ·
      refine lv_aload_n hx hb dX9_fuse_24 rfl (lv_at hl 0 rfl) ?_
      refine mm_V0r (As := []) (rest := []) hx hb hml hown hE hl.1 hh (kc_X9_228 hE.2.1 ⟨Nat.le_of_ble_eq_true rfl, Nat.le_of_ble_eq_true rfl⟩) (c_X9_isAnyListMade l Γ b M mem (lst := lst) (by omega) fH fLo fls) rfl (by omega) fH rfl rfl (Nat.le_of_ble_eq_true rfl) dX9_fuse_25 rfl rfl (fun H locs hh => ?_)
      refine nn_bne (tgt := 41) hx hb dX9_fuse_28 (by decide) (fun h20 => ?_) (fun h20 => ?_)
      ·
        refine lv_aload_n hx hb dX9_fuse_41 rfl (lv_at hl 0 rfl) ?_
        refine gf_X9_fusion hx hb hE hown hh (by omega) fH rfl dX9_fuse_42 ?_
        refine lv_aload_n hx hb dX9_fuse_45 rfl (lv_at hl 0 rfl) ?_
        refine gf_X9_lists hx hb hE hown hh (by omega) fH rfl dX9_fuse_46 ?_
        refine lv_iload_n hx hb dX9_fuse_49 rfl (lv_at hl 1 rfl) ?_
        refine mm_V0 (As := [.ref (b + 96), .int (nI way)]) (rest := []) hx hb hml hown hE hl.1 hh (kc_X9_233 hE.2.1 ⟨Nat.le_of_ble_eq_true rfl, Nat.le_of_ble_eq_true rfl⟩) (c_X1_make l Γ b M mem (way := way) (lim := lf) (sz := sf) (to := to) (mb := mb) (fdc := fdc) (fsc := fsc) (lst := lst) (lrk := lrk) (ldc := ldc) (lsc := lsc) (by omega) fF fF1 fF2 fR0 fR1 fR2 fLo fls flr fld flc (by omega) (hls) (hfd)) rfl (by omega) fF rfl rfl (Nat.le_of_ble_eq_true rfl) dX9_fuse_50 rfl rfl (fun H locs mem21 hP22 hh => ?_)
        obtain ⟨f23, f24, f25, f26, f27, k28⟩ := hP22
        have hfr29 : ∀ j, j ≠ 110 → j ≠ 111 → j ≠ 112 → j ≠ 113 → j ≠ 114 → mem21 j = mem j := fun j c0 c1 c2 c3 c4 => (k28 j (by omega) (by omega) (by omega) (by omega) (by omega)).trans (hfr j c0 c1 c2 c3 c4)
        have f30 : mem21 0 = .inr (8, [.ref (b + 1), .ref (b + 72), .ref (b + 75), .ref (b + 78), .ref (b + 80), .ref (b + 91), .ref (b + 93), .ref (b + 96), .ref (b + 109)]) := (k28 _ (by omega) (by omega) (by omega) (by omega) (by omega)).trans fH
        have f31 : mem21 109 = .inr (1, [.ref (b + 110), .ref (b + 113), .ref (b + 114)]) := (k28 _ (by omega) (by omega) (by omega) (by omega) (by omega)).trans fF
        have f32 : mem21 96 = aR Γ 5 3 (fun i => some (b + (97 + 4 * i))) := (k28 _ (by omega) (by omega) (by omega) (by omega) (by omega)).trans fLo
        have f33 : ∀ z9, z9 < 3 → mem21 (97 + 4 * z9) = .inr (2, [.ref (b + (97 + 4 * z9 + 1)), .int (bI ((lst z9).1)), .int (nI ((lst z9).2.1)), .int (nI ((lst z9).2.2.1)), .int (nI ((lst z9).2.2.2))]) := fun z9 hz9 => (k28 _ (by omega) (by omega) (by omega) (by omega) (by omega)).trans (fls z9 hz9)
        have f34 : ∀ z9, z9 < 3 → mem21 (97 + 4 * z9 + 1) = .inr (4, [.ref (b + (97 + 4 * z9 + 2)), .ref (b + (97 + 4 * z9 + 3)), .int (nI ((lrk z9).1)), .int (nI ((lrk z9).2))]) := fun z9 hz9 => (k28 _ (by omega) (by omega) (by omega) (by omega) (by omega)).trans (flr z9 hz9)
        have f35 : ∀ z9, z9 < 3 → mem21 (97 + 4 * z9 + 2) = aN Γ 20 (ldc z9) := fun z9 hz9 => (k28 _ (by omega) (by omega) (by omega) (by omega) (by omega)).trans (fld z9 hz9)
        have f36 : ∀ z9, z9 < 3 → mem21 (97 + 4 * z9 + 3) = aD Γ 20 (lsc z9) := fun z9 hz9 => (k28 _ (by omega) (by omega) (by omega) (by omega) (by omega)).trans (flc z9 hz9)
        exact mm_iret hx hb hr hlocks hE hh (rfl) (⟨f23, f24, f25, f26, f27, hfr29⟩) dX9_fuse_53
      ·
        exact (no_tf han h20).elim
    ·
      refine lv_iload_n hx hb dX9_fuse_9 rfl (lv_at hl 1 rfl) ?_
      refine lv_iconst (v := (nI 2)) hx hb dX9_fuse_10 (by decide) ?_
      refine nn_icmp_eq (tgt := 24) hx hb dX9_fuse_11 (by decide) (by omega) (by omega) (fun h37 => ?_) (fun h37 => ?_)
      ·
        refine lv_aload_n hx hb dX9_fuse_24 rfl (lv_at hl 0 rfl) ?_
        refine mm_V0r (As := []) (rest := []) hx hb hml hown hE hl.1 hh (kc_X9_228 hE.2.1 ⟨Nat.le_of_ble_eq_true rfl, Nat.le_of_ble_eq_true rfl⟩) (c_X9_isAnyListMade l Γ b M mem (lst := lst) (by omega) fH fLo fls) rfl (by omega) fH rfl rfl (Nat.le_of_ble_eq_true rfl) dX9_fuse_25 rfl rfl (fun H locs hh => ?_)
        refine nn_bne (tgt := 41) hx hb dX9_fuse_28 (by decide) (fun h38 => ?_) (fun h38 => ?_)
        ·
          refine lv_aload_n hx hb dX9_fuse_41 rfl (lv_at hl 0 rfl) ?_
          refine gf_X9_fusion hx hb hE hown hh (by omega) fH rfl dX9_fuse_42 ?_
          refine lv_aload_n hx hb dX9_fuse_45 rfl (lv_at hl 0 rfl) ?_
          refine gf_X9_lists hx hb hE hown hh (by omega) fH rfl dX9_fuse_46 ?_
          refine lv_iload_n hx hb dX9_fuse_49 rfl (lv_at hl 1 rfl) ?_
          refine mm_V0 (As := [.ref (b + 96), .int (nI way)]) (rest := []) hx hb hml hown hE hl.1 hh (kc_X9_233 hE.2.1 ⟨Nat.le_of_ble_eq_true rfl, Nat.le_of_ble_eq_true rfl⟩) (c_X1_make l Γ b M mem (way := way) (lim := lf) (sz := sf) (to := to) (mb := mb) (fdc := fdc) (fsc := fsc) (lst := lst) (lrk := lrk) (ldc := ldc) (lsc := lsc) (by omega) fF fF1 fF2 fR0 fR1 fR2 fLo fls flr fld flc (by omega) (hls) (hfd)) rfl (by omega) fF rfl rfl (Nat.le_of_ble_eq_true rfl) dX9_fuse_50 rfl rfl (fun H locs mem39 hP40 hh => ?_)
          obtain ⟨f41, f42, f43, f44, f45, k46⟩ := hP40
          have hfr47 : ∀ j, j ≠ 110 → j ≠ 111 → j ≠ 112 → j ≠ 113 → j ≠ 114 → mem39 j = mem j := fun j c0 c1 c2 c3 c4 => (k46 j (by omega) (by omega) (by omega) (by omega) (by omega)).trans (hfr j c0 c1 c2 c3 c4)
          have f48 : mem39 0 = .inr (8, [.ref (b + 1), .ref (b + 72), .ref (b + 75), .ref (b + 78), .ref (b + 80), .ref (b + 91), .ref (b + 93), .ref (b + 96), .ref (b + 109)]) := (k46 _ (by omega) (by omega) (by omega) (by omega) (by omega)).trans fH
          have f49 : mem39 109 = .inr (1, [.ref (b + 110), .ref (b + 113), .ref (b + 114)]) := (k46 _ (by omega) (by omega) (by omega) (by omega) (by omega)).trans fF
          have f50 : mem39 96 = aR Γ 5 3 (fun i => some (b + (97 + 4 * i))) := (k46 _ (by omega) (by omega) (by omega) (by omega) (by omega)).trans fLo
          have f51 : ∀ z9, z9 < 3 → mem39 (97 + 4 * z9) = .inr (2, [.ref (b + (97 + 4 * z9 + 1)), .int (bI ((lst z9).1)), .int (nI ((lst z9).2.1)), .int (nI ((lst z9).2.2.1)), .int (nI ((lst z9).2.2.2))]) := fun z9 hz9 => (k46 _ (by omega) (by omega) (by omega) (by omega) (by omega)).trans (fls z9 hz9)
          have f52 : ∀ z9, z9 < 3 → mem39 (97 + 4 * z9 + 1) = .inr (4, [.ref (b + (97 + 4 * z9 + 2)), .ref (b + (97 + 4 * z9 + 3)), .int (nI ((lrk z9).1)), .int (nI ((lrk z9).2))]) := fun z9 hz9 => (k46 _ (by omega) (by omega) (by omega) (by omega) (by omega)).trans (flr z9 hz9)
          have f53 : ∀ z9, z9 < 3 → mem39 (97 + 4 * z9 + 2) = aN Γ 20 (ldc z9) := fun z9 hz9 => (k46 _ (by omega) (by omega) (by omega) (by omega) (by omega)).trans (fld z9 hz9)
          have f54 : ∀ z9, z9 < 3 → mem39 (97 + 4 * z9 + 3) = aD Γ 20 (lsc z9) := fun z9 hz9 => (k46 _ (by omega) (by omega) (by omega) (by omega) (by omega)).trans (flc z9 hz9)
          exact mm_iret hx hb hr hlocks hE hh (rfl) (⟨f41, f42, f43, f44, f45, hfr47⟩) dX9_fuse_53
        ·
          exact (no_tf han h38).elim
      ·
        exact absurd hw (by omega)
set_option maxHeartbeats 4000000 in
set_option maxRecDepth 100000 in
/-- fused -/
theorem c_X9_fused (l : Launch) (Γ : Gm) (b M : Nat) (mem : Nat → va_E) {i lf sf : Nat} {fdc : Nat → Nat} (hM : 138 ≤ M) (fH : mem 0 = .inr (8, [.ref (b + 1), .ref (b + 72), .ref (b + 75), .ref (b + 78), .ref (b + 80), .ref (b + 91), .ref (b + 93), .ref (b + 96), .ref (b + 109)])) (fF : mem 109 = .inr (1, [.ref (b + 110), .ref (b + 113), .ref (b + 114)])) (fR0 : mem 110 = .inr (4, [.ref (b + 111), .ref (b + 112), .int (nI lf), .int (nI sf)])) (hi : i < sf) (hi2 : sf ≤ 20) (fR1 : mem 111 = aN Γ 20 fdc) : Ct l yX9_fused (.code yX9_fused cX9_fused 2 (some .int)) ({ frames := 1, cells := 0, slots := 0, locals := 21 } : Room) Γ b M [.ref (b + 0), .int (nI i)] mem (fun u => u = mem) (some (.int (nI (fdc i)))) := by
  refine mm_enter (cc := cX9_fused) (by decide) (Nat.le_of_ble_eq_true rfl) ?_
  intro p e s m args below meth c ls hx hb hml hown hr hlocks hname hE hh hl
  have hl : lv_has ls 2 [(0, .ref (b + 0)), (1, .int (nI i))] := hl
  refine lv_aload_n hx hb dX9_fused_0 rfl (lv_at hl 0 rfl) ?_
  refine gf_X9_fusion hx hb hE hown hh (by omega) fH rfl dX9_fused_1 ?_
  refine mm_V0r (As := []) (rest := []) hx hb hml hown hE hl.1 hh (kc_X9_237 hE.2.1 ⟨Nat.le_of_ble_eq_true rfl, Nat.le_of_ble_eq_true rfl⟩) (c_X1_ranking l Γ b M mem (by omega) fF) rfl (by omega) fF rfl rfl (Nat.le_of_ble_eq_true rfl) dX9_fused_4 rfl rfl (fun H locs hh => ?_)
  refine lv_iload_n hx hb dX9_fused_7 rfl (lv_at hl 1 rfl) ?_
  refine mm_V0r (As := [.int (nI i)]) (rest := []) hx hb hml hown hE hl.1 hh (kc_X9_238 hE.2.1 ⟨Nat.le_of_ble_eq_true rfl, Nat.le_of_ble_eq_true rfl⟩) (c_X4_holdsPlace l Γ b M mem (a := 110) (lim := lf) (sz := sf) (i := (nI i)) (by omega) fR0) rfl (by omega) fR0 rfl rfl (Nat.le_of_ble_eq_true rfl) dX9_fused_8 rfl rfl (fun H locs hh => ?_)
  refine nn_bne (tgt := 24) hx hb dX9_fused_11 (by decide) (fun h1 => ?_) (fun h1 => ?_)
  ·
    refine lv_aload_n hx hb dX9_fused_24 rfl (lv_at hl 0 rfl) ?_
    refine gf_X9_fusion hx hb hE hown hh (by omega) fH rfl dX9_fused_25 ?_
    refine mm_V0r (As := []) (rest := []) hx hb hml hown hE hl.1 hh (kc_X9_237 hE.2.1 ⟨Nat.le_of_ble_eq_true rfl, Nat.le_of_ble_eq_true rfl⟩) (c_X1_ranking l Γ b M mem (by omega) fF) rfl (by omega) fF rfl rfl (Nat.le_of_ble_eq_true rfl) dX9_fused_28 rfl rfl (fun H locs hh => ?_)
    refine lv_iload_n hx hb dX9_fused_31 rfl (lv_at hl 1 rfl) ?_
    refine mm_V0r (As := [.int (nI i)]) (rest := []) hx hb hml hown hE hl.1 hh (kc_X9_203 hE.2.1 ⟨Nat.le_of_ble_eq_true rfl, Nat.le_of_ble_eq_true rfl⟩) (c_X4_documentAt l Γ b M mem (a := 110) (lim := lf) (sz := sf) (i := i) (dc := fdc) (by omega) fR0 fR1 (by omega)) rfl (by omega) fR0 rfl rfl (Nat.le_of_ble_eq_true rfl) dX9_fused_32 rfl rfl (fun H locs hh => ?_)
    exact mm_iret hx hb hr hlocks hE hh (rfl) (rfl) dX9_fused_35
  ·
    exact (no_tf (show decide (¬ nI i < 0 ∧ ¬ nI sf ≤ nI i) = true from inR_y hi (by omega)) h1).elim
set_option maxHeartbeats 4000000 in
set_option maxRecDepth 100000 in
/-- rating -/
theorem c_X9_rating (l : Launch) (Γ : Gm) (b M : Nat) (mem : Nat → va_E) {i lf sf : Nat} {fsc : Nat → UInt64} (hM : 138 ≤ M) (fH : mem 0 = .inr (8, [.ref (b + 1), .ref (b + 72), .ref (b + 75), .ref (b + 78), .ref (b + 80), .ref (b + 91), .ref (b + 93), .ref (b + 96), .ref (b + 109)])) (fF : mem 109 = .inr (1, [.ref (b + 110), .ref (b + 113), .ref (b + 114)])) (fR0 : mem 110 = .inr (4, [.ref (b + 111), .ref (b + 112), .int (nI lf), .int (nI sf)])) (hi : i < sf) (hi2 : sf ≤ 20) (fR2 : mem 112 = aD Γ 20 fsc) : Ct l yX9_rating (.code yX9_rating cX9_rating 2 (some .double)) ({ frames := 1, cells := 0, slots := 0, locals := 21 } : Room) Γ b M [.ref (b + 0), .int (nI i)] mem (fun u => u = mem) (some (.double (fsc i))) := by
  refine mm_enter (cc := cX9_rating) (by decide) (Nat.le_of_ble_eq_true rfl) ?_
  intro p e s m args below meth c ls hx hb hml hown hr hlocks hname hE hh hl
  have hl : lv_has ls 2 [(0, .ref (b + 0)), (1, .int (nI i))] := hl
  refine lv_aload_n hx hb dX9_rating_0 rfl (lv_at hl 0 rfl) ?_
  refine gf_X9_fusion hx hb hE hown hh (by omega) fH rfl dX9_rating_1 ?_
  refine mm_V0r (As := []) (rest := []) hx hb hml hown hE hl.1 hh (kc_X9_237 hE.2.1 ⟨Nat.le_of_ble_eq_true rfl, Nat.le_of_ble_eq_true rfl⟩) (c_X1_ranking l Γ b M mem (by omega) fF) rfl (by omega) fF rfl rfl (Nat.le_of_ble_eq_true rfl) dX9_rating_4 rfl rfl (fun H locs hh => ?_)
  refine lv_iload_n hx hb dX9_rating_7 rfl (lv_at hl 1 rfl) ?_
  refine mm_V0r (As := [.int (nI i)]) (rest := []) hx hb hml hown hE hl.1 hh (kc_X9_238 hE.2.1 ⟨Nat.le_of_ble_eq_true rfl, Nat.le_of_ble_eq_true rfl⟩) (c_X4_holdsPlace l Γ b M mem (a := 110) (lim := lf) (sz := sf) (i := (nI i)) (by omega) fR0) rfl (by omega) fR0 rfl rfl (Nat.le_of_ble_eq_true rfl) dX9_rating_8 rfl rfl (fun H locs hh => ?_)
  refine nn_bne (tgt := 24) hx hb dX9_rating_11 (by decide) (fun h1 => ?_) (fun h1 => ?_)
  ·
    refine lv_aload_n hx hb dX9_rating_24 rfl (lv_at hl 0 rfl) ?_
    refine gf_X9_fusion hx hb hE hown hh (by omega) fH rfl dX9_rating_25 ?_
    refine mm_V0r (As := []) (rest := []) hx hb hml hown hE hl.1 hh (kc_X9_237 hE.2.1 ⟨Nat.le_of_ble_eq_true rfl, Nat.le_of_ble_eq_true rfl⟩) (c_X1_ranking l Γ b M mem (by omega) fF) rfl (by omega) fF rfl rfl (Nat.le_of_ble_eq_true rfl) dX9_rating_28 rfl rfl (fun H locs hh => ?_)
    refine lv_iload_n hx hb dX9_rating_31 rfl (lv_at hl 1 rfl) ?_
    refine mm_V0r (As := [.int (nI i)]) (rest := []) hx hb hml hown hE hl.1 hh (kc_X9_207 hE.2.1 ⟨Nat.le_of_ble_eq_true rfl, Nat.le_of_ble_eq_true rfl⟩) (c_X4_scoreAt l Γ b M mem (a := 110) (lim := lf) (sz := sf) (i := i) (sc := fsc) (by omega) fR0 fR2 (by omega)) rfl (by omega) fR0 rfl rfl (Nat.le_of_ble_eq_true rfl) dX9_rating_32 rfl rfl (fun H locs hh => ?_)
    exact mm_dret hx hb hr hlocks hE hh (rfl) (rfl) dX9_rating_35
  ·
    exact (no_tf (show decide (¬ nI i < 0 ∧ ¬ nI sf ≤ nI i) = true from inR_y hi (by omega)) h1).elim
set_option maxHeartbeats 4000000 in
set_option maxRecDepth 100000 in
/-- quantised -/
theorem c_X9_quantised (l : Launch) (Γ : Gm) (b M : Nat) (mem : Nat → va_E) {nd : Nat} {d t : Nat} {wt : Nat → Nat → UInt32} (hM : 138 ≤ M) (fH : mem 0 = .inr (8, [.ref (b + 1), .ref (b + 72), .ref (b + 75), .ref (b + 78), .ref (b + 80), .ref (b + 91), .ref (b + 93), .ref (b + 96), .ref (b + 109)])) (fC : mem 1 = .inr (0, [.ref (b + 2), .ref (b + 19), .ref (b + 20), .ref (b + 37), .ref (b + 38), .int (nI nd)])) (fWo : mem 20 = aR Γ 8 16 (fun i => some (b + (21 + i)))) (fwt : ∀ z9, z9 < 16 → mem (21 + z9) = aF Γ 12 (wt z9)) (hnd : nd ≤ 16) (hd : d < nd) (ht : t < 12) (hwt : ∀ d t, fb 148 (wt d t)) : Ct l yX9_quantised (.code yX9_quantised cX9_quantised 3 (some .int)) ({ frames := 2, cells := 0, slots := 0, locals := 44 } : Room) Γ b M [.ref (b + 0), .int (nI d), .int (nI t)] mem (fun u => u = mem) (some (.int (imF (wt d t) (gwF wt nd)))) := by
  refine mm_enter (cc := cX9_quantised) (by decide) (Nat.le_of_ble_eq_true rfl) ?_
  intro p e s m args below meth c ls hx hb hml hown hr hlocks hname hE hh hl
  have hl : lv_has ls 3 [(0, .ref (b + 0)), (1, .int (nI d)), (2, .int (nI t))] := hl
  refine lv_aload_n hx hb dX9_quantised_0 rfl (lv_at hl 0 rfl) ?_
  refine gf_X9_collection hx hb hE hown hh (by omega) fH rfl dX9_quantised_1 ?_
  refine lv_iload_n hx hb dX9_quantised_4 rfl (lv_at hl 1 rfl) ?_
  refine mm_V0r (As := [.int (nI d)]) (rest := []) hx hb hml hown hE hl.1 hh (kc_X9_90 hE.2.1 ⟨Nat.le_of_ble_eq_true rfl, Nat.le_of_ble_eq_true rfl⟩) (c_X0_holds l Γ b M mem (nd := nd) (d := (nI d)) (by omega) fC) rfl (by omega) fC rfl rfl (Nat.le_of_ble_eq_true rfl) dX9_quantised_5 rfl rfl (fun H locs hh => ?_)
  refine nn_beq (tgt := 18) hx hb dX9_quantised_8 (by decide) (fun h1 => ?_) (fun h1 => ?_)
  ·
    exact (no_tf (inR_y hd (by omega)) h1).elim
  ·
    refine lv_iload_n hx hb dX9_quantised_11 rfl (lv_at hl 2 rfl) ?_
    refine mm_S0r (As := [.int (nI t)]) (rest := []) hx hb hml hown hE hl.1 hh (kc_X9_94 hE.2.1 ⟨Nat.le_of_ble_eq_true rfl, Nat.le_of_ble_eq_true rfl⟩) (c_X9_isTerm l Γ b M mem (t := (nI t))) rfl rfl (Nat.le_of_ble_eq_true rfl) dX9_quantised_12 rfl rfl (fun H locs hh => ?_)
    refine nn_bne (tgt := 28) hx hb dX9_quantised_15 (by decide) (fun h2 => ?_) (fun h2 => ?_)
    ·
      refine lv_aload_n hx hb dX9_quantised_28 rfl (lv_at hl 0 rfl) ?_
      refine gf_X9_collection hx hb hE hown hh (by omega) fH rfl dX9_quantised_29 ?_
      refine lv_iload_n hx hb dX9_quantised_32 rfl (lv_at hl 1 rfl) ?_
      refine lv_iload_n hx hb dX9_quantised_33 rfl (lv_at hl 2 rfl) ?_
      refine lv_aload_n hx hb dX9_quantised_34 rfl (lv_at hl 0 rfl) ?_
      refine gf_X9_collection hx hb hE hown hh (by omega) fH rfl dX9_quantised_35 ?_
      refine mm_V0r (As := []) (rest := [.int (nI t), .int (nI d), .ref (b + 1)]) hx hb hml hown hE hl.1 hh (kc_X9_251 hE.2.1 ⟨Nat.le_of_ble_eq_true rfl, Nat.le_of_ble_eq_true rfl⟩) (c_X0_greatestWeight l Γ b M mem (nd := nd) (wt := wt) (by omega) fC fWo fwt (by omega) (by omega)) rfl (by omega) fC rfl rfl (Nat.le_of_ble_eq_true rfl) dX9_quantised_38 rfl rfl (fun H locs hh => ?_)
      refine mm_V0r (As := [.int (nI d), .int (nI t), .float (gwF wt nd)]) (rest := []) hx hb hml hown hE hl.1 hh (kc_X9_255 hE.2.1 ⟨Nat.le_of_ble_eq_true rfl, Nat.le_of_ble_eq_true rfl⟩) (c_X0_impactOf l Γ b M mem (nd := nd) (d := d) (t := t) (wt := wt) (g := gwF wt nd) (by omega) fC fWo fwt (by omega) (by omega) ((hwt _ _).up (by decide)) ((gwF_ok hwt nd).2.up (by decide))) rfl (by omega) fC rfl rfl (Nat.le_of_ble_eq_true rfl) dX9_quantised_41 rfl rfl (fun H locs hh => ?_)
      exact mm_iret hx hb hr hlocks hE hh (rfl) (rfl) dX9_quantised_44
    ·
      exact (no_tf (inR_y ht (by decide)) h2).elim
theorem lgX_y {x : UInt64} (h1 : rge (FP.dcmp x FP.dconst1)) (h2 : rle (FP.dcmp x 9218868437227405311)) : lgX x = lgF x := if_pos ⟨h1, h2⟩
theorem lgX_1 {x : UInt64} (h1 : ¬ rge (FP.dcmp x FP.dconst1)) : lgX x = 13830554455654793216 := if_neg (fun h => h1 h.1)
theorem lgX_2 {x : UInt64} (h1 : ¬ rle (FP.dcmp x 9218868437227405311)) : lgX x = 13830554455654793216 := if_neg (fun h => h1 h.2)
set_option maxHeartbeats 4000000 in
set_option maxRecDepth 100000 in
/-- log -/
theorem c_X9_log (l : Launch) (Γ : Gm) (b M : Nat) (mem : Nat → va_E) {x : UInt64} (hM : 0 < M) (hlo : rge (FP.dcmp x FP.dconst1) → rle (FP.dcmp x 9218868437227405311) → lgOK x) : Ct l yX9_log (.code yX9_log cX9_log 3 (some .double)) ({ frames := 1, cells := 0, slots := 0, locals := 31 } : Room) Γ b M [.ref (b + 0), .double x] mem (fun u => u = mem) (some (.double (lgX x))) := by
  refine mm_enter (cc := cX9_log) (by decide) (Nat.le_of_ble_eq_true rfl) ?_
  intro p e s m args below meth c ls hx hb hml hown hr hlocks hname hE hh hl
  have hl : lv_has ls 3 [(0, .ref (b + 0)), (1, .double x)] := hl
  refine lv_dload_n hx hb dX9_log_0 rfl (lv_at hl 1 rfl) ?_
  refine lv_dconst1 hx hb dX9_log_1 ?_
  refine lv_dcmp hx hb dX9_log_2 ?_
  refine nn_cl_lt (tgt := 21) hx hb dX9_log_3 (by decide) (fun h1 => ?_) (fun h1 => ?_)
  ·
    have hq := lgX_1 h1
    refine lv_ldc2d hx hb hown (wk_X9_249 hE.2.1 args) dX9_log_21 ?_
    exact mm_dret hx hb hr hlocks hE hh (by rw [hq]) (rfl) dX9_log_24
  ·
    have g1 := Classical.not_not.mp h1
    refine lv_dload_n hx hb dX9_log_6 rfl (lv_at hl 1 rfl) ?_
    refine lv_ldc2d hx hb hown (wk_X9_243 hE.2.1 args) dX9_log_7 ?_
    refine lv_dcmp hx hb dX9_log_10 ?_
    refine nn_cg_gt (tgt := 21) hx hb dX9_log_11 (by decide) (fun h2 => ?_) (fun h2 => ?_)
    ·
      have hq := lgX_2 h2
      refine lv_ldc2d hx hb hown (wk_X9_249 hE.2.1 args) dX9_log_21 ?_
      exact mm_dret hx hb hr hlocks hE hh (by rw [hq]) (rfl) dX9_log_24
    ·
      have g2 := Classical.not_not.mp h2
      have hq := lgX_y g1 g2
      refine lv_dload_n hx hb dX9_log_14 rfl (lv_at hl 1 rfl) ?_
      refine mm_S0r (As := [.double x]) (rest := []) hx hb hml hown hE hl.1 hh (kc_X9_245 hE.2.1 ⟨Nat.le_of_ble_eq_true rfl, Nat.le_of_ble_eq_true rfl⟩) (c_X9_logarithm l Γ b M mem (x := x) (hlo g1 g2)) rfl rfl (Nat.le_of_ble_eq_true rfl) dX9_log_15 rfl rfl (fun H locs hh => ?_)
      refine lv_goto (tgt := 24) hx hb dX9_log_18 (by decide) ?_
      exact mm_dret hx hb hr hlocks hE hh (by rw [hq]) (rfl) dX9_log_24
