/-! RANKING as a triple: documents, scores, how many -/
abbrev RkT : Type := (Nat → Nat) × (Nat → UInt64) × Nat
def st1 (lim d : Nat) (x : UInt64) (T : RkT) : RkT := (offF T.1 lim T.2.2 (plc d x T.1 T.2.1 T.2.2) d, offF T.2.1 lim T.2.2 (plc d x T.1 T.2.1 T.2.2) x, offN lim T.2.2 (plc d x T.1 T.2.1 T.2.2))
def offA (lim : Nat) (T2 T : RkT) : Nat → RkT
  | 0 => T
  | i + 1 => st1 lim (T2.1 i) (T2.2.1 i) (offA lim T2 T i)
theorem offN_le {lim sz q : Nat} (h : sz ≤ lim) : offN lim sz q ≤ lim := by unfold offN; split <;> (try split) <;> omega
theorem offF_all {α : Type} {P : α → Prop} {f : Nat → α} {lim sz q : Nat} {v : α} (h : ∀ j, P (f j)) (hv : P v) : ∀ j, P (offF f lim sz q v j) := by
  intro j
  unfold offF insF va_up shf
  split
  · show P (if j = q then v else if q < j ∧ j < offN lim sz q then f (j - 1) else f j)
    split
    · exact hv
    · split
      · exact h _
      · exact h _
  · exact h j
def tOK (lim : Nat) (T : RkT) : Prop := (∀ j, T.1 j < 16) ∧ T.2.2 ≤ lim
theorem st1_ok {lim d : Nat} {x : UInt64} {T : RkT} (h : tOK lim T) (hd : d < 16) : tOK lim (st1 lim d x T) := ⟨offF_all (P := fun z => z < 16) h.1 hd, offN_le h.2⟩
theorem offA_ok {lim : Nat} {T2 T : RkT} (h : tOK lim T) (h2 : ∀ j, T2.1 j < 16) : ∀ i, tOK lim (offA lim T2 T i)
  | 0 => h
  | i + 1 => st1_ok (offA_ok h h2 i) (h2 i)

set_option maxHeartbeats 4000000 in
set_option maxRecDepth 100000 in
/-- Ranking.offerAll -/
theorem c_X4_offerAll (l : Launch) (Γ : Gm) (b M : Nat) (mem : Nat → va_E) {a a2 lim lim2 : Nat} {T T2 : RkT} (hM : a + 3 ≤ M) (hM2 : a2 + 3 ≤ M) (hap : a + 3 ≤ a2 ∨ a2 + 3 ≤ a) (fa0 : mem a = .inr (4, [.ref (b + (a + 1)), .ref (b + (a + 2)), .int (nI lim), .int (nI T.2.2)])) (fa1 : mem (a + 1) = aN Γ 20 T.1) (fa2 : mem (a + 2) = aD Γ 20 T.2.1) (fb0 : mem a2 = .inr (4, [.ref (b + (a2 + 1)), .ref (b + (a2 + 2)), .int (nI lim2), .int (nI T2.2.2)])) (fb1 : mem (a2 + 1) = aN Γ 20 T2.1) (fb2 : mem (a2 + 2) = aD Γ 20 T2.2.1) (hT : tOK lim T) (hlim : lim ≤ 20) (hT2 : ∀ j, T2.1 j < 16) (hz2 : T2.2.2 ≤ 20) : Ct l yX4_offerAll (.code yX4_offerAll cX4_offerAll 3 none) ({ frames := 2, cells := 0, slots := 0, locals := 49 } : Room) Γ b M [.ref (b + a), .ref (b + a2)] mem (fun u => u a = .inr (4, [.ref (b + (a + 1)), .ref (b + (a + 2)), .int (nI lim), .int (nI ((offA lim T2 T T2.2.2).2.2))]) ∧ u (a + 1) = aN Γ 20 ((offA lim T2 T T2.2.2).1) ∧ u (a + 2) = aD Γ 20 ((offA lim T2 T T2.2.2).2.1) ∧ ∀ j, j ≠ a → j ≠ (a + 1) → j ≠ (a + 2) → u j = mem j) none := by
  refine mm_enter (cc := cX4_offerAll) (by decide) (Nat.le_of_ble_eq_true rfl) ?_
  intro p e s m args below meth c ls hx hb hml hown hr hlocks hname hE hh hl
  have hl : lv_has ls 3 [(0, .ref (b + a)), (1, .ref (b + a2))] := hl
  have hfr : ∀ j, j ≠ a → j ≠ (a + 1) → j ≠ (a + 2) → mem j = mem j := fun j _ _ _ => rfl
  refine lv_iconst (v := (nI 0)) hx hb dX4_offerAll_0 (by decide) ?_
  refine lv_istore_n (lv' := [(2, .int (nI 0)), (0, .ref (b + a)), (1, .ref (b + a2))]) hx hb dX4_offerAll_1 rfl hl (by decide) rfl (fun ls hl => ?_)
  have loop2 : ∀ (n9 : Nat) (i : Nat), (T2.2.2 - i) < n9 → (i ≤ T2.2.2) → ∀ (H : Heap) (locs : List Loc) (mem2 : Nat → va_E), mem2 a = .inr (4, [.ref (b + (a + 1)), .ref (b + (a + 2)), .int (nI lim), .int (nI ((offA lim T2 T i).2.2))]) → mem2 (a + 1) = aN Γ 20 ((offA lim T2 T i).1) → mem2 (a + 2) = aD Γ 20 ((offA lim T2 T i).2.1) → (∀ j, j ≠ a → j ≠ (a + 1) → j ≠ (a + 2) → mem2 j = mem j) → GH Γ b M mem2 s H locs → ∀ (ls : Array Slot), lv_has ls 3 [(2, .int (nI i)), (0, .ref (b + a)), (1, .ref (b + a2))] → W p l e ({ frames := 2, cells := 0, slots := 0, locals := 49 } : Room) s m args below meth c H locs 0 0 (MQ below (QC Γ b M (fun u => u a = .inr (4, [.ref (b + (a + 1)), .ref (b + (a + 2)), .int (nI lim), .int (nI ((offA lim T2 T T2.2.2).2.2))]) ∧ u (a + 1) = aN Γ 20 ((offA lim T2 T T2.2.2).1) ∧ u (a + 2) = aD Γ 20 ((offA lim T2 T T2.2.2).2.1) ∧ ∀ j, j ≠ a → j ≠ (a + 1) → j ≠ (a + 2) → u j = mem j) none) args s 0 0 (fun q => b ≤ q)) (F0 m 2 ls []) := by
    intro n9
    induction n9 with
    | zero => intro i hn; exact absurd hn (Nat.not_lt_zero _)
    | succ n9 ih =>
      intro i hn hi H locs mem1 f3 f4 f5 hfr2 hh ls hl
      have f6 : mem1 a2 = .inr (4, [.ref (b + (a2 + 1)), .ref (b + (a2 + 2)), .int (nI lim2), .int (nI T2.2.2)]) := (hfr2 _ (by omega) (by omega) (by omega)).trans fb0
      have f7 : mem1 (a2 + 1) = aN Γ 20 T2.1 := (hfr2 _ (by omega) (by omega) (by omega)).trans fb1
      have f8 : mem1 (a2 + 2) = aD Γ 20 T2.2.1 := (hfr2 _ (by omega) (by omega) (by omega)).trans fb2
      have hok := offA_ok (lim := lim) hT hT2 i
      have hok2 := hok.2
      have hd2 := hT2 i
      have ih9 := ih
      refine lv_iload_n hx hb dX4_offerAll_2 rfl (lv_at hl 0 rfl) ?_
      refine lv_aload_n hx hb dX4_offerAll_3 rfl (lv_at hl 2 rfl) ?_
      refine gf_X4_size hx hb hE hown hh (by omega) f6 rfl dX4_offerAll_4 ?_
      refine nn_icmp_ge (tgt := 32) hx hb dX4_offerAll_7 (by decide) (by omega) (by omega) (fun h10 => ?_) (fun h10 => ?_)
      ·
        have hie : i = T2.2.2 := by omega
        exact mm_vret hx hb hr hlocks hE hh (by rw [← hie]; exact ⟨f3, f4, f5, hfr2⟩) dX4_offerAll_32
      ·
        refine lv_aload_n hx hb dX4_offerAll_10 rfl (lv_at hl 1 rfl) ?_
        refine lv_aload_n hx hb dX4_offerAll_11 rfl (lv_at hl 2 rfl) ?_
        refine gf_X4_documents hx hb hE hown hh (by omega) f6 rfl dX4_offerAll_12 ?_
        refine lv_iload_n hx hb dX4_offerAll_15 rfl (lv_at hl 0 rfl) ?_
        refine mm_iald hx hb hE hh (by omega) f7 (by omega) (by decide) dX4_offerAll_16 ?_
        refine lv_aload_n hx hb dX4_offerAll_17 rfl (lv_at hl 2 rfl) ?_
        refine gf_X4_scores hx hb hE hown hh (by omega) f6 rfl dX4_offerAll_18 ?_
        refine lv_iload_n hx hb dX4_offerAll_21 rfl (lv_at hl 0 rfl) ?_
        refine mm_dald hx hb hE hh (by omega) f8 (by omega) (by decide) dX4_offerAll_22 ?_
        refine mm_V0 (As := [.int (nI (T2.1 i)), .double (T2.2.1 i)]) (rest := []) hx hb hml hown hE hl.1 hh (kc_X4_36 hE.2.1 ⟨Nat.le_of_ble_eq_true rfl, Nat.le_of_ble_eq_true rfl⟩) (c_X4_offer l Γ b M mem1 (a := a) (lim := lim) (sz := (offA lim T2 T i).2.2) (d := T2.1 i) (x := T2.2.1 i) (dc := (offA lim T2 T i).1) (sc := (offA lim T2 T i).2.1) (by omega) f3 f4 f5 (by omega) (by omega) (by omega) (hok.1)) rfl (by omega) f3 rfl rfl (Nat.le_of_ble_eq_true rfl) dX4_offerAll_23 rfl rfl (fun H locs mem11 hP12 hh => ?_)
        obtain ⟨f13, f14, f15, k16⟩ := hP12
        have hfr17 : ∀ j, j ≠ a → j ≠ (a + 1) → j ≠ (a + 2) → mem11 j = mem j := fun j c0 c1 c2 => (k16 j (by omega) (by omega) (by omega)).trans (hfr2 j c0 c1 c2)
        have f18 : mem11 a2 = .inr (4, [.ref (b + (a2 + 1)), .ref (b + (a2 + 2)), .int (nI lim2), .int (nI T2.2.2)]) := (k16 _ (by omega) (by omega) (by omega)).trans f6
        have f19 : mem11 (a2 + 1) = aN Γ 20 T2.1 := (k16 _ (by omega) (by omega) (by omega)).trans f7
        have f20 : mem11 (a2 + 2) = aD Γ 20 T2.2.1 := (k16 _ (by omega) (by omega) (by omega)).trans f8
        refine nn_iinc (x := i) (d := 1) (lv' := [(2, .int (nI (i + 1))), (0, .ref (b + a)), (1, .ref (b + a2))]) hx hb dX4_offerAll_26 hl (k := 0) rfl (by decide) (by decide) rfl (fun ls hl => ?_)
        refine lv_goto (tgt := 2) hx hb dX4_offerAll_29 (by decide) ?_
        exact ih9 (i + 1) (by omega) (by omega) _ _ mem11 (f13) (f14) (f15) hfr17 hh ls (lv_sub hl [0, 1, 2] rfl)
  exact loop2 ((T2.2.2 - 0) + 1) 0 (by omega) (by omega) _ _ mem (fa0) (fa1) (fa2) hfr hh ls (lv_sub hl [0, 1, 2] rfl)
set_option maxHeartbeats 4000000 in
set_option maxRecDepth 100000 in
/-- Listing.start -/
theorem c_X2_start (l : Launch) (Γ : Gm) (b M : Nat) (mem : Nat → va_E) {a sd sk ps : Nat} {made : Bool} {k lim sz : Nat} (hM : a + 4 ≤ M) (fl : mem a = .inr (2, [.ref (b + (a + 1)), .int (bI made), .int (nI sd), .int (nI sk), .int (nI ps)])) (fr : mem (a + 1) = .inr (4, [.ref (b + (a + 1 + 1)), .ref (b + (a + 1 + 2)), .int (nI lim), .int (nI sz)])) (hk : k < 2 ^ 31) : Ct l yX2_start (.code yX2_start cX2_start 2 none) ({ frames := 2, cells := 0, slots := 0, locals := 35 } : Room) Γ b M [.ref (b + a), .int (nI k)] mem (fun u => u a = .inr (2, [.ref (b + (a + 1)), .int (bI true), .int (nI 0), .int (nI 0), .int (nI 0)]) ∧ u (a + 1) = .inr (4, [.ref (b + (a + 1 + 1)), .ref (b + (a + 1 + 2)), .int (nI (min k 20)), .int (nI 0)]) ∧ ∀ j, j ≠ a → j ≠ (a + 1) → u j = mem j) none := by
  refine mm_enter (cc := cX2_start) (by decide) (Nat.le_of_ble_eq_true rfl) ?_
  intro p e s m args below meth c ls hx hb hml hown hr hlocks hname hE hh hl
  have hl : lv_has ls 2 [(0, .ref (b + a)), (1, .int (nI k))] := hl
  have hfr : ∀ j, j ≠ a → j ≠ (a + 1) → mem j = mem j := fun j _ _ => rfl
  refine lv_aload_n hx hb dX2_start_0 rfl (lv_at hl 0 rfl) ?_
  refine gf_X2_ranking hx hb hE hown hh (by omega) fl rfl dX2_start_1 ?_
  refine lv_iload_n hx hb dX2_start_4 rfl (lv_at hl 1 rfl) ?_
  refine mm_V0 (As := [.int (nI k)]) (rest := []) hx hb hml hown hE hl.1 hh (kc_X2_16 hE.2.1 ⟨Nat.le_of_ble_eq_true rfl, Nat.le_of_ble_eq_true rfl⟩) (c_X4_start l Γ b M mem (a := a + 1) (lim := lim) (sz := sz) (k := k) (by omega) fr (by omega)) rfl (by omega) fr rfl rfl (Nat.le_of_ble_eq_true rfl) dX2_start_5 rfl rfl (fun H locs mem1 hP2 hh => ?_)
  obtain ⟨f3, k4⟩ := hP2
  have hfr5 : ∀ j, j ≠ a → j ≠ (a + 1) → mem1 j = mem j := fun j c0 c1 => (k4 j (by omega)).trans (hfr j c0 c1)
  have f6 : mem1 a = .inr (2, [.ref (b + (a + 1)), .int (bI made), .int (nI sd), .int (nI sk), .int (nI ps)]) := (k4 _ (by omega)).trans fl
  refine lv_aload_n hx hb dX2_start_8 rfl (lv_at hl 0 rfl) ?_
  refine lv_iconst (v := (nI 1)) hx hb dX2_start_9 (by decide) ?_
  refine gp_X2_made (fs' := [.ref (b + (a + 1)), .int (nI 1), .int (nI sd), .int (nI sk), .int (nI ps)]) hx hb hE hown hh (by omega) f6 rfl rfl (show 1 < 5 by decide) rfl dX2_start_10 (fun H locs mem7 f8 k9 hh => ?_)
  have hfr10 : ∀ j, j ≠ a → j ≠ (a + 1) → mem7 j = mem j := fun j c0 c1 => (k9 j (by omega)).trans (hfr5 j c0 c1)
  have f11 : mem7 (a + 1) = .inr (4, [.ref (b + (a + 2)), .ref (b + (a + 3)), .int (nI (min k 20)), .int (nI 0)]) := (k9 _ (by omega)).trans f3
  refine lv_aload_n hx hb dX2_start_13 rfl (lv_at hl 0 rfl) ?_
  refine lv_iconst (v := (nI 0)) hx hb dX2_start_14 (by decide) ?_
  refine gp_X2_scored (fs' := [.ref (b + (a + 1)), .int (nI 1), .int (nI 0), .int (nI sk), .int (nI ps)]) hx hb hE hown hh (by omega) f8 rfl rfl (show 2 < 5 by decide) rfl dX2_start_15 (fun H locs mem12 f13 k14 hh => ?_)
  have hfr15 : ∀ j, j ≠ a → j ≠ (a + 1) → mem12 j = mem j := fun j c0 c1 => (k14 j (by omega)).trans (hfr10 j c0 c1)
  have f16 : mem12 (a + 1) = .inr (4, [.ref (b + (a + 2)), .ref (b + (a + 3)), .int (nI (min k 20)), .int (nI 0)]) := (k14 _ (by omega)).trans f11
  refine lv_aload_n hx hb dX2_start_18 rfl (lv_at hl 0 rfl) ?_
  refine lv_iconst (v := (nI 0)) hx hb dX2_start_19 (by decide) ?_
  refine gp_X2_skipped (fs' := [.ref (b + (a + 1)), .int (nI 1), .int (nI 0), .int (nI 0), .int (nI ps)]) hx hb hE hown hh (by omega) f13 rfl rfl (show 3 < 5 by decide) rfl dX2_start_20 (fun H locs mem17 f18 k19 hh => ?_)
  have hfr20 : ∀ j, j ≠ a → j ≠ (a + 1) → mem17 j = mem j := fun j c0 c1 => (k19 j (by omega)).trans (hfr15 j c0 c1)
  have f21 : mem17 (a + 1) = .inr (4, [.ref (b + (a + 2)), .ref (b + (a + 3)), .int (nI (min k 20)), .int (nI 0)]) := (k19 _ (by omega)).trans f16
  refine lv_aload_n hx hb dX2_start_23 rfl (lv_at hl 0 rfl) ?_
  refine lv_iconst (v := (nI 0)) hx hb dX2_start_24 (by decide) ?_
  refine gp_X2_passed (fs' := [.ref (b + (a + 1)), .int (nI 1), .int (nI 0), .int (nI 0), .int (nI 0)]) hx hb hE hown hh (by omega) f18 rfl rfl (show 4 < 5 by decide) rfl dX2_start_25 (fun H locs mem22 f23 k24 hh => ?_)
  have hfr25 : ∀ j, j ≠ a → j ≠ (a + 1) → mem22 j = mem j := fun j c0 c1 => (k24 j (by omega)).trans (hfr20 j c0 c1)
  have f26 : mem22 (a + 1) = .inr (4, [.ref (b + (a + 2)), .ref (b + (a + 3)), .int (nI (min k 20)), .int (nI 0)]) := (k24 _ (by omega)).trans f21
  exact mm_vret hx hb hr hlocks hE hh (⟨f23, f26, hfr25⟩) dX2_start_28
set_option maxHeartbeats 4000000 in
set_option maxRecDepth 100000 in
/-- Listing.forget -/
theorem c_X2_forget (l : Launch) (Γ : Gm) (b M : Nat) (mem : Nat → va_E) {a sd sk ps : Nat} {made : Bool} (hM : a + 4 ≤ M) (fl : mem a = .inr (2, [.ref (b + (a + 1)), .int (bI made), .int (nI sd), .int (nI sk), .int (nI ps)])) : Ct l yX2_forget (.code yX2_forget cX2_forget 1 none) ({ frames := 0, cells := 0, slots := 0, locals := 0 } : Room) Γ b M [.ref (b + a)] mem (fun u => u a = .inr (2, [.ref (b + (a + 1)), .int (bI false), .int (nI sd), .int (nI sk), .int (nI ps)]) ∧ ∀ j, j ≠ a → u j = mem j) none := by
  refine mm_enter (cc := cX2_forget) (by decide) (Nat.le_of_ble_eq_true rfl) ?_
  intro p e s m args below meth c ls hx hb hml hown hr hlocks hname hE hh hl
  have hl : lv_has ls 1 [(0, .ref (b + a))] := hl
  have hfr : ∀ j, j ≠ a → mem j = mem j := fun j _ => rfl
  refine lv_aload_n hx hb dX2_forget_0 rfl (lv_at hl 0 rfl) ?_
  refine lv_iconst (v := (nI 0)) hx hb dX2_forget_1 (by decide) ?_
  refine gp_X2_made (fs' := [.ref (b + (a + 1)), .int (nI 0), .int (nI sd), .int (nI sk), .int (nI ps)]) hx hb hE hown hh (by omega) fl rfl rfl (show 1 < 5 by decide) rfl dX2_forget_2 (fun H locs mem1 f2 k3 hh => ?_)
  have hfr4 : ∀ j, j ≠ a → mem1 j = mem j := fun j c0 => (k3 j (by omega)).trans (hfr j c0)
  exact mm_vret hx hb hr hlocks hE hh (⟨f2, hfr4⟩) dX2_forget_5
set_option maxHeartbeats 4000000 in
set_option maxRecDepth 100000 in
/-- Listing.isMade -/
theorem c_X2_isMade (l : Launch) (Γ : Gm) (b M : Nat) (mem : Nat → va_E) {a sd sk ps : Nat} {made : Bool} (hM : a + 4 ≤ M) (fl : mem a = .inr (2, [.ref (b + (a + 1)), .int (bI made), .int (nI sd), .int (nI sk), .int (nI ps)])) : Ct l yX2_isMade (.code yX2_isMade cX2_isMade 1 (some .boolean)) ({ frames := 0, cells := 0, slots := 0, locals := 0 } : Room) Γ b M [.ref (b + a)] mem (fun u => u = mem) (some (.int (bI made))) := by
  refine mm_enter (cc := cX2_isMade) (by decide) (Nat.le_of_ble_eq_true rfl) ?_
  intro p e s m args below meth c ls hx hb hml hown hr hlocks hname hE hh hl
  have hl : lv_has ls 1 [(0, .ref (b + a))] := hl
  refine lv_aload_n hx hb dX2_isMade_0 rfl (lv_at hl 0 rfl) ?_
  refine gf_X2_made hx hb hE hown hh (by omega) fl rfl dX2_isMade_1 ?_
  exact mm_zret hx hb hr hlocks hE hh (rfl) (rfl) (bI_nar _) dX2_isMade_4
set_option maxHeartbeats 4000000 in
set_option maxRecDepth 100000 in
/-- Listing.ranking -/
theorem c_X2_ranking (l : Launch) (Γ : Gm) (b M : Nat) (mem : Nat → va_E) {a sd sk ps : Nat} {made : Bool} (hM : a + 4 ≤ M) (fl : mem a = .inr (2, [.ref (b + (a + 1)), .int (bI made), .int (nI sd), .int (nI sk), .int (nI ps)])) : Ct l yX2_ranking (.code yX2_ranking cX2_ranking 1 (some (.object "HybridSearch$Ranking"))) ({ frames := 0, cells := 0, slots := 0, locals := 0 } : Room) Γ b M [.ref (b + a)] mem (fun u => u = mem) (some (.ref (b + (a + 1)))) := by
  refine mm_enter (cc := cX2_ranking) (by decide) (Nat.le_of_ble_eq_true rfl) ?_
  intro p e s m args below meth c ls hx hb hml hown hr hlocks hname hE hh hl
  have hl : lv_has ls 1 [(0, .ref (b + a))] := hl
  refine lv_aload_n hx hb dX2_ranking_0 rfl (lv_at hl 0 rfl) ?_
  refine gf_X2_ranking hx hb hE hown hh (by omega) fl rfl dX2_ranking_1 ?_
  exact mm_aret hx hb hr hlocks hE hh (rfl) (rfl) dX2_ranking_4
set_option maxHeartbeats 4000000 in
set_option maxRecDepth 100000 in
/-- Listing.addScored -/
theorem c_X2_addScored (l : Launch) (Γ : Gm) (b M : Nat) (mem : Nat → va_E) {a sd sk ps : Nat} {made : Bool} (hM : a + 4 ≤ M) (fl : mem a = .inr (2, [.ref (b + (a + 1)), .int (bI made), .int (nI sd), .int (nI sk), .int (nI ps)])) : Ct l yX2_addScored (.code yX2_addScored cX2_addScored 1 none) ({ frames := 0, cells := 0, slots := 0, locals := 0 } : Room) Γ b M [.ref (b + a)] mem (fun u => u a = .inr (2, [.ref (b + (a + 1)), .int (bI made), .int (nI (sd + 1)), .int (nI sk), .int (nI ps)]) ∧ ∀ j, j ≠ a → u j = mem j) none := by
  refine mm_enter (cc := cX2_addScored) (by decide) (Nat.le_of_ble_eq_true rfl) ?_
  intro p e s m args below meth c ls hx hb hml hown hr hlocks hname hE hh hl
  have hl : lv_has ls 1 [(0, .ref (b + a))] := hl
  have hfr : ∀ j, j ≠ a → mem j = mem j := fun j _ => rfl
  refine lv_aload_n hx hb dX2_addScored_0 rfl (lv_at hl 0 rfl) ?_
  refine lv_dup hx hb dX2_addScored_1 rfl ?_
  refine gf_X2_scored hx hb hE hown hh (by omega) fl rfl dX2_addScored_2 ?_
  refine lv_iconst (v := (nI 1)) hx hb dX2_addScored_5 (by decide) ?_
  refine nn_iadd hx hb dX2_addScored_6 ?_
  refine gp_X2_scored (fs' := [.ref (b + (a + 1)), .int (bI made), .int (nI (sd + 1)), .int (nI sk), .int (nI ps)]) hx hb hE hown hh (by omega) fl rfl rfl (show 2 < 5 by decide) rfl dX2_addScored_7 (fun H locs mem1 f2 k3 hh => ?_)
  have hfr4 : ∀ j, j ≠ a → mem1 j = mem j := fun j c0 => (k3 j (by omega)).trans (hfr j c0)
  exact mm_vret hx hb hr hlocks hE hh (⟨f2, hfr4⟩) dX2_addScored_10
set_option maxHeartbeats 4000000 in
set_option maxRecDepth 100000 in
/-- Listing.addSkipped -/
theorem c_X2_addSkipped (l : Launch) (Γ : Gm) (b M : Nat) (mem : Nat → va_E) {a sd sk ps : Nat} {made : Bool} (hM : a + 4 ≤ M) (fl : mem a = .inr (2, [.ref (b + (a + 1)), .int (bI made), .int (nI sd), .int (nI sk), .int (nI ps)])) : Ct l yX2_addSkipped (.code yX2_addSkipped cX2_addSkipped 1 none) ({ frames := 0, cells := 0, slots := 0, locals := 0 } : Room) Γ b M [.ref (b + a)] mem (fun u => u a = .inr (2, [.ref (b + (a + 1)), .int (bI made), .int (nI sd), .int (nI (sk + 1)), .int (nI ps)]) ∧ ∀ j, j ≠ a → u j = mem j) none := by
  refine mm_enter (cc := cX2_addSkipped) (by decide) (Nat.le_of_ble_eq_true rfl) ?_
  intro p e s m args below meth c ls hx hb hml hown hr hlocks hname hE hh hl
  have hl : lv_has ls 1 [(0, .ref (b + a))] := hl
  have hfr : ∀ j, j ≠ a → mem j = mem j := fun j _ => rfl
  refine lv_aload_n hx hb dX2_addSkipped_0 rfl (lv_at hl 0 rfl) ?_
  refine lv_dup hx hb dX2_addSkipped_1 rfl ?_
  refine gf_X2_skipped hx hb hE hown hh (by omega) fl rfl dX2_addSkipped_2 ?_
  refine lv_iconst (v := (nI 1)) hx hb dX2_addSkipped_5 (by decide) ?_
  refine nn_iadd hx hb dX2_addSkipped_6 ?_
  refine gp_X2_skipped (fs' := [.ref (b + (a + 1)), .int (bI made), .int (nI sd), .int (nI (sk + 1)), .int (nI ps)]) hx hb hE hown hh (by omega) fl rfl rfl (show 3 < 5 by decide) rfl dX2_addSkipped_7 (fun H locs mem1 f2 k3 hh => ?_)
  have hfr4 : ∀ j, j ≠ a → mem1 j = mem j := fun j c0 => (k3 j (by omega)).trans (hfr j c0)
  exact mm_vret hx hb hr hlocks hE hh (⟨f2, hfr4⟩) dX2_addSkipped_10
set_option maxHeartbeats 4000000 in
set_option maxRecDepth 100000 in
/-- Listing.addPassed -/
theorem c_X2_addPassed (l : Launch) (Γ : Gm) (b M : Nat) (mem : Nat → va_E) {a sd sk ps : Nat} {made : Bool} (hM : a + 4 ≤ M) (fl : mem a = .inr (2, [.ref (b + (a + 1)), .int (bI made), .int (nI sd), .int (nI sk), .int (nI ps)])) : Ct l yX2_addPassed (.code yX2_addPassed cX2_addPassed 1 none) ({ frames := 0, cells := 0, slots := 0, locals := 0 } : Room) Γ b M [.ref (b + a)] mem (fun u => u a = .inr (2, [.ref (b + (a + 1)), .int (bI made), .int (nI sd), .int (nI sk), .int (nI (ps + 1))]) ∧ ∀ j, j ≠ a → u j = mem j) none := by
  refine mm_enter (cc := cX2_addPassed) (by decide) (Nat.le_of_ble_eq_true rfl) ?_
  intro p e s m args below meth c ls hx hb hml hown hr hlocks hname hE hh hl
  have hl : lv_has ls 1 [(0, .ref (b + a))] := hl
  have hfr : ∀ j, j ≠ a → mem j = mem j := fun j _ => rfl
  refine lv_aload_n hx hb dX2_addPassed_0 rfl (lv_at hl 0 rfl) ?_
  refine lv_dup hx hb dX2_addPassed_1 rfl ?_
  refine gf_X2_passed hx hb hE hown hh (by omega) fl rfl dX2_addPassed_2 ?_
  refine lv_iconst (v := (nI 1)) hx hb dX2_addPassed_5 (by decide) ?_
  refine nn_iadd hx hb dX2_addPassed_6 ?_
  refine gp_X2_passed (fs' := [.ref (b + (a + 1)), .int (bI made), .int (nI sd), .int (nI sk), .int (nI (ps + 1))]) hx hb hE hown hh (by omega) fl rfl rfl (show 4 < 5 by decide) rfl dX2_addPassed_7 (fun H locs mem1 f2 k3 hh => ?_)
  have hfr4 : ∀ j, j ≠ a → mem1 j = mem j := fun j c0 => (k3 j (by omega)).trans (hfr j c0)
  exact mm_vret hx hb hr hlocks hE hh (⟨f2, hfr4⟩) dX2_addPassed_10
set_option maxHeartbeats 4000000 in
set_option maxRecDepth 100000 in
/-- Listing.scored -/
theorem c_X2_scored (l : Launch) (Γ : Gm) (b M : Nat) (mem : Nat → va_E) {a sd sk ps : Nat} {made : Bool} (hM : a + 4 ≤ M) (fl : mem a = .inr (2, [.ref (b + (a + 1)), .int (bI made), .int (nI sd), .int (nI sk), .int (nI ps)])) : Ct l yX2_scored (.code yX2_scored cX2_scored 1 (some .int)) ({ frames := 0, cells := 0, slots := 0, locals := 0 } : Room) Γ b M [.ref (b + a)] mem (fun u => u = mem) (some (.int (nI sd))) := by
  refine mm_enter (cc := cX2_scored) (by decide) (Nat.le_of_ble_eq_true rfl) ?_
  intro p e s m args below meth c ls hx hb hml hown hr hlocks hname hE hh hl
  have hl : lv_has ls 1 [(0, .ref (b + a))] := hl
  refine lv_aload_n hx hb dX2_scored_0 rfl (lv_at hl 0 rfl) ?_
  refine gf_X2_scored hx hb hE hown hh (by omega) fl rfl dX2_scored_1 ?_
  exact mm_iret hx hb hr hlocks hE hh (rfl) (rfl) dX2_scored_4
set_option maxHeartbeats 4000000 in
set_option maxRecDepth 100000 in
/-- Listing.skipped -/
theorem c_X2_skipped (l : Launch) (Γ : Gm) (b M : Nat) (mem : Nat → va_E) {a sd sk ps : Nat} {made : Bool} (hM : a + 4 ≤ M) (fl : mem a = .inr (2, [.ref (b + (a + 1)), .int (bI made), .int (nI sd), .int (nI sk), .int (nI ps)])) : Ct l yX2_skipped (.code yX2_skipped cX2_skipped 1 (some .int)) ({ frames := 0, cells := 0, slots := 0, locals := 0 } : Room) Γ b M [.ref (b + a)] mem (fun u => u = mem) (some (.int (nI sk))) := by
  refine mm_enter (cc := cX2_skipped) (by decide) (Nat.le_of_ble_eq_true rfl) ?_
  intro p e s m args below meth c ls hx hb hml hown hr hlocks hname hE hh hl
  have hl : lv_has ls 1 [(0, .ref (b + a))] := hl
  refine lv_aload_n hx hb dX2_skipped_0 rfl (lv_at hl 0 rfl) ?_
  refine gf_X2_skipped hx hb hE hown hh (by omega) fl rfl dX2_skipped_1 ?_
  exact mm_iret hx hb hr hlocks hE hh (rfl) (rfl) dX2_skipped_4
set_option maxHeartbeats 4000000 in
set_option maxRecDepth 100000 in
/-- Listing.passed -/
theorem c_X2_passed (l : Launch) (Γ : Gm) (b M : Nat) (mem : Nat → va_E) {a sd sk ps : Nat} {made : Bool} (hM : a + 4 ≤ M) (fl : mem a = .inr (2, [.ref (b + (a + 1)), .int (bI made), .int (nI sd), .int (nI sk), .int (nI ps)])) : Ct l yX2_passed (.code yX2_passed cX2_passed 1 (some .int)) ({ frames := 0, cells := 0, slots := 0, locals := 0 } : Room) Γ b M [.ref (b + a)] mem (fun u => u = mem) (some (.int (nI ps))) := by
  refine mm_enter (cc := cX2_passed) (by decide) (Nat.le_of_ble_eq_true rfl) ?_
  intro p e s m args below meth c ls hx hb hml hown hr hlocks hname hE hh hl
  have hl : lv_has ls 1 [(0, .ref (b + a))] := hl
  refine lv_aload_n hx hb dX2_passed_0 rfl (lv_at hl 0 rfl) ?_
  refine gf_X2_passed hx hb hE hown hh (by omega) fl rfl dX2_passed_1 ?_
  exact mm_iret hx hb hr hlocks hE hh (rfl) (rfl) dX2_passed_4
