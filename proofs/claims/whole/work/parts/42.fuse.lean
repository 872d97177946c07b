/-! EQUAL FUSIONS -/
def LsR (made : Nat → Bool) (T : Nat → RkT) (mh : Nat → Bool) (ml mli : Nat → Nat) (msc : Nat → UInt64) : Prop := ∀ v, v < 3 → made v = mh v ∧ (mh v = true → (T v).2.2 = ml v ∧ ∀ j, j < ml v → (T v).1 j = mli (20 * v + j) ∧ (T v).2.1 j = msc (20 * v + j))
def LsI (made : Nat → Bool) (T : Nat → RkT) (nd : Nat) : Prop := ∀ v, v < 3 → made v = true → RkI (fun a => a < nd) (T v) ∧ (T v).2.2 ≤ 20 ∧ ∀ j, (T v).1 j < 16
theorem LsI.ok {made : Nat → Bool} {T : Nat → RkT} {nd : Nat} (h : LsI made T nd) : lsOK made T := fun v hv hm => ⟨⟨fun j hj => ((h v hv hm).1.1 j hj).2, (h v hv hm).1.2.1⟩, (h v hv hm).2⟩
theorem LsR.ok {made : Nat → Bool} {T : Nat → RkT} {mh : Nat → Bool} {ml mli : Nat → Nat} {msc : Nat → UInt64} {nd : Nat} (h : LsR made T mh ml mli msc) (hi : LsI made T nd) : mlOK mh ml mli msc := fun v hv hm => by
  obtain ⟨h1, h2⟩ := h v hv
  obtain ⟨h3, h4⟩ := h2 hm
  obtain ⟨⟨i1, i2, -⟩, i4, i5⟩ := hi v hv (h1.trans hm)
  rw [h3] at i1 i2 i4
  refine ⟨⟨fun j hj => ?_, fun i j hij hj => ?_⟩, i4, fun k hk => ?_⟩
  · show fnZ (msc (20 * v + j))
    rw [← (h4 j hj).2]; exact (i1 j hj).2
  · show FP.Core.dkey (msc (20 * v + j)) ≤ FP.Core.dkey (msc (20 * v + i))
    rw [← (h4 j hj).2, ← (h4 i (by omega)).2]; exact i2 i j hij hj
  · rw [← (h4 k hk).1]; exact i5 k
section FE
variable {way : Nat} {T : RkT} {U : FuT} {d : Nat}
theorem adL_no : ∀ i, (∀ k, k < i → T.1 k ≠ d) → (adL way T U i).1 d = U.1 d ∧ (adL way T U i).2 d = U.2 d
  | 0, _ => ⟨rfl, rfl⟩
  | i + 1, h => by
    have h1 := adL_no i (fun k hk => h k (by omega))
    have h2 : d ≠ T.1 i := fun e => h i (Nat.lt_succ_self i) e.symm
    unfold adL ad1
    refine ⟨?_, ?_⟩
    · show va_up _ (T.1 i) _ d = _
      rw [va_up_ne _ _ h2]; exact h1.1
    · show va_up _ (T.1 i) _ d = _
      rw [va_up_ne _ _ h2]; exact h1.2
theorem adL_yes {k : Nat} (hk : T.1 k = d) : ∀ i, k < i → (∀ j, j < i → j ≠ k → T.1 j ≠ d) → (adL way T U i).1 d = FP.dadd (U.1 d) (shF way T.2.1 T.2.2 k) ∧ (adL way T U i).2 d = U.2 d + 1
  | 0, h, _ => absurd h (Nat.not_lt_zero _)
  | i + 1, h, ho => by
    by_cases e : k = i
    · subst e
      have h1 := adL_no (way := way) (T := T) (U := U) (d := d) k (fun j hj => ho j (by omega) (by omega))
      unfold adL ad1
      rw [hk]
      refine ⟨?_, ?_⟩
      · show va_up _ d _ d = _
        rw [va_up_self, h1.1]
      · show va_up _ d _ d = _
        rw [va_up_self, h1.2]
    · have h1 := adL_yes hk i (by omega) (fun j hj => ho j (by omega))
      have h2 : d ≠ T.1 i := fun e2 => ho i (Nat.lt_succ_self i) (fun e3 => e e3.symm) e2.symm
      unfold adL ad1
      refine ⟨?_, ?_⟩
      · show va_up _ (T.1 i) _ d = _
        rw [va_up_ne _ _ h2]; exact h1.1
      · show va_up _ (T.1 i) _ d = _
        rw [va_up_ne _ _ h2]; exact h1.2
end FE
theorem rk_n {f : Nat → Nat} {d : Nat} : ∀ n, n ≤ 20 → rkF f d n = (-1) → ∀ k, k < n → f k ≠ d
  | 0, _, _, k, hk => absurd hk (Nat.not_lt_zero _)
  | n + 1, hn, h, k, hk => by
    unfold rkF at h
    by_cases e : f n = d
    · rw [if_pos e] at h
      exact absurd h (nI_nm1 (by omega))
    · rw [if_neg e] at h
      by_cases ek : k = n
      · rw [ek]; exact e
      · exact rk_n n (by omega) h k (by omega)
theorem rk_none {f : Nat → Nat} {d : Nat} : ∀ n, (∀ k, k < n → f k ≠ d) → rkF f d n = (-1)
  | 0, _ => rfl
  | n + 1, h => by
    unfold rkF
    rw [if_neg (h n (by omega))]
    exact rk_none n (fun k hk => h k (by omega))
theorem shF_eq {way sz i : Nat} {sc sc' : Nat → UInt64} (h : ∀ j, j < sz → sc j = sc' j) (hi : i < sz) : shF way sc sz i = shF way sc' sz i := by
  unfold shF shA
  rw [h 0 (by omega), h (sz - 1) (by omega), h i hi]
section FF
variable {way : Nat} {made : Nat → Bool} {T : Nat → RkT} {mh : Nat → Bool} {ml mli : Nat → Nat} {msc : Nat → UInt64} {nd : Nat} {U : FuT}
theorem fu_eq (h : LsR made T mh ml mli msc) (hi : LsI made T nd) {d : Nat} (hU : U.1 d = FP.dconst0 ∧ U.2 d = 0) : ∀ v, v ≤ 3 → (fuV way made T U v).1 d = (fvS way mh ml mli msc d v).1 ∧ (fuV way made T U v).2 d = (fvS way mh ml mli msc d v).2
  | 0, _ => hU
  | v + 1, hv => by
    have ih := fu_eq h hi hU v (by omega)
    obtain ⟨h1, h2⟩ := h v (by omega)
    have eU : fuV way made T U (v + 1) = if made v = true then adL way (T v) (fuV way made T U v) (T v).2.2 else fuV way made T U v := rfl
    have eS : fvS way mh ml mli msc d (v + 1) = if rkF (lfN mli v) d (mlE mh ml v) = (-1) then fvS way mh ml mli msc d v else (FP.dadd (fvS way mh ml mli msc d v).1 (shF way (lfD msc v) (ml v) (rkN (lfN mli v) d (mlE mh ml v))), (fvS way mh ml mli msc d v).2 + 1) := rfl
    rw [eU, eS]
    by_cases hm : mh v = true
    · obtain ⟨h3, h4⟩ := h2 hm
      obtain ⟨⟨i1, i2, i3⟩, i4, i5⟩ := hi v (by omega) (h1.trans hm)
      have eE : mlE mh ml v = ml v := if_pos hm
      rw [if_pos (h1.trans hm), eE]
      by_cases hr : rkF (lfN mli v) d (ml v) = (-1)
      · rw [if_pos hr]
        have h5 := adL_no (way := way) (T := T v) (U := fuV way made T U v) (d := d) (T v).2.2 (fun k hk => by
          rw [h3] at hk
          rw [(h4 k hk).1]
          exact rk_n (ml v) (by omega) hr k hk)
        exact ⟨h5.1.trans ih.1, h5.2.trans ih.2⟩
      · rw [if_neg hr]
        obtain ⟨-, r2, r3⟩ := rk_y (ml v) (by omega) hr
        generalize rkN (lfN mli v) d (ml v) = k at r2 r3
        have h6 : (T v).1 k = d := (h4 k r2).1.trans r3
        have h5 := adL_yes (way := way) (T := T v) (U := fuV way made T U v) (d := d) h6 (T v).2.2 (by omega) (fun j hj hjk e => by
          rcases Nat.lt_or_ge j k with a | a
          · exact i3 j k a (by omega) (e.trans h6.symm)
          · exact i3 k j (by omega) hj (h6.trans e.symm))
        rw [shF_eq (sc' := lfD msc v) (fun j hj => (h4 j (by omega)).2) (by omega), h3, ih.1, ih.2] at h5
        rw [h3]
        exact h5
    · rw [if_neg (fun e => hm (h1.symm.trans e))]
      have eE : mlE mh ml v = 0 := if_neg hm
      rw [eE, if_pos (show rkF (lfN mli v) d 0 = (-1) from rfl)]
      exact ih
theorem fv_0 (h : LsR made T mh ml mli msc) (hi : LsI made T nd) {d : Nat} (hd : nd ≤ d) : ∀ v, v ≤ 3 → (fvS way mh ml mli msc d v).2 = 0
  | 0, _ => rfl
  | v + 1, hv => by
    have ih := fv_0 h hi hd v (by omega)
    obtain ⟨h1, h2⟩ := h v (by omega)
    have hr : rkF (lfN mli v) d (mlE mh ml v) = (-1) := rk_none _ (fun k hk => by
      obtain ⟨hm, e⟩ := mlE_t (mh := mh) (ml := ml) (v := v) (by omega)
      obtain ⟨h3, h4⟩ := h2 hm
      rw [e] at hk
      have h5 := ((hi v (by omega) (h1.trans hm)).1.1 k (by omega)).1
      have h6 := (h4 k hk).1
      show mli (20 * v + k) ≠ d
      omega)
    unfold fvS
    rw [if_pos hr]
    exact ih
theorem st_20 {d : Nat} {x : UInt64} {T : RkT} (h : T.2.2 < 16) : st1 16 d x T = st1 20 d x T := by
  have hle := plc_le d x T.1 T.2.1 T.2.2
  unfold st1
  generalize plc d x T.1 T.2.1 T.2.2 = q at hle
  have eN : offN 16 T.2.2 q = offN 20 T.2.2 q := by
    unfold offN
    rw [if_pos (by omega), if_pos (by omega), if_pos (by omega), if_pos (by omega)]
  have eF : ∀ {α : Type} (f : Nat → α) (v : α), offF f 16 T.2.2 q v = offF f 20 T.2.2 q v := fun f v => by
    unfold offF
    rw [if_pos (by omega), if_pos (by omega), eN]
  rw [eF, eF, eN]
theorem fr_sz {U : FuT} {T0 : RkT} (h0 : T0.2.2 = 0) : ∀ d, (fuR way U T0 d).2.2 ≤ d
  | 0 => by show T0.2.2 ≤ 0; omega
  | d + 1 => by
    have ih := fr_sz (U := U) h0 d
    unfold fuR
    split
    · show offN 16 _ _ ≤ d + 1
      unfold offN
      split
      · split <;> omega
      · omega
    · omega
theorem fr_eq {U : FuT} {T0 T1 : RkT} (h0 : T0.2.2 = 0) (h1 : T1.2.2 = 0) : ∀ d, d ≤ 16 → (∀ a, a < d → U.1 a = (fvS way mh ml mli msc a 3).1 ∧ U.2 a = (fvS way mh ml mli msc a 3).2) → RkE (fuR way U T0 d) (fuM way mh ml mli msc T1 d)
  | 0, _, _ => ⟨h0.trans h1.symm, fun j hj => by rw [show fuR way U T0 0 = T0 from rfl, h0] at hj; exact absurd hj (Nat.not_lt_zero _)⟩
  | d + 1, hd, h => by
    have ih := fr_eq (U := U) (T0 := T0) (T1 := T1) h0 h1 d (by omega) (fun a ha => h a (by omega))
    obtain ⟨e1, e2⟩ := h d (by omega)
    have hs := fr_sz (way := way) (U := U) h0 d
    have ev : vwF way U d = vwM way (fvS way mh ml mli msc d 3) := by
      unfold vwF vwM
      rw [e1, e2]
    unfold fuR fuM
    rw [e2, ev]
    split
    · rw [st_20 (by omega)]
      exact st_en ih (by omega)
    · exact ih
theorem fr_end {U : FuT} {T0 : RkT} {n : Nat} (h : ∀ a, n ≤ a → U.2 a = 0) : ∀ m, fuR way U T0 (n + m) = fuR way U T0 n
  | 0 => rfl
  | m + 1 => by
    show (if 0 < U.2 (n + m) then _ else fuR way U T0 (n + m)) = _
    rw [if_neg (by rw [h (n + m) (by omega)]; decide)]
    exact fr_end h m
/-- the class's fusion is the reference's -/
theorem fuse_eq {to : Nat → UInt64} {mb : Nat → Nat} {T0 T1 : RkT} (h : LsR made T mh ml mli msc) (hi : LsI made T nd) (hn : nd ≤ 16) (h0 : T0.2.2 = 0) (h1 : T1.2.2 = 0) : RkE (fuR way (fuV way made T (fu0 to mb) 3) T0 16) (fuM way mh ml mli msc T1 nd) := by
  have hU : ∀ d, d < 16 → (fuV way made T (fu0 to mb) 3).1 d = (fvS way mh ml mli msc d 3).1 ∧ (fuV way made T (fu0 to mb) 3).2 d = (fvS way mh ml mli msc d 3).2 := fun d hd => fu_eq h hi ⟨if_pos hd, if_pos hd⟩ 3 (Nat.le_refl 3)
  have hz : ∀ m, nd + m ≤ 16 → fuR way (fuV way made T (fu0 to mb) 3) T0 (nd + m) = fuR way (fuV way made T (fu0 to mb) 3) T0 nd := by
    intro m
    induction m with
    | zero => intro _; rfl
    | succ m ih =>
      intro hm
      show (if 0 < (fuV way made T (fu0 to mb) 3).2 (nd + m) then _ else fuR way (fuV way made T (fu0 to mb) 3) T0 (nd + m)) = _
      rw [if_neg (by rw [(hU (nd + m) (by omega)).2, fv_0 h hi (by omega) 3 (Nat.le_refl 3)]; decide)]
      exact ih (by omega)
  have e := hz (16 - nd) (by omega)
  rw [show nd + (16 - nd) = 16 by omega] at e
  rw [e]
  exact fr_eq h0 h1 nd hn (fun a ha => hU a (by omega))
end FF
