/-! CLASS AND REFERENCE: two rankings that agree as far as they go -/
def RkE (T U : RkT) : Prop := T.2.2 = U.2.2 ∧ ∀ j, j < T.2.2 → T.1 j = U.1 j ∧ T.2.1 j = U.2.1 j
theorem plc_eq {d : Nat} {x : UInt64} {f f' : Nat → Nat} {g g' : Nat → UInt64} : ∀ k, (∀ j, j < k → f j = f' j ∧ g j = g' j) → plc d x f g k = plc d x f' g' k
  | 0, _ => rfl
  | k + 1, h => by
    have h1 := plc_eq (d := d) (x := x) k (fun j hj => h j (by omega))
    have h2 := h k (by omega)
    unfold plc
    rw [h2.1, h2.2, h1]
theorem ins_at {α : Type} (f : Nat → α) (q n : Nat) (v : α) (j : Nat) : insF f q n v j = if j = q then v else if q < j ∧ j < n then f (j - 1) else f j := rfl
theorem st_en {lim d : Nat} {x : UInt64} {T U : RkT} (h : RkE T U) (hl : T.2.2 ≤ lim) : RkE (st1 lim d x T) (en1 lim d x U) := by
  obtain ⟨h1, h2⟩ := h
  have hp : plc d x U.1 U.2.1 U.2.2 = plc d x T.1 T.2.1 T.2.2 := by
    rw [← h1]
    exact (plc_eq T.2.2 h2).symm
  have hle := plc_le d x T.1 T.2.1 T.2.2
  have e1 : en1 lim d x U = (insF U.1 (plc d x T.1 T.2.1 T.2.2) (T.2.2 + 1) d, insF U.2.1 (plc d x T.1 T.2.1 T.2.2) (T.2.2 + 1) x, if T.2.2 < lim then T.2.2 + 1 else lim) := by
    unfold en1
    rw [hp, ← h1]
  rw [e1]
  unfold st1
  generalize hq : plc d x T.1 T.2.1 T.2.2 = q at *
  by_cases hql : q < lim
  · have eN : offN lim T.2.2 q = if T.2.2 < lim then T.2.2 + 1 else T.2.2 := if_pos hql
    have eF : ∀ {α : Type} (f : Nat → α) (v : α), offF f lim T.2.2 q v = insF f q (offN lim T.2.2 q) v := fun f v => if_pos hql
    refine ⟨?_, fun j hj => ?_⟩
    · show offN lim T.2.2 q = if T.2.2 < lim then T.2.2 + 1 else lim
      rw [eN]
      split <;> omega
    · have hj2 : j < offN lim T.2.2 q := hj
      have hs : offN lim T.2.2 q ≤ T.2.2 + 1 := by rw [eN]; split <;> omega
      show offF T.1 lim T.2.2 q d j = insF U.1 q (T.2.2 + 1) d j ∧ offF T.2.1 lim T.2.2 q x j = insF U.2.1 q (T.2.2 + 1) x j
      rw [eF, eF, ins_at, ins_at, ins_at, ins_at]
      by_cases e : j = q
      · rw [if_pos e, if_pos e, if_pos e, if_pos e]; exact ⟨rfl, rfl⟩
      · rw [if_neg e, if_neg e, if_neg e, if_neg e]
        by_cases e2 : q < j
        · have e3 : q < j ∧ j < offN lim T.2.2 q := ⟨e2, hj2⟩
          have e4 : q < j ∧ j < T.2.2 + 1 := ⟨e2, by omega⟩
          rw [if_pos e3, if_pos e4, if_pos e3, if_pos e4]
          exact h2 (j - 1) (by omega)
        · rw [if_neg (fun z => e2 z.1), if_neg (fun z => e2 z.1), if_neg (fun z => e2 z.1), if_neg (fun z => e2 z.1)]
          exact h2 j (by omega)
  · have eN : offN lim T.2.2 q = T.2.2 := if_neg hql
    have eF : ∀ {α : Type} (f : Nat → α) (v : α), offF f lim T.2.2 q v = f := fun f v => if_neg hql
    refine ⟨?_, fun j hj => ?_⟩
    · show offN lim T.2.2 q = if T.2.2 < lim then T.2.2 + 1 else lim
      rw [eN, if_neg (by omega)]
      omega
    · have hj2 : j < T.2.2 := by have : j < offN lim T.2.2 q := hj; omega
      show offF T.1 lim T.2.2 q d j = insF U.1 q (T.2.2 + 1) d j ∧ offF T.2.1 lim T.2.2 q x j = insF U.2.1 q (T.2.2 + 1) x j
      rw [eF, eF, ins_at, ins_at, if_neg (by omega), if_neg (by omega), if_neg (by omega), if_neg (by omega)]
      exact h2 j hj2
