/-! CLASS AND REFERENCE: two rankings that agree as far as they go -/
def RkE (T U : RkT) : Prop := T.2.2 = U.2.2 ∧ ∀ j, j < T.2.2 → T.1 j = U.1 j ∧ T.2.1 j = U.2.1 j
theorem plc_eq {d : Nat} {x : UInt64} {f f' : Nat → Nat} {g g' : Nat → UInt64} : ∀ k, (∀ j, j < k → f j = f' j ∧ g j = g' j) → plc d x f g k = plc d x f' g' k
  | 0, _ => rfl
  | k + 1, h => by
    have h1 := plc_eq (d := d) (x := x) k (fun j hj => h j (by omega))
    have h2 := h k (by omega)
    unfold plc
    rw [h2.1, h2.2, h1]
theorem ins_at {α : Type} (f : Nat → α) (q n : Nat) (v : α) (j : Nat) : insF f q n v j = if j = q then v else if q < j ∧ j < n then f (j - 1) else f j := rfl
theorem st_en {lim d : Nat} {x : UInt64} {T U : RkT} (h : RkE T U) (hl : T.2.2 ≤ lim) : RkE (st1 lim d x T) (en1 lim d x U) := by
  obtain ⟨h1, h2⟩ := h
  have hp : plc d x U.1 U.2.1 U.2.2 = plc d x T.1 T.2.1 T.2.2 := by
    rw [← h1]
    exact (plc_eq T.2.2 h2).symm
  have hle := plc_le d x T.1 T.2.1 T.2.2
  have e1 : en1 lim d x U = (insF U.1 (plc d x T.1 T.2.1 T.2.2) (T.2.2 + 1) d, insF U.2.1 (plc d x T.1 T.2.1 T.2.2) (T.2.2 + 1) x, if T.2.2 < lim then T.2.2 + 1 else lim) := by
    unfold en1
    rw [hp, ← h1]
  rw [e1]
  unfold st1
  generalize hq : plc d x T.1 T.2.1 T.2.2 = q at *
  by_cases hql : q < lim
  · have eN : offN lim T.2.2 q = if T.2.2 < lim then T.2.2 + 1 else T.2.2 := if_pos hql
    have eF : ∀ {α : Type} (f : Nat → α) (v : α), offF f lim T.2.2 q v = insF f q (offN lim T.2.2 q) v := fun f v => if_pos hql
    refine ⟨?_, fun j hj => ?_⟩
    · show offN lim T.2.2 q = if T.2.2 < lim then T.2.2 + 1 else lim
      rw [eN]
      split <;> omega
    · have hj2 : j < offN lim T.2.2 q := hj
      have hs : offN lim T.2.2 q ≤ T.2.2 + 1 := by rw [eN]; split <;> omega
      show offF T.1 lim T.2.2 q d j = insF U.1 q (T.2.2 + 1) d j ∧ offF T.2.1 lim T.2.2 q x j = insF U.2.1 q (T.2.2 + 1) x j
      rw [eF, eF, ins_at, ins_at, ins_at, ins_at]
      by_cases e : j = q
      · rw [if_pos e, if_pos e, if_pos e, if_pos e]; exact ⟨rfl, rfl⟩
      · rw [if_neg e, if_neg e, if_neg e, if_neg e]
        by_cases e2 : q < j
        · have e3 : q < j ∧ j < offN lim T.2.2 q := ⟨e2, hj2⟩
          have e4 : q < j ∧ j < T.2.2 + 1 := ⟨e2, by omega⟩
          rw [if_pos e3, if_pos e4, if_pos e3, if_pos e4]
          exact h2 (j - 1) (by omega)
        · rw [if_neg (fun z => e2 z.1), if_neg (fun z => e2 z.1), if_neg (fun z => e2 z.1), if_neg (fun z => e2 z.1)]
          exact h2 j (by omega)
  · have eN : offN lim T.2.2 q = T.2.2 := if_neg hql
    have eF : ∀ {α : Type} (f : Nat → α) (v : α), offF f lim T.2.2 q v = f := fun f v => if_neg hql
    refine ⟨?_, fun j hj => ?_⟩
    · show offN lim T.2.2 q = if T.2.2 < lim then T.2.2 + 1 else lim
      rw [eN, if_neg (by omega)]
      omega
    · have hj2 : j < T.2.2 := by have : j < offN lim T.2.2 q := hj; omega
      show offF T.1 lim T.2.2 q d j = insF U.1 q (T.2.2 + 1) d j ∧ offF T.2.1 lim T.2.2 q x j = insF U.2.1 q (T.2.2 + 1) x j
      rw [eF, eF, ins_at, ins_at, if_neg (by omega), if_neg (by omega), if_neg (by omega), if_neg (by omega)]
      exact h2 j hj2
theorem fo_rel {α β : Type} {g : Nat → α → α} {g' : Nat → β → β} {P : α → β → Prop} {E : α} {E' : β} {lo : Nat} (h0 : P E E') : ∀ n, (∀ d E E', lo ≤ d → d < lo + n → P E E' → P (g d E) (g' d E')) → P (fo g E lo n) (fo g' E' lo n)
  | 0, _ => h0
  | n + 1, h => h _ _ _ (by omega) (by omega) (fo_rel h0 n (fun d E E' h1 h2 h3 => h d E E' h1 (by omega) h3))
theorem shO_eq {lim : Nat} {T U : RkT} (h : RkE T U) (x : UInt64) : shO lim T.2.2 T.2.1 x = shO lim U.2.2 U.2.1 x := by
  obtain ⟨h1, h2⟩ := h
  unfold shO
  rw [← h1]
  by_cases hz : T.2.2 = 0
  · simp [hz]
  · rw [(h2 (T.2.2 - 1) (by omega)).2]
/-- the two sides of a search agree -/
def SeE (lim : Nat) (E E' : SeT) : Prop := RkE E.1 E'.1 ∧ E.2 = E'.2 ∧ sOK lim E
section EQ
variable {lim nd sh ns d k : Nat} {mt mt' : Nat → Bool} {so so' bo bo' bb bb' : Nat → UInt64} {E E' : SeT}
theorem hie_eq {x : UInt64} (h : SeE lim E E') (hd : d < 16) : SeE lim (hiS (st1 lim) d x E) (hiS (en1 lim) d x E') := by
  obtain ⟨h1, h2, h3⟩ := h
  refine ⟨st_en h1 h3.2, ?_, hiS_ok h3 hd⟩
  show (E.2.1 + 1, E.2.2) = (E'.2.1 + 1, E'.2.2)
  rw [h2]
theorem sce_eq (h : SeE lim E E') (hd : d < 16) (hm : mt d = mt' d) (hs : mt d = true → so d = so' d) : SeE lim (scD (st1 lim) sh ns mt so d E) (scD (en1 lim) sh ns mt' so' d E') := by
  unfold scD
  rw [← hm]
  split
  · split
    · rename_i hh; rw [← hs hh]; exact hie_eq h hd
    · exact h
  · exact h
theorem pre_eq (h : SeE lim E E') (hd : d < 16) (hm : mt d = mt' d) (hs : mt d = true → so d = so' d) (hb : mt d = true → bo d = bo' d) : SeE lim (prD (st1 lim) lim sh ns mt so bo d E) (prD (en1 lim) lim sh ns mt' so' bo' d E') := by
  unfold prD
  rw [← hm]
  split
  · split
    · rename_i hh
      rw [← hs hh, ← hb hh, ← shO_eq h.1]
      split
      · obtain ⟨h1, h2, h3⟩ := h
        refine ⟨h1, ?_, h3⟩
        show (E.2.1, E.2.2.1, E.2.2.2 + 1) = (E'.2.1, E'.2.2.1, E'.2.2.2 + 1)
        rw [h2]
      · exact hie_eq h hd
    · exact h
  · exact h
theorem pke_eq (h : SeE lim E E') (hn : nd ≤ 16) (hm : ∀ d, d < nd → mt d = mt' d) (hs : ∀ d, d < nd → mt d = true → so d = so' d) (hb : ∀ d, d < nd → mt d = true → bo d = bo' d) (hk : bb k = bb' k) : SeE lim (prK (st1 lim) lim nd sh ns mt so bo bb k E) (prK (en1 lim) lim nd sh ns mt' so' bo' bb' k E') := by
  have h8 := eB_le nd k
  unfold prK
  split
  · rw [← hk, ← shO_eq h.1]
    split
    · obtain ⟨h1, h2, h3⟩ := h
      refine ⟨h1, ?_, h3⟩
      show (E.2.1, E.2.2.1 + 1, E.2.2.2) = (E'.2.1, E'.2.2.1 + 1, E'.2.2.2)
      rw [h2]
    · exact fo_rel h _ (fun d E E' a b c => pre_eq c (by omega) (hm d (by omega)) (hs d (by omega)) (hb d (by omega)))
  · exact h
end EQ
theorem enA_eq {mo : Nat} {A B T : RkT} : ∀ n, (∀ j, j < n → A.1 j = B.1 j ∧ A.2.1 j = B.2.1 j) → enA mo A T n = enA mo B T n
  | 0, _ => rfl
  | n + 1, h => by
    unfold enA
    rw [enA_eq n (fun j hj => h j (by omega)), (h n (by omega)).1, (h n (by omega)).2]
theorem apK_lo {A X : RkT} {k j : Nat} (h : j < A.2.2) : (apK A X k).1 j = A.1 j ∧ (apK A X k).2.1 j = A.2.1 j := ⟨if_neg (by omega), if_neg (by omega)⟩
theorem apK_hi {A X : RkT} {k i : Nat} (h : i < k) : (apK A X k).1 (A.2.2 + i) = X.1 i ∧ (apK A X k).2.1 (A.2.2 + i) = X.2.1 i := by
  refine ⟨(if_pos (by omega)).trans ?_, (if_pos (by omega)).trans ?_⟩
  · show X.1 (A.2.2 + i - A.2.2) = X.1 i
    rw [Nat.add_sub_cancel_left]
  · show X.2.1 (A.2.2 + i - A.2.2) = X.2.1 i
    rw [Nat.add_sub_cancel_left]
/-- a shard's rows offered at once, and entered behind those of the shards before -/
theorem off_en {lim : Nat} {X X' L A T : RkT} (hX : RkE X X') (hX2 : ∀ j, X.1 j < 16) (h : RkE L (enA lim A T A.2.2)) (hl : tOK lim L) : ∀ i, i ≤ X'.2.2 → RkE (offA lim X L i) (enA lim (apK A X' X'.2.2) T (A.2.2 + i))
  | 0, _ => by
    show RkE L (enA lim (apK A X' X'.2.2) T A.2.2)
    rw [enA_eq A.2.2 (fun j hj => apK_lo hj)]
    exact h
  | i + 1, hi => by
    have h1 := off_en hX hX2 h hl i (by omega)
    have h2 := apK_hi (A := A) (X := X') (k := X'.2.2) (i := i) (by omega)
    have h3 := hX.2 i (by have := hX.1; omega)
    show RkE (st1 lim (X.1 i) (X.2.1 i) (offA lim X L i)) (en1 lim ((apK A X' X'.2.2).1 (A.2.2 + i)) ((apK A X' X'.2.2).2.1 (A.2.2 + i)) (enA lim (apK A X' X'.2.2) T (A.2.2 + i)))
    rw [h2.1, h2.2, ← h3.1, ← h3.2]
    exact st_en h1 (offA_ok hl hX2 i).2
/-- the class's list out of its shards is the reference's -/
theorem list_eq {lim : Nat} {G G' : Nat → SeT → SeT} {E E' : RkT × SeT} {T : RkT} (hG : ∀ sh E E', SeE lim E E' → SeE lim (G sh E) (G' sh E')) (hL : tOK lim E.1) (hS : ∀ j, E.2.1.1 j < 16) (hL0 : E.1.2.2 = 0) (hA0 : E'.1.2.2 = 0) (hT0 : T.2.2 = 0) (hc : E.2.2 = E'.2.2) : ∀ sh, RkE (mkS lim G E sh).1 (enA lim (mcS G' E' sh).1 T (mcS G' E' sh).1.2.2) ∧ (mkS lim G E sh).2.2 = (mcS G' E' sh).2.2 ∧ tOK lim (mkS lim G E sh).1 ∧ ∀ j, (mkS lim G E sh).2.1.1 j < 16
  | 0 => by
    refine ⟨?_, hc, hL, hS⟩
    show RkE E.1 (enA lim E'.1 T E'.1.2.2)
    rw [hA0]
    show RkE E.1 T
    exact ⟨hL0.trans hT0.symm, fun j hj => by rw [hL0] at hj; exact absurd hj (Nat.not_lt_zero _)⟩
  | sh + 1 => by
    obtain ⟨h1, h2, h3, h4⟩ := list_eq (T := T) hG hL hS hL0 hA0 hT0 hc sh
    have h5 : SeE lim (((mkS lim G E sh).2.1.1, (mkS lim G E sh).2.1.2.1, 0), (mkS lim G E sh).2.2) (((mcS G' E' sh).2.1.1, (mcS G' E' sh).2.1.2.1, 0), (mcS G' E' sh).2.2) := ⟨⟨rfl, fun j hj => absurd hj (Nat.not_lt_zero _)⟩, h2, h4, Nat.zero_le _⟩
    obtain ⟨g1, g2, g3⟩ := hG sh _ _ h5
    have h6 := off_en g1 g3.1 h1 h3 _ (Nat.le_refl _)
    refine ⟨?_, g2, offA_ok h3 g3.1 _, g3.1⟩
    rw [← g1.1] at h6
    show RkE (offA lim (G sh _).1 (mkS lim G E sh).1 (G sh _).1.2.2) (enA lim (apK (mcS G' E' sh).1 (G' sh _).1 (G' sh _).1.2.2) T ((mcS G' E' sh).1.2.2 + (G' sh _).1.2.2))
    rw [← g1.1]
    exact h6
