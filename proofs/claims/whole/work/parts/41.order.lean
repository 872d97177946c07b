/-! RANKINGS IN ORDER: finite scores, not rising; documents apart -/
def RkI (P : Nat → Prop) (T : RkT) : Prop := (∀ j, j < T.2.2 → P (T.1 j) ∧ fnZ (T.2.1 j)) ∧ (∀ i j, i ≤ j → j < T.2.2 → FP.Core.dkey (T.2.1 j) ≤ FP.Core.dkey (T.2.1 i)) ∧ ∀ i j, i < j → j < T.2.2 → T.1 i ≠ T.1 j
theorem RkI.mono {P P' : Nat → Prop} {T : RkT} (h : RkI P T) (hP : ∀ a, P a → P' a) : RkI P' T := ⟨fun j hj => ⟨hP _ (h.1 j hj).1, (h.1 j hj).2⟩, h.2.1, h.2.2⟩
theorem RkI_0 {P : Nat → Prop} {T : RkT} (h : T.2.2 = 0) : RkI P T := ⟨fun j hj => by omega, fun i j _ hj => by omega, fun i j _ hj => by omega⟩
theorem plc_hi {d : Nat} {x : UInt64} {f : Nat → Nat} {g : Nat → UInt64} : ∀ k j, plc d x f g k ≤ j → j < k → isBf d x (f j) (g j) = true
  | 0, _, _, h => absurd h (Nat.not_lt_zero _)
  | k + 1, j, h, hj => by
    unfold plc at h
    by_cases e : isBf d x (f k) (g k) = true
    · rw [if_pos e] at h
      by_cases ej : j = k
      · rw [ej]; exact e
      · exact plc_hi k j h (by omega)
    · rw [if_neg e] at h
      omega
theorem plc_lo {d : Nat} {x : UInt64} {f : Nat → Nat} {g : Nat → UInt64} : ∀ k, 0 < plc d x f g k → isBf d x (f (plc d x f g k - 1)) (g (plc d x f g k - 1)) = false
  | 0, h => absurd h (Nat.not_lt_zero _)
  | k + 1, h => by
    have e1 : plc d x f g (k + 1) = if isBf d x (f k) (g k) = true then plc d x f g k else k + 1 := rfl
    by_cases e : isBf d x (f k) (g k) = true
    · rw [e1, if_pos e] at h ⊢
      exact plc_lo k h
    · rw [e1, if_neg e] at h ⊢
      show isBf d x (f (k + 1 - 1)) (g (k + 1 - 1)) = false
      rw [Nat.add_sub_cancel]
      exact Bool.not_eq_true _ ▸ e
theorem bf_key {d d2 : Nat} {x y : UInt64} (hx : fnZ x) (hy : fnZ y) (h : isBf d x d2 y = true) : FP.Core.dkey y ≤ FP.Core.dkey x := by
  rcases of_decide_eq_true h with h | h
  · have := (gt_key hx hy).mp h
    omega
  · have := (FP.Core.dcmp_eq_key (hx.1.fin (by decide)).ne_nan (hy.1.fin (by decide)).ne_nan).mp h.1
    omega
theorem nb_key {d d2 : Nat} {x y : UInt64} (hx : fnZ x) (hy : fnZ y) (h : isBf d x d2 y = false) : FP.Core.dkey x ≤ FP.Core.dkey y := by
  have h1 : ¬ FP.dcmp x y = some .gt := fun h2 => of_decide_eq_false h (Or.inl h2)
  have := mt (gt_key hx hy).mpr h1
  omega
/-- an offer keeps the order -/
theorem st_I {P P' : Nat → Prop} {lim d : Nat} {x : UInt64} {T : RkT} (h : RkI P T) (hl : T.2.2 ≤ lim) (hx : fnZ x) (hP : ∀ a, P a → P' a) (hd : P' d) (hn : ¬ P d) : RkI P' (st1 lim d x T) := by
  obtain ⟨h1, h2, h3⟩ := h
  have hle := plc_le d x T.1 T.2.1 T.2.2
  have hhi := plc_hi (d := d) (x := x) (f := T.1) (g := T.2.1) T.2.2
  have hlo := plc_lo (d := d) (x := x) (f := T.1) (g := T.2.1) T.2.2
  unfold st1
  generalize hq : plc d x T.1 T.2.1 T.2.2 = q at *
  by_cases hql : q < lim
  · have eN : offN lim T.2.2 q = if T.2.2 < lim then T.2.2 + 1 else T.2.2 := if_pos hql
    have eF : ∀ {α : Type} (f : Nat → α) (v : α), offF f lim T.2.2 q v = insF f q (offN lim T.2.2 q) v := fun f v => if_pos hql
    rw [eF, eF]
    have hN : offN lim T.2.2 q ≤ T.2.2 + 1 := by rw [eN]; split <;> omega
    generalize offN lim T.2.2 q = N at hN
    have at1 : ∀ {α : Type} (f : Nat → α) (v : α) (j : Nat), j < N → insF f q N v j = if j = q then v else if q < j then f (j - 1) else f j := fun f v j hj => by
      rw [ins_at]
      by_cases e : j = q
      · rw [if_pos e, if_pos e]
      · rw [if_neg e, if_neg e]
        by_cases e2 : q < j
        · rw [if_pos ⟨e2, hj⟩, if_pos e2]
        · rw [if_neg (fun z => e2 z.1), if_neg e2]
    have hxk : ∀ j, q ≤ j → j < T.2.2 → FP.Core.dkey (T.2.1 j) ≤ FP.Core.dkey x := fun j a b => bf_key hx (h1 j b).2 (hhi j a b)
    have hkx : ∀ j, j < q → FP.Core.dkey x ≤ FP.Core.dkey (T.2.1 j) := fun j a => by
      have k1 := nb_key hx (h1 (q - 1) (by omega)).2 (hlo (by omega))
      have k2 := h2 j (q - 1) (by omega) (by omega)
      omega
    refine ⟨fun j hj => ?_, fun i j hij hj => ?_, fun i j hij hj => ?_⟩
    · have hj : j < N := hj
      show P' (insF T.1 q N d j) ∧ fnZ (insF T.2.1 q N x j)
      rw [at1 _ _ j hj, at1 _ _ j hj]
      by_cases e : j = q
      · rw [if_pos e, if_pos e]; exact ⟨hd, hx⟩
      · rw [if_neg e, if_neg e]
        by_cases e2 : q < j
        · rw [if_pos e2, if_pos e2]; exact ⟨hP _ (h1 _ (by omega)).1, (h1 _ (by omega)).2⟩
        · rw [if_neg e2, if_neg e2]; exact ⟨hP _ (h1 _ (by omega)).1, (h1 _ (by omega)).2⟩
    · have hj : j < N := hj
      show FP.Core.dkey (insF T.2.1 q N x j) ≤ FP.Core.dkey (insF T.2.1 q N x i)
      rw [at1 _ _ j hj, at1 _ _ i (by omega)]
      by_cases ej : j = q
      · rw [if_pos ej]
        by_cases ei : i = q
        · rw [if_pos ei]; exact Int.le_refl _
        · rw [if_neg ei, if_neg (by omega)]; exact hkx i (by omega)
      · rw [if_neg ej]
        by_cases e2 : q < j
        · rw [if_pos e2]
          by_cases ei : i = q
          · rw [if_pos ei]; exact hxk _ (by omega) (by omega)
          · rw [if_neg ei]
            by_cases e3 : q < i
            · rw [if_pos e3]; exact h2 _ _ (by omega) (by omega)
            · rw [if_neg e3]; exact h2 _ _ (by omega) (by omega)
        · rw [if_neg e2, if_neg (by omega), if_neg (by omega)]
          exact h2 _ _ hij (by omega)
    · have hj : j < N := hj
      show insF T.1 q N d i ≠ insF T.1 q N d j
      rw [at1 _ _ j hj, at1 _ _ i (by omega)]
      by_cases ej : j = q
      · rw [if_pos ej, if_neg (by omega), if_neg (by omega)]
        intro e
        exact hn (e ▸ (h1 i (by omega)).1)
      · rw [if_neg ej]
        by_cases e2 : q < j
        · rw [if_pos e2]
          by_cases ei : i = q
          · rw [if_pos ei]
            intro e
            exact hn (e ▸ (h1 (j - 1) (by omega)).1)
          · rw [if_neg ei]
            by_cases e3 : q < i
            · rw [if_pos e3]; exact h3 _ _ (by omega) (by omega)
            · rw [if_neg e3]; exact h3 _ _ (by omega) (by omega)
        · rw [if_neg e2, if_neg (by omega), if_neg (by omega)]
          exact h3 _ _ hij (by omega)
  · have eN : offN lim T.2.2 q = T.2.2 := if_neg hql
    have eF : ∀ {α : Type} (f : Nat → α) (v : α), offF f lim T.2.2 q v = f := fun f v => if_neg hql
    rw [eF, eF, eN]
    exact RkI.mono ⟨h1, h2, h3⟩ hP
/-! a shard's ranking: the documents of the shard below n -/
def shP (sh ns n : Nat) : Nat → Prop := fun a => a < n ∧ a % ns = sh
section SI
variable {lim nd sh ns : Nat} {mt : Nat → Bool} {so bo bb : Nat → UInt64} {E : SeT}
theorem hi_I {n : Nat} (h : RkI (shP sh ns n) E.1) (hl : E.1.2.2 ≤ lim) (hs : fnZ (so n)) (hd : n % ns = sh) : RkI (shP sh ns (n + 1)) (hiS (st1 lim) n (so n) E).1 :=
  st_I h hl hs (fun a ha => ⟨Nat.lt_succ_of_lt ha.1, ha.2⟩) ⟨Nat.lt_succ_self n, hd⟩ (fun h => absurd h.1 (Nat.lt_irrefl n))
theorem up_I {n m : Nat} {T : RkT} (h : RkI (shP sh ns n) T) (hn : n ≤ m) : RkI (shP sh ns m) T := h.mono (fun _ ha => ⟨Nat.lt_of_lt_of_le ha.1 hn, ha.2⟩)
theorem sc_I {n : Nat} (h : RkI (shP sh ns n) E.1) (hl : E.1.2.2 ≤ lim) (hs : mt n = true → fnZ (so n)) : RkI (shP sh ns (n + 1)) (scD (st1 lim) sh ns mt so n E).1 := by
  unfold scD
  split
  · rename_i e
    split
    · rename_i e2; exact hi_I h hl (hs e2) (of_decide_eq_true e)
    · exact up_I h (by omega)
  · exact up_I h (by omega)
theorem pr_I {n : Nat} (h : RkI (shP sh ns n) E.1) (hl : E.1.2.2 ≤ lim) (hs : mt n = true → fnZ (so n)) : RkI (shP sh ns (n + 1)) (prD (st1 lim) lim sh ns mt so bo n E).1 := by
  unfold prD
  split
  · rename_i e
    split
    · rename_i e2
      split
      · exact up_I (T := E.1) h (by omega)
      · exact hi_I h hl (hs e2) (of_decide_eq_true e)
    · exact up_I h (by omega)
  · exact up_I h (by omega)
theorem scF_I (h : RkI (shP sh ns 0) E.1) (hk : sOK lim E) (hn : nd ≤ 16) (hs : ∀ d, d < nd → mt d = true → fnZ (so d)) : ∀ n, n ≤ nd → RkI (shP sh ns n) (fo (scD (st1 lim) sh ns mt so) E 0 n).1
  | 0, _ => h
  | n + 1, hn2 => by
    have h1 := scF_I h hk hn hs n (by omega)
    have h2 := scF_ok (lim := lim) (sh := sh) (ns := ns) (mt := mt) (so := so) (n := n) (by omega) hk
    show RkI (shP sh ns (n + 1)) (scD (st1 lim) sh ns mt so (0 + n) (fo (scD (st1 lim) sh ns mt so) E 0 n)).1
    rw [Nat.zero_add]
    exact sc_I h1 h2.2 (hs n (by omega))
theorem prB_I {lo : Nat} (h : RkI (shP sh ns lo) E.1) (hk : sOK lim E) (hn : nd ≤ 16) (hs : ∀ d, d < nd → mt d = true → fnZ (so d)) : ∀ n, lo + n ≤ nd → RkI (shP sh ns (lo + n)) (fo (prD (st1 lim) lim sh ns mt so bo) E lo n).1 ∧ sOK lim (fo (prD (st1 lim) lim sh ns mt so bo) E lo n)
  | 0, _ => ⟨h, hk⟩
  | n + 1, hn2 => by
    obtain ⟨h1, h2⟩ := prB_I h hk hn hs n (by omega)
    refine ⟨?_, ?_⟩
    · show RkI (shP sh ns (lo + n + 1)) (prD (st1 lim) lim sh ns mt so bo (lo + n) (fo (prD (st1 lim) lim sh ns mt so bo) E lo n)).1
      exact pr_I h1 h2.2 (hs _ (by omega))
    · show sOK lim (prD (st1 lim) lim sh ns mt so bo (lo + n) (fo (prD (st1 lim) lim sh ns mt so bo) E lo n))
      unfold prD
      split
      · split
        · split
          · exact h2
          · exact hiS_ok h2 (by omega)
        · exact h2
      · exact h2
theorem prK_I (h : RkI (shP sh ns 0) E.1) (hk : sOK lim E) (hn : nd ≤ 16) (hs : ∀ d, d < nd → mt d = true → fnZ (so d)) : ∀ k, k ≤ 4 → RkI (shP sh ns (min (k * 4) nd)) (fo (prK (st1 lim) lim nd sh ns mt so bo bb) E 0 k).1 ∧ sOK lim (fo (prK (st1 lim) lim nd sh ns mt so bo bb) E 0 k)
  | 0, _ => ⟨by rw [show min (0 * 4) nd = 0 by omega]; exact h, hk⟩
  | k + 1, hk4 => by
    obtain ⟨h1, h2⟩ := prK_I h hk hn hs k (by omega)
    show RkI (shP sh ns (min ((k + 1) * 4) nd)) (prK (st1 lim) lim nd sh ns mt so bo bb (0 + k) (fo (prK (st1 lim) lim nd sh ns mt so bo bb) E 0 k)).1 ∧ sOK lim (prK (st1 lim) lim nd sh ns mt so bo bb (0 + k) (fo (prK (st1 lim) lim nd sh ns mt so bo bb) E 0 k))
    rw [Nat.zero_add]
    generalize fo (prK (st1 lim) lim nd sh ns mt so bo bb) E 0 k = F at h1 h2
    have hup : RkI (shP sh ns (min ((k + 1) * 4) nd)) F.1 := up_I h1 (by omega)
    unfold prK
    split
    · rename_i hh
      split
      · exact ⟨hup, h2⟩
      · have hz : k * 4 ≤ nd := by
          rcases Nat.lt_or_ge nd (k * 4) with hz | hz
          · exact absurd hh (by rw [hd_no (by omega)]; decide)
          · exact hz
        have h5 := prB_I (bo := bo) (lo := k * 4) (by rw [show min (k * 4) nd = k * 4 by omega] at h1; exact h1) h2 hn hs (eB nd k - k * 4) (by unfold eB; omega)
        rw [show k * 4 + (eB nd k - k * 4) = min ((k + 1) * 4) nd by unfold eB; omega] at h5
        exact h5
    · exact ⟨hup, h2⟩
end SI
theorem wiG_I {how lim nd ns pn sh : Nat} {pt bd : Nat → Nat → UInt64} {E : SeT} (h : E.1.2.2 = 0) (hE : ∀ j, E.1.1 j < 16) (hn : nd ≤ 16) (hs : ∀ d, d < nd → ptM pt pn d = true → fnZ (ptS pt pn d)) : RkI (shP sh ns nd) (wiG (st1 lim) how lim nd ns pn pt bd sh E).1 := by
  have hk : sOK lim E := ⟨hE, by omega⟩
  unfold wiG
  split
  · have h1 := (prK_I (sh := sh) (ns := ns) (bo := ptD pt bd pn) (bb := ptB bd pn) (RkI_0 h) hk hn hs 4 (Nat.le_refl 4)).1
    rw [show min (4 * 4) nd = nd by omega] at h1
    exact h1
  · exact scF_I (RkI_0 h) hk hn hs nd (Nat.le_refl nd)
theorem veG_I {lim nd ns sh : Nat} {mt : Nat → Bool} {so : Nat → UInt64} {E : SeT} (h : E.1.2.2 = 0) (hE : ∀ j, E.1.1 j < 16) (hn : nd ≤ 16) (hs : ∀ d, d < nd → mt d = true → fnZ (so d)) : RkI (shP sh ns nd) (veG (st1 lim) nd ns mt so sh E).1 := scF_I (RkI_0 h) ⟨hE, by omega⟩ hn hs nd (Nat.le_refl nd)
/-! the list out of its shards: documents of the shards so far -/
def ls_P (ns nd sh : Nat) : Nat → Prop := fun a => a < nd ∧ a % ns < sh
theorem off_I {lim ns nd sh : Nat} {X L : RkT} (hX : RkI (shP sh ns nd) X) (hX2 : ∀ j, X.1 j < 16) (h : RkI (ls_P ns nd sh) L) (hl : tOK lim L) : ∀ i, i ≤ X.2.2 → RkI (fun a => ls_P ns nd sh a ∨ ∃ k, k < i ∧ X.1 k = a) (offA lim X L i)
  | 0, _ => h.mono (fun _ ha => Or.inl ha)
  | i + 1, hi => by
    have h1 := off_I hX hX2 h hl i (by omega)
    refine st_I h1 (offA_ok hl hX2 i).2 (hX.1 i (by omega)).2 (fun a ha => ?_) (Or.inr ⟨i, Nat.lt_succ_self i, rfl⟩) (fun ha => ?_)
    · rcases ha with ha | ⟨k, hk, e⟩
      · exact Or.inl ha
      · exact Or.inr ⟨k, by omega, e⟩
    · rcases ha with ha | ⟨k, hk, e⟩
      · have h2 := (hX.1 i (by omega)).1.2
        have h3 := ha.2
        omega
      · exact hX.2.2 k i hk (by omega) e
theorem mkS_I {lim ns nd : Nat} {G : Nat → SeT → SeT} {E : RkT × SeT} (hG : ∀ sh E, sOK lim E → sOK lim (G sh E)) (hI : ∀ sh E, E.1.2.2 = 0 → (∀ j, E.1.1 j < 16) → RkI (shP sh ns nd) (G sh E).1) (hL : tOK lim E.1) (hS : ∀ j, E.2.1.1 j < 16) (h0 : E.1.2.2 = 0) : ∀ sh, RkI (ls_P ns nd sh) (mkS lim G E sh).1
  | 0 => RkI_0 h0
  | sh + 1 => by
    have h1 := mkS_I hG hI hL hS h0 sh
    obtain ⟨h2, h3⟩ := mkS_ok hG hL hS sh
    have h4 := hG sh (((mkS lim G E sh).2.1.1, (mkS lim G E sh).2.1.2.1, 0), (mkS lim G E sh).2.2) ⟨h3, Nat.zero_le _⟩
    have h5 := hI sh (((mkS lim G E sh).2.1.1, (mkS lim G E sh).2.1.2.1, 0), (mkS lim G E sh).2.2) rfl h3
    refine (off_I h5 h4.1 h1 h2 _ (Nat.le_refl _)).mono (fun a ha => ?_)
    rcases ha with ha | ⟨k, hk, e⟩
    · exact ⟨ha.1, by have := ha.2; omega⟩
    · have h6 := (h5.1 k hk).1
      rw [← e]
      exact ⟨h6.1, by have := h6.2; omega⟩
/-! scores: finite, not -0 -/
theorem gt_nnP {x : UInt64} (hx : db 1090 x) (h : FP.dcmp x FP.dconst0 = some .gt) : nnP x := by
  have h1 := (FP.Core.dcmp_gt_key (hx.nn (by decide)) (db_0.nn (by decide))).mp h
  rw [key_0] at h1
  refine ⟨?_, hx.n (by decide)⟩
  unfold FP.Core.dkey at h1
  unfold dp
  have := x.toNat_lt
  split at h1 <;> omega
theorem su_nn {c : Nat → Bool} {q : Nat → UInt64} : ∀ n, (∀ i, i < n → c i = true → nnP (q i)) → nnP (suG c q n)
  | 0, _ => ⟨by show dp FP.dconst0; unfold dp; decide, (show db 1030 FP.dconst0 by unfold db; decide).n (by decide)⟩
  | n + 1, h => by
    have h1 := su_nn n (fun i hi => h i (by omega))
    unfold suG
    split
    · rename_i e; exact h1.add (h n (by omega) e)
    · exact h1
theorem su_fn {c : Nat → Bool} {q : Nat → UInt64} {n : Nat} (hn : n ≤ 4) (hq : ∀ i, i < n → db 1090 (q i)) (hc : ∀ i, i < n → c i = true → FP.dcmp (q i) FP.dconst0 = some .gt) : fnZ (suG c q n) := by
  have h1 := su_nn n (fun i hi e => gt_nnP (hq i hi) (hc i hi e))
  have h2 := suG_db (c := c) (K := 1090) (by decide) (by decide) n hn hq
  refine ⟨h2.up (by omega), ?_⟩
  have := h1.1
  unfold dp at this
  omega
theorem pt_fn {pt : Nat → Nat → UInt64} {pn nd : Nat} (hn : pn ≤ 4) (h : ∀ i d, i < pn → d < nd → db 1090 (pt i d)) : ∀ d, d < nd → ptM pt pn d = true → fnZ (ptS pt pn d) := fun d hd _ =>
  su_fn hn (fun i hi => h i d hi hd) (fun i _ e => of_decide_eq_true e)
theorem fz_add {x y : UInt32} (hx : FP.Core.FFin x) (hy : FP.Core.FFin y) (h : x.toNat ≠ 2 ^ 31) : (FP.fadd x y).toNat ≠ 2 ^ 31 := by
  intro hz
  have ez : FP.fadd x y = 2147483648 := UInt32.toNat_inj.mp hz
  have ev : FP.Core.val32 (FP.fadd x y) = FP.Core.round FP.Core.b32 (FP.Core.exactSum (FP.Core.val32 x) (FP.Core.val32 y)) := FP.Core.val32_fadd x y
  have e0 : FP.Core.val32 (FP.fadd x y) = .fin true 0 FP.Core.b32.qmin := by rw [ez]; decide +kernel
  have hzv : FP.Core.zval FP.Core.b32 (FP.Core.val32 (FP.fadd x y)) = 0 := by rw [ez]; decide +kernel
  have v1 : FP.Core.zval FP.Core.b32 (FP.Core.val32 1) = 1 := by decide +kernel
  have v2 : FP.Core.zval FP.Core.b32 (FP.Core.val32 2147483649) = -1 := by decide +kernel
  have hge := FP.Core.sum_ge FP.Core.good_b32 (V := FP.Core.val32 1) hx hy (FP.Core.val32_fits x) (FP.Core.val32_fits y) (FP.Core.val32_fits 1) (by rw [FP.Core.ne_nan32]; decide)
  have hle := FP.Core.sum_le FP.Core.good_b32 (V := FP.Core.val32 2147483649) hx hy (FP.Core.val32_fits x) (FP.Core.val32_fits y) (FP.Core.val32_fits 2147483649) (by rw [FP.Core.ne_nan32]; decide)
  rw [← ev, hzv, v1] at hge
  rw [← ev, hzv, v2] at hle
  have hs : FP.Core.zval FP.Core.b32 (FP.Core.val32 x) + FP.Core.zval FP.Core.b32 (FP.Core.val32 y) = 0 := by
    rcases Int.lt_trichotomy (FP.Core.zval FP.Core.b32 (FP.Core.val32 x) + FP.Core.zval FP.Core.b32 (FP.Core.val32 y)) 0 with a | a | a
    · have := hle (by omega); omega
    · exact a
    · have := hge (by omega); omega
  obtain ⟨s, c, q, ex⟩ := hx
  obtain ⟨t, d, r, ey⟩ := hy
  have fx : FP.Core.fits FP.Core.b32 (.fin s c q) := ex ▸ FP.Core.val32_fits x
  have fy : FP.Core.fits FP.Core.b32 (.fin t d r) := ey ▸ FP.Core.val32_fits y
  obtain ⟨sg, n, e, h1, h2, h3⟩ := FP.Core.sum_units fx fy
  rw [ex, ey] at hs ev
  rw [hs] at h3
  have hsg : FP.Core.sgn (FP.Core.val32 (FP.fadd x y)) = sg := by
    rw [ev, h1]
    exact FP.Core.sgn_roundRatio _ _ _ _ _
  rw [e0] at hsg
  have hsg2 : sg = true := hsg.symm
  have hn0 : n = 0 := by
    rw [hsg2] at h3
    unfold FP.Core.signed FP.Core.inUnits at h3
    rw [if_pos rfl] at h3
    have h4 : n * 2 ^ (e - FP.Core.b32.qmin).toNat = 0 := by omega
    rcases Nat.mul_eq_zero.mp h4 with h5 | h5
    · exact h5
    · exact absurd h5 (Nat.ne_of_gt (Nat.two_pow_pos _))
  have h6 := h1
  unfold FP.Core.exactSum at h6
  injection h6 with i1 i2 i3
  rw [hn0] at i2
  have hu : FP.Core.sumUnits s c q t d r (min q r) = 0 := Int.natAbs_eq_zero.mp i2
  rw [hu, hsg2] at i1
  have i4 : (s && t) = true := i1
  have hst : s = true ∧ t = true := by simpa using i4
  rw [hst.1, hst.2] at hs
  have hm : FP.Core.zmag FP.Core.b32 (.fin true c q) = 0 := by
    unfold FP.Core.zval at hs
    have a1 : FP.Core.signed (FP.Core.sgn (.fin true c q)) (FP.Core.zmag FP.Core.b32 (.fin true c q)) = -(FP.Core.zmag FP.Core.b32 (.fin true c q) : Int) := rfl
    have a2 : FP.Core.signed (FP.Core.sgn (.fin true d r)) (FP.Core.zmag FP.Core.b32 (.fin true d r)) = -(FP.Core.zmag FP.Core.b32 (.fin true d r) : Int) := rfl
    rw [a1, a2] at hs
    omega
  have hc0 : c = 0 := by
    have h7 : c * 2 ^ (q - FP.Core.b32.qmin).toNat = 0 := hm
    rcases Nat.mul_eq_zero.mp h7 with h5 | h5
    · exact h5
    · exact absurd h5 (Nat.ne_of_gt (Nat.two_pow_pos _))
  have hxz : FP.Core.FZero x := ⟨s, q, by rw [ex, hc0]⟩
  rw [FP.Core.zero_bits232] at hxz
  rcases f_zero hxz with h8 | h8
  · have e9 : FP.Core.val32 x = .fin false 0 FP.Core.b32.qmin := by rw [h8]; decide +kernel
    rw [ex, hst.1] at e9
    cases e9
  · exact h (by rw [h8]; decide)
theorem f2d_fn {x : UInt32} (hf : FP.Core.FFin x) (h : x.toNat ≠ 2 ^ 31) : fnZ (FP.f2d x) := by
  have hnn : FP.Core.val32 x ≠ .nan := hf.ne_nan
  have en : FP.Core.fIsNaN x = false := hf.notNaN
  rw [FP.f2d_core en]
  refine ⟨?_, fun hz => ?_⟩
  · obtain ⟨s, c, q, ex⟩ := hf
    have fx : FP.Core.fits FP.Core.b32 (.fin s c q) := ex ▸ FP.Core.val32_fits x
    have ev : FP.Core.val64 (FP.Core.f2d x) = FP.Core.roundRatio FP.Core.b64 s c 1 q := by rw [FP.Core.val64_f2d, ex]; rfl
    have hd := FP.Core.f2d_fin (a := x) ⟨s, c, q, ex⟩
    have hV : FP.Core.zmag FP.Core.b64 (FP.Core.val64 5183643171103440896) = 2 ^ 1202 := by
      rw [FP.Core.zmag_bits (by rw [FP.Core.ne_nan]; decide)]
      rw [show (5183643171103440896 : UInt64).toNat % 2 ^ 63 = 1151 * FP.Core.b64.tails by decide +kernel, FP.Core.unitsOf_start (by decide)]
      rw [show FP.Core.b64.tails = 2 ^ 52 by decide +kernel, ← Nat.pow_add]
    have hle : FP.Core.zmag FP.Core.b64 (FP.Core.roundRatio FP.Core.b64 s c 1 q) ≤ FP.Core.zmag FP.Core.b64 (FP.Core.val64 5183643171103440896) := by
      obtain ⟨f1, f2, f3, -⟩ := fx
      have q1 : FP.Core.b32.qmin = -149 := by decide +kernel
      have q2 : FP.Core.b32.p = 24 := by decide +kernel
      have q3 : FP.Core.b64.qmin = -1074 := by decide +kernel
      have q4 : FP.Core.b32.qmax = 104 := by decide +kernel
      rw [q1] at f2
      rw [q2] at f1
      rw [q4] at f3
      refine FP.Core.zmag_roundRatio_le FP.Core.good_b64 (e0 := FP.Core.b64.qmin) (by decide) (FP.Core.val64_fits _) (by rw [FP.Core.ne_nan]; decide) (Int.le_refl _) (by rw [q3]; omega) ?_
      rw [hV]
      unfold FP.Core.inUnits
      rw [Int.sub_self, q3, Int.toNat_zero, Nat.pow_zero, Nat.mul_one, Nat.mul_one]
      calc c * 2 ^ (q - -1074).toNat ≤ 2 ^ 24 * 2 ^ 1178 := Nat.mul_le_mul (Nat.le_of_lt f1) (Nat.pow_le_pow_right (by decide) (by omega))
        _ = 2 ^ 1202 := by rw [← Nat.pow_add]
    rw [← ev, FP.Core.zmag_bits hd.ne_nan, FP.Core.zmag_bits (by rw [FP.Core.ne_nan]; decide), FP.Core.unitsOf_le_iff] at hle
    have e5 : (5183643171103440896 : UInt64).toNat % 2 ^ 63 = 1151 * 2 ^ 52 := by decide
    unfold db
    omega
  · have h1 : FP.Core.f2d x = 9223372036854775808 := UInt64.toNat_inj.mp hz
    have h2 := FP.Core.d2f_f2d hnn
    rw [h1] at h2
    have h3 : FP.Core.d2f 9223372036854775808 = 2147483648 := by decide +kernel
    rw [h3] at h2
    exact h (by rw [← h2]; decide)
theorem scF_nz {G : Nat → UInt32} (h : ∀ q, fb 188 (G q)) : ∀ q, q ≤ 4 → (scF G q).toNat ≠ 2 ^ 31
  | 0, _ => by show (FP.fconst0).toNat ≠ 2 ^ 31; decide
  | q + 1, hq => fz_add ((scF_fb h q (by omega)).fin (by omega)) ((h q).fin (by decide)) (scF_nz h q (by omega))
theorem ve_fn {vf : Nat → UInt32} {tf : Nat → Nat → UInt32} {tz : Nat → Nat} {vz : Nat} (hv : gdF vf) (ht : ∀ d, gdF (tf d)) (hz : ∀ d, tz d ≤ 4) (hvz : vz ≤ 3) (d : Nat) : fnZ (veS vf tf tz vz d) :=
  f2d_fn ((scF_fb (gqF_fb hv (ht d) (hz d)) vz (by omega)).fin (by omega)) (scF_nz (gqF_fb hv (ht d) (hz d)) vz (by omega))
