/-! SEARCH: the pure words -/
def fo {α : Type} (g : Nat → α → α) (E : α) (lo : Nat) : Nat → α
  | 0 => E
  | n + 1 => g (lo + n) (fo g E lo n)
abbrev SeT : Type := RkT × Nat × Nat × Nat
def shO (lim sz : Nat) (sc : Nat → UInt64) (x : UInt64) : Bool := decide (¬ sz < lim ∧ (sz = 0 ∨ ¬ FP.dcmp x (sc (sz - 1)) = some .gt))
abbrev InT : Type := Nat → UInt64 → RkT → RkT
def hiS (ins : InT) (d : Nat) (x : UInt64) (E : SeT) : SeT := (ins d x E.1, E.2.1 + 1, E.2.2)
def psS (E : SeT) : SeT := (E.1, E.2.1, E.2.2.1, E.2.2.2 + 1)
def skS (E : SeT) : SeT := (E.1, E.2.1, E.2.2.1 + 1, E.2.2.2)
def scD (ins : InT) (sh ns : Nat) (mt : Nat → Bool) (so : Nat → UInt64) (d : Nat) (E : SeT) : SeT := if decide (d % ns = sh) = true then (if mt d = true then hiS ins d (so d) E else E) else E
def prD (ins : InT) (lim sh ns : Nat) (mt : Nat → Bool) (so bo : Nat → UInt64) (d : Nat) (E : SeT) : SeT := if decide (d % ns = sh) = true then (if mt d = true then (if shO lim E.1.2.2 E.1.2.1 (bo d) = true then psS E else hiS ins d (so d) E) else E) else E
def hdN (sh ns lo : Nat) : Nat → Bool
  | 0 => false
  | n + 1 => hdN sh ns lo n || decide ((lo + n) % ns = sh)
def eB (nd k : Nat) : Nat := min ((k + 1) * 4) nd
def hdF (nd sh ns k : Nat) : Bool := hdN sh ns (k * 4) (eB nd k - k * 4)
def prK (ins : InT) (lim nd sh ns : Nat) (mt : Nat → Bool) (so bo bb : Nat → UInt64) (k : Nat) (E : SeT) : SeT := if hdF nd sh ns k = true then (if shO lim E.1.2.2 E.1.2.1 (bb k) = true then skS E else fo (prD ins lim sh ns mt so bo) E (k * 4) (eB nd k - k * 4)) else E
section PD
variable {ins : InT} {lim nd sh ns d k : Nat} {mt : Nat → Bool} {so bo bb : Nat → UInt64} {E : SeT}
theorem scD_0 (h : decide (d % ns = sh) = false) : scD ins sh ns mt so d E = E := if_neg (by rw [h]; decide)
theorem scD_1 (h : decide (d % ns = sh) = true) (h2 : mt d = false) : scD ins sh ns mt so d E = E := (if_pos h).trans (if_neg (by rw [h2]; decide))
theorem scD_2 (h : decide (d % ns = sh) = true) (h2 : mt d = true) : scD ins sh ns mt so d E = hiS ins d (so d) E := (if_pos h).trans (if_pos h2)
theorem prD_0 (h : decide (d % ns = sh) = false) : prD ins lim sh ns mt so bo d E = E := if_neg (by rw [h]; decide)
theorem prD_1 (h : decide (d % ns = sh) = true) (h2 : mt d = false) : prD ins lim sh ns mt so bo d E = E := (if_pos h).trans (if_neg (by rw [h2]; decide))
theorem prD_2 (h : decide (d % ns = sh) = true) (h2 : mt d = true) (h3 : shO lim E.1.2.2 E.1.2.1 (bo d) = true) : prD ins lim sh ns mt so bo d E = psS E := (if_pos h).trans ((if_pos h2).trans (if_pos h3))
theorem prD_3 (h : decide (d % ns = sh) = true) (h2 : mt d = true) (h3 : shO lim E.1.2.2 E.1.2.1 (bo d) = false) : prD ins lim sh ns mt so bo d E = hiS ins d (so d) E := (if_pos h).trans ((if_pos h2).trans (if_neg (by rw [h3]; decide)))
theorem prK_0 (h : hdF nd sh ns k = false) : prK ins lim nd sh ns mt so bo bb k E = E := if_neg (by rw [h]; decide)
theorem prK_1 (h : hdF nd sh ns k = true) (h3 : shO lim E.1.2.2 E.1.2.1 (bb k) = true) : prK ins lim nd sh ns mt so bo bb k E = skS E := (if_pos h).trans (if_pos h3)
theorem prK_2 (h : hdF nd sh ns k = true) (h3 : shO lim E.1.2.2 E.1.2.1 (bb k) = false) : prK ins lim nd sh ns mt so bo bb k E = fo (prD ins lim sh ns mt so bo) E (k * 4) (eB nd k - k * 4) := (if_pos h).trans (if_neg (by rw [h3]; decide))
/-- what holds of a ranking holds behind a fold -/
theorem fo_ok {α : Type} {g : Nat → α → α} {E : α} {lo : Nat} {P : α → Prop} (h0 : P E) : ∀ n, (∀ d E, lo ≤ d → d < lo + n → P E → P (g d E)) → P (fo g E lo n)
  | 0, _ => h0
  | n + 1, h => h _ _ (by omega) (by omega) (fo_ok h0 n (fun d E h1 h2 h3 => h d E h1 (by omega) h3))
def sOK (lim : Nat) (E : SeT) : Prop := tOK lim E.1
theorem hiS_ok {x : UInt64} (h : sOK lim E) (hd : d < 16) : sOK lim (hiS (st1 lim) d x E) := st1_ok h hd
theorem scD_ok (hd : d < 16) (h : sOK lim E) : sOK lim (scD (st1 lim) sh ns mt so d E) := by
  unfold scD
  split
  · split
    · exact hiS_ok h hd
    · exact h
  · exact h
theorem prD_ok (hd : d < 16) (h : sOK lim E) : sOK lim (prD (st1 lim) lim sh ns mt so bo d E) := by
  unfold prD
  split
  · split
    · split
      · exact h
      · exact hiS_ok h hd
    · exact h
  · exact h
theorem eB_le (nd k : Nat) : eB nd k ≤ nd := Nat.min_le_right _ _
theorem eB_le4 (nd k : Nat) : eB nd k ≤ (k + 1) * 4 := Nat.min_le_left _ _
theorem prF_ok {n : Nat} (hn : k * 4 + n ≤ 16) (h : sOK lim E) : sOK lim (fo (prD (st1 lim) lim sh ns mt so bo) E (k * 4) n) := fo_ok h n (fun d _ _ h2 h3 => prD_ok (by omega) h3)
theorem prK_ok (hn : nd ≤ 16) (h : sOK lim E) : sOK lim (prK (st1 lim) lim nd sh ns mt so bo bb k E) := by
  have h1 := eB_le nd k
  have h2 := eB_le4 nd k
  unfold prK
  split
  · split
    · exact h
    · exact fo_ok h _ (fun d _ a b c => prD_ok (by omega) c)
  · exact h
theorem prKs_ok {n : Nat} (hn : nd ≤ 16) (h : sOK lim E) : sOK lim (fo (prK (st1 lim) lim nd sh ns mt so bo bb) E 0 n) := fo_ok h n (fun _ _ _ _ h3 => prK_ok hn h3)
theorem scF_ok {n : Nat} (hn : n ≤ 16) (h : sOK lim E) : sOK lim (fo (scD (st1 lim) sh ns mt so) E 0 n) := fo_ok h n (fun d _ _ h2 h3 => scD_ok (by omega) h3)
theorem hdN_no {lo n : Nat} (h : hdN sh ns lo n = false) (h2 : decide ((lo + n) % ns = sh) = false) : hdN sh ns lo (n + 1) = false := by unfold hdN; rw [h, h2]; rfl
theorem hdN_yes {lo : Nat} : ∀ {n j : Nat}, j < n → decide ((lo + j) % ns = sh) = true → hdN sh ns lo n = true
  | 0, _, h, _ => absurd h (Nat.not_lt_zero _)
  | n + 1, j, h, h2 => by
    unfold hdN
    by_cases e : j = n
    · subst e; rw [h2, Bool.or_true]
    · rw [hdN_yes (show j < n by omega) h2]; rfl
end PD
/-- match, score, bounds of a part table -/
def ptM (pt : Nat → Nat → UInt64) (pn : Nat) : Nat → Bool := fun d => anG pt d pn
def ptS (pt : Nat → Nat → UInt64) (pn : Nat) : Nat → UInt64 := fun d => suG (cG pt d) (fun i => pt i d) pn
def ptD (pt bd : Nat → Nat → UInt64) (pn : Nat) : Nat → UInt64 := fun d => suG (cG pt d) (fun i => bd i (d / 4)) pn
def ptB (bd : Nat → Nat → UInt64) (pn : Nat) : Nat → UInt64 := fun k => suG (fun _ => true) (fun i => bd i k) pn
def veM (near : Bool) (cz : Nat) (wa : Nat → Bool) (tf : Nat → Nat → UInt32) (cf : Nat → UInt32) (tz : Nat → Nat) (vz : Nat) : Nat → Bool := fun d => mtF near cz wa (tf d) cf (tz d) vz
def veS (vf : Nat → UInt32) (tf : Nat → Nat → UInt32) (tz : Nat → Nat) (vz : Nat) : Nat → UInt64 := fun d => vsF vf (tf d) (tz d) vz

set_option maxHeartbeats 4000000 in
set_option maxRecDepth 100000 in
/-- Ranking.shutsOut -/
theorem c_X4_shutsOut (l : Launch) (Γ : Gm) (b M : Nat) (mem : Nat → va_E) {a lim sz : Nat} {x : UInt64} {sc : Nat → UInt64} (hM : a + 3 ≤ M) (fa : mem a = .inr (4, [.ref (b + (a + 1)), .ref (b + (a + 2)), .int (nI lim), .int (nI sz)])) (fs : mem (a + 2) = aD Γ 20 sc) (hz : sz ≤ lim) (hlim : lim ≤ 20) : Ct l yX4_shutsOut (.code yX4_shutsOut cX4_shutsOut 3 (some .boolean)) ({ frames := 0, cells := 0, slots := 0, locals := 0 } : Room) Γ b M [.ref (b + a), .double x] mem (fun u => u = mem) (some (.int (bI (shO lim sz sc x)))) := by
  refine mm_enter (cc := cX4_shutsOut) (by decide) (Nat.le_of_ble_eq_true rfl) ?_
  intro p e s m args below meth c ls hx hb hml hown hr hlocks hname hE hh hl
  have hl : lv_has ls 3 [(0, .ref (b + a)), (1, .double x)] := hl
  refine lv_aload_n hx hb dX4_shutsOut_0 rfl (lv_at hl 0 rfl) ?_
  refine gf_X4_size hx hb hE hown hh (by omega) fa rfl dX4_shutsOut_1 ?_
  refine lv_aload_n hx hb dX4_shutsOut_4 rfl (lv_at hl 0 rfl) ?_
  refine gf_X4_limit hx hb hE hown hh (by omega) fa rfl dX4_shutsOut_5 ?_
  refine nn_icmp_ge (tgt := 13) hx hb dX4_shutsOut_8 (by decide) (by omega) (by omega) (fun h1 => ?_) (fun h1 => ?_)
  ·
    refine lv_aload_n hx hb dX4_shutsOut_13 rfl (lv_at hl 0 rfl) ?_
    refine gf_X4_size hx hb hE hown hh (by omega) fa rfl dX4_shutsOut_14 ?_
    refine nn_if_eq (tgt := 36) hx hb dX4_shutsOut_17 (by decide) (by omega) (fun h2 => ?_) (fun h2 => ?_)
    ·
      refine lv_iconst (v := (nI 1)) hx hb dX4_shutsOut_36 (by decide) ?_
      refine lv_goto (tgt := 41) hx hb dX4_shutsOut_37 (by decide) ?_
      exact mm_zret hx hb hr hlocks hE hh (by simp_all [bI, nI, shO]; try omega) (rfl) rfl dX4_shutsOut_41
    ·
      refine lv_dload_n hx hb dX4_shutsOut_20 rfl (lv_at hl 1 rfl) ?_
      refine lv_aload_n hx hb dX4_shutsOut_21 rfl (lv_at hl 0 rfl) ?_
      refine gf_X4_scores hx hb hE hown hh (by omega) fa rfl dX4_shutsOut_22 ?_
      refine lv_aload_n hx hb dX4_shutsOut_25 rfl (lv_at hl 0 rfl) ?_
      refine gf_X4_size hx hb hE hown hh (by omega) fa rfl dX4_shutsOut_26 ?_
      refine lv_iconst (v := (nI 1)) hx hb dX4_shutsOut_29 (by decide) ?_
      refine nn_isub hx hb (by omega) dX4_shutsOut_30 ?_
      refine mm_dald hx hb hE hh (by omega) fs (by omega) (by decide) dX4_shutsOut_31 ?_
      refine lv_dcmp hx hb dX4_shutsOut_32 ?_
      refine nn_cl_gt (tgt := 40) hx hb dX4_shutsOut_33 (by decide) (fun h3 => ?_) (fun h3 => ?_)
      ·
        refine lv_iconst (v := (nI 0)) hx hb dX4_shutsOut_40 (by decide) ?_
        exact mm_zret hx hb hr hlocks hE hh (by simp_all [bI, nI, shO]; try omega) (rfl) rfl dX4_shutsOut_41
      ·
        refine lv_iconst (v := (nI 1)) hx hb dX4_shutsOut_36 (by decide) ?_
        refine lv_goto (tgt := 41) hx hb dX4_shutsOut_37 (by decide) ?_
        exact mm_zret hx hb hr hlocks hE hh (by simp_all [bI, nI, shO]; try omega) (rfl) rfl dX4_shutsOut_41
  ·
    refine lv_iconst (v := (nI 0)) hx hb dX4_shutsOut_11 (by decide) ?_
    exact mm_zret hx hb hr hlocks hE hh (by rw [show shO lim sz sc x = false from decide_eq_false (by omega)]; rfl) (rfl) rfl dX4_shutsOut_12
def fgL (lst : Nat → Bool × Nat × Nat × Nat) (n : Nat) : Nat → Bool × Nat × Nat × Nat := fun v => if v < n then (false, (lst v).2) else lst v
theorem fgL_0 (lst : Nat → Bool × Nat × Nat × Nat) : fgL lst 0 = lst := by funext v; exact if_neg (Nat.not_lt_zero _)
theorem fgL_s (lst : Nat → Bool × Nat × Nat × Nat) (n : Nat) : va_up (fgL lst n) n (false, (lst n).2) = fgL lst (n + 1) := by
  funext v
  unfold va_up fgL
  by_cases e : v = n
  · subst e; rw [if_pos rfl, if_pos (Nat.lt_succ_self _)]
  · rw [if_neg e]
    by_cases h : v < n
    · rw [if_pos h, if_pos (by omega)]
    · rw [if_neg h, if_neg (by omega)]
theorem fgL_at (lst : Nat → Bool × Nat × Nat × Nat) (n : Nat) : fgL lst n n = lst n := if_neg (Nat.lt_irrefl _)

set_option maxHeartbeats 4000000 in
set_option maxRecDepth 100000 in
/-- forgetList -/
theorem c_X9_forgetList (l : Launch) (Γ : Gm) (b M : Nat) (mem : Nat → va_E) {v : Nat} {lf sf : Nat} {lst : Nat → Bool × Nat × Nat × Nat} {lrk : Nat → Nat × Nat} {ldc : Nat → Nat → Nat} {lsc : Nat → Nat → UInt64} (hM : 138 ≤ M) (fH : mem 0 = .inr (8, [.ref (b + 1), .ref (b + 72), .ref (b + 75), .ref (b + 78), .ref (b + 80), .ref (b + 91), .ref (b + 93), .ref (b + 96), .ref (b + 109)])) (fLo : mem 96 = aR Γ 5 3 (fun i => some (b + (97 + 4 * i)))) (fls : ∀ z9, z9 < 3 → mem (97 + 4 * z9) = .inr (2, [.ref (b + (97 + 4 * z9 + 1)), .int (bI ((lst z9).1)), .int (nI ((lst z9).2.1)), .int (nI ((lst z9).2.2.1)), .int (nI ((lst z9).2.2.2))])) (flr : ∀ z9, z9 < 3 → mem (97 + 4 * z9 + 1) = .inr (4, [.ref (b + (97 + 4 * z9 + 2)), .ref (b + (97 + 4 * z9 + 3)), .int (nI ((lrk z9).1)), .int (nI ((lrk z9).2))])) (fld : ∀ z9, z9 < 3 → mem (97 + 4 * z9 + 2) = aN Γ 20 (ldc z9)) (flc : ∀ z9, z9 < 3 → mem (97 + 4 * z9 + 3) = aD Γ 20 (lsc z9)) (fF : mem 109 = .inr (1, [.ref (b + 110), .ref (b + 113), .ref (b + 114)])) (fR0 : mem 110 = .inr (4, [.ref (b + 111), .ref (b + 112), .int (nI lf), .int (nI sf)])) (hv : v < 3) : Ct l yX9_forgetList (.code yX9_forgetList cX9_forgetList 2 none) ({ frames := 3, cells := 0, slots := 0, locals := 55 } : Room) Γ b M [.ref (b + 0), .int (nI v)] mem (fun u => (∀ z9, z9 < 3 → u (97 + 4 * z9) = .inr (2, [.ref (b + (97 + 4 * z9 + 1)), .int (bI (((va_up lst v (false, (lst v).2)) z9).1)), .int (nI (((va_up lst v (false, (lst v).2)) z9).2.1)), .int (nI (((va_up lst v (false, (lst v).2)) z9).2.2.1)), .int (nI (((va_up lst v (false, (lst v).2)) z9).2.2.2))])) ∧ (∀ z9, z9 < 3 → u (97 + 4 * z9 + 1) = .inr (4, [.ref (b + (97 + 4 * z9 + 2)), .ref (b + (97 + 4 * z9 + 3)), .int (nI ((lrk z9).1)), .int (nI ((lrk z9).2))])) ∧ (∀ z9, z9 < 3 → u (97 + 4 * z9 + 2) = aN Γ 20 (ldc z9)) ∧ (∀ z9, z9 < 3 → u (97 + 4 * z9 + 3) = aD Γ 20 (lsc z9)) ∧ u 110 = .inr (4, [.ref (b + 111), .ref (b + 112), .int (nI 0), .int (nI 0)]) ∧ ∀ j, ¬ (97 ≤ j ∧ j < 106) → ¬ (98 ≤ j ∧ j < 107) → ¬ (99 ≤ j ∧ j < 108) → ¬ (100 ≤ j ∧ j < 109) → j ≠ 110 → u j = mem j) none := by
  refine mm_enter (cc := cX9_forgetList) (by decide) (Nat.le_of_ble_eq_true rfl) ?_
  intro p e s m args below meth c ls hx hb hml hown hr hlocks hname hE hh hl
  have hl : lv_has ls 2 [(0, .ref (b + 0)), (1, .int (nI v))] := hl
  have hfr : ∀ j, ¬ (97 ≤ j ∧ j < 106) → ¬ (98 ≤ j ∧ j < 107) → ¬ (99 ≤ j ∧ j < 108) → ¬ (100 ≤ j ∧ j < 109) → j ≠ 110 → mem j = mem j := fun j _ _ _ _ _ => rfl
  refine lv_aload_n hx hb dX9_forgetList_0 rfl (lv_at hl 0 rfl) ?_
  refine gf_X9_lists hx hb hE hown hh (by omega) fH rfl dX9_forgetList_1 ?_
  refine lv_iload_n hx hb dX9_forgetList_4 rfl (lv_at hl 1 rfl) ?_
  refine mm_aald (q := b + (97 + 4 * v)) hx hb hE hh 5 (by omega) fLo rfl rfl (by omega) (by decide) (rfl) dX9_forgetList_5 ?_
  refine mm_V0 (As := []) (rest := []) hx hb hml hown hE hl.1 hh (kc_X9_261 hE.2.1 ⟨Nat.le_of_ble_eq_true rfl, Nat.le_of_ble_eq_true rfl⟩) (c_X2_forget l Γ b M mem (a := 97 + 4 * v) (sd := (lst v).2.1) (sk := (lst v).2.2.1) (ps := (lst v).2.2.2) (made := (lst v).1) (by omega) (fls v (by omega))) rfl (by omega) (fls v (by omega)) rfl rfl (Nat.le_of_ble_eq_true rfl) dX9_forgetList_6 rfl rfl (fun H locs mem1 hP2 hh => ?_)
  obtain ⟨f3, k4⟩ := hP2
  have hfr5 : ∀ j, ¬ (97 ≤ j ∧ j < 106) → ¬ (98 ≤ j ∧ j < 107) → ¬ (99 ≤ j ∧ j < 108) → ¬ (100 ≤ j ∧ j < 109) → j ≠ 110 → mem1 j = mem j := fun j c0 c1 c2 c3 c4 => (k4 j (by omega)).trans (hfr j c0 c1 c2 c3 c4)
  have f6 : mem1 0 = .inr (8, [.ref (b + 1), .ref (b + 72), .ref (b + 75), .ref (b + 78), .ref (b + 80), .ref (b + 91), .ref (b + 93), .ref (b + 96), .ref (b + 109)]) := (k4 _ (by omega)).trans fH
  have f7 : mem1 96 = aR Γ 5 3 (fun i => some (b + (97 + 4 * i))) := (k4 _ (by omega)).trans fLo
  have f8 : mem1 109 = .inr (1, [.ref (b + 110), .ref (b + 113), .ref (b + 114)]) := (k4 _ (by omega)).trans fF
  have f9 : mem1 110 = .inr (4, [.ref (b + 111), .ref (b + 112), .int (nI lf), .int (nI sf)]) := (k4 _ (by omega)).trans fR0
  have f10 : ∀ z9, z9 < 3 → mem1 (97 + 4 * z9) = .inr (2, [.ref (b + (97 + 4 * z9 + 1)), .int (bI (((va_up lst v (false, ((lst v).2.1), ((lst v).2.2.1), ((lst v).2.2.2))) z9).1)), .int (nI (((va_up lst v (false, ((lst v).2.1), ((lst v).2.2.1), ((lst v).2.2.2))) z9).2.1)), .int (nI (((va_up lst v (false, ((lst v).2.1), ((lst v).2.2.1), ((lst v).2.2.2))) z9).2.2.1)), .int (nI (((va_up lst v (false, ((lst v).2.1), ((lst v).2.2.1), ((lst v).2.2.2))) z9).2.2.2))]) := by
    intro z9 hz9
    by_cases e9 : z9 = v
    · rw [e9, va_up_self]; exact f3
    · rw [va_up_ne _ _ e9]; exact (k4 _ (by omega)).trans (fls z9 hz9)
  have f11 : ∀ z9, z9 < 3 → mem1 (97 + 4 * z9 + 1) = .inr (4, [.ref (b + (97 + 4 * z9 + 2)), .ref (b + (97 + 4 * z9 + 3)), .int (nI ((lrk z9).1)), .int (nI ((lrk z9).2))]) := fun z9 hz9 => (k4 _ (by omega)).trans (flr z9 hz9)
  have f12 : ∀ z9, z9 < 3 → mem1 (97 + 4 * z9 + 2) = aN Γ 20 (ldc z9) := fun z9 hz9 => (k4 _ (by omega)).trans (fld z9 hz9)
  have f13 : ∀ z9, z9 < 3 → mem1 (97 + 4 * z9 + 3) = aD Γ 20 (lsc z9) := fun z9 hz9 => (k4 _ (by omega)).trans (flc z9 hz9)
  refine lv_aload_n hx hb dX9_forgetList_9 rfl (lv_at hl 0 rfl) ?_
  refine gf_X9_fusion hx hb hE hown hh (by omega) f6 rfl dX9_forgetList_10 ?_
  refine mm_V0 (As := []) (rest := []) hx hb hml hown hE hl.1 hh (kc_X9_188 hE.2.1 ⟨Nat.le_of_ble_eq_true rfl, Nat.le_of_ble_eq_true rfl⟩) (c_X1_forget l Γ b M mem1 (lim := lf) (sz := sf) (by omega) f8 f9) rfl (by omega) f8 rfl rfl (Nat.le_of_ble_eq_true rfl) dX9_forgetList_13 rfl rfl (fun H locs mem14 hP15 hh => ?_)
  obtain ⟨f16, k17⟩ := hP15
  have hfr18 : ∀ j, ¬ (97 ≤ j ∧ j < 106) → ¬ (98 ≤ j ∧ j < 107) → ¬ (99 ≤ j ∧ j < 108) → ¬ (100 ≤ j ∧ j < 109) → j ≠ 110 → mem14 j = mem j := fun j c0 c1 c2 c3 c4 => (k17 j (by omega)).trans (hfr5 j c0 c1 c2 c3 c4)
  have f19 : mem14 0 = .inr (8, [.ref (b + 1), .ref (b + 72), .ref (b + 75), .ref (b + 78), .ref (b + 80), .ref (b + 91), .ref (b + 93), .ref (b + 96), .ref (b + 109)]) := (k17 _ (by omega)).trans f6
  have f20 : mem14 96 = aR Γ 5 3 (fun i => some (b + (97 + 4 * i))) := (k17 _ (by omega)).trans f7
  have f21 : mem14 109 = .inr (1, [.ref (b + 110), .ref (b + 113), .ref (b + 114)]) := (k17 _ (by omega)).trans f8
  have f22 : ∀ z9, z9 < 3 → mem14 (97 + 4 * z9) = .inr (2, [.ref (b + (97 + 4 * z9 + 1)), .int (bI (((va_up lst v (false, ((lst v).2.1), ((lst v).2.2.1), ((lst v).2.2.2))) z9).1)), .int (nI (((va_up lst v (false, ((lst v).2.1), ((lst v).2.2.1), ((lst v).2.2.2))) z9).2.1)), .int (nI (((va_up lst v (false, ((lst v).2.1), ((lst v).2.2.1), ((lst v).2.2.2))) z9).2.2.1)), .int (nI (((va_up lst v (false, ((lst v).2.1), ((lst v).2.2.1), ((lst v).2.2.2))) z9).2.2.2))]) := fun z9 hz9 => (k17 _ (by omega)).trans (f10 z9 hz9)
  have f23 : ∀ z9, z9 < 3 → mem14 (97 + 4 * z9 + 1) = .inr (4, [.ref (b + (97 + 4 * z9 + 2)), .ref (b + (97 + 4 * z9 + 3)), .int (nI ((lrk z9).1)), .int (nI ((lrk z9).2))]) := fun z9 hz9 => (k17 _ (by omega)).trans (f11 z9 hz9)
  have f24 : ∀ z9, z9 < 3 → mem14 (97 + 4 * z9 + 2) = aN Γ 20 (ldc z9) := fun z9 hz9 => (k17 _ (by omega)).trans (f12 z9 hz9)
  have f25 : ∀ z9, z9 < 3 → mem14 (97 + 4 * z9 + 3) = aD Γ 20 (lsc z9) := fun z9 hz9 => (k17 _ (by omega)).trans (f13 z9 hz9)
  exact mm_vret hx hb hr hlocks hE hh (⟨f22, f23, f24, f25, f16, hfr18⟩) dX9_forgetList_16
set_option maxHeartbeats 4000000 in
set_option maxRecDepth 100000 in
/-- forgetAllLists -/
theorem c_X9_forgetAllLists (l : Launch) (Γ : Gm) (b M : Nat) (mem : Nat → va_E) {lf sf : Nat} {lst : Nat → Bool × Nat × Nat × Nat} {lrk : Nat → Nat × Nat} {ldc : Nat → Nat → Nat} {lsc : Nat → Nat → UInt64} (hM : 138 ≤ M) (fH : mem 0 = .inr (8, [.ref (b + 1), .ref (b + 72), .ref (b + 75), .ref (b + 78), .ref (b + 80), .ref (b + 91), .ref (b + 93), .ref (b + 96), .ref (b + 109)])) (fLo : mem 96 = aR Γ 5 3 (fun i => some (b + (97 + 4 * i)))) (fls : ∀ z9, z9 < 3 → mem (97 + 4 * z9) = .inr (2, [.ref (b + (97 + 4 * z9 + 1)), .int (bI ((lst z9).1)), .int (nI ((lst z9).2.1)), .int (nI ((lst z9).2.2.1)), .int (nI ((lst z9).2.2.2))])) (flr : ∀ z9, z9 < 3 → mem (97 + 4 * z9 + 1) = .inr (4, [.ref (b + (97 + 4 * z9 + 2)), .ref (b + (97 + 4 * z9 + 3)), .int (nI ((lrk z9).1)), .int (nI ((lrk z9).2))])) (fld : ∀ z9, z9 < 3 → mem (97 + 4 * z9 + 2) = aN Γ 20 (ldc z9)) (flc : ∀ z9, z9 < 3 → mem (97 + 4 * z9 + 3) = aD Γ 20 (lsc z9)) (fF : mem 109 = .inr (1, [.ref (b + 110), .ref (b + 113), .ref (b + 114)])) (fR0 : mem 110 = .inr (4, [.ref (b + 111), .ref (b + 112), .int (nI lf), .int (nI sf)])) : Ct l yX9_forgetAllLists (.code yX9_forgetAllLists cX9_forgetAllLists 2 none) ({ frames := 4, cells := 0, slots := 0, locals := 76 } : Room) Γ b M [.ref (b + 0)] mem (fun u => (∀ z9, z9 < 3 → u (97 + 4 * z9) = .inr (2, [.ref (b + (97 + 4 * z9 + 1)), .int (bI (((fgL lst 3) z9).1)), .int (nI (((fgL lst 3) z9).2.1)), .int (nI (((fgL lst 3) z9).2.2.1)), .int (nI (((fgL lst 3) z9).2.2.2))])) ∧ (∀ z9, z9 < 3 → u (97 + 4 * z9 + 1) = .inr (4, [.ref (b + (97 + 4 * z9 + 2)), .ref (b + (97 + 4 * z9 + 3)), .int (nI ((lrk z9).1)), .int (nI ((lrk z9).2))])) ∧ (∀ z9, z9 < 3 → u (97 + 4 * z9 + 2) = aN Γ 20 (ldc z9)) ∧ (∀ z9, z9 < 3 → u (97 + 4 * z9 + 3) = aD Γ 20 (lsc z9)) ∧ u 110 = .inr (4, [.ref (b + 111), .ref (b + 112), .int (nI 0), .int (nI 0)]) ∧ ∀ j, ¬ (97 ≤ j ∧ j < 106) → ¬ (98 ≤ j ∧ j < 107) → ¬ (99 ≤ j ∧ j < 108) → ¬ (100 ≤ j ∧ j < 109) → j ≠ 110 → u j = mem j) none := by
  refine mm_enter (cc := cX9_forgetAllLists) (by decide) (Nat.le_of_ble_eq_true rfl) ?_
  intro p e s m args below meth c ls hx hb hml hown hr hlocks hname hE hh hl
  have hl : lv_has ls 2 [(0, .ref (b + 0))] := hl
  have hfr : ∀ j, ¬ (97 ≤ j ∧ j < 106) → ¬ (98 ≤ j ∧ j < 107) → ¬ (99 ≤ j ∧ j < 108) → ¬ (100 ≤ j ∧ j < 109) → j ≠ 110 → mem j = mem j := fun j _ _ _ _ _ => rfl
  refine lv_iconst (v := (nI 0)) hx hb dX9_forgetAllLists_0 (by decide) ?_
  refine lv_istore_n (lv' := [(1, .int (nI 0)), (0, .ref (b + 0))]) hx hb dX9_forgetAllLists_1 rfl hl (by decide) rfl (fun ls hl => ?_)
  have loop2 : ∀ (n9 : Nat) (v lf2 sf2 : Nat), (3 - v) < n9 → (v ≤ 3) → (0 < v → lf2 = 0 ∧ sf2 = 0) → ∀ (H : Heap) (locs : List Loc) (mem2 : Nat → va_E), mem2 110 = .inr (4, [.ref (b + 111), .ref (b + 112), .int (nI lf2), .int (nI sf2)]) → (∀ z9, z9 < 3 → mem2 (97 + 4 * z9) = .inr (2, [.ref (b + (97 + 4 * z9 + 1)), .int (bI (((fgL lst v) z9).1)), .int (nI (((fgL lst v) z9).2.1)), .int (nI (((fgL lst v) z9).2.2.1)), .int (nI (((fgL lst v) z9).2.2.2))])) → (∀ z9, z9 < 3 → mem2 (97 + 4 * z9 + 1) = .inr (4, [.ref (b + (97 + 4 * z9 + 2)), .ref (b + (97 + 4 * z9 + 3)), .int (nI ((lrk z9).1)), .int (nI ((lrk z9).2))])) → (∀ z9, z9 < 3 → mem2 (97 + 4 * z9 + 2) = aN Γ 20 (ldc z9)) → (∀ z9, z9 < 3 → mem2 (97 + 4 * z9 + 3) = aD Γ 20 (lsc z9)) → (∀ j, ¬ (97 ≤ j ∧ j < 106) → ¬ (98 ≤ j ∧ j < 107) → ¬ (99 ≤ j ∧ j < 108) → ¬ (100 ≤ j ∧ j < 109) → j ≠ 110 → mem2 j = mem j) → GH Γ b M mem2 s H locs → ∀ (ls : Array Slot), lv_has ls 2 [(1, .int (nI v)), (0, .ref (b + 0))] → W p l e ({ frames := 4, cells := 0, slots := 0, locals := 76 } : Room) s m args below meth c H locs 0 0 (MQ below (QC Γ b M (fun u => (∀ z9, z9 < 3 → u (97 + 4 * z9) = .inr (2, [.ref (b + (97 + 4 * z9 + 1)), .int (bI (((fgL lst 3) z9).1)), .int (nI (((fgL lst 3) z9).2.1)), .int (nI (((fgL lst 3) z9).2.2.1)), .int (nI (((fgL lst 3) z9).2.2.2))])) ∧ (∀ z9, z9 < 3 → u (97 + 4 * z9 + 1) = .inr (4, [.ref (b + (97 + 4 * z9 + 2)), .ref (b + (97 + 4 * z9 + 3)), .int (nI ((lrk z9).1)), .int (nI ((lrk z9).2))])) ∧ (∀ z9, z9 < 3 → u (97 + 4 * z9 + 2) = aN Γ 20 (ldc z9)) ∧ (∀ z9, z9 < 3 → u (97 + 4 * z9 + 3) = aD Γ 20 (lsc z9)) ∧ u 110 = .inr (4, [.ref (b + 111), .ref (b + 112), .int (nI 0), .int (nI 0)]) ∧ ∀ j, ¬ (97 ≤ j ∧ j < 106) → ¬ (98 ≤ j ∧ j < 107) → ¬ (99 ≤ j ∧ j < 108) → ¬ (100 ≤ j ∧ j < 109) → j ≠ 110 → u j = mem j) none) args s 0 0 (fun q => b ≤ q)) (F0 m 2 ls []) := by
    intro n9
    induction n9 with
    | zero => intro v lf2 sf2 hn; exact absurd hn (Nat.not_lt_zero _)
    | succ n9 ih =>
      intro v lf2 sf2 hn hv hvz H locs mem1 f3 f4 f5 f6 f7 hfr2 hh ls hl
      have f8 : mem1 0 = .inr (8, [.ref (b + 1), .ref (b + 72), .ref (b + 75), .ref (b + 78), .ref (b + 80), .ref (b + 91), .ref (b + 93), .ref (b + 96), .ref (b + 109)]) := (hfr2 _ (by omega) (by omega) (by omega) (by omega) (by omega)).trans fH
      have f9 : mem1 96 = aR Γ 5 3 (fun i => some (b + (97 + 4 * i))) := (hfr2 _ (by omega) (by omega) (by omega) (by omega) (by omega)).trans fLo
      have f10 : mem1 109 = .inr (1, [.ref (b + 110), .ref (b + 113), .ref (b + 114)]) := (hfr2 _ (by omega) (by omega) (by omega) (by omega) (by omega)).trans fF
      have ih11 := ih
      refine lv_iload_n hx hb dX9_forgetAllLists_2 rfl (lv_at hl 0 rfl) ?_
      refine lv_iconst (v := (nI 3)) hx hb dX9_forgetAllLists_3 (by decide) ?_
      refine nn_icmp_ge (tgt := 18) hx hb dX9_forgetAllLists_4 (by decide) (by omega) (by omega) (fun h12 => ?_) (fun h12 => ?_)
      ·
        obtain rfl : v = 3 := by omega
        obtain ⟨rfl, rfl⟩ := hvz (by decide)
        exact mm_vret hx hb hr hlocks hE hh (⟨f4, f5, f6, f7, f3, hfr2⟩) dX9_forgetAllLists_18
      ·
        refine lv_aload_n hx hb dX9_forgetAllLists_7 rfl (lv_at hl 1 rfl) ?_
        refine lv_iload_n hx hb dX9_forgetAllLists_8 rfl (lv_at hl 0 rfl) ?_
        refine mm_V0 (As := [.int (nI v)]) (rest := []) hx hb hml hown hE hl.1 hh (kc_X9_161 hE.2.1 ⟨Nat.le_of_ble_eq_true rfl, Nat.le_of_ble_eq_true rfl⟩) (c_X9_forgetList l Γ b M mem1 (v := v) (lf := lf2) (sf := sf2) (lst := fgL lst v) (lrk := lrk) (ldc := ldc) (lsc := lsc) (by omega) f8 f9 f4 f5 f6 f7 f10 f3 (by omega)) rfl (by omega) f8 rfl rfl (Nat.le_of_ble_eq_true rfl) dX9_forgetAllLists_9 rfl rfl (fun H locs mem13 hP14 hh => ?_)
        obtain ⟨f15, f16, f17, f18, f19, k20⟩ := hP14
        have hfr21 : ∀ j, ¬ (97 ≤ j ∧ j < 106) → ¬ (98 ≤ j ∧ j < 107) → ¬ (99 ≤ j ∧ j < 108) → ¬ (100 ≤ j ∧ j < 109) → j ≠ 110 → mem13 j = mem j := fun j c0 c1 c2 c3 c4 => (k20 j (by omega) (by omega) (by omega) (by omega) (by omega)).trans (hfr2 j c0 c1 c2 c3 c4)
        have f22 : mem13 0 = .inr (8, [.ref (b + 1), .ref (b + 72), .ref (b + 75), .ref (b + 78), .ref (b + 80), .ref (b + 91), .ref (b + 93), .ref (b + 96), .ref (b + 109)]) := (k20 _ (by omega) (by omega) (by omega) (by omega) (by omega)).trans f8
        have f23 : mem13 96 = aR Γ 5 3 (fun i => some (b + (97 + 4 * i))) := (k20 _ (by omega) (by omega) (by omega) (by omega) (by omega)).trans f9
        have f24 : mem13 109 = .inr (1, [.ref (b + 110), .ref (b + 113), .ref (b + 114)]) := (k20 _ (by omega) (by omega) (by omega) (by omega) (by omega)).trans f10
        refine nn_iinc (x := v) (d := 1) (lv' := [(1, .int (nI (v + 1))), (0, .ref (b + 0))]) hx hb dX9_forgetAllLists_12 hl (k := 0) rfl (by decide) (by decide) rfl (fun ls hl => ?_)
        refine lv_goto (tgt := 2) hx hb dX9_forgetAllLists_15 (by decide) ?_
        exact ih11 (v + 1) 0 0 (by omega) (by omega) (fun _ => ⟨rfl, rfl⟩) _ _ mem13 (f19) (by rw [← fgL_s]; have e9 := f15; rw [fgL_at] at e9; exact e9) (f16) (f17) (f18) hfr21 hh ls (lv_sub hl [0, 1] rfl)
  exact loop2 ((3 - 0) + 1) 0 lf sf (by omega) (by omega) (by omega) _ _ mem (fR0) (by rw [fgL_0]; exact fls) (flr) (fld) (flc) hfr hh ls (lv_sub hl [0, 1] rfl)
def anL (lst : Nat → Bool × Nat × Nat × Nat) : Nat → Bool
  | 0 => false
  | n + 1 => anL lst n || (lst n).1
theorem anL_no {lst : Nat → Bool × Nat × Nat × Nat} {n : Nat} (h : anL lst n = false) (h2 : (lst n).1 = false) : anL lst (n + 1) = false := by unfold anL; rw [h, h2]; rfl
theorem anL_yes {lst : Nat → Bool × Nat × Nat × Nat} : ∀ {n j : Nat}, j < n → (lst j).1 = true → anL lst n = true
  | 0, _, h, _ => absurd h (Nat.not_lt_zero _)
  | n + 1, j, h, h2 => by
    unfold anL
    by_cases e : j = n
    · subst e; rw [h2, Bool.or_true]
    · rw [anL_yes (show j < n by omega) h2]; rfl

set_option maxHeartbeats 4000000 in
set_option maxRecDepth 100000 in
/-- isAnyListMade -/
theorem c_X9_isAnyListMade (l : Launch) (Γ : Gm) (b M : Nat) (mem : Nat → va_E) {lst : Nat → Bool × Nat × Nat × Nat} (hM : 138 ≤ M) (fH : mem 0 = .inr (8, [.ref (b + 1), .ref (b + 72), .ref (b + 75), .ref (b + 78), .ref (b + 80), .ref (b + 91), .ref (b + 93), .ref (b + 96), .ref (b + 109)])) (fLo : mem 96 = aR Γ 5 3 (fun i => some (b + (97 + 4 * i)))) (fls : ∀ z9, z9 < 3 → mem (97 + 4 * z9) = .inr (2, [.ref (b + (97 + 4 * z9 + 1)), .int (bI ((lst z9).1)), .int (nI ((lst z9).2.1)), .int (nI ((lst z9).2.2.1)), .int (nI ((lst z9).2.2.2))])) : Ct l yX9_isAnyListMade (.code yX9_isAnyListMade cX9_isAnyListMade 2 (some .boolean)) ({ frames := 1, cells := 0, slots := 0, locals := 20 } : Room) Γ b M [.ref (b + 0)] mem (fun u => u = mem) (some (.int (bI (anL lst 3)))) := by
  refine mm_enter (cc := cX9_isAnyListMade) (by decide) (Nat.le_of_ble_eq_true rfl) ?_
  intro p e s m args below meth c ls hx hb hml hown hr hlocks hname hE hh hl
  have hl : lv_has ls 2 [(0, .ref (b + 0))] := hl
  refine lv_iconst (v := (nI 0)) hx hb dX9_isAnyListMade_0 (by decide) ?_
  refine lv_istore_n (lv' := [(1, .int (nI 0)), (0, .ref (b + 0))]) hx hb dX9_isAnyListMade_1 rfl hl (by decide) rfl (fun ls hl => ?_)
  have loop2 : ∀ (n9 : Nat) (v : Nat), (3 - v) < n9 → (v ≤ 3) → (anL lst v = false) → ∀ (H : Heap) (locs : List Loc), GH Γ b M mem s H locs → ∀ (ls : Array Slot), lv_has ls 2 [(1, .int (nI v)), (0, .ref (b + 0))] → W p l e ({ frames := 1, cells := 0, slots := 0, locals := 20 } : Room) s m args below meth c H locs 0 0 (MQ below (QC Γ b M (fun u => u = mem) (some (.int (bI (anL lst 3))))) args s 0 0 (fun q => b ≤ q)) (F0 m 2 ls []) := by
    intro n9
    induction n9 with
    | zero => intro v hn; exact absurd hn (Nat.not_lt_zero _)
    | succ n9 ih =>
      intro v hn hv hno H locs hh ls hl
      have ih1 := ih
      refine lv_iload_n hx hb dX9_isAnyListMade_2 rfl (lv_at hl 0 rfl) ?_
      refine lv_iconst (v := (nI 3)) hx hb dX9_isAnyListMade_3 (by decide) ?_
      refine nn_icmp_ge (tgt := 27) hx hb dX9_isAnyListMade_4 (by decide) (by omega) (by omega) (fun h2 => ?_) (fun h2 => ?_)
      ·
        refine lv_iconst (v := (nI 0)) hx hb dX9_isAnyListMade_27 (by decide) ?_
        exact mm_zret hx hb hr hlocks hE hh (by rw [show (3 : Nat) = v by omega, hno]; rfl) (rfl) rfl dX9_isAnyListMade_28
      ·
        refine lv_aload_n hx hb dX9_isAnyListMade_7 rfl (lv_at hl 1 rfl) ?_
        refine gf_X9_lists hx hb hE hown hh (by omega) fH rfl dX9_isAnyListMade_8 ?_
        refine lv_iload_n hx hb dX9_isAnyListMade_11 rfl (lv_at hl 0 rfl) ?_
        refine mm_aald (q := b + (97 + 4 * v)) hx hb hE hh 5 (by omega) fLo rfl rfl (by omega) (by decide) (rfl) dX9_isAnyListMade_12 ?_
        refine mm_V0r (As := []) (rest := []) hx hb hml hown hE hl.1 hh (kc_X9_262 hE.2.1 ⟨Nat.le_of_ble_eq_true rfl, Nat.le_of_ble_eq_true rfl⟩) (c_X2_isMade l Γ b M mem (a := 97 + 4 * v) (sd := (lst v).2.1) (sk := (lst v).2.2.1) (ps := (lst v).2.2.2) (made := (lst v).1) (by omega) (fls v (by omega))) rfl (by omega) (fls v (by omega)) rfl rfl (Nat.le_of_ble_eq_true rfl) dX9_isAnyListMade_13 rfl rfl (fun H locs hh => ?_)
        refine nn_beq (tgt := 21) hx hb dX9_isAnyListMade_16 (by decide) (fun h3 => ?_) (fun h3 => ?_)
        ·
          have hno2 := h3
          refine nn_iinc (x := v) (d := 1) (lv' := [(1, .int (nI (v + 1))), (0, .ref (b + 0))]) hx hb dX9_isAnyListMade_21 hl (k := 0) rfl (by decide) (by decide) rfl (fun ls hl => ?_)
          refine lv_goto (tgt := 2) hx hb dX9_isAnyListMade_24 (by decide) ?_
          exact ih1 (v + 1) (by omega) (by omega) (anL_no hno hno2) _ _ hh ls (lv_sub hl [0, 1] rfl)
        ·
          have hy := anL_yes (show v < 3 by omega) h3
          refine lv_iconst (v := (nI 1)) hx hb dX9_isAnyListMade_19 (by decide) ?_
          exact mm_zret hx hb hr hlocks hE hh (by rw [hy]; rfl) (rfl) rfl dX9_isAnyListMade_20
  exact loop2 ((3 - 0) + 1) 0 (by omega) (by omega) (rfl) _ _ hh ls (lv_sub hl [0, 1] rfl)
set_option maxHeartbeats 4000000 in
set_option maxRecDepth 100000 in
/-- endOfBlock -/
theorem c_X9_endOfBlock (l : Launch) (Γ : Gm) (b M : Nat) (mem : Nat → va_E) {k nd : Nat} (hM : 138 ≤ M) (fH : mem 0 = .inr (8, [.ref (b + 1), .ref (b + 72), .ref (b + 75), .ref (b + 78), .ref (b + 80), .ref (b + 91), .ref (b + 93), .ref (b + 96), .ref (b + 109)])) (fC : mem 1 = .inr (0, [.ref (b + 2), .ref (b + 19), .ref (b + 20), .ref (b + 37), .ref (b + 38), .int (nI nd)])) (hnd : nd ≤ 16) (hk : k < 4) : Ct l yX9_endOfBlock (.code yX9_endOfBlock cX9_endOfBlock 2 (some .int)) ({ frames := 1, cells := 0, slots := 0, locals := 20 } : Room) Γ b M [.ref (b + 0), .int (nI k)] mem (fun u => u = mem) (some (.int (nI (eB nd k)))) := by
  refine mm_enter (cc := cX9_endOfBlock) (by decide) (Nat.le_of_ble_eq_true rfl) ?_
  intro p e s m args below meth c ls hx hb hml hown hr hlocks hname hE hh hl
  have hl : lv_has ls 2 [(0, .ref (b + 0)), (1, .int (nI k))] := hl
  refine lv_iload_n hx hb dX9_endOfBlock_0 rfl (lv_at hl 1 rfl) ?_
  refine lv_iconst (v := (nI 1)) hx hb dX9_endOfBlock_1 (by decide) ?_
  refine nn_iadd hx hb dX9_endOfBlock_2 ?_
  refine lv_iconst (v := (nI 4)) hx hb dX9_endOfBlock_3 (by decide) ?_
  refine nn_imul hx hb dX9_endOfBlock_4 ?_
  refine lv_aload_n hx hb dX9_endOfBlock_5 rfl (lv_at hl 0 rfl) ?_
  refine gf_X9_collection hx hb hE hown hh (by omega) fH rfl dX9_endOfBlock_6 ?_
  refine mm_V0r (As := []) (rest := [.int (nI ((k + 1) * 4))]) hx hb hml hown hE hl.1 hh (kc_X9_304 hE.2.1 ⟨Nat.le_of_ble_eq_true rfl, Nat.le_of_ble_eq_true rfl⟩) (c_X0_size l Γ b M mem (nd := nd) (by omega) fC) rfl (by omega) fC rfl rfl (Nat.le_of_ble_eq_true rfl) dX9_endOfBlock_9 rfl rfl (fun H locs hh => ?_)
  refine nn_mmin hx hb hml hl.1 hown hE.2.1 (wl_X9_341 hE.2.1 args) (Nat.le_of_ble_eq_true rfl) (Nat.le_of_ble_eq_true rfl) (by omega) (by omega) dX9_endOfBlock_12 ?_
  exact mm_iret hx hb hr hlocks hE hh (rfl) (rfl) dX9_endOfBlock_15
set_option maxHeartbeats 4000000 in
set_option maxRecDepth 100000 in
/-- hasDocumentOfShard -/
theorem c_X9_hasDocumentOfShard (l : Launch) (Γ : Gm) (b M : Nat) (mem : Nat → va_E) {k sh ns nd : Nat} (hM : 138 ≤ M) (fH : mem 0 = .inr (8, [.ref (b + 1), .ref (b + 72), .ref (b + 75), .ref (b + 78), .ref (b + 80), .ref (b + 91), .ref (b + 93), .ref (b + 96), .ref (b + 109)])) (fC : mem 1 = .inr (0, [.ref (b + 2), .ref (b + 19), .ref (b + 20), .ref (b + 37), .ref (b + 38), .int (nI nd)])) (hnd : nd ≤ 16) (hk : k < 4) (hsh : sh < 2 ^ 31) (hns : 0 < ns ∧ ns < 2 ^ 31) : Ct l yX9_hasDocumentOfShard (.code yX9_hasDocumentOfShard cX9_hasDocumentOfShard 6 (some .boolean)) ({ frames := 2, cells := 0, slots := 0, locals := 41 } : Room) Γ b M [.ref (b + 0), .int (nI k), .int (nI sh), .int (nI ns)] mem (fun u => u = mem) (some (.int (bI (hdF nd sh ns k)))) := by
  refine mm_enter (cc := cX9_hasDocumentOfShard) (by decide) (Nat.le_of_ble_eq_true rfl) ?_
  intro p e s m args below meth c ls hx hb hml hown hr hlocks hname hE hh hl
  have hl : lv_has ls 6 [(0, .ref (b + 0)), (1, .int (nI k)), (2, .int (nI sh)), (3, .int (nI ns))] := hl
  have he1 := eB_le nd k
  have he2 := eB_le4 nd k
  refine lv_aload_n hx hb dX9_hasDocumentOfShard_0 rfl (lv_at hl 0 rfl) ?_
  refine lv_iload_n hx hb dX9_hasDocumentOfShard_1 rfl (lv_at hl 1 rfl) ?_
  refine mm_V0r (As := [.int (nI k)]) (rest := []) hx hb hml hown hE hl.1 hh (kc_X9_346 hE.2.1 ⟨Nat.le_of_ble_eq_true rfl, Nat.le_of_ble_eq_true rfl⟩) (c_X9_endOfBlock l Γ b M mem (k := k) (nd := nd) (by omega) fH fC (by omega) (by omega)) rfl (by omega) fH rfl rfl (Nat.le_of_ble_eq_true rfl) dX9_hasDocumentOfShard_2 rfl rfl (fun H locs hh => ?_)
  refine lv_istore (lv' := [(4, .int (nI (eB nd k))), (0, .ref (b + 0)), (1, .int (nI k)), (2, .int (nI sh)), (3, .int (nI ns))]) hx hb dX9_hasDocumentOfShard_5 hl (by decide) rfl (fun ls hl => ?_)
  refine lv_iload_n hx hb dX9_hasDocumentOfShard_7 rfl (lv_at hl 2 rfl) ?_
  refine lv_iconst (v := (nI 4)) hx hb dX9_hasDocumentOfShard_8 (by decide) ?_
  refine nn_imul hx hb dX9_hasDocumentOfShard_9 ?_
  refine lv_istore (lv' := [(5, .int (nI (k * 4))), (4, .int (nI (eB nd k))), (0, .ref (b + 0)), (1, .int (nI k)), (2, .int (nI sh)), (3, .int (nI ns))]) hx hb dX9_hasDocumentOfShard_10 hl (by decide) rfl (fun ls hl => ?_)
  have loop12 : ∀ (n9 : Nat) (n : Nat), (20 - n) < n9 → (n ≤ eB nd k - k * 4) → (hdN sh ns (k * 4) n = false) → ∀ (H : Heap) (locs : List Loc), GH Γ b M mem s H locs → ∀ (ls : Array Slot), lv_has ls 6 [(5, .int (nI (k * 4 + n))), (4, .int (nI (eB nd k))), (0, .ref (b + 0)), (1, .int (nI k)), (2, .int (nI sh)), (3, .int (nI ns))] → W p l e ({ frames := 2, cells := 0, slots := 0, locals := 41 } : Room) s m args below meth c H locs 0 0 (MQ below (QC Γ b M (fun u => u = mem) (some (.int (bI (hdF nd sh ns k))))) args s 0 0 (fun q => b ≤ q)) (F0 m 12 ls []) := by
    intro n9
    induction n9 with
    | zero => intro n hn; exact absurd hn (Nat.not_lt_zero _)
    | succ n9 ih =>
      intro n hn hn0 hno H locs hh ls hl
      have ih1 := ih
      refine lv_iload hx hb dX9_hasDocumentOfShard_12 (lv_at hl 0 rfl) ?_
      refine lv_iload hx hb dX9_hasDocumentOfShard_14 (lv_at hl 1 rfl) ?_
      refine nn_icmp_ge (tgt := 37) hx hb dX9_hasDocumentOfShard_16 (by decide) (by omega) (by omega) (fun h2 => ?_) (fun h2 => ?_)
      ·
        refine lv_iconst (v := (nI 0)) hx hb dX9_hasDocumentOfShard_37 (by decide) ?_
        exact mm_zret hx hb hr hlocks hE hh (by unfold hdF; rw [show eB nd k - k * 4 = n by omega, hno]; rfl) (rfl) rfl dX9_hasDocumentOfShard_38
      ·
        refine lv_iload hx hb dX9_hasDocumentOfShard_19 (lv_at hl 0 rfl) ?_
        refine lv_iload_n hx hb dX9_hasDocumentOfShard_21 rfl (lv_at hl 4 rfl) ?_
        refine lv_iload_n hx hb dX9_hasDocumentOfShard_22 rfl (lv_at hl 5 rfl) ?_
        refine mm_S0r (As := [.int (nI (k * 4 + n)), .int (nI sh), .int (nI ns)]) (rest := []) hx hb hml hown hE hl.1 hh (kc_X9_305 hE.2.1 ⟨Nat.le_of_ble_eq_true rfl, Nat.le_of_ble_eq_true rfl⟩) (c_X9_isOfShard l Γ b M mem (d := k * 4 + n) (k := sh) (n := ns) (by omega) (by omega) (by omega)) rfl rfl (Nat.le_of_ble_eq_true rfl) dX9_hasDocumentOfShard_23 rfl rfl (fun H locs hh => ?_)
        refine nn_beq (tgt := 31) hx hb dX9_hasDocumentOfShard_26 (by decide) (fun h3 => ?_) (fun h3 => ?_)
        ·
          have hno2 := h3
          refine nn_iinc (x := (k * 4 + n)) (d := 1) (lv' := [(5, .int (nI ((k * 4 + n) + 1))), (4, .int (nI (eB nd k))), (0, .ref (b + 0)), (1, .int (nI k)), (2, .int (nI sh)), (3, .int (nI ns))]) hx hb dX9_hasDocumentOfShard_31 hl (k := 0) rfl (by decide) (by decide) rfl (fun ls hl => ?_)
          refine lv_goto (tgt := 12) hx hb dX9_hasDocumentOfShard_34 (by decide) ?_
          exact ih1 (n + 1) (by omega) (by omega) (hdN_no hno hno2) _ _ hh ls (lv_sub hl [0, 1, 2, 3, 4, 5] rfl)
        ·
          have hy : hdF nd sh ns k = true := hdN_yes (show n < eB nd k - k * 4 by omega) h3
          refine lv_iconst (v := (nI 1)) hx hb dX9_hasDocumentOfShard_29 (by decide) ?_
          exact mm_zret hx hb hr hlocks hE hh (by rw [hy]; rfl) (rfl) rfl dX9_hasDocumentOfShard_30
  exact loop12 ((20 - 0) + 1) 0 (by omega) (by omega) (rfl) _ _ hh ls (lv_sub hl [0, 1, 2, 3, 4, 5] rfl)
set_option maxHeartbeats 4000000 in
set_option maxRecDepth 100000 in
/-- pruneBlock -/
theorem c_X9_pruneBlock (l : Launch) (Γ : Gm) (b M : Nat) (mem : Nat → va_E) {k : Nat} {a lim nd sh ns sd sk ps ssz : Nat} {made : Bool} {sdc : Nat → Nat} {ssc : Nat → UInt64}{pn : Nat} {pt bd : Nat → Nat → UInt64} (hM : 138 ≤ M) (ha : 97 ≤ a ∧ a + 4 ≤ 109) (fH : mem 0 = .inr (8, [.ref (b + 1), .ref (b + 72), .ref (b + 75), .ref (b + 78), .ref (b + 80), .ref (b + 91), .ref (b + 93), .ref (b + 96), .ref (b + 109)])) (fC : mem 1 = .inr (0, [.ref (b + 2), .ref (b + 19), .ref (b + 20), .ref (b + 37), .ref (b + 38), .int (nI nd)])) (fl : mem a = .inr (2, [.ref (b + (a + 1)), .int (bI made), .int (nI sd), .int (nI sk), .int (nI ps)])) (fs0 : mem 93 = .inr (4, [.ref (b + 94), .ref (b + 95), .int (nI lim), .int (nI ssz)])) (fs1 : mem 94 = aN Γ 20 sdc) (fs2 : mem 95 = aD Γ 20 ssc) (hnd : nd ≤ 16) (hsh : sh < 2 ^ 31) (hns : 0 < ns ∧ ns < 2 ^ 31) (hok : tOK lim (sdc, ssc, ssz)) (hlim : lim ≤ 20) (fP : mem 80 = .inr (3, [.ref (b + 81), .ref (b + 86), .int (nI pn)])) (fPo : mem 81 = aR Γ 9 4 (fun i => some (b + (82 + i)))) (fpt : ∀ z9, z9 < 4 → mem (82 + z9) = aD Γ 16 (pt z9)) (fBo : mem 86 = aR Γ 9 4 (fun i => some (b + (87 + i)))) (fbd : ∀ z9, z9 < 4 → mem (87 + z9) = aD Γ 4 (bd z9)) (hpn : pn ≤ 4) (hpb : ∀ i d, i < pn → d < nd → db 1090 (pt i d)) (hbb : ∀ i, i < pn → ∀ k, k < 4 → db 1090 (bd i k)) (hk : k < 4) : Ct l yX9_pruneBlock (.code yX9_pruneBlock cX9_pruneBlock 7 none) ({ frames := 2, cells := 0, slots := 0, locals := 49 } : Room) Γ b M [.ref (b + 0), .ref (b + a), .int (nI k), .int (nI sh), .int (nI ns)] mem (fun u => u a = .inr (2, [.ref (b + (a + 1)), .int (bI made), .int (nI ((fo (prD (st1 lim) lim sh ns (ptM pt pn) (ptS pt pn) (ptD pt bd pn)) ((sdc, ssc, ssz), sd, sk, ps) (k * 4) (eB nd k - k * 4)).2.1)), .int (nI ((fo (prD (st1 lim) lim sh ns (ptM pt pn) (ptS pt pn) (ptD pt bd pn)) ((sdc, ssc, ssz), sd, sk, ps) (k * 4) (eB nd k - k * 4)).2.2.1)), .int (nI ((fo (prD (st1 lim) lim sh ns (ptM pt pn) (ptS pt pn) (ptD pt bd pn)) ((sdc, ssc, ssz), sd, sk, ps) (k * 4) (eB nd k - k * 4)).2.2.2))]) ∧ u 93 = .inr (4, [.ref (b + 94), .ref (b + 95), .int (nI lim), .int (nI ((fo (prD (st1 lim) lim sh ns (ptM pt pn) (ptS pt pn) (ptD pt bd pn)) ((sdc, ssc, ssz), sd, sk, ps) (k * 4) (eB nd k - k * 4)).1.2.2))]) ∧ u 94 = aN Γ 20 ((fo (prD (st1 lim) lim sh ns (ptM pt pn) (ptS pt pn) (ptD pt bd pn)) ((sdc, ssc, ssz), sd, sk, ps) (k * 4) (eB nd k - k * 4)).1.1) ∧ u 95 = aD Γ 20 ((fo (prD (st1 lim) lim sh ns (ptM pt pn) (ptS pt pn) (ptD pt bd pn)) ((sdc, ssc, ssz), sd, sk, ps) (k * 4) (eB nd k - k * 4)).1.2.1) ∧ ∀ j, j ≠ a → j ≠ 93 → j ≠ 94 → j ≠ 95 → u j = mem j) none := by
  refine mm_enter (cc := cX9_pruneBlock) (by decide) (Nat.le_of_ble_eq_true rfl) ?_
  intro p e s m args below meth c ls hx hb hml hown hr hlocks hname hE hh hl
  have hl : lv_has ls 7 [(0, .ref (b + 0)), (1, .ref (b + a)), (2, .int (nI k)), (3, .int (nI sh)), (4, .int (nI ns))] := hl
  have hfr : ∀ j, j ≠ a → j ≠ 93 → j ≠ 94 → j ≠ 95 → mem j = mem j := fun j _ _ _ _ => rfl
  have he1 := eB_le nd k
  have he2 := eB_le4 nd k
  refine lv_aload_n hx hb dX9_pruneBlock_0 rfl (lv_at hl 0 rfl) ?_
  refine lv_iload_n hx hb dX9_pruneBlock_1 rfl (lv_at hl 2 rfl) ?_
  refine mm_V0r (As := [.int (nI k)]) (rest := []) hx hb hml hown hE hl.1 hh (kc_X9_346 hE.2.1 ⟨Nat.le_of_ble_eq_true rfl, Nat.le_of_ble_eq_true rfl⟩) (c_X9_endOfBlock l Γ b M mem (k := k) (nd := nd) (by omega) fH fC (by omega) (by omega)) rfl (by omega) fH rfl rfl (Nat.le_of_ble_eq_true rfl) dX9_pruneBlock_2 rfl rfl (fun H locs hh => ?_)
  refine lv_istore (lv' := [(5, .int (nI (eB nd k))), (0, .ref (b + 0)), (1, .ref (b + a)), (2, .int (nI k)), (3, .int (nI sh)), (4, .int (nI ns))]) hx hb dX9_pruneBlock_5 hl (by decide) rfl (fun ls hl => ?_)
  refine lv_iload_n hx hb dX9_pruneBlock_7 rfl (lv_at hl 3 rfl) ?_
  refine lv_iconst (v := (nI 4)) hx hb dX9_pruneBlock_8 (by decide) ?_
  refine nn_imul hx hb dX9_pruneBlock_9 ?_
  refine lv_istore (lv' := [(6, .int (nI (k * 4))), (5, .int (nI (eB nd k))), (0, .ref (b + 0)), (1, .ref (b + a)), (2, .int (nI k)), (3, .int (nI sh)), (4, .int (nI ns))]) hx hb dX9_pruneBlock_10 hl (by decide) rfl (fun ls hl => ?_)
  have loop12 : ∀ (n9 : Nat) (n : Nat), (20 - n) < n9 → (n ≤ eB nd k - k * 4) → ∀ (H : Heap) (locs : List Loc) (mem2 : Nat → va_E), mem2 a = .inr (2, [.ref (b + (a + 1)), .int (bI made), .int (nI ((fo (prD (st1 lim) lim sh ns (ptM pt pn) (ptS pt pn) (ptD pt bd pn)) ((sdc, ssc, ssz), sd, sk, ps) (k * 4) n).2.1)), .int (nI ((fo (prD (st1 lim) lim sh ns (ptM pt pn) (ptS pt pn) (ptD pt bd pn)) ((sdc, ssc, ssz), sd, sk, ps) (k * 4) n).2.2.1)), .int (nI ((fo (prD (st1 lim) lim sh ns (ptM pt pn) (ptS pt pn) (ptD pt bd pn)) ((sdc, ssc, ssz), sd, sk, ps) (k * 4) n).2.2.2))]) → mem2 93 = .inr (4, [.ref (b + 94), .ref (b + 95), .int (nI lim), .int (nI ((fo (prD (st1 lim) lim sh ns (ptM pt pn) (ptS pt pn) (ptD pt bd pn)) ((sdc, ssc, ssz), sd, sk, ps) (k * 4) n).1.2.2))]) → mem2 94 = aN Γ 20 ((fo (prD (st1 lim) lim sh ns (ptM pt pn) (ptS pt pn) (ptD pt bd pn)) ((sdc, ssc, ssz), sd, sk, ps) (k * 4) n).1.1) → mem2 95 = aD Γ 20 ((fo (prD (st1 lim) lim sh ns (ptM pt pn) (ptS pt pn) (ptD pt bd pn)) ((sdc, ssc, ssz), sd, sk, ps) (k * 4) n).1.2.1) → (∀ j, j ≠ a → j ≠ 93 → j ≠ 94 → j ≠ 95 → mem2 j = mem j) → GH Γ b M mem2 s H locs → ∀ (ls : Array Slot), lv_has ls 7 [(6, .int (nI (k * 4 + n))), (5, .int (nI (eB nd k))), (0, .ref (b + 0)), (1, .ref (b + a)), (2, .int (nI k)), (3, .int (nI sh)), (4, .int (nI ns))] → W p l e ({ frames := 2, cells := 0, slots := 0, locals := 49 } : Room) s m args below meth c H locs 0 0 (MQ below (QC Γ b M (fun u => u a = .inr (2, [.ref (b + (a + 1)), .int (bI made), .int (nI ((fo (prD (st1 lim) lim sh ns (ptM pt pn) (ptS pt pn) (ptD pt bd pn)) ((sdc, ssc, ssz), sd, sk, ps) (k * 4) (eB nd k - k * 4)).2.1)), .int (nI ((fo (prD (st1 lim) lim sh ns (ptM pt pn) (ptS pt pn) (ptD pt bd pn)) ((sdc, ssc, ssz), sd, sk, ps) (k * 4) (eB nd k - k * 4)).2.2.1)), .int (nI ((fo (prD (st1 lim) lim sh ns (ptM pt pn) (ptS pt pn) (ptD pt bd pn)) ((sdc, ssc, ssz), sd, sk, ps) (k * 4) (eB nd k - k * 4)).2.2.2))]) ∧ u 93 = .inr (4, [.ref (b + 94), .ref (b + 95), .int (nI lim), .int (nI ((fo (prD (st1 lim) lim sh ns (ptM pt pn) (ptS pt pn) (ptD pt bd pn)) ((sdc, ssc, ssz), sd, sk, ps) (k * 4) (eB nd k - k * 4)).1.2.2))]) ∧ u 94 = aN Γ 20 ((fo (prD (st1 lim) lim sh ns (ptM pt pn) (ptS pt pn) (ptD pt bd pn)) ((sdc, ssc, ssz), sd, sk, ps) (k * 4) (eB nd k - k * 4)).1.1) ∧ u 95 = aD Γ 20 ((fo (prD (st1 lim) lim sh ns (ptM pt pn) (ptS pt pn) (ptD pt bd pn)) ((sdc, ssc, ssz), sd, sk, ps) (k * 4) (eB nd k - k * 4)).1.2.1) ∧ ∀ j, j ≠ a → j ≠ 93 → j ≠ 94 → j ≠ 95 → u j = mem j) none) args s 0 0 (fun q => b ≤ q)) (F0 m 12 ls []) := by
    intro n9
    induction n9 with
    | zero => intro n hn; exact absurd hn (Nat.not_lt_zero _)
    | succ n9 ih =>
      intro n hn hn0 H locs mem1 f3 f4 f5 f6 hfr2 hh ls hl
      have f7 : mem1 0 = .inr (8, [.ref (b + 1), .ref (b + 72), .ref (b + 75), .ref (b + 78), .ref (b + 80), .ref (b + 91), .ref (b + 93), .ref (b + 96), .ref (b + 109)]) := (hfr2 _ (by omega) (by omega) (by omega) (by omega)).trans fH
      have f8 : mem1 1 = .inr (0, [.ref (b + 2), .ref (b + 19), .ref (b + 20), .ref (b + 37), .ref (b + 38), .int (nI nd)]) := (hfr2 _ (by omega) (by omega) (by omega) (by omega)).trans fC
      have f9 : mem1 80 = .inr (3, [.ref (b + 81), .ref (b + 86), .int (nI pn)]) := (hfr2 _ (by omega) (by omega) (by omega) (by omega)).trans fP
      have f10 : mem1 81 = aR Γ 9 4 (fun i => some (b + (82 + i))) := (hfr2 _ (by omega) (by omega) (by omega) (by omega)).trans fPo
      have f11 : mem1 86 = aR Γ 9 4 (fun i => some (b + (87 + i))) := (hfr2 _ (by omega) (by omega) (by omega) (by omega)).trans fBo
      have f12 : ∀ z9, z9 < 4 → mem1 (82 + z9) = aD Γ 16 (pt z9) := fun z9 hz9 => (hfr2 _ (by omega) (by omega) (by omega) (by omega)).trans (fpt z9 hz9)
      have f13 : ∀ z9, z9 < 4 → mem1 (87 + z9) = aD Γ 4 (bd z9) := fun z9 hz9 => (hfr2 _ (by omega) (by omega) (by omega) (by omega)).trans (fbd z9 hz9)
      have ho := prF_ok (lim := lim) (sh := sh) (ns := ns) (mt := ptM pt pn) (so := ptS pt pn) (bo := ptD pt bd pn) (E := ((sdc, ssc, ssz), sd, sk, ps)) (show k * 4 + n ≤ 16 by omega) hok
      have ho2 : (fo (prD (st1 lim) lim sh ns (ptM pt pn) (ptS pt pn) (ptD pt bd pn)) ((sdc, ssc, ssz), sd, sk, ps) (k * 4) n).1.2.2 ≤ lim := ho.2
      have ih14 := ih
      refine lv_iload hx hb dX9_pruneBlock_12 (lv_at hl 0 rfl) ?_
      refine lv_iload hx hb dX9_pruneBlock_14 (lv_at hl 1 rfl) ?_
      refine nn_icmp_ge (tgt := 99) hx hb dX9_pruneBlock_16 (by decide) (by omega) (by omega) (fun h15 => ?_) (fun h15 => ?_)
      ·
        obtain rfl : n = eB nd k - k * 4 := by omega
        exact mm_vret hx hb hr hlocks hE hh (⟨f3, f4, f5, f6, hfr2⟩) dX9_pruneBlock_99
      ·
        refine lv_iload hx hb dX9_pruneBlock_19 (lv_at hl 0 rfl) ?_
        refine lv_iload_n hx hb dX9_pruneBlock_21 rfl (lv_at hl 5 rfl) ?_
        refine lv_iload hx hb dX9_pruneBlock_22 (lv_at hl 6 rfl) ?_
        refine mm_S0r (As := [.int (nI (k * 4 + n)), .int (nI sh), .int (nI ns)]) (rest := []) hx hb hml hown hE hl.1 hh (kc_X9_305 hE.2.1 ⟨Nat.le_of_ble_eq_true rfl, Nat.le_of_ble_eq_true rfl⟩) (c_X9_isOfShard l Γ b M mem1 (d := k * 4 + n) (k := sh) (n := ns) (by omega) (by omega) (by omega)) rfl rfl (Nat.le_of_ble_eq_true rfl) dX9_pruneBlock_24 rfl rfl (fun H locs hh => ?_)
        refine nn_beq (tgt := 93) hx hb dX9_pruneBlock_27 (by decide) (fun h16 => ?_) (fun h16 => ?_)
        ·
          have hn1 : (fo (prD (st1 lim) lim sh ns (ptM pt pn) (ptS pt pn) (ptD pt bd pn)) ((sdc, ssc, ssz), sd, sk, ps) (k * 4) (n + 1)) = _ := prD_0 h16
          refine nn_iinc (x := (k * 4 + n)) (d := 1) (lv' := [(6, .int (nI ((k * 4 + n) + 1))), (5, .int (nI (eB nd k))), (0, .ref (b + 0)), (1, .ref (b + a)), (2, .int (nI k)), (3, .int (nI sh)), (4, .int (nI ns))]) hx hb dX9_pruneBlock_93 hl (k := 0) rfl (by decide) (by decide) rfl (fun ls hl => ?_)
          refine lv_goto (tgt := 12) hx hb dX9_pruneBlock_96 (by decide) ?_
          exact ih14 (n + 1) (by omega) (by omega) _ _ mem1 (by rw [hn1]; exact f3) (by rw [hn1]; exact f4) (by rw [hn1]; exact f5) (by rw [hn1]; exact f6) hfr2 hh ls (lv_sub hl [0, 1, 2, 3, 4, 5, 6] rfl)
        ·
          have g1 := h16
          refine lv_aload_n hx hb dX9_pruneBlock_30 rfl (lv_at hl 2 rfl) ?_
          refine gf_X9_parts hx hb hE hown hh (by omega) f7 rfl dX9_pruneBlock_31 ?_
          refine lv_iload hx hb dX9_pruneBlock_34 (lv_at hl 0 rfl) ?_
          refine mm_V0r (As := [.int (nI (k * 4 + n))]) (rest := []) hx hb hml hown hE hl.1 hh (kc_X9_349 hE.2.1 ⟨Nat.le_of_ble_eq_true rfl, Nat.le_of_ble_eq_true rfl⟩) (c_X3_matches l Γ b M mem1 (pn := pn) (pt := pt) (bd := default) (d := k * 4 + n) (by omega) f9 f10 f12 (by omega) (by omega)) rfl (by omega) f9 rfl rfl (Nat.le_of_ble_eq_true rfl) dX9_pruneBlock_36 rfl rfl (fun H locs hh => ?_)
          refine nn_bne (tgt := 45) hx hb dX9_pruneBlock_39 (by decide) (fun h17 => ?_) (fun h17 => ?_)
          ·
            have g2 := h17
            refine lv_aload_n hx hb dX9_pruneBlock_45 rfl (lv_at hl 2 rfl) ?_
            refine gf_X9_shardRanking hx hb hE hown hh (by omega) f7 rfl dX9_pruneBlock_46 ?_
            refine lv_aload_n hx hb dX9_pruneBlock_49 rfl (lv_at hl 2 rfl) ?_
            refine gf_X9_parts hx hb hE hown hh (by omega) f7 rfl dX9_pruneBlock_50 ?_
            refine lv_iload hx hb dX9_pruneBlock_53 (lv_at hl 0 rfl) ?_
            refine mm_V0r (As := [.int (nI (k * 4 + n))]) (rest := [.ref (b + 93)]) hx hb hml hown hE hl.1 hh (kc_X9_350 hE.2.1 ⟨Nat.le_of_ble_eq_true rfl, Nat.le_of_ble_eq_true rfl⟩) (c_X3_documentBound l Γ b M mem1 (pn := pn) (pt := pt) (bd := bd) (d := k * 4 + n) (by omega) f9 f10 f12 f11 f13 (by omega) (by omega) (hbb)) rfl (by omega) f9 rfl rfl (Nat.le_of_ble_eq_true rfl) dX9_pruneBlock_55 rfl rfl (fun H locs hh => ?_)
            refine mm_V0r (As := [.double (suG (cG pt (k * 4 + n)) (fun i => bd i ((k * 4 + n) / 4)) pn)]) (rest := []) hx hb hml hown hE hl.1 hh (kc_X9_330 hE.2.1 ⟨Nat.le_of_ble_eq_true rfl, Nat.le_of_ble_eq_true rfl⟩) (c_X4_shutsOut l Γ b M mem1 (a := 93) (lim := lim) (sz := (fo (prD (st1 lim) lim sh ns (ptM pt pn) (ptS pt pn) (ptD pt bd pn)) ((sdc, ssc, ssz), sd, sk, ps) (k * 4) n).1.2.2) (x := suG (cG pt (k * 4 + n)) (fun i => bd i ((k * 4 + n) / 4)) pn) (sc := (fo (prD (st1 lim) lim sh ns (ptM pt pn) (ptS pt pn) (ptD pt bd pn)) ((sdc, ssc, ssz), sd, sk, ps) (k * 4) n).1.2.1) (by omega) f4 f6 (by omega) (by omega)) rfl (by omega) f4 rfl rfl (Nat.le_of_ble_eq_true rfl) dX9_pruneBlock_58 rfl rfl (fun H locs hh => ?_)
            refine nn_beq (tgt := 71) hx hb dX9_pruneBlock_61 (by decide) (fun h18 => ?_) (fun h18 => ?_)
            ·
              have hn1 : (fo (prD (st1 lim) lim sh ns (ptM pt pn) (ptS pt pn) (ptD pt bd pn)) ((sdc, ssc, ssz), sd, sk, ps) (k * 4) (n + 1)) = _ := prD_3 g1 g2 h18
              refine lv_aload_n hx hb dX9_pruneBlock_71 rfl (lv_at hl 3 rfl) ?_
              refine mm_V0 (As := []) (rest := []) hx hb hml hown hE hl.1 hh (kc_X9_314 hE.2.1 ⟨Nat.le_of_ble_eq_true rfl, Nat.le_of_ble_eq_true rfl⟩) (c_X2_addScored l Γ b M mem1 (a := a) (sd := (fo (prD (st1 lim) lim sh ns (ptM pt pn) (ptS pt pn) (ptD pt bd pn)) ((sdc, ssc, ssz), sd, sk, ps) (k * 4) n).2.1) (sk := (fo (prD (st1 lim) lim sh ns (ptM pt pn) (ptS pt pn) (ptD pt bd pn)) ((sdc, ssc, ssz), sd, sk, ps) (k * 4) n).2.2.1) (ps := (fo (prD (st1 lim) lim sh ns (ptM pt pn) (ptS pt pn) (ptD pt bd pn)) ((sdc, ssc, ssz), sd, sk, ps) (k * 4) n).2.2.2) (made := made) (by omega) f3) rfl (by omega) f3 rfl rfl (Nat.le_of_ble_eq_true rfl) dX9_pruneBlock_72 rfl rfl (fun H locs mem19 hP20 hh => ?_)
              obtain ⟨f21, k22⟩ := hP20
              have hfr23 : ∀ j, j ≠ a → j ≠ 93 → j ≠ 94 → j ≠ 95 → mem19 j = mem j := fun j c0 c1 c2 c3 => (k22 j (by omega)).trans (hfr2 j c0 c1 c2 c3)
              have f24 : mem19 93 = .inr (4, [.ref (b + 94), .ref (b + 95), .int (nI lim), .int (nI ((fo (prD (st1 lim) lim sh ns (ptM pt pn) (ptS pt pn) (ptD pt bd pn)) ((sdc, ssc, ssz), sd, sk, ps) (k * 4) n).1.2.2))]) := (k22 _ (by omega)).trans f4
              have f25 : mem19 94 = aN Γ 20 ((fo (prD (st1 lim) lim sh ns (ptM pt pn) (ptS pt pn) (ptD pt bd pn)) ((sdc, ssc, ssz), sd, sk, ps) (k * 4) n).1.1) := (k22 _ (by omega)).trans f5
              have f26 : mem19 95 = aD Γ 20 ((fo (prD (st1 lim) lim sh ns (ptM pt pn) (ptS pt pn) (ptD pt bd pn)) ((sdc, ssc, ssz), sd, sk, ps) (k * 4) n).1.2.1) := (k22 _ (by omega)).trans f6
              have f27 : mem19 0 = .inr (8, [.ref (b + 1), .ref (b + 72), .ref (b + 75), .ref (b + 78), .ref (b + 80), .ref (b + 91), .ref (b + 93), .ref (b + 96), .ref (b + 109)]) := (k22 _ (by omega)).trans f7
              have f28 : mem19 1 = .inr (0, [.ref (b + 2), .ref (b + 19), .ref (b + 20), .ref (b + 37), .ref (b + 38), .int (nI nd)]) := (k22 _ (by omega)).trans f8
              have f29 : mem19 80 = .inr (3, [.ref (b + 81), .ref (b + 86), .int (nI pn)]) := (k22 _ (by omega)).trans f9
              have f30 : mem19 81 = aR Γ 9 4 (fun i => some (b + (82 + i))) := (k22 _ (by omega)).trans f10
              have f31 : mem19 86 = aR Γ 9 4 (fun i => some (b + (87 + i))) := (k22 _ (by omega)).trans f11
              have f32 : ∀ z9, z9 < 4 → mem19 (82 + z9) = aD Γ 16 (pt z9) := fun z9 hz9 => (k22 _ (by omega)).trans (f12 z9 hz9)
              have f33 : ∀ z9, z9 < 4 → mem19 (87 + z9) = aD Γ 4 (bd z9) := fun z9 hz9 => (k22 _ (by omega)).trans (f13 z9 hz9)
              refine lv_aload_n hx hb dX9_pruneBlock_75 rfl (lv_at hl 2 rfl) ?_
              refine gf_X9_shardRanking hx hb hE hown hh (by omega) f27 rfl dX9_pruneBlock_76 ?_
              refine lv_iload hx hb dX9_pruneBlock_79 (lv_at hl 0 rfl) ?_
              refine lv_aload_n hx hb dX9_pruneBlock_81 rfl (lv_at hl 2 rfl) ?_
              refine gf_X9_parts hx hb hE hown hh (by omega) f27 rfl dX9_pruneBlock_82 ?_
              refine lv_iload hx hb dX9_pruneBlock_85 (lv_at hl 0 rfl) ?_
              refine mm_V0r (As := [.int (nI (k * 4 + n))]) (rest := [.int (nI (k * 4 + n)), .ref (b + 93)]) hx hb hml hown hE hl.1 hh (kc_X9_356 hE.2.1 ⟨Nat.le_of_ble_eq_true rfl, Nat.le_of_ble_eq_true rfl⟩) (c_X3_scoreOf l Γ b M mem19 (pn := pn) (pt := pt) (bd := default) (d := k * 4 + n) (by omega) f29 f30 f32 (by omega) (by omega) (fun i hi => hpb i _ hi (by omega))) rfl (by omega) f29 rfl rfl (Nat.le_of_ble_eq_true rfl) dX9_pruneBlock_87 rfl rfl (fun H locs hh => ?_)
              refine mm_V0 (As := [.int (nI (k * 4 + n)), .double (suG (cG pt (k * 4 + n)) (fun i => pt i (k * 4 + n)) pn)]) (rest := []) hx hb hml hown hE hl.1 hh (kc_X9_320 hE.2.1 ⟨Nat.le_of_ble_eq_true rfl, Nat.le_of_ble_eq_true rfl⟩) (c_X4_offer l Γ b M mem19 (a := 93) (lim := lim) (sz := (fo (prD (st1 lim) lim sh ns (ptM pt pn) (ptS pt pn) (ptD pt bd pn)) ((sdc, ssc, ssz), sd, sk, ps) (k * 4) n).1.2.2) (d := k * 4 + n) (x := suG (cG pt (k * 4 + n)) (fun i => pt i (k * 4 + n)) pn) (dc := (fo (prD (st1 lim) lim sh ns (ptM pt pn) (ptS pt pn) (ptD pt bd pn)) ((sdc, ssc, ssz), sd, sk, ps) (k * 4) n).1.1) (sc := (fo (prD (st1 lim) lim sh ns (ptM pt pn) (ptS pt pn) (ptD pt bd pn)) ((sdc, ssc, ssz), sd, sk, ps) (k * 4) n).1.2.1) (by omega) f24 f25 f26 (by omega) (by omega) (by omega) (ho.1)) rfl (by omega) f24 rfl rfl (Nat.le_of_ble_eq_true rfl) dX9_pruneBlock_90 rfl rfl (fun H locs mem34 hP35 hh => ?_)
              obtain ⟨f36, f37, f38, k39⟩ := hP35
              have hfr40 : ∀ j, j ≠ a → j ≠ 93 → j ≠ 94 → j ≠ 95 → mem34 j = mem j := fun j c0 c1 c2 c3 => (k39 j (by omega) (by omega) (by omega)).trans (hfr23 j c0 c1 c2 c3)
              have f41 : mem34 a = .inr (2, [.ref (b + (a + 1)), .int (bI made), .int (nI (((fo (prD (st1 lim) lim sh ns (ptM pt pn) (ptS pt pn) (ptD pt bd pn)) ((sdc, ssc, ssz), sd, sk, ps) (k * 4) n).2.1) + 1)), .int (nI ((fo (prD (st1 lim) lim sh ns (ptM pt pn) (ptS pt pn) (ptD pt bd pn)) ((sdc, ssc, ssz), sd, sk, ps) (k * 4) n).2.2.1)), .int (nI ((fo (prD (st1 lim) lim sh ns (ptM pt pn) (ptS pt pn) (ptD pt bd pn)) ((sdc, ssc, ssz), sd, sk, ps) (k * 4) n).2.2.2))]) := (k39 _ (by omega) (by omega) (by omega)).trans f21
              have f42 : mem34 0 = .inr (8, [.ref (b + 1), .ref (b + 72), .ref (b + 75), .ref (b + 78), .ref (b + 80), .ref (b + 91), .ref (b + 93), .ref (b + 96), .ref (b + 109)]) := (k39 _ (by omega) (by omega) (by omega)).trans f27
              have f43 : mem34 1 = .inr (0, [.ref (b + 2), .ref (b + 19), .ref (b + 20), .ref (b + 37), .ref (b + 38), .int (nI nd)]) := (k39 _ (by omega) (by omega) (by omega)).trans f28
              have f44 : mem34 80 = .inr (3, [.ref (b + 81), .ref (b + 86), .int (nI pn)]) := (k39 _ (by omega) (by omega) (by omega)).trans f29
              have f45 : mem34 81 = aR Γ 9 4 (fun i => some (b + (82 + i))) := (k39 _ (by omega) (by omega) (by omega)).trans f30
              have f46 : mem34 86 = aR Γ 9 4 (fun i => some (b + (87 + i))) := (k39 _ (by omega) (by omega) (by omega)).trans f31
              have f47 : ∀ z9, z9 < 4 → mem34 (82 + z9) = aD Γ 16 (pt z9) := fun z9 hz9 => (k39 _ (by omega) (by omega) (by omega)).trans (f32 z9 hz9)
              have f48 : ∀ z9, z9 < 4 → mem34 (87 + z9) = aD Γ 4 (bd z9) := fun z9 hz9 => (k39 _ (by omega) (by omega) (by omega)).trans (f33 z9 hz9)
              refine nn_iinc (x := (k * 4 + n)) (d := 1) (lv' := [(6, .int (nI ((k * 4 + n) + 1))), (5, .int (nI (eB nd k))), (0, .ref (b + 0)), (1, .ref (b + a)), (2, .int (nI k)), (3, .int (nI sh)), (4, .int (nI ns))]) hx hb dX9_pruneBlock_93 hl (k := 0) rfl (by decide) (by decide) rfl (fun ls hl => ?_)
              refine lv_goto (tgt := 12) hx hb dX9_pruneBlock_96 (by decide) ?_
              exact ih14 (n + 1) (by omega) (by omega) _ _ mem34 (by rw [hn1]; exact f41) (by rw [hn1]; exact f36) (by rw [hn1]; exact f37) (by rw [hn1]; exact f38) hfr40 hh ls (lv_sub hl [0, 1, 2, 3, 4, 5, 6] rfl)
            ·
              have hn1 : (fo (prD (st1 lim) lim sh ns (ptM pt pn) (ptS pt pn) (ptD pt bd pn)) ((sdc, ssc, ssz), sd, sk, ps) (k * 4) (n + 1)) = _ := prD_2 g1 g2 h18
              refine lv_aload_n hx hb dX9_pruneBlock_64 rfl (lv_at hl 3 rfl) ?_
              refine mm_V0 (As := []) (rest := []) hx hb hml hown hE hl.1 hh (kc_X9_353 hE.2.1 ⟨Nat.le_of_ble_eq_true rfl, Nat.le_of_ble_eq_true rfl⟩) (c_X2_addPassed l Γ b M mem1 (a := a) (sd := (fo (prD (st1 lim) lim sh ns (ptM pt pn) (ptS pt pn) (ptD pt bd pn)) ((sdc, ssc, ssz), sd, sk, ps) (k * 4) n).2.1) (sk := (fo (prD (st1 lim) lim sh ns (ptM pt pn) (ptS pt pn) (ptD pt bd pn)) ((sdc, ssc, ssz), sd, sk, ps) (k * 4) n).2.2.1) (ps := (fo (prD (st1 lim) lim sh ns (ptM pt pn) (ptS pt pn) (ptD pt bd pn)) ((sdc, ssc, ssz), sd, sk, ps) (k * 4) n).2.2.2) (made := made) (by omega) f3) rfl (by omega) f3 rfl rfl (Nat.le_of_ble_eq_true rfl) dX9_pruneBlock_65 rfl rfl (fun H locs mem49 hP50 hh => ?_)
              obtain ⟨f51, k52⟩ := hP50
              have hfr53 : ∀ j, j ≠ a → j ≠ 93 → j ≠ 94 → j ≠ 95 → mem49 j = mem j := fun j c0 c1 c2 c3 => (k52 j (by omega)).trans (hfr2 j c0 c1 c2 c3)
              have f54 : mem49 93 = .inr (4, [.ref (b + 94), .ref (b + 95), .int (nI lim), .int (nI ((fo (prD (st1 lim) lim sh ns (ptM pt pn) (ptS pt pn) (ptD pt bd pn)) ((sdc, ssc, ssz), sd, sk, ps) (k * 4) n).1.2.2))]) := (k52 _ (by omega)).trans f4
              have f55 : mem49 94 = aN Γ 20 ((fo (prD (st1 lim) lim sh ns (ptM pt pn) (ptS pt pn) (ptD pt bd pn)) ((sdc, ssc, ssz), sd, sk, ps) (k * 4) n).1.1) := (k52 _ (by omega)).trans f5
              have f56 : mem49 95 = aD Γ 20 ((fo (prD (st1 lim) lim sh ns (ptM pt pn) (ptS pt pn) (ptD pt bd pn)) ((sdc, ssc, ssz), sd, sk, ps) (k * 4) n).1.2.1) := (k52 _ (by omega)).trans f6
              have f57 : mem49 0 = .inr (8, [.ref (b + 1), .ref (b + 72), .ref (b + 75), .ref (b + 78), .ref (b + 80), .ref (b + 91), .ref (b + 93), .ref (b + 96), .ref (b + 109)]) := (k52 _ (by omega)).trans f7
              have f58 : mem49 1 = .inr (0, [.ref (b + 2), .ref (b + 19), .ref (b + 20), .ref (b + 37), .ref (b + 38), .int (nI nd)]) := (k52 _ (by omega)).trans f8
              have f59 : mem49 80 = .inr (3, [.ref (b + 81), .ref (b + 86), .int (nI pn)]) := (k52 _ (by omega)).trans f9
              have f60 : mem49 81 = aR Γ 9 4 (fun i => some (b + (82 + i))) := (k52 _ (by omega)).trans f10
              have f61 : mem49 86 = aR Γ 9 4 (fun i => some (b + (87 + i))) := (k52 _ (by omega)).trans f11
              have f62 : ∀ z9, z9 < 4 → mem49 (82 + z9) = aD Γ 16 (pt z9) := fun z9 hz9 => (k52 _ (by omega)).trans (f12 z9 hz9)
              have f63 : ∀ z9, z9 < 4 → mem49 (87 + z9) = aD Γ 4 (bd z9) := fun z9 hz9 => (k52 _ (by omega)).trans (f13 z9 hz9)
              refine lv_goto (tgt := 93) hx hb dX9_pruneBlock_68 (by decide) ?_
              refine nn_iinc (x := (k * 4 + n)) (d := 1) (lv' := [(6, .int (nI ((k * 4 + n) + 1))), (5, .int (nI (eB nd k))), (0, .ref (b + 0)), (1, .ref (b + a)), (2, .int (nI k)), (3, .int (nI sh)), (4, .int (nI ns))]) hx hb dX9_pruneBlock_93 hl (k := 0) rfl (by decide) (by decide) rfl (fun ls hl => ?_)
              refine lv_goto (tgt := 12) hx hb dX9_pruneBlock_96 (by decide) ?_
              exact ih14 (n + 1) (by omega) (by omega) _ _ mem49 (by rw [hn1]; exact f51) (by rw [hn1]; exact f54) (by rw [hn1]; exact f55) (by rw [hn1]; exact f56) hfr53 hh ls (lv_sub hl [0, 1, 2, 3, 4, 5, 6] rfl)
          ·
            have hn1 : (fo (prD (st1 lim) lim sh ns (ptM pt pn) (ptS pt pn) (ptD pt bd pn)) ((sdc, ssc, ssz), sd, sk, ps) (k * 4) (n + 1)) = _ := prD_1 g1 h17
            refine lv_goto (tgt := 93) hx hb dX9_pruneBlock_42 (by decide) ?_
            refine nn_iinc (x := (k * 4 + n)) (d := 1) (lv' := [(6, .int (nI ((k * 4 + n) + 1))), (5, .int (nI (eB nd k))), (0, .ref (b + 0)), (1, .ref (b + a)), (2, .int (nI k)), (3, .int (nI sh)), (4, .int (nI ns))]) hx hb dX9_pruneBlock_93 hl (k := 0) rfl (by decide) (by decide) rfl (fun ls hl => ?_)
            refine lv_goto (tgt := 12) hx hb dX9_pruneBlock_96 (by decide) ?_
            exact ih14 (n + 1) (by omega) (by omega) _ _ mem1 (by rw [hn1]; exact f3) (by rw [hn1]; exact f4) (by rw [hn1]; exact f5) (by rw [hn1]; exact f6) hfr2 hh ls (lv_sub hl [0, 1, 2, 3, 4, 5, 6] rfl)
  exact loop12 ((20 - 0) + 1) 0 (by omega) (by omega) _ _ mem (fl) (fs0) (fs1) (fs2) hfr hh ls (lv_sub hl [0, 1, 2, 3, 4, 5, 6] rfl)
set_option maxHeartbeats 4000000 in
set_option maxRecDepth 100000 in
/-- pruneShard -/
theorem c_X9_pruneShard (l : Launch) (Γ : Gm) (b M : Nat) (mem : Nat → va_E) {a lim nd sh ns sd sk ps ssz : Nat} {made : Bool} {sdc : Nat → Nat} {ssc : Nat → UInt64}{pn : Nat} {pt bd : Nat → Nat → UInt64} (hM : 138 ≤ M) (ha : 97 ≤ a ∧ a + 4 ≤ 109) (fH : mem 0 = .inr (8, [.ref (b + 1), .ref (b + 72), .ref (b + 75), .ref (b + 78), .ref (b + 80), .ref (b + 91), .ref (b + 93), .ref (b + 96), .ref (b + 109)])) (fC : mem 1 = .inr (0, [.ref (b + 2), .ref (b + 19), .ref (b + 20), .ref (b + 37), .ref (b + 38), .int (nI nd)])) (fl : mem a = .inr (2, [.ref (b + (a + 1)), .int (bI made), .int (nI sd), .int (nI sk), .int (nI ps)])) (fs0 : mem 93 = .inr (4, [.ref (b + 94), .ref (b + 95), .int (nI lim), .int (nI ssz)])) (fs1 : mem 94 = aN Γ 20 sdc) (fs2 : mem 95 = aD Γ 20 ssc) (hnd : nd ≤ 16) (hsh : sh < 2 ^ 31) (hns : 0 < ns ∧ ns < 2 ^ 31) (hok : tOK lim (sdc, ssc, ssz)) (hlim : lim ≤ 20) (fP : mem 80 = .inr (3, [.ref (b + 81), .ref (b + 86), .int (nI pn)])) (fPo : mem 81 = aR Γ 9 4 (fun i => some (b + (82 + i)))) (fpt : ∀ z9, z9 < 4 → mem (82 + z9) = aD Γ 16 (pt z9)) (fBo : mem 86 = aR Γ 9 4 (fun i => some (b + (87 + i)))) (fbd : ∀ z9, z9 < 4 → mem (87 + z9) = aD Γ 4 (bd z9)) (hpn : pn ≤ 4) (hpb : ∀ i d, i < pn → d < nd → db 1090 (pt i d)) (hbb : ∀ i, i < pn → ∀ k, k < 4 → db 1090 (bd i k)) : Ct l yX9_pruneShard (.code yX9_pruneShard cX9_pruneShard 5 none) ({ frames := 3, cells := 0, slots := 0, locals := 75 } : Room) Γ b M [.ref (b + 0), .ref (b + a), .int (nI sh), .int (nI ns)] mem (fun u => u a = .inr (2, [.ref (b + (a + 1)), .int (bI made), .int (nI ((fo (prK (st1 lim) lim nd sh ns (ptM pt pn) (ptS pt pn) (ptD pt bd pn) (ptB bd pn)) ((sdc, ssc, ssz), sd, sk, ps) 0 4).2.1)), .int (nI ((fo (prK (st1 lim) lim nd sh ns (ptM pt pn) (ptS pt pn) (ptD pt bd pn) (ptB bd pn)) ((sdc, ssc, ssz), sd, sk, ps) 0 4).2.2.1)), .int (nI ((fo (prK (st1 lim) lim nd sh ns (ptM pt pn) (ptS pt pn) (ptD pt bd pn) (ptB bd pn)) ((sdc, ssc, ssz), sd, sk, ps) 0 4).2.2.2))]) ∧ u 93 = .inr (4, [.ref (b + 94), .ref (b + 95), .int (nI lim), .int (nI ((fo (prK (st1 lim) lim nd sh ns (ptM pt pn) (ptS pt pn) (ptD pt bd pn) (ptB bd pn)) ((sdc, ssc, ssz), sd, sk, ps) 0 4).1.2.2))]) ∧ u 94 = aN Γ 20 ((fo (prK (st1 lim) lim nd sh ns (ptM pt pn) (ptS pt pn) (ptD pt bd pn) (ptB bd pn)) ((sdc, ssc, ssz), sd, sk, ps) 0 4).1.1) ∧ u 95 = aD Γ 20 ((fo (prK (st1 lim) lim nd sh ns (ptM pt pn) (ptS pt pn) (ptD pt bd pn) (ptB bd pn)) ((sdc, ssc, ssz), sd, sk, ps) 0 4).1.2.1) ∧ ∀ j, j ≠ a → j ≠ 93 → j ≠ 94 → j ≠ 95 → u j = mem j) none := by
  refine mm_enter (cc := cX9_pruneShard) (by decide) (Nat.le_of_ble_eq_true rfl) ?_
  intro p e s m args below meth c ls hx hb hml hown hr hlocks hname hE hh hl
  have hl : lv_has ls 5 [(0, .ref (b + 0)), (1, .ref (b + a)), (2, .int (nI sh)), (3, .int (nI ns))] := hl
  have hfr : ∀ j, j ≠ a → j ≠ 93 → j ≠ 94 → j ≠ 95 → mem j = mem j := fun j _ _ _ _ => rfl
  refine lv_iconst (v := (nI 0)) hx hb dX9_pruneShard_0 (by decide) ?_
  refine lv_istore (lv' := [(4, .int (nI 0)), (0, .ref (b + 0)), (1, .ref (b + a)), (2, .int (nI sh)), (3, .int (nI ns))]) hx hb dX9_pruneShard_1 hl (by decide) rfl (fun ls hl => ?_)
  have loop3 : ∀ (n9 : Nat) (k : Nat), (4 - k) < n9 → (k ≤ 4) → ∀ (H : Heap) (locs : List Loc) (mem2 : Nat → va_E), mem2 a = .inr (2, [.ref (b + (a + 1)), .int (bI made), .int (nI ((fo (prK (st1 lim) lim nd sh ns (ptM pt pn) (ptS pt pn) (ptD pt bd pn) (ptB bd pn)) ((sdc, ssc, ssz), sd, sk, ps) 0 k).2.1)), .int (nI ((fo (prK (st1 lim) lim nd sh ns (ptM pt pn) (ptS pt pn) (ptD pt bd pn) (ptB bd pn)) ((sdc, ssc, ssz), sd, sk, ps) 0 k).2.2.1)), .int (nI ((fo (prK (st1 lim) lim nd sh ns (ptM pt pn) (ptS pt pn) (ptD pt bd pn) (ptB bd pn)) ((sdc, ssc, ssz), sd, sk, ps) 0 k).2.2.2))]) → mem2 93 = .inr (4, [.ref (b + 94), .ref (b + 95), .int (nI lim), .int (nI ((fo (prK (st1 lim) lim nd sh ns (ptM pt pn) (ptS pt pn) (ptD pt bd pn) (ptB bd pn)) ((sdc, ssc, ssz), sd, sk, ps) 0 k).1.2.2))]) → mem2 94 = aN Γ 20 ((fo (prK (st1 lim) lim nd sh ns (ptM pt pn) (ptS pt pn) (ptD pt bd pn) (ptB bd pn)) ((sdc, ssc, ssz), sd, sk, ps) 0 k).1.1) → mem2 95 = aD Γ 20 ((fo (prK (st1 lim) lim nd sh ns (ptM pt pn) (ptS pt pn) (ptD pt bd pn) (ptB bd pn)) ((sdc, ssc, ssz), sd, sk, ps) 0 k).1.2.1) → (∀ j, j ≠ a → j ≠ 93 → j ≠ 94 → j ≠ 95 → mem2 j = mem j) → GH Γ b M mem2 s H locs → ∀ (ls : Array Slot), lv_has ls 5 [(4, .int (nI k)), (0, .ref (b + 0)), (1, .ref (b + a)), (2, .int (nI sh)), (3, .int (nI ns))] → W p l e ({ frames := 3, cells := 0, slots := 0, locals := 75 } : Room) s m args below meth c H locs 0 0 (MQ below (QC Γ b M (fun u => u a = .inr (2, [.ref (b + (a + 1)), .int (bI made), .int (nI ((fo (prK (st1 lim) lim nd sh ns (ptM pt pn) (ptS pt pn) (ptD pt bd pn) (ptB bd pn)) ((sdc, ssc, ssz), sd, sk, ps) 0 4).2.1)), .int (nI ((fo (prK (st1 lim) lim nd sh ns (ptM pt pn) (ptS pt pn) (ptD pt bd pn) (ptB bd pn)) ((sdc, ssc, ssz), sd, sk, ps) 0 4).2.2.1)), .int (nI ((fo (prK (st1 lim) lim nd sh ns (ptM pt pn) (ptS pt pn) (ptD pt bd pn) (ptB bd pn)) ((sdc, ssc, ssz), sd, sk, ps) 0 4).2.2.2))]) ∧ u 93 = .inr (4, [.ref (b + 94), .ref (b + 95), .int (nI lim), .int (nI ((fo (prK (st1 lim) lim nd sh ns (ptM pt pn) (ptS pt pn) (ptD pt bd pn) (ptB bd pn)) ((sdc, ssc, ssz), sd, sk, ps) 0 4).1.2.2))]) ∧ u 94 = aN Γ 20 ((fo (prK (st1 lim) lim nd sh ns (ptM pt pn) (ptS pt pn) (ptD pt bd pn) (ptB bd pn)) ((sdc, ssc, ssz), sd, sk, ps) 0 4).1.1) ∧ u 95 = aD Γ 20 ((fo (prK (st1 lim) lim nd sh ns (ptM pt pn) (ptS pt pn) (ptD pt bd pn) (ptB bd pn)) ((sdc, ssc, ssz), sd, sk, ps) 0 4).1.2.1) ∧ ∀ j, j ≠ a → j ≠ 93 → j ≠ 94 → j ≠ 95 → u j = mem j) none) args s 0 0 (fun q => b ≤ q)) (F0 m 3 ls []) := by
    intro n9
    induction n9 with
    | zero => intro k hn; exact absurd hn (Nat.not_lt_zero _)
    | succ n9 ih =>
      intro k hn hk H locs mem1 f3 f4 f5 f6 hfr2 hh ls hl
      have f7 : mem1 0 = .inr (8, [.ref (b + 1), .ref (b + 72), .ref (b + 75), .ref (b + 78), .ref (b + 80), .ref (b + 91), .ref (b + 93), .ref (b + 96), .ref (b + 109)]) := (hfr2 _ (by omega) (by omega) (by omega) (by omega)).trans fH
      have f8 : mem1 1 = .inr (0, [.ref (b + 2), .ref (b + 19), .ref (b + 20), .ref (b + 37), .ref (b + 38), .int (nI nd)]) := (hfr2 _ (by omega) (by omega) (by omega) (by omega)).trans fC
      have f9 : mem1 80 = .inr (3, [.ref (b + 81), .ref (b + 86), .int (nI pn)]) := (hfr2 _ (by omega) (by omega) (by omega) (by omega)).trans fP
      have f10 : mem1 81 = aR Γ 9 4 (fun i => some (b + (82 + i))) := (hfr2 _ (by omega) (by omega) (by omega) (by omega)).trans fPo
      have f11 : mem1 86 = aR Γ 9 4 (fun i => some (b + (87 + i))) := (hfr2 _ (by omega) (by omega) (by omega) (by omega)).trans fBo
      have f12 : ∀ z9, z9 < 4 → mem1 (82 + z9) = aD Γ 16 (pt z9) := fun z9 hz9 => (hfr2 _ (by omega) (by omega) (by omega) (by omega)).trans (fpt z9 hz9)
      have f13 : ∀ z9, z9 < 4 → mem1 (87 + z9) = aD Γ 4 (bd z9) := fun z9 hz9 => (hfr2 _ (by omega) (by omega) (by omega) (by omega)).trans (fbd z9 hz9)
      have ho := prKs_ok (lim := lim) (sh := sh) (ns := ns) (mt := ptM pt pn) (so := ptS pt pn) (bo := ptD pt bd pn) (bb := ptB bd pn) (E := ((sdc, ssc, ssz), sd, sk, ps)) (n := k) hnd hok
      have ho2 : (fo (prK (st1 lim) lim nd sh ns (ptM pt pn) (ptS pt pn) (ptD pt bd pn) (ptB bd pn)) ((sdc, ssc, ssz), sd, sk, ps) 0 k).1.2.2 ≤ lim := ho.2
      have hz0 : 0 + k = k := Nat.zero_add k
      have ih14 := ih
      refine lv_iload hx hb dX9_pruneShard_3 (lv_at hl 0 rfl) ?_
      refine lv_iconst (v := (nI 4)) hx hb dX9_pruneShard_5 (by decide) ?_
      refine nn_icmp_ge (tgt := 64) hx hb dX9_pruneShard_6 (by decide) (by omega) (by omega) (fun h15 => ?_) (fun h15 => ?_)
      ·
        obtain rfl : k = 4 := by omega
        exact mm_vret hx hb hr hlocks hE hh (⟨f3, f4, f5, f6, hfr2⟩) dX9_pruneShard_64
      ·
        refine lv_aload_n hx hb dX9_pruneShard_9 rfl (lv_at hl 1 rfl) ?_
        refine lv_iload hx hb dX9_pruneShard_10 (lv_at hl 0 rfl) ?_
        refine lv_iload_n hx hb dX9_pruneShard_12 rfl (lv_at hl 3 rfl) ?_
        refine lv_iload_n hx hb dX9_pruneShard_13 rfl (lv_at hl 4 rfl) ?_
        refine mm_V0r (As := [.int (nI k), .int (nI sh), .int (nI ns)]) (rest := []) hx hb hml hown hE hl.1 hh (kc_X9_324 hE.2.1 ⟨Nat.le_of_ble_eq_true rfl, Nat.le_of_ble_eq_true rfl⟩) (c_X9_hasDocumentOfShard l Γ b M mem1 (k := k) (sh := sh) (ns := ns) (nd := nd) (by omega) f7 f8 (by omega) (by omega) (by omega) (by omega)) rfl (by omega) f7 rfl rfl (Nat.le_of_ble_eq_true rfl) dX9_pruneShard_14 rfl rfl (fun H locs hh => ?_)
        refine nn_bne (tgt := 23) hx hb dX9_pruneShard_17 (by decide) (fun h16 => ?_) (fun h16 => ?_)
        ·
          have g1 := h16
          refine lv_aload_n hx hb dX9_pruneShard_23 rfl (lv_at hl 1 rfl) ?_
          refine gf_X9_shardRanking hx hb hE hown hh (by omega) f7 rfl dX9_pruneShard_24 ?_
          refine lv_aload_n hx hb dX9_pruneShard_27 rfl (lv_at hl 1 rfl) ?_
          refine gf_X9_parts hx hb hE hown hh (by omega) f7 rfl dX9_pruneShard_28 ?_
          refine lv_iload hx hb dX9_pruneShard_31 (lv_at hl 0 rfl) ?_
          refine mm_V0r (As := [.int (nI k)]) (rest := [.ref (b + 93)]) hx hb hml hown hE hl.1 hh (kc_X9_327 hE.2.1 ⟨Nat.le_of_ble_eq_true rfl, Nat.le_of_ble_eq_true rfl⟩) (c_X3_blockBound l Γ b M mem1 (pn := pn) (pt := default) (bd := bd) (k := k) (by omega) f9 f11 f13 (by omega) (by omega) (hbb)) rfl (by omega) f9 rfl rfl (Nat.le_of_ble_eq_true rfl) dX9_pruneShard_33 rfl rfl (fun H locs hh => ?_)
          refine mm_V0r (As := [.double (suG (fun _ => true) (fun i => bd i k) pn)]) (rest := []) hx hb hml hown hE hl.1 hh (kc_X9_330 hE.2.1 ⟨Nat.le_of_ble_eq_true rfl, Nat.le_of_ble_eq_true rfl⟩) (c_X4_shutsOut l Γ b M mem1 (a := 93) (lim := lim) (sz := (fo (prK (st1 lim) lim nd sh ns (ptM pt pn) (ptS pt pn) (ptD pt bd pn) (ptB bd pn)) ((sdc, ssc, ssz), sd, sk, ps) 0 k).1.2.2) (x := suG (fun _ => true) (fun i => bd i k) pn) (sc := (fo (prK (st1 lim) lim nd sh ns (ptM pt pn) (ptS pt pn) (ptD pt bd pn) (ptB bd pn)) ((sdc, ssc, ssz), sd, sk, ps) 0 k).1.2.1) (by omega) f4 f6 (by omega) (by omega)) rfl (by omega) f4 rfl rfl (Nat.le_of_ble_eq_true rfl) dX9_pruneShard_36 rfl rfl (fun H locs hh => ?_)
          refine nn_beq (tgt := 49) hx hb dX9_pruneShard_39 (by decide) (fun h17 => ?_) (fun h17 => ?_)
          ·
            have hn1 : (fo (prK (st1 lim) lim nd sh ns (ptM pt pn) (ptS pt pn) (ptD pt bd pn) (ptB bd pn)) ((sdc, ssc, ssz), sd, sk, ps) 0 (k + 1)) = _ := (congrArg (fun z8 => (prK (st1 lim) lim nd sh ns (ptM pt pn) (ptS pt pn) (ptD pt bd pn) (ptB bd pn)) z8 (fo (prK (st1 lim) lim nd sh ns (ptM pt pn) (ptS pt pn) (ptD pt bd pn) (ptB bd pn)) ((sdc, ssc, ssz), sd, sk, ps) 0 k)) hz0).trans (prK_2 g1 h17)
            refine lv_aload_n hx hb dX9_pruneShard_49 rfl (lv_at hl 1 rfl) ?_
            refine lv_aload_n hx hb dX9_pruneShard_50 rfl (lv_at hl 2 rfl) ?_
            refine lv_iload hx hb dX9_pruneShard_51 (lv_at hl 0 rfl) ?_
            refine lv_iload_n hx hb dX9_pruneShard_53 rfl (lv_at hl 3 rfl) ?_
            refine lv_iload_n hx hb dX9_pruneShard_54 rfl (lv_at hl 4 rfl) ?_
            refine mm_V0 (As := [.ref (b + a), .int (nI k), .int (nI sh), .int (nI ns)]) (rest := []) hx hb hml hown hE hl.1 hh (kc_X9_337 hE.2.1 ⟨Nat.le_of_ble_eq_true rfl, Nat.le_of_ble_eq_true rfl⟩) (c_X9_pruneBlock l Γ b M mem1 (k := k) (a := a) (lim := lim) (nd := nd) (sh := sh) (ns := ns) (sd := (fo (prK (st1 lim) lim nd sh ns (ptM pt pn) (ptS pt pn) (ptD pt bd pn) (ptB bd pn)) ((sdc, ssc, ssz), sd, sk, ps) 0 k).2.1) (sk := (fo (prK (st1 lim) lim nd sh ns (ptM pt pn) (ptS pt pn) (ptD pt bd pn) (ptB bd pn)) ((sdc, ssc, ssz), sd, sk, ps) 0 k).2.2.1) (ps := (fo (prK (st1 lim) lim nd sh ns (ptM pt pn) (ptS pt pn) (ptD pt bd pn) (ptB bd pn)) ((sdc, ssc, ssz), sd, sk, ps) 0 k).2.2.2) (ssz := (fo (prK (st1 lim) lim nd sh ns (ptM pt pn) (ptS pt pn) (ptD pt bd pn) (ptB bd pn)) ((sdc, ssc, ssz), sd, sk, ps) 0 k).1.2.2) (made := made) (sdc := (fo (prK (st1 lim) lim nd sh ns (ptM pt pn) (ptS pt pn) (ptD pt bd pn) (ptB bd pn)) ((sdc, ssc, ssz), sd, sk, ps) 0 k).1.1) (ssc := (fo (prK (st1 lim) lim nd sh ns (ptM pt pn) (ptS pt pn) (ptD pt bd pn) (ptB bd pn)) ((sdc, ssc, ssz), sd, sk, ps) 0 k).1.2.1) (pn := pn) (pt := pt) (bd := bd) (by omega) (by omega) f7 f8 f3 f4 f5 f6 (by omega) (by omega) (by omega) (ho) (by omega) f9 f10 f12 f11 f13 (by omega) (hpb) (hbb) (by omega)) rfl (by omega) f7 rfl rfl (Nat.le_of_ble_eq_true rfl) dX9_pruneShard_55 rfl rfl (fun H locs mem18 hP19 hh => ?_)
            obtain ⟨f20, f21, f22, f23, k24⟩ := hP19
            have hfr25 : ∀ j, j ≠ a → j ≠ 93 → j ≠ 94 → j ≠ 95 → mem18 j = mem j := fun j c0 c1 c2 c3 => (k24 j (by omega) (by omega) (by omega) (by omega)).trans (hfr2 j c0 c1 c2 c3)
            have f26 : mem18 0 = .inr (8, [.ref (b + 1), .ref (b + 72), .ref (b + 75), .ref (b + 78), .ref (b + 80), .ref (b + 91), .ref (b + 93), .ref (b + 96), .ref (b + 109)]) := (k24 _ (by omega) (by omega) (by omega) (by omega)).trans f7
            have f27 : mem18 1 = .inr (0, [.ref (b + 2), .ref (b + 19), .ref (b + 20), .ref (b + 37), .ref (b + 38), .int (nI nd)]) := (k24 _ (by omega) (by omega) (by omega) (by omega)).trans f8
            have f28 : mem18 80 = .inr (3, [.ref (b + 81), .ref (b + 86), .int (nI pn)]) := (k24 _ (by omega) (by omega) (by omega) (by omega)).trans f9
            have f29 : mem18 81 = aR Γ 9 4 (fun i => some (b + (82 + i))) := (k24 _ (by omega) (by omega) (by omega) (by omega)).trans f10
            have f30 : mem18 86 = aR Γ 9 4 (fun i => some (b + (87 + i))) := (k24 _ (by omega) (by omega) (by omega) (by omega)).trans f11
            have f31 : ∀ z9, z9 < 4 → mem18 (82 + z9) = aD Γ 16 (pt z9) := fun z9 hz9 => (k24 _ (by omega) (by omega) (by omega) (by omega)).trans (f12 z9 hz9)
            have f32 : ∀ z9, z9 < 4 → mem18 (87 + z9) = aD Γ 4 (bd z9) := fun z9 hz9 => (k24 _ (by omega) (by omega) (by omega) (by omega)).trans (f13 z9 hz9)
            refine nn_iinc (x := k) (d := 1) (lv' := [(4, .int (nI (k + 1))), (0, .ref (b + 0)), (1, .ref (b + a)), (2, .int (nI sh)), (3, .int (nI ns))]) hx hb dX9_pruneShard_58 hl (k := 0) rfl (by decide) (by decide) rfl (fun ls hl => ?_)
            refine lv_goto (tgt := 3) hx hb dX9_pruneShard_61 (by decide) ?_
            exact ih14 (k + 1) (by omega) (by omega) _ _ mem18 (by rw [hn1]; exact f20) (by rw [hn1]; exact f21) (by rw [hn1]; exact f22) (by rw [hn1]; exact f23) hfr25 hh ls (lv_sub hl [0, 1, 2, 3, 4] rfl)
          ·
            have hn1 : (fo (prK (st1 lim) lim nd sh ns (ptM pt pn) (ptS pt pn) (ptD pt bd pn) (ptB bd pn)) ((sdc, ssc, ssz), sd, sk, ps) 0 (k + 1)) = _ := (congrArg (fun z8 => (prK (st1 lim) lim nd sh ns (ptM pt pn) (ptS pt pn) (ptD pt bd pn) (ptB bd pn)) z8 (fo (prK (st1 lim) lim nd sh ns (ptM pt pn) (ptS pt pn) (ptD pt bd pn) (ptB bd pn)) ((sdc, ssc, ssz), sd, sk, ps) 0 k)) hz0).trans (prK_1 g1 h17)
            refine lv_aload_n hx hb dX9_pruneShard_42 rfl (lv_at hl 2 rfl) ?_
            refine mm_V0 (As := []) (rest := []) hx hb hml hown hE hl.1 hh (kc_X9_334 hE.2.1 ⟨Nat.le_of_ble_eq_true rfl, Nat.le_of_ble_eq_true rfl⟩) (c_X2_addSkipped l Γ b M mem1 (a := a) (sd := (fo (prK (st1 lim) lim nd sh ns (ptM pt pn) (ptS pt pn) (ptD pt bd pn) (ptB bd pn)) ((sdc, ssc, ssz), sd, sk, ps) 0 k).2.1) (sk := (fo (prK (st1 lim) lim nd sh ns (ptM pt pn) (ptS pt pn) (ptD pt bd pn) (ptB bd pn)) ((sdc, ssc, ssz), sd, sk, ps) 0 k).2.2.1) (ps := (fo (prK (st1 lim) lim nd sh ns (ptM pt pn) (ptS pt pn) (ptD pt bd pn) (ptB bd pn)) ((sdc, ssc, ssz), sd, sk, ps) 0 k).2.2.2) (made := made) (by omega) f3) rfl (by omega) f3 rfl rfl (Nat.le_of_ble_eq_true rfl) dX9_pruneShard_43 rfl rfl (fun H locs mem33 hP34 hh => ?_)
            obtain ⟨f35, k36⟩ := hP34
            have hfr37 : ∀ j, j ≠ a → j ≠ 93 → j ≠ 94 → j ≠ 95 → mem33 j = mem j := fun j c0 c1 c2 c3 => (k36 j (by omega)).trans (hfr2 j c0 c1 c2 c3)
            have f38 : mem33 93 = .inr (4, [.ref (b + 94), .ref (b + 95), .int (nI lim), .int (nI ((fo (prK (st1 lim) lim nd sh ns (ptM pt pn) (ptS pt pn) (ptD pt bd pn) (ptB bd pn)) ((sdc, ssc, ssz), sd, sk, ps) 0 k).1.2.2))]) := (k36 _ (by omega)).trans f4
            have f39 : mem33 94 = aN Γ 20 ((fo (prK (st1 lim) lim nd sh ns (ptM pt pn) (ptS pt pn) (ptD pt bd pn) (ptB bd pn)) ((sdc, ssc, ssz), sd, sk, ps) 0 k).1.1) := (k36 _ (by omega)).trans f5
            have f40 : mem33 95 = aD Γ 20 ((fo (prK (st1 lim) lim nd sh ns (ptM pt pn) (ptS pt pn) (ptD pt bd pn) (ptB bd pn)) ((sdc, ssc, ssz), sd, sk, ps) 0 k).1.2.1) := (k36 _ (by omega)).trans f6
            have f41 : mem33 0 = .inr (8, [.ref (b + 1), .ref (b + 72), .ref (b + 75), .ref (b + 78), .ref (b + 80), .ref (b + 91), .ref (b + 93), .ref (b + 96), .ref (b + 109)]) := (k36 _ (by omega)).trans f7
            have f42 : mem33 1 = .inr (0, [.ref (b + 2), .ref (b + 19), .ref (b + 20), .ref (b + 37), .ref (b + 38), .int (nI nd)]) := (k36 _ (by omega)).trans f8
            have f43 : mem33 80 = .inr (3, [.ref (b + 81), .ref (b + 86), .int (nI pn)]) := (k36 _ (by omega)).trans f9
            have f44 : mem33 81 = aR Γ 9 4 (fun i => some (b + (82 + i))) := (k36 _ (by omega)).trans f10
            have f45 : mem33 86 = aR Γ 9 4 (fun i => some (b + (87 + i))) := (k36 _ (by omega)).trans f11
            have f46 : ∀ z9, z9 < 4 → mem33 (82 + z9) = aD Γ 16 (pt z9) := fun z9 hz9 => (k36 _ (by omega)).trans (f12 z9 hz9)
            have f47 : ∀ z9, z9 < 4 → mem33 (87 + z9) = aD Γ 4 (bd z9) := fun z9 hz9 => (k36 _ (by omega)).trans (f13 z9 hz9)
            refine lv_goto (tgt := 58) hx hb dX9_pruneShard_46 (by decide) ?_
            refine nn_iinc (x := k) (d := 1) (lv' := [(4, .int (nI (k + 1))), (0, .ref (b + 0)), (1, .ref (b + a)), (2, .int (nI sh)), (3, .int (nI ns))]) hx hb dX9_pruneShard_58 hl (k := 0) rfl (by decide) (by decide) rfl (fun ls hl => ?_)
            refine lv_goto (tgt := 3) hx hb dX9_pruneShard_61 (by decide) ?_
            exact ih14 (k + 1) (by omega) (by omega) _ _ mem33 (by rw [hn1]; exact f35) (by rw [hn1]; exact f38) (by rw [hn1]; exact f39) (by rw [hn1]; exact f40) hfr37 hh ls (lv_sub hl [0, 1, 2, 3, 4] rfl)
        ·
          have hn1 : (fo (prK (st1 lim) lim nd sh ns (ptM pt pn) (ptS pt pn) (ptD pt bd pn) (ptB bd pn)) ((sdc, ssc, ssz), sd, sk, ps) 0 (k + 1)) = _ := (congrArg (fun z8 => (prK (st1 lim) lim nd sh ns (ptM pt pn) (ptS pt pn) (ptD pt bd pn) (ptB bd pn)) z8 (fo (prK (st1 lim) lim nd sh ns (ptM pt pn) (ptS pt pn) (ptD pt bd pn) (ptB bd pn)) ((sdc, ssc, ssz), sd, sk, ps) 0 k)) hz0).trans (prK_0 h16)
          refine lv_goto (tgt := 58) hx hb dX9_pruneShard_20 (by decide) ?_
          refine nn_iinc (x := k) (d := 1) (lv' := [(4, .int (nI (k + 1))), (0, .ref (b + 0)), (1, .ref (b + a)), (2, .int (nI sh)), (3, .int (nI ns))]) hx hb dX9_pruneShard_58 hl (k := 0) rfl (by decide) (by decide) rfl (fun ls hl => ?_)
          refine lv_goto (tgt := 3) hx hb dX9_pruneShard_61 (by decide) ?_
          exact ih14 (k + 1) (by omega) (by omega) _ _ mem1 (by rw [hn1]; exact f3) (by rw [hn1]; exact f4) (by rw [hn1]; exact f5) (by rw [hn1]; exact f6) hfr2 hh ls (lv_sub hl [0, 1, 2, 3, 4] rfl)
  exact loop3 ((4 - 0) + 1) 0 (by omega) (by omega) _ _ mem (fl) (fs0) (fs1) (fs2) hfr hh ls (lv_sub hl [0, 1, 2, 3, 4] rfl)
set_option maxHeartbeats 4000000 in
set_option maxRecDepth 100000 in
/-- scoreShard, c_X9_scoreShardP -/
theorem c_X9_scoreShardP (l : Launch) (Γ : Gm) (b M : Nat) (mem : Nat → va_E) {a lim nd sh ns sd sk ps ssz : Nat} {made : Bool} {sdc : Nat → Nat} {ssc : Nat → UInt64}{pn : Nat} {pt bd : Nat → Nat → UInt64} (hM : 138 ≤ M) (ha : 97 ≤ a ∧ a + 4 ≤ 109) (fH : mem 0 = .inr (8, [.ref (b + 1), .ref (b + 72), .ref (b + 75), .ref (b + 78), .ref (b + 80), .ref (b + 91), .ref (b + 93), .ref (b + 96), .ref (b + 109)])) (fC : mem 1 = .inr (0, [.ref (b + 2), .ref (b + 19), .ref (b + 20), .ref (b + 37), .ref (b + 38), .int (nI nd)])) (fl : mem a = .inr (2, [.ref (b + (a + 1)), .int (bI made), .int (nI sd), .int (nI sk), .int (nI ps)])) (fs0 : mem 93 = .inr (4, [.ref (b + 94), .ref (b + 95), .int (nI lim), .int (nI ssz)])) (fs1 : mem 94 = aN Γ 20 sdc) (fs2 : mem 95 = aD Γ 20 ssc) (hnd : nd ≤ 16) (hsh : sh < 2 ^ 31) (hns : 0 < ns ∧ ns < 2 ^ 31) (hok : tOK lim (sdc, ssc, ssz)) (hlim : lim ≤ 20) (fP : mem 80 = .inr (3, [.ref (b + 81), .ref (b + 86), .int (nI pn)])) (fPo : mem 81 = aR Γ 9 4 (fun i => some (b + (82 + i)))) (fpt : ∀ z9, z9 < 4 → mem (82 + z9) = aD Γ 16 (pt z9)) (hpn : pn ≤ 4) (hpb : ∀ i d, i < pn → d < nd → db 1090 (pt i d)) : Ct l yX9_scoreShard (.code yX9_scoreShard cX9_scoreShard 6 none) ({ frames := 2, cells := 0, slots := 0, locals := 49 } : Room) Γ b M [.ref (b + 0), .ref (b + a), .ref (b + 80), .int (nI sh), .int (nI ns)] mem (fun u => u a = .inr (2, [.ref (b + (a + 1)), .int (bI made), .int (nI ((fo (scD (st1 lim) sh ns (ptM pt pn) (ptS pt pn)) ((sdc, ssc, ssz), sd, sk, ps) 0 nd).2.1)), .int (nI ((fo (scD (st1 lim) sh ns (ptM pt pn) (ptS pt pn)) ((sdc, ssc, ssz), sd, sk, ps) 0 nd).2.2.1)), .int (nI ((fo (scD (st1 lim) sh ns (ptM pt pn) (ptS pt pn)) ((sdc, ssc, ssz), sd, sk, ps) 0 nd).2.2.2))]) ∧ u 93 = .inr (4, [.ref (b + 94), .ref (b + 95), .int (nI lim), .int (nI ((fo (scD (st1 lim) sh ns (ptM pt pn) (ptS pt pn)) ((sdc, ssc, ssz), sd, sk, ps) 0 nd).1.2.2))]) ∧ u 94 = aN Γ 20 ((fo (scD (st1 lim) sh ns (ptM pt pn) (ptS pt pn)) ((sdc, ssc, ssz), sd, sk, ps) 0 nd).1.1) ∧ u 95 = aD Γ 20 ((fo (scD (st1 lim) sh ns (ptM pt pn) (ptS pt pn)) ((sdc, ssc, ssz), sd, sk, ps) 0 nd).1.2.1) ∧ ∀ j, j ≠ a → j ≠ 93 → j ≠ 94 → j ≠ 95 → u j = mem j) none := by
  refine mm_enter (cc := cX9_scoreShard) (by decide) (Nat.le_of_ble_eq_true rfl) ?_
  intro p e s m args below meth c ls hx hb hml hown hr hlocks hname hE hh hl
  have hl : lv_has ls 6 [(0, .ref (b + 0)), (1, .ref (b + a)), (2, .ref (b + 80)), (3, .int (nI sh)), (4, .int (nI ns))] := hl
  have hfr : ∀ j, j ≠ a → j ≠ 93 → j ≠ 94 → j ≠ 95 → mem j = mem j := fun j _ _ _ _ => rfl
  refine lv_iconst (v := (nI 0)) hx hb dX9_scoreShard_0 (by decide) ?_
  refine lv_istore (lv' := [(5, .int (nI 0)), (0, .ref (b + 0)), (1, .ref (b + a)), (2, .ref (b + 80)), (3, .int (nI sh)), (4, .int (nI ns))]) hx hb dX9_scoreShard_1 hl (by decide) rfl (fun ls hl => ?_)
  have loop3 : ∀ (n9 : Nat) (n : Nat), (nd - n) < n9 → (n ≤ nd) → ∀ (H : Heap) (locs : List Loc) (mem2 : Nat → va_E), mem2 a = .inr (2, [.ref (b + (a + 1)), .int (bI made), .int (nI ((fo (scD (st1 lim) sh ns (ptM pt pn) (ptS pt pn)) ((sdc, ssc, ssz), sd, sk, ps) 0 n).2.1)), .int (nI ((fo (scD (st1 lim) sh ns (ptM pt pn) (ptS pt pn)) ((sdc, ssc, ssz), sd, sk, ps) 0 n).2.2.1)), .int (nI ((fo (scD (st1 lim) sh ns (ptM pt pn) (ptS pt pn)) ((sdc, ssc, ssz), sd, sk, ps) 0 n).2.2.2))]) → mem2 93 = .inr (4, [.ref (b + 94), .ref (b + 95), .int (nI lim), .int (nI ((fo (scD (st1 lim) sh ns (ptM pt pn) (ptS pt pn)) ((sdc, ssc, ssz), sd, sk, ps) 0 n).1.2.2))]) → mem2 94 = aN Γ 20 ((fo (scD (st1 lim) sh ns (ptM pt pn) (ptS pt pn)) ((sdc, ssc, ssz), sd, sk, ps) 0 n).1.1) → mem2 95 = aD Γ 20 ((fo (scD (st1 lim) sh ns (ptM pt pn) (ptS pt pn)) ((sdc, ssc, ssz), sd, sk, ps) 0 n).1.2.1) → (∀ j, j ≠ a → j ≠ 93 → j ≠ 94 → j ≠ 95 → mem2 j = mem j) → GH Γ b M mem2 s H locs → ∀ (ls : Array Slot), lv_has ls 6 [(5, .int (nI n)), (0, .ref (b + 0)), (1, .ref (b + a)), (2, .ref (b + 80)), (3, .int (nI sh)), (4, .int (nI ns))] → W p l e ({ frames := 2, cells := 0, slots := 0, locals := 49 } : Room) s m args below meth c H locs 0 0 (MQ below (QC Γ b M (fun u => u a = .inr (2, [.ref (b + (a + 1)), .int (bI made), .int (nI ((fo (scD (st1 lim) sh ns (ptM pt pn) (ptS pt pn)) ((sdc, ssc, ssz), sd, sk, ps) 0 nd).2.1)), .int (nI ((fo (scD (st1 lim) sh ns (ptM pt pn) (ptS pt pn)) ((sdc, ssc, ssz), sd, sk, ps) 0 nd).2.2.1)), .int (nI ((fo (scD (st1 lim) sh ns (ptM pt pn) (ptS pt pn)) ((sdc, ssc, ssz), sd, sk, ps) 0 nd).2.2.2))]) ∧ u 93 = .inr (4, [.ref (b + 94), .ref (b + 95), .int (nI lim), .int (nI ((fo (scD (st1 lim) sh ns (ptM pt pn) (ptS pt pn)) ((sdc, ssc, ssz), sd, sk, ps) 0 nd).1.2.2))]) ∧ u 94 = aN Γ 20 ((fo (scD (st1 lim) sh ns (ptM pt pn) (ptS pt pn)) ((sdc, ssc, ssz), sd, sk, ps) 0 nd).1.1) ∧ u 95 = aD Γ 20 ((fo (scD (st1 lim) sh ns (ptM pt pn) (ptS pt pn)) ((sdc, ssc, ssz), sd, sk, ps) 0 nd).1.2.1) ∧ ∀ j, j ≠ a → j ≠ 93 → j ≠ 94 → j ≠ 95 → u j = mem j) none) args s 0 0 (fun q => b ≤ q)) (F0 m 3 ls []) := by
    intro n9
    induction n9 with
    | zero => intro n hn; exact absurd hn (Nat.not_lt_zero _)
    | succ n9 ih =>
      intro n hn hn0 H locs mem1 f3 f4 f5 f6 hfr2 hh ls hl
      have f7 : mem1 0 = .inr (8, [.ref (b + 1), .ref (b + 72), .ref (b + 75), .ref (b + 78), .ref (b + 80), .ref (b + 91), .ref (b + 93), .ref (b + 96), .ref (b + 109)]) := (hfr2 _ (by omega) (by omega) (by omega) (by omega)).trans fH
      have f8 : mem1 1 = .inr (0, [.ref (b + 2), .ref (b + 19), .ref (b + 20), .ref (b + 37), .ref (b + 38), .int (nI nd)]) := (hfr2 _ (by omega) (by omega) (by omega) (by omega)).trans fC
      have f9 : mem1 80 = .inr (3, [.ref (b + 81), .ref (b + 86), .int (nI pn)]) := (hfr2 _ (by omega) (by omega) (by omega) (by omega)).trans fP
      have f10 : mem1 81 = aR Γ 9 4 (fun i => some (b + (82 + i))) := (hfr2 _ (by omega) (by omega) (by omega) (by omega)).trans fPo
      have f11 : ∀ z9, z9 < 4 → mem1 (82 + z9) = aD Γ 16 (pt z9) := fun z9 hz9 => (hfr2 _ (by omega) (by omega) (by omega) (by omega)).trans (fpt z9 hz9)
      have ho := scF_ok (lim := lim) (sh := sh) (ns := ns) (mt := (ptM pt pn)) (so := (ptS pt pn)) (E := ((sdc, ssc, ssz), sd, sk, ps)) (n := n) (by omega) hok
      have ho2 : (fo (scD (st1 lim) sh ns (ptM pt pn) (ptS pt pn)) ((sdc, ssc, ssz), sd, sk, ps) 0 n).1.2.2 ≤ lim := ho.2
      have hz0 : 0 + n = n := Nat.zero_add n
      have ih12 := ih
      refine lv_iload hx hb dX9_scoreShard_3 (lv_at hl 0 rfl) ?_
      refine lv_aload_n hx hb dX9_scoreShard_5 rfl (lv_at hl 1 rfl) ?_
      refine gf_X9_collection hx hb hE hown hh (by omega) f7 rfl dX9_scoreShard_6 ?_
      refine mm_V0r (As := []) (rest := [.int (nI n)]) hx hb hml hown hE hl.1 hh (kc_X9_304 hE.2.1 ⟨Nat.le_of_ble_eq_true rfl, Nat.le_of_ble_eq_true rfl⟩) (c_X0_size l Γ b M mem1 (nd := nd) (by omega) f8) rfl (by omega) f8 rfl rfl (Nat.le_of_ble_eq_true rfl) dX9_scoreShard_9 rfl rfl (fun H locs hh => ?_)
      refine nn_icmp_ge (tgt := 60) hx hb dX9_scoreShard_12 (by decide) (by omega) (by omega) (fun h13 => ?_) (fun h13 => ?_)
      ·
        obtain rfl : n = nd := by omega
        exact mm_vret hx hb hr hlocks hE hh (⟨f3, f4, f5, f6, hfr2⟩) dX9_scoreShard_60
      ·
        refine lv_iload hx hb dX9_scoreShard_15 (lv_at hl 0 rfl) ?_
        refine lv_iload_n hx hb dX9_scoreShard_17 rfl (lv_at hl 4 rfl) ?_
        refine lv_iload hx hb dX9_scoreShard_18 (lv_at hl 5 rfl) ?_
        refine mm_S0r (As := [.int (nI n), .int (nI sh), .int (nI ns)]) (rest := []) hx hb hml hown hE hl.1 hh (kc_X9_305 hE.2.1 ⟨Nat.le_of_ble_eq_true rfl, Nat.le_of_ble_eq_true rfl⟩) (c_X9_isOfShard l Γ b M mem1 (d := n) (k := sh) (n := ns) (by omega) (by omega) (by omega)) rfl rfl (Nat.le_of_ble_eq_true rfl) dX9_scoreShard_20 rfl rfl (fun H locs hh => ?_)
        refine nn_beq (tgt := 54) hx hb dX9_scoreShard_23 (by decide) (fun h14 => ?_) (fun h14 => ?_)
        ·
          have hn1 : (fo (scD (st1 lim) sh ns (ptM pt pn) (ptS pt pn)) ((sdc, ssc, ssz), sd, sk, ps) 0 (n + 1)) = _ := (congrArg (fun z8 => (scD (st1 lim) sh ns (ptM pt pn) (ptS pt pn)) z8 (fo (scD (st1 lim) sh ns (ptM pt pn) (ptS pt pn)) ((sdc, ssc, ssz), sd, sk, ps) 0 n)) hz0).trans (scD_0 h14)
          refine nn_iinc (x := n) (d := 1) (lv' := [(5, .int (nI (n + 1))), (0, .ref (b + 0)), (1, .ref (b + a)), (2, .ref (b + 80)), (3, .int (nI sh)), (4, .int (nI ns))]) hx hb dX9_scoreShard_54 hl (k := 0) rfl (by decide) (by decide) rfl (fun ls hl => ?_)
          refine lv_goto (tgt := 3) hx hb dX9_scoreShard_57 (by decide) ?_
          exact ih12 (n + 1) (by omega) (by omega) _ _ mem1 (by rw [hn1]; exact f3) (by rw [hn1]; exact f4) (by rw [hn1]; exact f5) (by rw [hn1]; exact f6) hfr2 hh ls (lv_sub hl [0, 1, 2, 3, 4, 5] rfl)
        ·
          have g1 := h14
          refine lv_aload_n hx hb dX9_scoreShard_26 rfl (lv_at hl 3 rfl) ?_
          refine lv_iload hx hb dX9_scoreShard_27 (lv_at hl 0 rfl) ?_
          refine mm_VU0r (As := [.int (nI n)]) (rest := []) hx hb hml hown hE hl.1 hh (kc_X9_309_X3 hE.2.1 hE.2.2.1 ⟨Nat.le_of_ble_eq_true rfl, Nat.le_of_ble_eq_true rfl⟩) (c_X3_matches l Γ b M mem1 (pn := pn) (pt := pt) (bd := default) (d := n) (by omega) f9 f10 f11 (by omega) (by omega)) rfl (by omega) f9 rfl rfl (Nat.le_of_ble_eq_true rfl) dX9_scoreShard_29 rfl rfl (fun H locs hh => ?_)
          refine nn_beq (tgt := 54) hx hb dX9_scoreShard_32 (by decide) (fun h15 => ?_) (fun h15 => ?_)
          ·
            have hn1 : (fo (scD (st1 lim) sh ns (ptM pt pn) (ptS pt pn)) ((sdc, ssc, ssz), sd, sk, ps) 0 (n + 1)) = _ := (congrArg (fun z8 => (scD (st1 lim) sh ns (ptM pt pn) (ptS pt pn)) z8 (fo (scD (st1 lim) sh ns (ptM pt pn) (ptS pt pn)) ((sdc, ssc, ssz), sd, sk, ps) 0 n)) hz0).trans (scD_1 g1 h15)
            refine nn_iinc (x := n) (d := 1) (lv' := [(5, .int (nI (n + 1))), (0, .ref (b + 0)), (1, .ref (b + a)), (2, .ref (b + 80)), (3, .int (nI sh)), (4, .int (nI ns))]) hx hb dX9_scoreShard_54 hl (k := 0) rfl (by decide) (by decide) rfl (fun ls hl => ?_)
            refine lv_goto (tgt := 3) hx hb dX9_scoreShard_57 (by decide) ?_
            exact ih12 (n + 1) (by omega) (by omega) _ _ mem1 (by rw [hn1]; exact f3) (by rw [hn1]; exact f4) (by rw [hn1]; exact f5) (by rw [hn1]; exact f6) hfr2 hh ls (lv_sub hl [0, 1, 2, 3, 4, 5] rfl)
          ·
            have hn1 : (fo (scD (st1 lim) sh ns (ptM pt pn) (ptS pt pn)) ((sdc, ssc, ssz), sd, sk, ps) 0 (n + 1)) = _ := (congrArg (fun z8 => (scD (st1 lim) sh ns (ptM pt pn) (ptS pt pn)) z8 (fo (scD (st1 lim) sh ns (ptM pt pn) (ptS pt pn)) ((sdc, ssc, ssz), sd, sk, ps) 0 n)) hz0).trans (scD_2 g1 h15)
            refine lv_aload_n hx hb dX9_scoreShard_35 rfl (lv_at hl 2 rfl) ?_
            refine mm_V0 (As := []) (rest := []) hx hb hml hown hE hl.1 hh (kc_X9_314 hE.2.1 ⟨Nat.le_of_ble_eq_true rfl, Nat.le_of_ble_eq_true rfl⟩) (c_X2_addScored l Γ b M mem1 (a := a) (sd := (fo (scD (st1 lim) sh ns (ptM pt pn) (ptS pt pn)) ((sdc, ssc, ssz), sd, sk, ps) 0 n).2.1) (sk := (fo (scD (st1 lim) sh ns (ptM pt pn) (ptS pt pn)) ((sdc, ssc, ssz), sd, sk, ps) 0 n).2.2.1) (ps := (fo (scD (st1 lim) sh ns (ptM pt pn) (ptS pt pn)) ((sdc, ssc, ssz), sd, sk, ps) 0 n).2.2.2) (made := made) (by omega) f3) rfl (by omega) f3 rfl rfl (Nat.le_of_ble_eq_true rfl) dX9_scoreShard_36 rfl rfl (fun H locs mem16 hP17 hh => ?_)
            obtain ⟨f18, k19⟩ := hP17
            have hfr20 : ∀ j, j ≠ a → j ≠ 93 → j ≠ 94 → j ≠ 95 → mem16 j = mem j := fun j c0 c1 c2 c3 => (k19 j (by omega)).trans (hfr2 j c0 c1 c2 c3)
            have f21 : mem16 93 = .inr (4, [.ref (b + 94), .ref (b + 95), .int (nI lim), .int (nI ((fo (scD (st1 lim) sh ns (ptM pt pn) (ptS pt pn)) ((sdc, ssc, ssz), sd, sk, ps) 0 n).1.2.2))]) := (k19 _ (by omega)).trans f4
            have f22 : mem16 94 = aN Γ 20 ((fo (scD (st1 lim) sh ns (ptM pt pn) (ptS pt pn)) ((sdc, ssc, ssz), sd, sk, ps) 0 n).1.1) := (k19 _ (by omega)).trans f5
            have f23 : mem16 95 = aD Γ 20 ((fo (scD (st1 lim) sh ns (ptM pt pn) (ptS pt pn)) ((sdc, ssc, ssz), sd, sk, ps) 0 n).1.2.1) := (k19 _ (by omega)).trans f6
            have f24 : mem16 0 = .inr (8, [.ref (b + 1), .ref (b + 72), .ref (b + 75), .ref (b + 78), .ref (b + 80), .ref (b + 91), .ref (b + 93), .ref (b + 96), .ref (b + 109)]) := (k19 _ (by omega)).trans f7
            have f25 : mem16 1 = .inr (0, [.ref (b + 2), .ref (b + 19), .ref (b + 20), .ref (b + 37), .ref (b + 38), .int (nI nd)]) := (k19 _ (by omega)).trans f8
            have f26 : mem16 80 = .inr (3, [.ref (b + 81), .ref (b + 86), .int (nI pn)]) := (k19 _ (by omega)).trans f9
            have f27 : mem16 81 = aR Γ 9 4 (fun i => some (b + (82 + i))) := (k19 _ (by omega)).trans f10
            have f28 : ∀ z9, z9 < 4 → mem16 (82 + z9) = aD Γ 16 (pt z9) := fun z9 hz9 => (k19 _ (by omega)).trans (f11 z9 hz9)
            refine lv_aload_n hx hb dX9_scoreShard_39 rfl (lv_at hl 1 rfl) ?_
            refine gf_X9_shardRanking hx hb hE hown hh (by omega) f24 rfl dX9_scoreShard_40 ?_
            refine lv_iload hx hb dX9_scoreShard_43 (lv_at hl 0 rfl) ?_
            refine lv_aload_n hx hb dX9_scoreShard_45 rfl (lv_at hl 3 rfl) ?_
            refine lv_iload hx hb dX9_scoreShard_46 (lv_at hl 0 rfl) ?_
            refine mm_VU0r (As := [.int (nI n)]) (rest := [.int (nI n), .ref (b + 93)]) hx hb hml hown hE hl.1 hh (kc_X9_317_X3 hE.2.1 hE.2.2.1 ⟨Nat.le_of_ble_eq_true rfl, Nat.le_of_ble_eq_true rfl⟩) (c_X3_scoreOf l Γ b M mem16 (pn := pn) (pt := pt) (bd := default) (d := n) (by omega) f26 f27 f28 (by omega) (by omega) (fun i hi => hpb i _ hi (by omega))) rfl (by omega) f26 rfl rfl (Nat.le_of_ble_eq_true rfl) dX9_scoreShard_48 rfl rfl (fun H locs hh => ?_)
            refine mm_V0 (As := [.int (nI n), .double (suG (cG pt n) (fun i => pt i n) pn)]) (rest := []) hx hb hml hown hE hl.1 hh (kc_X9_320 hE.2.1 ⟨Nat.le_of_ble_eq_true rfl, Nat.le_of_ble_eq_true rfl⟩) (c_X4_offer l Γ b M mem16 (a := 93) (lim := lim) (sz := (fo (scD (st1 lim) sh ns (ptM pt pn) (ptS pt pn)) ((sdc, ssc, ssz), sd, sk, ps) 0 n).1.2.2) (d := n) (x := suG (cG pt n) (fun i => pt i n) pn) (dc := (fo (scD (st1 lim) sh ns (ptM pt pn) (ptS pt pn)) ((sdc, ssc, ssz), sd, sk, ps) 0 n).1.1) (sc := (fo (scD (st1 lim) sh ns (ptM pt pn) (ptS pt pn)) ((sdc, ssc, ssz), sd, sk, ps) 0 n).1.2.1) (by omega) f21 f22 f23 (by omega) (by omega) (by omega) (ho.1)) rfl (by omega) f21 rfl rfl (Nat.le_of_ble_eq_true rfl) dX9_scoreShard_51 rfl rfl (fun H locs mem29 hP30 hh => ?_)
            obtain ⟨f31, f32, f33, k34⟩ := hP30
            have hfr35 : ∀ j, j ≠ a → j ≠ 93 → j ≠ 94 → j ≠ 95 → mem29 j = mem j := fun j c0 c1 c2 c3 => (k34 j (by omega) (by omega) (by omega)).trans (hfr20 j c0 c1 c2 c3)
            have f36 : mem29 a = .inr (2, [.ref (b + (a + 1)), .int (bI made), .int (nI (((fo (scD (st1 lim) sh ns (ptM pt pn) (ptS pt pn)) ((sdc, ssc, ssz), sd, sk, ps) 0 n).2.1) + 1)), .int (nI ((fo (scD (st1 lim) sh ns (ptM pt pn) (ptS pt pn)) ((sdc, ssc, ssz), sd, sk, ps) 0 n).2.2.1)), .int (nI ((fo (scD (st1 lim) sh ns (ptM pt pn) (ptS pt pn)) ((sdc, ssc, ssz), sd, sk, ps) 0 n).2.2.2))]) := (k34 _ (by omega) (by omega) (by omega)).trans f18
            have f37 : mem29 0 = .inr (8, [.ref (b + 1), .ref (b + 72), .ref (b + 75), .ref (b + 78), .ref (b + 80), .ref (b + 91), .ref (b + 93), .ref (b + 96), .ref (b + 109)]) := (k34 _ (by omega) (by omega) (by omega)).trans f24
            have f38 : mem29 1 = .inr (0, [.ref (b + 2), .ref (b + 19), .ref (b + 20), .ref (b + 37), .ref (b + 38), .int (nI nd)]) := (k34 _ (by omega) (by omega) (by omega)).trans f25
            have f39 : mem29 80 = .inr (3, [.ref (b + 81), .ref (b + 86), .int (nI pn)]) := (k34 _ (by omega) (by omega) (by omega)).trans f26
            have f40 : mem29 81 = aR Γ 9 4 (fun i => some (b + (82 + i))) := (k34 _ (by omega) (by omega) (by omega)).trans f27
            have f41 : ∀ z9, z9 < 4 → mem29 (82 + z9) = aD Γ 16 (pt z9) := fun z9 hz9 => (k34 _ (by omega) (by omega) (by omega)).trans (f28 z9 hz9)
            refine nn_iinc (x := n) (d := 1) (lv' := [(5, .int (nI (n + 1))), (0, .ref (b + 0)), (1, .ref (b + a)), (2, .ref (b + 80)), (3, .int (nI sh)), (4, .int (nI ns))]) hx hb dX9_scoreShard_54 hl (k := 0) rfl (by decide) (by decide) rfl (fun ls hl => ?_)
            refine lv_goto (tgt := 3) hx hb dX9_scoreShard_57 (by decide) ?_
            exact ih12 (n + 1) (by omega) (by omega) _ _ mem29 (by rw [hn1]; exact f36) (by rw [hn1]; exact f31) (by rw [hn1]; exact f32) (by rw [hn1]; exact f33) hfr35 hh ls (lv_sub hl [0, 1, 2, 3, 4, 5] rfl)
  exact loop3 ((nd - 0) + 1) 0 (by omega) (by omega) _ _ mem (fl) (fs0) (fs1) (fs2) hfr hh ls (lv_sub hl [0, 1, 2, 3, 4, 5] rfl)
set_option maxHeartbeats 4000000 in
set_option maxRecDepth 100000 in
/-- scoreShard, c_X9_scoreShardV -/
theorem c_X9_scoreShardV (l : Launch) (Γ : Gm) (b M : Nat) (mem : Nat → va_E) {a lim nd sh ns sd sk ps ssz : Nat} {made : Bool} {sdc : Nat → Nat} {ssc : Nat → UInt64}{near : Bool} {cz vz : Nat} {wa : Nat → Bool} {cf vf : Nat → UInt32} {tz : Nat → Nat} {tf : Nat → Nat → UInt32} (hM : 138 ≤ M) (ha : 97 ≤ a ∧ a + 4 ≤ 109) (fH : mem 0 = .inr (8, [.ref (b + 1), .ref (b + 72), .ref (b + 75), .ref (b + 78), .ref (b + 80), .ref (b + 91), .ref (b + 93), .ref (b + 96), .ref (b + 109)])) (fC : mem 1 = .inr (0, [.ref (b + 2), .ref (b + 19), .ref (b + 20), .ref (b + 37), .ref (b + 38), .int (nI nd)])) (fl : mem a = .inr (2, [.ref (b + (a + 1)), .int (bI made), .int (nI sd), .int (nI sk), .int (nI ps)])) (fs0 : mem 93 = .inr (4, [.ref (b + 94), .ref (b + 95), .int (nI lim), .int (nI ssz)])) (fs1 : mem 94 = aN Γ 20 sdc) (fs2 : mem 95 = aD Γ 20 ssc) (hnd : nd ≤ 16) (hsh : sh < 2 ^ 31) (hns : 0 < ns ∧ ns < 2 ^ 31) (hok : tOK lim (sdc, ssc, ssz)) (hlim : lim ≤ 20) (fS : mem 91 = .inr (7, [.ref (b + 1), .ref (b + 78), .ref (b + 92), .int (bI near)])) (fSw : mem 92 = aB Γ 4 wa) (fTo : mem 37 = aR Γ 6 16 (fun i => some (b + (40 + 2 * i)))) (ftz : ∀ z9, z9 < 16 → mem (40 + 2 * z9) = .inr (6, [.ref (b + (40 + 2 * z9 + 1)), .int (nI 4), .int (nI (tz z9))])) (ftf : ∀ z9, z9 < 16 → mem (40 + 2 * z9 + 1) = aF Γ 16 (tf z9)) (fZ : mem 38 = .inr (6, [.ref (b + 39), .int (nI 4), .int (nI cz)])) (fZf : mem 39 = aF Γ 16 cf) (fV : mem 78 = .inr (6, [.ref (b + 79), .int (nI 3), .int (nI vz)])) (fVf : mem 79 = aF Γ 12 vf) (hcz : cz ≤ 4) (hvz : vz ≤ 3) (htz : ∀ d, tz d ≤ 4) (hcf : gdF cf) (hvf : gdF vf) (htf : ∀ d, gdF (tf d)) : Ct l yX9_scoreShard (.code yX9_scoreShard cX9_scoreShard 6 none) ({ frames := 4, cells := 0, slots := 0, locals := 96 } : Room) Γ b M [.ref (b + 0), .ref (b + a), .ref (b + 91), .int (nI sh), .int (nI ns)] mem (fun u => u a = .inr (2, [.ref (b + (a + 1)), .int (bI made), .int (nI ((fo (scD (st1 lim) sh ns (veM near cz wa tf cf tz vz) (veS vf tf tz vz)) ((sdc, ssc, ssz), sd, sk, ps) 0 nd).2.1)), .int (nI ((fo (scD (st1 lim) sh ns (veM near cz wa tf cf tz vz) (veS vf tf tz vz)) ((sdc, ssc, ssz), sd, sk, ps) 0 nd).2.2.1)), .int (nI ((fo (scD (st1 lim) sh ns (veM near cz wa tf cf tz vz) (veS vf tf tz vz)) ((sdc, ssc, ssz), sd, sk, ps) 0 nd).2.2.2))]) ∧ u 93 = .inr (4, [.ref (b + 94), .ref (b + 95), .int (nI lim), .int (nI ((fo (scD (st1 lim) sh ns (veM near cz wa tf cf tz vz) (veS vf tf tz vz)) ((sdc, ssc, ssz), sd, sk, ps) 0 nd).1.2.2))]) ∧ u 94 = aN Γ 20 ((fo (scD (st1 lim) sh ns (veM near cz wa tf cf tz vz) (veS vf tf tz vz)) ((sdc, ssc, ssz), sd, sk, ps) 0 nd).1.1) ∧ u 95 = aD Γ 20 ((fo (scD (st1 lim) sh ns (veM near cz wa tf cf tz vz) (veS vf tf tz vz)) ((sdc, ssc, ssz), sd, sk, ps) 0 nd).1.2.1) ∧ ∀ j, j ≠ a → j ≠ 93 → j ≠ 94 → j ≠ 95 → u j = mem j) none := by
  refine mm_enter (cc := cX9_scoreShard) (by decide) (Nat.le_of_ble_eq_true rfl) ?_
  intro p e s m args below meth c ls hx hb hml hown hr hlocks hname hE hh hl
  have hl : lv_has ls 6 [(0, .ref (b + 0)), (1, .ref (b + a)), (2, .ref (b + 91)), (3, .int (nI sh)), (4, .int (nI ns))] := hl
  have hfr : ∀ j, j ≠ a → j ≠ 93 → j ≠ 94 → j ≠ 95 → mem j = mem j := fun j _ _ _ _ => rfl
  refine lv_iconst (v := (nI 0)) hx hb dX9_scoreShard_0 (by decide) ?_
  refine lv_istore (lv' := [(5, .int (nI 0)), (0, .ref (b + 0)), (1, .ref (b + a)), (2, .ref (b + 91)), (3, .int (nI sh)), (4, .int (nI ns))]) hx hb dX9_scoreShard_1 hl (by decide) rfl (fun ls hl => ?_)
  have loop3 : ∀ (n9 : Nat) (n : Nat), (nd - n) < n9 → (n ≤ nd) → ∀ (H : Heap) (locs : List Loc) (mem2 : Nat → va_E), mem2 a = .inr (2, [.ref (b + (a + 1)), .int (bI made), .int (nI ((fo (scD (st1 lim) sh ns (veM near cz wa tf cf tz vz) (veS vf tf tz vz)) ((sdc, ssc, ssz), sd, sk, ps) 0 n).2.1)), .int (nI ((fo (scD (st1 lim) sh ns (veM near cz wa tf cf tz vz) (veS vf tf tz vz)) ((sdc, ssc, ssz), sd, sk, ps) 0 n).2.2.1)), .int (nI ((fo (scD (st1 lim) sh ns (veM near cz wa tf cf tz vz) (veS vf tf tz vz)) ((sdc, ssc, ssz), sd, sk, ps) 0 n).2.2.2))]) → mem2 93 = .inr (4, [.ref (b + 94), .ref (b + 95), .int (nI lim), .int (nI ((fo (scD (st1 lim) sh ns (veM near cz wa tf cf tz vz) (veS vf tf tz vz)) ((sdc, ssc, ssz), sd, sk, ps) 0 n).1.2.2))]) → mem2 94 = aN Γ 20 ((fo (scD (st1 lim) sh ns (veM near cz wa tf cf tz vz) (veS vf tf tz vz)) ((sdc, ssc, ssz), sd, sk, ps) 0 n).1.1) → mem2 95 = aD Γ 20 ((fo (scD (st1 lim) sh ns (veM near cz wa tf cf tz vz) (veS vf tf tz vz)) ((sdc, ssc, ssz), sd, sk, ps) 0 n).1.2.1) → (∀ j, j ≠ a → j ≠ 93 → j ≠ 94 → j ≠ 95 → mem2 j = mem j) → GH Γ b M mem2 s H locs → ∀ (ls : Array Slot), lv_has ls 6 [(5, .int (nI n)), (0, .ref (b + 0)), (1, .ref (b + a)), (2, .ref (b + 91)), (3, .int (nI sh)), (4, .int (nI ns))] → W p l e ({ frames := 4, cells := 0, slots := 0, locals := 96 } : Room) s m args below meth c H locs 0 0 (MQ below (QC Γ b M (fun u => u a = .inr (2, [.ref (b + (a + 1)), .int (bI made), .int (nI ((fo (scD (st1 lim) sh ns (veM near cz wa tf cf tz vz) (veS vf tf tz vz)) ((sdc, ssc, ssz), sd, sk, ps) 0 nd).2.1)), .int (nI ((fo (scD (st1 lim) sh ns (veM near cz wa tf cf tz vz) (veS vf tf tz vz)) ((sdc, ssc, ssz), sd, sk, ps) 0 nd).2.2.1)), .int (nI ((fo (scD (st1 lim) sh ns (veM near cz wa tf cf tz vz) (veS vf tf tz vz)) ((sdc, ssc, ssz), sd, sk, ps) 0 nd).2.2.2))]) ∧ u 93 = .inr (4, [.ref (b + 94), .ref (b + 95), .int (nI lim), .int (nI ((fo (scD (st1 lim) sh ns (veM near cz wa tf cf tz vz) (veS vf tf tz vz)) ((sdc, ssc, ssz), sd, sk, ps) 0 nd).1.2.2))]) ∧ u 94 = aN Γ 20 ((fo (scD (st1 lim) sh ns (veM near cz wa tf cf tz vz) (veS vf tf tz vz)) ((sdc, ssc, ssz), sd, sk, ps) 0 nd).1.1) ∧ u 95 = aD Γ 20 ((fo (scD (st1 lim) sh ns (veM near cz wa tf cf tz vz) (veS vf tf tz vz)) ((sdc, ssc, ssz), sd, sk, ps) 0 nd).1.2.1) ∧ ∀ j, j ≠ a → j ≠ 93 → j ≠ 94 → j ≠ 95 → u j = mem j) none) args s 0 0 (fun q => b ≤ q)) (F0 m 3 ls []) := by
    intro n9
    induction n9 with
    | zero => intro n hn; exact absurd hn (Nat.not_lt_zero _)
    | succ n9 ih =>
      intro n hn hn0 H locs mem1 f3 f4 f5 f6 hfr2 hh ls hl
      have f7 : mem1 0 = .inr (8, [.ref (b + 1), .ref (b + 72), .ref (b + 75), .ref (b + 78), .ref (b + 80), .ref (b + 91), .ref (b + 93), .ref (b + 96), .ref (b + 109)]) := (hfr2 _ (by omega) (by omega) (by omega) (by omega)).trans fH
      have f8 : mem1 1 = .inr (0, [.ref (b + 2), .ref (b + 19), .ref (b + 20), .ref (b + 37), .ref (b + 38), .int (nI nd)]) := (hfr2 _ (by omega) (by omega) (by omega) (by omega)).trans fC
      have f9 : mem1 91 = .inr (7, [.ref (b + 1), .ref (b + 78), .ref (b + 92), .int (bI near)]) := (hfr2 _ (by omega) (by omega) (by omega) (by omega)).trans fS
      have f10 : mem1 92 = aB Γ 4 wa := (hfr2 _ (by omega) (by omega) (by omega) (by omega)).trans fSw
      have f11 : mem1 37 = aR Γ 6 16 (fun i => some (b + (40 + 2 * i))) := (hfr2 _ (by omega) (by omega) (by omega) (by omega)).trans fTo
      have f12 : mem1 38 = .inr (6, [.ref (b + 39), .int (nI 4), .int (nI cz)]) := (hfr2 _ (by omega) (by omega) (by omega) (by omega)).trans fZ
      have f13 : mem1 39 = aF Γ 16 cf := (hfr2 _ (by omega) (by omega) (by omega) (by omega)).trans fZf
      have f14 : mem1 78 = .inr (6, [.ref (b + 79), .int (nI 3), .int (nI vz)]) := (hfr2 _ (by omega) (by omega) (by omega) (by omega)).trans fV
      have f15 : mem1 79 = aF Γ 12 vf := (hfr2 _ (by omega) (by omega) (by omega) (by omega)).trans fVf
      have f16 : ∀ z9, z9 < 16 → mem1 (40 + 2 * z9) = .inr (6, [.ref (b + (40 + 2 * z9 + 1)), .int (nI 4), .int (nI (tz z9))]) := fun z9 hz9 => (hfr2 _ (by omega) (by omega) (by omega) (by omega)).trans (ftz z9 hz9)
      have f17 : ∀ z9, z9 < 16 → mem1 (40 + 2 * z9 + 1) = aF Γ 16 (tf z9) := fun z9 hz9 => (hfr2 _ (by omega) (by omega) (by omega) (by omega)).trans (ftf z9 hz9)
      have ho := scF_ok (lim := lim) (sh := sh) (ns := ns) (mt := (veM near cz wa tf cf tz vz)) (so := (veS vf tf tz vz)) (E := ((sdc, ssc, ssz), sd, sk, ps)) (n := n) (by omega) hok
      have ho2 : (fo (scD (st1 lim) sh ns (veM near cz wa tf cf tz vz) (veS vf tf tz vz)) ((sdc, ssc, ssz), sd, sk, ps) 0 n).1.2.2 ≤ lim := ho.2
      have hz0 : 0 + n = n := Nat.zero_add n
      have ih18 := ih
      refine lv_iload hx hb dX9_scoreShard_3 (lv_at hl 0 rfl) ?_
      refine lv_aload_n hx hb dX9_scoreShard_5 rfl (lv_at hl 1 rfl) ?_
      refine gf_X9_collection hx hb hE hown hh (by omega) f7 rfl dX9_scoreShard_6 ?_
      refine mm_V0r (As := []) (rest := [.int (nI n)]) hx hb hml hown hE hl.1 hh (kc_X9_304 hE.2.1 ⟨Nat.le_of_ble_eq_true rfl, Nat.le_of_ble_eq_true rfl⟩) (c_X0_size l Γ b M mem1 (nd := nd) (by omega) f8) rfl (by omega) f8 rfl rfl (Nat.le_of_ble_eq_true rfl) dX9_scoreShard_9 rfl rfl (fun H locs hh => ?_)
      refine nn_icmp_ge (tgt := 60) hx hb dX9_scoreShard_12 (by decide) (by omega) (by omega) (fun h19 => ?_) (fun h19 => ?_)
      ·
        obtain rfl : n = nd := by omega
        exact mm_vret hx hb hr hlocks hE hh (⟨f3, f4, f5, f6, hfr2⟩) dX9_scoreShard_60
      ·
        refine lv_iload hx hb dX9_scoreShard_15 (lv_at hl 0 rfl) ?_
        refine lv_iload_n hx hb dX9_scoreShard_17 rfl (lv_at hl 4 rfl) ?_
        refine lv_iload hx hb dX9_scoreShard_18 (lv_at hl 5 rfl) ?_
        refine mm_S0r (As := [.int (nI n), .int (nI sh), .int (nI ns)]) (rest := []) hx hb hml hown hE hl.1 hh (kc_X9_305 hE.2.1 ⟨Nat.le_of_ble_eq_true rfl, Nat.le_of_ble_eq_true rfl⟩) (c_X9_isOfShard l Γ b M mem1 (d := n) (k := sh) (n := ns) (by omega) (by omega) (by omega)) rfl rfl (Nat.le_of_ble_eq_true rfl) dX9_scoreShard_20 rfl rfl (fun H locs hh => ?_)
        refine nn_beq (tgt := 54) hx hb dX9_scoreShard_23 (by decide) (fun h20 => ?_) (fun h20 => ?_)
        ·
          have hn1 : (fo (scD (st1 lim) sh ns (veM near cz wa tf cf tz vz) (veS vf tf tz vz)) ((sdc, ssc, ssz), sd, sk, ps) 0 (n + 1)) = _ := (congrArg (fun z8 => (scD (st1 lim) sh ns (veM near cz wa tf cf tz vz) (veS vf tf tz vz)) z8 (fo (scD (st1 lim) sh ns (veM near cz wa tf cf tz vz) (veS vf tf tz vz)) ((sdc, ssc, ssz), sd, sk, ps) 0 n)) hz0).trans (scD_0 h20)
          refine nn_iinc (x := n) (d := 1) (lv' := [(5, .int (nI (n + 1))), (0, .ref (b + 0)), (1, .ref (b + a)), (2, .ref (b + 91)), (3, .int (nI sh)), (4, .int (nI ns))]) hx hb dX9_scoreShard_54 hl (k := 0) rfl (by decide) (by decide) rfl (fun ls hl => ?_)
          refine lv_goto (tgt := 3) hx hb dX9_scoreShard_57 (by decide) ?_
          exact ih18 (n + 1) (by omega) (by omega) _ _ mem1 (by rw [hn1]; exact f3) (by rw [hn1]; exact f4) (by rw [hn1]; exact f5) (by rw [hn1]; exact f6) hfr2 hh ls (lv_sub hl [0, 1, 2, 3, 4, 5] rfl)
        ·
          have g1 := h20
          refine lv_aload_n hx hb dX9_scoreShard_26 rfl (lv_at hl 3 rfl) ?_
          refine lv_iload hx hb dX9_scoreShard_27 (lv_at hl 0 rfl) ?_
          refine mm_VU0r (As := [.int (nI n)]) (rest := []) hx hb hml hown hE hl.1 hh (kc_X9_309_X8 hE.2.1 hE.2.2.1 ⟨Nat.le_of_ble_eq_true rfl, Nat.le_of_ble_eq_true rfl⟩) (c_X8_matches l Γ b M mem1 (near := near) (nd := nd) (cz := cz) (vz := vz) (d := n) (wa := wa) (cf := cf) (vf := vf) (tz := tz) (tf := tf) (by omega) f9 f10 f8 f11 f16 f17 f12 f13 f14 f15 (by omega) (by omega) (htz) (hcf) (hvf) (htf) (by omega)) rfl (by omega) f9 rfl rfl (Nat.le_of_ble_eq_true rfl) dX9_scoreShard_29 rfl rfl (fun H locs hh => ?_)
          refine nn_beq (tgt := 54) hx hb dX9_scoreShard_32 (by decide) (fun h21 => ?_) (fun h21 => ?_)
          ·
            have hn1 : (fo (scD (st1 lim) sh ns (veM near cz wa tf cf tz vz) (veS vf tf tz vz)) ((sdc, ssc, ssz), sd, sk, ps) 0 (n + 1)) = _ := (congrArg (fun z8 => (scD (st1 lim) sh ns (veM near cz wa tf cf tz vz) (veS vf tf tz vz)) z8 (fo (scD (st1 lim) sh ns (veM near cz wa tf cf tz vz) (veS vf tf tz vz)) ((sdc, ssc, ssz), sd, sk, ps) 0 n)) hz0).trans (scD_1 g1 h21)
            refine nn_iinc (x := n) (d := 1) (lv' := [(5, .int (nI (n + 1))), (0, .ref (b + 0)), (1, .ref (b + a)), (2, .ref (b + 91)), (3, .int (nI sh)), (4, .int (nI ns))]) hx hb dX9_scoreShard_54 hl (k := 0) rfl (by decide) (by decide) rfl (fun ls hl => ?_)
            refine lv_goto (tgt := 3) hx hb dX9_scoreShard_57 (by decide) ?_
            exact ih18 (n + 1) (by omega) (by omega) _ _ mem1 (by rw [hn1]; exact f3) (by rw [hn1]; exact f4) (by rw [hn1]; exact f5) (by rw [hn1]; exact f6) hfr2 hh ls (lv_sub hl [0, 1, 2, 3, 4, 5] rfl)
          ·
            have hn1 : (fo (scD (st1 lim) sh ns (veM near cz wa tf cf tz vz) (veS vf tf tz vz)) ((sdc, ssc, ssz), sd, sk, ps) 0 (n + 1)) = _ := (congrArg (fun z8 => (scD (st1 lim) sh ns (veM near cz wa tf cf tz vz) (veS vf tf tz vz)) z8 (fo (scD (st1 lim) sh ns (veM near cz wa tf cf tz vz) (veS vf tf tz vz)) ((sdc, ssc, ssz), sd, sk, ps) 0 n)) hz0).trans (scD_2 g1 h21)
            refine lv_aload_n hx hb dX9_scoreShard_35 rfl (lv_at hl 2 rfl) ?_
            refine mm_V0 (As := []) (rest := []) hx hb hml hown hE hl.1 hh (kc_X9_314 hE.2.1 ⟨Nat.le_of_ble_eq_true rfl, Nat.le_of_ble_eq_true rfl⟩) (c_X2_addScored l Γ b M mem1 (a := a) (sd := (fo (scD (st1 lim) sh ns (veM near cz wa tf cf tz vz) (veS vf tf tz vz)) ((sdc, ssc, ssz), sd, sk, ps) 0 n).2.1) (sk := (fo (scD (st1 lim) sh ns (veM near cz wa tf cf tz vz) (veS vf tf tz vz)) ((sdc, ssc, ssz), sd, sk, ps) 0 n).2.2.1) (ps := (fo (scD (st1 lim) sh ns (veM near cz wa tf cf tz vz) (veS vf tf tz vz)) ((sdc, ssc, ssz), sd, sk, ps) 0 n).2.2.2) (made := made) (by omega) f3) rfl (by omega) f3 rfl rfl (Nat.le_of_ble_eq_true rfl) dX9_scoreShard_36 rfl rfl (fun H locs mem22 hP23 hh => ?_)
            obtain ⟨f24, k25⟩ := hP23
            have hfr26 : ∀ j, j ≠ a → j ≠ 93 → j ≠ 94 → j ≠ 95 → mem22 j = mem j := fun j c0 c1 c2 c3 => (k25 j (by omega)).trans (hfr2 j c0 c1 c2 c3)
            have f27 : mem22 93 = .inr (4, [.ref (b + 94), .ref (b + 95), .int (nI lim), .int (nI ((fo (scD (st1 lim) sh ns (veM near cz wa tf cf tz vz) (veS vf tf tz vz)) ((sdc, ssc, ssz), sd, sk, ps) 0 n).1.2.2))]) := (k25 _ (by omega)).trans f4
            have f28 : mem22 94 = aN Γ 20 ((fo (scD (st1 lim) sh ns (veM near cz wa tf cf tz vz) (veS vf tf tz vz)) ((sdc, ssc, ssz), sd, sk, ps) 0 n).1.1) := (k25 _ (by omega)).trans f5
            have f29 : mem22 95 = aD Γ 20 ((fo (scD (st1 lim) sh ns (veM near cz wa tf cf tz vz) (veS vf tf tz vz)) ((sdc, ssc, ssz), sd, sk, ps) 0 n).1.2.1) := (k25 _ (by omega)).trans f6
            have f30 : mem22 0 = .inr (8, [.ref (b + 1), .ref (b + 72), .ref (b + 75), .ref (b + 78), .ref (b + 80), .ref (b + 91), .ref (b + 93), .ref (b + 96), .ref (b + 109)]) := (k25 _ (by omega)).trans f7
            have f31 : mem22 1 = .inr (0, [.ref (b + 2), .ref (b + 19), .ref (b + 20), .ref (b + 37), .ref (b + 38), .int (nI nd)]) := (k25 _ (by omega)).trans f8
            have f32 : mem22 91 = .inr (7, [.ref (b + 1), .ref (b + 78), .ref (b + 92), .int (bI near)]) := (k25 _ (by omega)).trans f9
            have f33 : mem22 92 = aB Γ 4 wa := (k25 _ (by omega)).trans f10
            have f34 : mem22 37 = aR Γ 6 16 (fun i => some (b + (40 + 2 * i))) := (k25 _ (by omega)).trans f11
            have f35 : mem22 38 = .inr (6, [.ref (b + 39), .int (nI 4), .int (nI cz)]) := (k25 _ (by omega)).trans f12
            have f36 : mem22 39 = aF Γ 16 cf := (k25 _ (by omega)).trans f13
            have f37 : mem22 78 = .inr (6, [.ref (b + 79), .int (nI 3), .int (nI vz)]) := (k25 _ (by omega)).trans f14
            have f38 : mem22 79 = aF Γ 12 vf := (k25 _ (by omega)).trans f15
            have f39 : ∀ z9, z9 < 16 → mem22 (40 + 2 * z9) = .inr (6, [.ref (b + (40 + 2 * z9 + 1)), .int (nI 4), .int (nI (tz z9))]) := fun z9 hz9 => (k25 _ (by omega)).trans (f16 z9 hz9)
            have f40 : ∀ z9, z9 < 16 → mem22 (40 + 2 * z9 + 1) = aF Γ 16 (tf z9) := fun z9 hz9 => (k25 _ (by omega)).trans (f17 z9 hz9)
            refine lv_aload_n hx hb dX9_scoreShard_39 rfl (lv_at hl 1 rfl) ?_
            refine gf_X9_shardRanking hx hb hE hown hh (by omega) f30 rfl dX9_scoreShard_40 ?_
            refine lv_iload hx hb dX9_scoreShard_43 (lv_at hl 0 rfl) ?_
            refine lv_aload_n hx hb dX9_scoreShard_45 rfl (lv_at hl 3 rfl) ?_
            refine lv_iload hx hb dX9_scoreShard_46 (lv_at hl 0 rfl) ?_
            refine mm_VU0r (As := [.int (nI n)]) (rest := [.int (nI n), .ref (b + 93)]) hx hb hml hown hE hl.1 hh (kc_X9_317_X8 hE.2.1 hE.2.2.1 ⟨Nat.le_of_ble_eq_true rfl, Nat.le_of_ble_eq_true rfl⟩) (c_X8_scoreOf l Γ b M mem22 (near := near) (nd := nd) (cz := cz) (vz := vz) (d := n) (wa := wa) (cf := cf) (vf := vf) (tz := tz) (tf := tf) (by omega) f32 f33 f31 f34 f39 f40 f35 f36 f37 f38 (by omega) (by omega) (htz) (hcf) (hvf) (htf) (by omega)) rfl (by omega) f32 rfl rfl (Nat.le_of_ble_eq_true rfl) dX9_scoreShard_48 rfl rfl (fun H locs hh => ?_)
            refine mm_V0 (As := [.int (nI n), .double (vsF vf (tf n) (tz n) vz)]) (rest := []) hx hb hml hown hE hl.1 hh (kc_X9_320 hE.2.1 ⟨Nat.le_of_ble_eq_true rfl, Nat.le_of_ble_eq_true rfl⟩) (c_X4_offer l Γ b M mem22 (a := 93) (lim := lim) (sz := (fo (scD (st1 lim) sh ns (veM near cz wa tf cf tz vz) (veS vf tf tz vz)) ((sdc, ssc, ssz), sd, sk, ps) 0 n).1.2.2) (d := n) (x := vsF vf (tf n) (tz n) vz) (dc := (fo (scD (st1 lim) sh ns (veM near cz wa tf cf tz vz) (veS vf tf tz vz)) ((sdc, ssc, ssz), sd, sk, ps) 0 n).1.1) (sc := (fo (scD (st1 lim) sh ns (veM near cz wa tf cf tz vz) (veS vf tf tz vz)) ((sdc, ssc, ssz), sd, sk, ps) 0 n).1.2.1) (by omega) f27 f28 f29 (by omega) (by omega) (by omega) (ho.1)) rfl (by omega) f27 rfl rfl (Nat.le_of_ble_eq_true rfl) dX9_scoreShard_51 rfl rfl (fun H locs mem41 hP42 hh => ?_)
            obtain ⟨f43, f44, f45, k46⟩ := hP42
            have hfr47 : ∀ j, j ≠ a → j ≠ 93 → j ≠ 94 → j ≠ 95 → mem41 j = mem j := fun j c0 c1 c2 c3 => (k46 j (by omega) (by omega) (by omega)).trans (hfr26 j c0 c1 c2 c3)
            have f48 : mem41 a = .inr (2, [.ref (b + (a + 1)), .int (bI made), .int (nI (((fo (scD (st1 lim) sh ns (veM near cz wa tf cf tz vz) (veS vf tf tz vz)) ((sdc, ssc, ssz), sd, sk, ps) 0 n).2.1) + 1)), .int (nI ((fo (scD (st1 lim) sh ns (veM near cz wa tf cf tz vz) (veS vf tf tz vz)) ((sdc, ssc, ssz), sd, sk, ps) 0 n).2.2.1)), .int (nI ((fo (scD (st1 lim) sh ns (veM near cz wa tf cf tz vz) (veS vf tf tz vz)) ((sdc, ssc, ssz), sd, sk, ps) 0 n).2.2.2))]) := (k46 _ (by omega) (by omega) (by omega)).trans f24
            have f49 : mem41 0 = .inr (8, [.ref (b + 1), .ref (b + 72), .ref (b + 75), .ref (b + 78), .ref (b + 80), .ref (b + 91), .ref (b + 93), .ref (b + 96), .ref (b + 109)]) := (k46 _ (by omega) (by omega) (by omega)).trans f30
            have f50 : mem41 1 = .inr (0, [.ref (b + 2), .ref (b + 19), .ref (b + 20), .ref (b + 37), .ref (b + 38), .int (nI nd)]) := (k46 _ (by omega) (by omega) (by omega)).trans f31
            have f51 : mem41 91 = .inr (7, [.ref (b + 1), .ref (b + 78), .ref (b + 92), .int (bI near)]) := (k46 _ (by omega) (by omega) (by omega)).trans f32
            have f52 : mem41 92 = aB Γ 4 wa := (k46 _ (by omega) (by omega) (by omega)).trans f33
            have f53 : mem41 37 = aR Γ 6 16 (fun i => some (b + (40 + 2 * i))) := (k46 _ (by omega) (by omega) (by omega)).trans f34
            have f54 : mem41 38 = .inr (6, [.ref (b + 39), .int (nI 4), .int (nI cz)]) := (k46 _ (by omega) (by omega) (by omega)).trans f35
            have f55 : mem41 39 = aF Γ 16 cf := (k46 _ (by omega) (by omega) (by omega)).trans f36
            have f56 : mem41 78 = .inr (6, [.ref (b + 79), .int (nI 3), .int (nI vz)]) := (k46 _ (by omega) (by omega) (by omega)).trans f37
            have f57 : mem41 79 = aF Γ 12 vf := (k46 _ (by omega) (by omega) (by omega)).trans f38
            have f58 : ∀ z9, z9 < 16 → mem41 (40 + 2 * z9) = .inr (6, [.ref (b + (40 + 2 * z9 + 1)), .int (nI 4), .int (nI (tz z9))]) := fun z9 hz9 => (k46 _ (by omega) (by omega) (by omega)).trans (f39 z9 hz9)
            have f59 : ∀ z9, z9 < 16 → mem41 (40 + 2 * z9 + 1) = aF Γ 16 (tf z9) := fun z9 hz9 => (k46 _ (by omega) (by omega) (by omega)).trans (f40 z9 hz9)
            refine nn_iinc (x := n) (d := 1) (lv' := [(5, .int (nI (n + 1))), (0, .ref (b + 0)), (1, .ref (b + a)), (2, .ref (b + 91)), (3, .int (nI sh)), (4, .int (nI ns))]) hx hb dX9_scoreShard_54 hl (k := 0) rfl (by decide) (by decide) rfl (fun ls hl => ?_)
            refine lv_goto (tgt := 3) hx hb dX9_scoreShard_57 (by decide) ?_
            exact ih18 (n + 1) (by omega) (by omega) _ _ mem41 (by rw [hn1]; exact f48) (by rw [hn1]; exact f43) (by rw [hn1]; exact f44) (by rw [hn1]; exact f45) hfr47 hh ls (lv_sub hl [0, 1, 2, 3, 4, 5] rfl)
  exact loop3 ((nd - 0) + 1) 0 (by omega) (by omega) _ _ mem (fl) (fs0) (fs1) (fs2) hfr hh ls (lv_sub hl [0, 1, 2, 3, 4, 5] rfl)
