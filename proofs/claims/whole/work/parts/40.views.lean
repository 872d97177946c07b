/-! EQUAL VIEWS: what the class's table holds is what the reference reckons -/
theorem an_eq {f : Nat → Nat → UInt64} {c : Nat → Bool} {d : Nat} : ∀ n, (∀ i, i < n → decide (FP.dcmp (f i d) FP.dconst0 = some .gt) = c i) → anG f d n = anB c n
  | 0, _ => rfl
  | n + 1, h => by
    unfold anG anB
    rw [an_eq n (fun i hi => h i (by omega)), h n (by omega)]
theorem su_eq {c c' : Nat → Bool} {q q' : Nat → UInt64} : ∀ n, (∀ i, i < n → c i = c' i) → (∀ i, i < n → c i = true → q i = q' i) → suG c q n = suG c' q' n
  | 0, _, _ => rfl
  | n + 1, h, k => by
    unfold suG
    rw [su_eq n (fun i hi => h i (by omega)) (fun i hi => k i (by omega)), ← h n (by omega)]
    by_cases e : c n = true
    · rw [if_pos e, if_pos e, k n (by omega) e]
    · rw [if_neg e, if_neg e]
theorem key_0 : FP.Core.dkey FP.dconst0 = 0 := by decide +kernel
theorem db.nn {K : Nat} {x : UInt64} (h : db K x) (hK : K ≤ 2047) : FP.Core.val64 x ≠ .nan := (h.fin hK).ne_nan
theorem mb_key {c : Nat → Bool} {q : Nat → UInt64} {lo : Nat} : ∀ n, (∀ d, lo ≤ d → d < lo + n → db 1090 (q d)) → 0 ≤ FP.Core.dkey (mbF c q lo n)
  | 0, _ => by
    show 0 ≤ FP.Core.dkey FP.dconst0
    rw [key_0]
    exact Int.le_refl 0
  | n + 1, h => by
    have h1 := mb_key (c := c) n (fun d a b => h d a (by omega))
    have h2 := mbF_db (c := c) n (fun d a b => h d a (by omega))
    have h3 : db 1090 (if c (lo + n) = true then q (lo + n) else FP.dconst0) := by
      split
      · exact h _ (by omega) (by omega)
      · exact db_0
    unfold mbF
    generalize (if c (lo + n) = true then q (lo + n) else FP.dconst0) = y at h3
    split
    · rename_i hg
      have := (FP.Core.dcmp_gt_key (h3.nn (by decide)) (h2.nn (by decide))).mp hg
      omega
    · exact h1
theorem bd_eq {p r0 q : Nat → UInt64} {c : Nat → Bool} {blk : Nat} (h0 : r0 blk = FP.dconst0) : ∀ n, (∀ d, d < n → db 1090 (p d)) → (∀ d, d < n → db 1090 (q d)) → (∀ d, d < n → decide (FP.dcmp (p d) FP.dconst0 = some .gt) = c d) → (∀ d, d < n → c d = true → p d = q d) → bdR p r0 n blk = mbF c q (4 * blk) (eB n blk - 4 * blk)
  | 0, _, _, _, _ => by
    have e : eB 0 blk - 4 * blk = 0 := by unfold eB; omega
    rw [e]
    exact h0
  | n + 1, hp, hqd, hc, hq => by
    have ih := bd_eq h0 n (fun d hd => hp d (by omega)) (fun d hd => hqd d (by omega)) (fun d hd => hc d (by omega)) (fun d hd => hq d (by omega))
    have e1 : bdR p r0 (n + 1) blk = (if FP.dcmp (p n) (bdR p r0 n (n / 4)) = some .gt then va_up (bdR p r0 n) (n / 4) (p n) else bdR p r0 n) blk := rfl
    rw [e1]
    by_cases hb : n / 4 = blk
    · have e2 : eB (n + 1) blk - 4 * blk = (eB n blk - 4 * blk) + 1 := by unfold eB; omega
      have e3 : 4 * blk + (eB n blk - 4 * blk) = n := by unfold eB; omega
      rw [e2, hb]
      generalize hm : eB n blk - 4 * blk = m at ih e3
      have k1 := mb_key (c := c) (q := q) (lo := 4 * blk) m (fun d a b => hqd d (by omega))
      have k2 := mbF_db (c := c) (q := q) (lo := 4 * blk) m (fun d a b => hqd d (by omega))
      have e4 : mbF c q (4 * blk) (m + 1) = if FP.dcmp (if c n = true then q n else FP.dconst0) (mbF c q (4 * blk) m) = some .gt then (if c n = true then q n else FP.dconst0) else mbF c q (4 * blk) m := by
        rw [← e3]
        rfl
      rw [e4]
      by_cases hcn : c n = true
      · rw [if_pos hcn, ← hq n (by omega) hcn, ← ih]
        by_cases hg : FP.dcmp (p n) (bdR p r0 n blk) = some .gt
        · rw [if_pos hg, if_pos hg, va_up_self]
        · rw [if_neg hg, if_neg hg]
      · have hcf : ¬ FP.dcmp (p n) FP.dconst0 = some .gt := of_decide_eq_false ((hc n (by omega)).trans (Bool.not_eq_true _ ▸ hcn))
        have np : ¬ FP.dcmp (p n) (mbF c q (4 * blk) m) = some .gt := fun hg => by
          have a1 := (FP.Core.dcmp_gt_key ((hp n (by omega)).nn (by decide)) (k2.nn (by decide))).mp hg
          have a2 := mt (FP.Core.dcmp_gt_key ((hp n (by omega)).nn (by decide)) (db_0.nn (by decide))).mpr hcf
          rw [key_0] at a2
          omega
        have nz : ¬ FP.dcmp FP.dconst0 (mbF c q (4 * blk) m) = some .gt := fun hg => by
          have a1 := (FP.Core.dcmp_gt_key (db_0.nn (by decide)) (k2.nn (by decide))).mp hg
          rw [key_0] at a1
          omega
        rw [if_neg hcn, if_neg nz, ih, if_neg np]
        exact ih
    · have e2 : eB (n + 1) blk - 4 * blk = eB n blk - 4 * blk := by unfold eB; omega
      rw [e2, ← ih]
      split
      · exact va_up_ne _ _ (fun h => hb h.symm)
      · rfl
/-- the class's shards over its table, and the reference's -/
theorem vw_eq {pt0 bd0 V q : Nat → Nat → UInt64} {c : Nat → Nat → Bool} {nd z : Nat} (hn : nd ≤ 16) (hV : ∀ i d, i < z → d < nd → db 1090 (V i d)) (hc : ∀ i d, i < z → d < nd → decide (FP.dcmp (V i d) FP.dconst0 = some .gt) = c d i) (hq : ∀ i d, q d i = V i d) {how lim ns : Nat} :
    ∀ sh E E', SeE lim E E' → SeE lim (wiG (st1 lim) how lim nd ns z (rwT pt0 (ptW pt0 V nd) z) (rwT bd0 (bdW (rwT pt0 (ptW pt0 V nd) z) bd0 nd) z) sh E) (prG how lim nd ns (moM c z) (moS c q z) (moD c q nd z) (moB c q nd z) sh E') := by
  have hP : ∀ i d, i < z → d < nd → rwT pt0 (ptW pt0 V nd) z i d = V i d := by
    intro i d hi hd
    unfold rwT
    rw [if_pos hi]
    exact if_pos hd
  have hB : ∀ i k, i < z → k < 4 → rwT bd0 (bdW (rwT pt0 (ptW pt0 V nd) z) bd0 nd) z i k = bnd c q nd k i := by
    intro i k hi hk
    have e : rwT bd0 (bdW (rwT pt0 (ptW pt0 V nd) z) bd0 nd) z i = bdW (rwT pt0 (ptW pt0 V nd) z) bd0 nd i := if_pos hi
    rw [e]
    exact bd_eq (if_pos hk) nd (fun d hd => by rw [hP i d hi hd]; exact hV i d hi hd) (fun d hd => by show db 1090 (q d i); rw [hq]; exact hV i d hi hd) (fun d hd => by rw [hP i d hi hd]; exact hc i d hi hd) (fun d hd _ => (hP i d hi hd).trans (hq i d).symm)
  generalize rwT bd0 (bdW (rwT pt0 (ptW pt0 V nd) z) bd0 nd) z = B at hB
  generalize rwT pt0 (ptW pt0 V nd) z = P at hP
  have hM : ∀ d, d < nd → ptM P z d = moM c z d := fun d hd => an_eq z (fun i hi => by rw [hP i d hi hd]; exact hc i d hi hd)
  have hcg : ∀ d, d < nd → ∀ i, i < z → cG P d i = c d i := fun d hd i hi => by
    unfold cG
    rw [hP i d hi hd]
    exact hc i d hi hd
  have hS : ∀ d, d < nd → ptS P z d = moS c q z d := fun d hd => su_eq z (hcg d hd) (fun i hi _ => (hP i d hi hd).trans (hq i d).symm)
  have hD : ∀ d, d < nd → ptD P B z d = moD c q nd z d := fun d hd => su_eq z (hcg d hd) (fun i hi _ => hB i (d / 4) hi (by omega))
  have hBk : ∀ k, k < 4 → ptB B z k = moB c q nd z k := fun k hk => su_eq z (fun _ _ => rfl) (fun i hi _ => hB i k hi hk)
  intro sh E E' h
  unfold wiG prG
  by_cases e : how = 1
  · rw [if_pos e, if_pos e]
    exact fo_rel h 4 (fun k E E' _ hk h => pke_eq h hn hM (fun d hd _ => hS d hd) (fun d hd _ => hD d hd) (hBk k (by omega)))
  · rw [if_neg e, if_neg e]
    exact fo_rel h nd (fun d E E' _ hd h => sce_eq h (by omega) (hM d (by omega)) (fun _ => hS d (by omega)))
theorem wV_c {cn : Nat → Nat → Nat} {ln wm : Nat → Nat} {nd : Nat} (hn : nd ≤ 16) (hcn : ∀ d t, cn d t ≤ 1000) (hlc : ∀ d t, cn d t ≤ ln d) (hln : ∀ d, ln d ≤ 12000) {i d : Nat} (hd : d < nd) : decide (FP.dcmp (wV cn ln wm nd i d) FP.dconst0 = some .gt) = inW cn wm d i := by
  unfold inW
  by_cases hz : cn d (wm i) = 0
  · have e : wV cn ln wm nd i d = FP.dconst0 := if_pos hz
    rw [e, hz]
    decide +kernel
  · have e : wV cn ln wm nd i d = wpF (idfF nd (dwN cn (wm i) nd)) (cn d (wm i)) (ln d) (avF ln nd) := if_neg hz
    have h1 := hlc d (wm i)
    have hg := (wp_G (idf_G hn (dwN_le cn (wm i) nd)) (av_G hn hd (by omega) hln) (by have := hln d; omega) (by omega) (hcn d (wm i)) (len := ln d)).gt (by decide) (by decide)
    rw [e, decide_eq_true hg, decide_eq_true (by omega)]
theorem iV_c {wt : Nat → Nat → UInt32} {im iw : Nat → Nat} {nd i d : Nat} (hw : 1 ≤ iw i ∧ iw i ≤ 100) : decide (FP.dcmp (iV wt im iw nd i d) FP.dconst0 = some .gt) = inI wt im nd d i := by
  unfold iV inI
  generalize imF (wt d (im i)) (gwF wt nd) = x
  have e0 : FP.dconst0 = FP.l2d 0 := by decide +kernel
  rw [e0]
  have h2 : x.toInt < 2147483648 := Int32.toInt_lt x
  have h2b : -2147483648 ≤ x.toInt := Int32.le_toInt x
  have e1 := nI_64 (show iw i < 2 ^ 31 by omega)
  have e2 : x.toInt64.toInt = x.toInt := Int32.toInt_toInt64 x
  have b1 : (iw i : Int) * x.toInt < 100 * 2147483648 := by
    rcases Int.le_total 0 x.toInt with h | h
    · have := Int.mul_le_mul_of_nonneg_right (show (iw i : Int) ≤ 100 by omega) h
      omega
    · have := Int.mul_le_mul_of_nonpos_right (show (1 : Int) ≤ iw i by omega) h
      omega
  have b2 : -(100 * 2147483648) ≤ (iw i : Int) * x.toInt := by
    rcases Int.le_total 0 x.toInt with h | h
    · have := Int.mul_nonneg (show (0 : Int) ≤ iw i by omega) h
      omega
    · have := Int.mul_le_mul_of_nonpos_right (show (iw i : Int) ≤ 100 by omega) h
      omega
  have e3 : ((nI (iw i)).toInt64 * x.toInt64).toInt = (iw i : Int) * x.toInt := by
    rw [Int64.toInt_mul, e1, e2]
    exact Int.bmod_eq_of_le (by omega) (by omega)
  have hd := FP.Core.dcmp_l2d (a := (nI (iw i)).toInt64 * x.toInt64) (b := 0) (by unfold FP.Core.Small53; rw [e3]; omega) (by unfold FP.Core.Small53; decide)
  have h0 : (0 : Int64).toInt = 0 := rfl
  rw [e3, h0] at hd
  have hx : x ≤ 0 ↔ x.toInt ≤ 0 := by rw [Int32.le_iff_toInt_le, Int32.toInt_zero]
  by_cases hp : x.toInt ≤ 0
  · have hm : ¬ 0 < (iw i : Int) * x.toInt := by
      have := Int.mul_le_mul_of_nonneg_left hp (show (0 : Int) ≤ iw i by omega)
      rw [Int.mul_zero] at this
      omega
    have hn : ¬ FP.dcmp (FP.l2d ((nI (iw i)).toInt64 * x.toInt64)) (FP.l2d 0) = some .gt := by
      show ¬ FP.Core.dcmp (FP.Core.l2d _) (FP.Core.l2d 0) = some .gt
      rw [hd]
      split
      · intro h; cases h
      · rw [if_pos (by omega)]
        intro h; cases h
    rw [decide_eq_false hn, decide_eq_false (show ¬ ¬ x ≤ 0 from fun h => h (hx.mpr hp))]
  · have hm : 0 < (iw i : Int) * x.toInt := Int.mul_pos (by omega) (by omega)
    have hn : FP.dcmp (FP.l2d ((nI (iw i)).toInt64 * x.toInt64)) (FP.l2d 0) = some .gt := by
      show FP.Core.dcmp (FP.Core.l2d _) (FP.Core.l2d 0) = some .gt
      rw [hd, if_neg (by omega), if_neg (by omega)]
    rw [decide_eq_true hn, decide_eq_true (show ¬ x ≤ 0 from fun h => hp (hx.mp h))]
theorem gW_eq {pt0 bd0 : Nat → Nat → UInt64} {cn : Nat → Nat → Nat} {ln wm : Nat → Nat} {nd wz : Nat} (hn : nd ≤ 16) (hcn : ∀ d t, cn d t ≤ 1000) (hlc : ∀ d t, cn d t ≤ ln d) (hln : ∀ d, ln d ≤ 12000) {how lim ns : Nat} :
    ∀ sh E E', SeE lim E E' → SeE lim (wiG (st1 lim) how lim nd ns wz (rwT pt0 (ptW pt0 (wV cn ln wm nd) nd) wz) (rwT bd0 (bdW (rwT pt0 (ptW pt0 (wV cn ln wm nd) nd) wz) bd0 nd) wz) sh E) (prG how lim nd ns (moM (inW cn wm) wz) (moS (inW cn wm) (wQ cn ln wm nd) wz) (moD (inW cn wm) (wQ cn ln wm nd) nd wz) (moB (inW cn wm) (wQ cn ln wm nd) nd wz) sh E') :=
  vw_eq hn (fun i d _ hd => wV_db hn hcn hlc hln hd) (fun i d _ hd => wV_c hn hcn hlc hln hd) (fun _ _ => rfl)
theorem gI_eq {pt0 bd0 : Nat → Nat → UInt64} {wt : Nat → Nat → UInt32} {im iw : Nat → Nat} {nd iz : Nat} (hn : nd ≤ 16) (hiw : ∀ i, i < iz → 1 ≤ iw i ∧ iw i ≤ 100) {how lim ns : Nat} :
    ∀ sh E E', SeE lim E E' → SeE lim (wiG (st1 lim) how lim nd ns iz (rwT pt0 (ptW pt0 (iV wt im iw nd) nd) iz) (rwT bd0 (bdW (rwT pt0 (ptW pt0 (iV wt im iw nd) nd) iz) bd0 nd) iz) sh E) (prG how lim nd ns (moM (inI wt im nd) iz) (moS (inI wt im nd) (iQ wt im iw nd) iz) (moD (inI wt im nd) (iQ wt im iw nd) nd iz) (moB (inI wt im nd) (iQ wt im iw nd) nd iz) sh E') :=
  vw_eq hn (fun i d _ _ => iV_db) (fun i d hi _ => iV_c (hiw i hi)) (fun _ _ => rfl)
/-! vectors: wanted centroids and candidates -/
theorem wa_cd {cz : Nat} {nv : Nat → Nat} (hz : 0 < cz) (k : Nat) : ∀ q, waN cz nv q k = cd1 k nv q
  | 0 => rfl
  | q + 1 => by
    have e : waN cz nv (q + 1) = va_up (waN cz nv q) (nv q) true := if_neg (by omega)
    unfold cd1
    rw [e, ← wa_cd hz k q]
    by_cases h : k = nv q
    · subst h
      rw [va_up_self, decide_eq_true rfl, Bool.or_true]
    · rw [va_up_ne _ _ h, decide_eq_false h, Bool.or_false]
theorem ca_cd {cz vz : Nat} {wa : Nat → Bool} {nt nv : Nat → Nat} (hz : 0 < cz) (hn : ∀ t, nt t < 4) : ∀ t, caF cz (waG wa cz nv vz) nt t = cd2 nt nv vz t
  | 0 => rfl
  | t + 1 => by
    have e : waG wa cz nv vz (nt t) = cd1 (nt t) nv vz := (if_pos (hn t)).trans (wa_cd hz _ vz)
    unfold caF cd2
    rw [ca_cd hz hn t, e, decide_eq_true hz, Bool.true_and]
theorem cd1_pos {a : Nat} {nv : Nat → Nat} : ∀ vz, cd1 a nv vz = true → 0 < vz
  | 0, h => by cases h
  | v + 1, _ => Nat.succ_pos v
theorem cd2_pos {nt nv : Nat → Nat} {vz : Nat} : ∀ t, cd2 nt nv vz t = true → 0 < t ∧ 0 < vz
  | 0, h => by cases h
  | t + 1, h => by
    unfold cd2 at h
    rcases (Bool.or_eq_true _ _).mp h with h | h
    · exact ⟨Nat.succ_pos t, (cd2_pos t h).2⟩
    · exact ⟨Nat.succ_pos t, cd1_pos vz h⟩
theorem nrq_4 (f cf : Nat → UInt32) {cz : Nat} (h : cz ≤ 4) (t : Nat) : nrq f cf cz t < 4 := by
  have := nrs_le (prJ f (t * 4) cf) (cz - 1)
  unfold nrq
  omega
theorem ve_eq {how : Nat} {cz vz : Nat} {wa : Nat → Bool} {tf : Nat → Nat → UInt32} {cf vf : Nat → UInt32} {tz : Nat → Nat} (hh : how = 0 ∨ how = 2) (hz : how = 2 → cz ≠ 0) (hc : cz ≤ 4) (d : Nat) : veM (decide (how = 2)) cz (waG wa cz (nrq vf cf cz) vz) tf cf tz vz d = meV how tz vz cz tf vf cf d := by
  unfold veM mtF meV
  rcases hh with h | h
  · subst h
    rw [if_neg (by decide)]
    show _ = (_ && (true || _))
    rw [Bool.true_or, Bool.and_true]
  · subst h
    have h1 := hz rfl
    rw [if_pos (by decide), ca_cd (by omega) (nrq_4 (tf d) cf hc)]
    show _ = (_ && (false || _))
    rw [Bool.false_or]
    cases hq : cd2 (nrq (tf d) cf cz) (nrq vf cf cz) vz (tz d) with
    | false => rw [Bool.and_false]
    | true => rw [Bool.and_true, decide_eq_true (cd2_pos _ hq)]
theorem gV_eq {how : Nat} {cz vz nd : Nat} {wa : Nat → Bool} {tf : Nat → Nat → UInt32} {cf vf : Nat → UInt32} {tz : Nat → Nat} {bo bb : Nat → UInt64} (hn : nd ≤ 16) (hh : how = 0 ∨ how = 2) (hz : how = 2 → cz ≠ 0) (hc : cz ≤ 4) {lim ns : Nat} :
    ∀ sh E E', SeE lim E E' → SeE lim (veG (st1 lim) nd ns (veM (decide (how = 2)) cz (waG wa cz (nrq vf cf cz) vz) tf cf tz vz) (veS vf tf tz vz) sh E) (prG how lim nd ns (meV how tz vz cz tf vf cf) (veS vf tf tz vz) bo bb sh E') := by
  intro sh E E' h
  unfold veG prG
  rw [if_neg (by omega)]
  exact fo_rel h nd (fun d E E' _ hd h => sce_eq h (by omega) (ve_eq hh hz hc d) (fun _ => rfl))
