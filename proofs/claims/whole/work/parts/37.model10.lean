/-! THE REFERENCE's search: pure words -/
def meV (how : Nat) (tz : Nat → Nat) (vz cz : Nat) (tf : Nat → Nat → UInt32) (vf cf : Nat → UInt32) : Nat → Bool := fun d => decide (0 < tz d ∧ 0 < vz) && (decide (how = 0) || cd2 (nrq (tf d) cf cz) (nrq vf cf cz) vz (tz d))
/-- the first k of X behind A -/
def apK (A X : RkT) (k : Nat) : RkT := (fun j => if A.2.2 ≤ j ∧ j < A.2.2 + k then X.1 (j - A.2.2) else A.1 j, fun j => if A.2.2 ≤ j ∧ j < A.2.2 + k then X.2.1 (j - A.2.2) else A.2.1 j, A.2.2 + k)
theorem ap_0 {α : Type} (f g : Nat → α) (w : Nat) : (fun j => if w ≤ j ∧ j < w + 0 then g (j - w) else f j) = f := by
  funext j
  exact if_neg (by omega)
theorem ap_s {α : Type} (f g : Nat → α) (w k : Nat) : va_up (fun j => if w ≤ j ∧ j < w + k then g (j - w) else f j) (w + k) (g k) = fun j => if w ≤ j ∧ j < w + (k + 1) then g (j - w) else f j := by
  funext j
  unfold va_up
  by_cases e : j = w + k
  · rw [if_pos e, if_pos (by omega), e, Nat.add_sub_cancel_left]
  · rw [if_neg e]
    show (if w ≤ j ∧ j < w + k then g (j - w) else f j) = _
    by_cases h : w ≤ j ∧ j < w + k
    · rw [if_pos h, if_pos (by omega)]
    · rw [if_neg h, if_neg (by omega)]
def mc1 (X : SeT) (A : RkT) : RkT × SeT := (apK A X.1 X.1.2.2, X)
def mcS (G : Nat → SeT → SeT) (E : RkT × SeT) : Nat → RkT × SeT
  | 0 => E
  | sh + 1 => mc1 (G sh (((mcS G E sh).2.1.1, (mcS G E sh).2.1.2.1, 0), (mcS G E sh).2.2)) (mcS G E sh).1
def prG (how mo nd ns : Nat) (mt : Nat → Bool) (so bo bb : Nat → UInt64) : Nat → SeT → SeT := fun sh E => if how = 1 then fo (prK (en1 mo) mo nd sh ns mt so bo bb) E 0 4 else fo (scD (en1 mo) sh ns mt so) E 0 nd
/-- how many documents below n are of the shard; of the shards below sh -/
def cS (ns sh : Nat) : Nat → Nat
  | 0 => 0
  | n + 1 => cS ns sh n + (if n % ns = sh then 1 else 0)
def cU (ns sh : Nat) : Nat → Nat
  | 0 => 0
  | n + 1 => cU ns sh n + (if n % ns < sh then 1 else 0)
theorem cU_s (ns sh : Nat) : ∀ n, cU ns (sh + 1) n = cU ns sh n + cS ns sh n
  | 0 => rfl
  | n + 1 => by
    have h := cU_s ns sh n
    unfold cU cS
    split <;> split <;> split <;> omega
theorem cU_le (ns sh : Nat) : ∀ n, cU ns sh n ≤ n
  | 0 => Nat.le_refl 0
  | n + 1 => by
    have h := cU_le ns sh n
    unfold cU
    split <;> omega
theorem cS_mono (ns sh : Nat) {a : Nat} : ∀ m, cS ns sh a ≤ cS ns sh (a + m)
  | 0 => Nat.le_refl _
  | m + 1 => by
    have h := cS_mono ns sh (a := a) m
    show _ ≤ cS ns sh (a + m) + _
    omega
theorem en1_sz {mo d : Nat} {x : UInt64} {T : RkT} (h : T.2.2 ≤ mo) : (en1 mo d x T).2.2 ≤ T.2.2 + 1 := by
  show (if T.2.2 < mo then T.2.2 + 1 else mo) ≤ _
  split <;> omega
section SZ
variable {mo nd sh ns : Nat} {mt : Nat → Bool} {so bo bb : Nat → UInt64} {E : SeT}
theorem sc_sz (h : sOK mo E) : ∀ n, n ≤ 16 → (fo (scD (en1 mo) sh ns mt so) E 0 n).1.2.2 ≤ E.1.2.2 + cS ns sh n
  | 0, _ => Nat.le_refl _
  | n + 1, hn => by
    have h1 := sc_sz h n (by omega)
    have h2 := gss_ok (ins := en1 mo) (sh := sh) (ns := ns) (mt := mt) (so := so) (n := n) (en_ok mo) (by omega) h
    show (scD (en1 mo) sh ns mt so (0 + n) (fo (scD (en1 mo) sh ns mt so) E 0 n)).1.2.2 ≤ E.1.2.2 + (cS ns sh n + (if n % ns = sh then 1 else 0))
    rw [Nat.zero_add]
    by_cases e : n % ns = sh
    · rw [if_pos e]
      cases hm : mt n with
      | false => rw [scD_1 (decide_eq_true e) hm]; omega
      | true =>
        rw [scD_2 (decide_eq_true e) hm]
        have h3 := en1_sz (mo := mo) (d := n) (x := so n) h2.2
        show (en1 mo n (so n) (fo (scD (en1 mo) sh ns mt so) E 0 n).1).2.2 ≤ _
        omega
    · rw [scD_0 (decide_eq_false e), if_neg e]
      exact h1
theorem pr_sz (h : sOK mo E) (k : Nat) : ∀ n, k * 4 + n ≤ 16 → (fo (prD (en1 mo) mo sh ns mt so bo) E (k * 4) n).1.2.2 + cS ns sh (k * 4) ≤ E.1.2.2 + cS ns sh (k * 4 + n)
  | 0, _ => Nat.le_refl _
  | n + 1, hn => by
    have h1 := pr_sz h k n (by omega)
    have h2 := gf_ok (ins := en1 mo) (sh := sh) (ns := ns) (mt := mt) (so := so) (bo := bo) (k := k) (n := n) (en_ok mo) (by omega) h
    show (prD (en1 mo) mo sh ns mt so bo (k * 4 + n) (fo (prD (en1 mo) mo sh ns mt so bo) E (k * 4) n)).1.2.2 + cS ns sh (k * 4) ≤ E.1.2.2 + (cS ns sh (k * 4 + n) + (if (k * 4 + n) % ns = sh then 1 else 0))
    by_cases e : (k * 4 + n) % ns = sh
    · rw [if_pos e]
      cases hm : mt (k * 4 + n) with
      | false => rw [prD_1 (decide_eq_true e) hm]; omega
      | true =>
        cases hb : shO mo (fo (prD (en1 mo) mo sh ns mt so bo) E (k * 4) n).1.2.2 (fo (prD (en1 mo) mo sh ns mt so bo) E (k * 4) n).1.2.1 (bo (k * 4 + n)) with
        | true =>
          rw [prD_2 (decide_eq_true e) hm hb]
          show (fo (prD (en1 mo) mo sh ns mt so bo) E (k * 4) n).1.2.2 + _ ≤ _
          omega
        | false =>
          rw [prD_3 (decide_eq_true e) hm hb]
          have h3 := en1_sz (mo := mo) (d := k * 4 + n) (x := so (k * 4 + n)) h2.2
          show (en1 mo (k * 4 + n) (so (k * 4 + n)) (fo (prD (en1 mo) mo sh ns mt so bo) E (k * 4) n).1).2.2 + _ ≤ _
          omega
    · rw [prD_0 (decide_eq_false e), if_neg e]
      exact h1
theorem pk_sz (hn : nd ≤ 16) (h : sOK mo E) : ∀ k, k ≤ 4 → (fo (prK (en1 mo) mo nd sh ns mt so bo bb) E 0 k).1.2.2 ≤ E.1.2.2 + cS ns sh (min (k * 4) nd)
  | 0, _ => by rw [show min (0 * 4) nd = 0 by omega]; exact Nat.le_refl _
  | k + 1, hk => by
    have h1 := pk_sz hn h k (by omega)
    have h2 := gks_ok (ins := en1 mo) (sh := sh) (ns := ns) (mt := mt) (so := so) (bo := bo) (bb := bb) (n := k) (en_ok mo) hn h
    have h3 : cS ns sh (min (k * 4) nd) ≤ cS ns sh (min ((k + 1) * 4) nd) := by
      have h4 := cS_mono ns sh (a := min (k * 4) nd) (min ((k + 1) * 4) nd - min (k * 4) nd)
      rw [show min (k * 4) nd + (min ((k + 1) * 4) nd - min (k * 4) nd) = min ((k + 1) * 4) nd by omega] at h4
      exact h4
    show (prK (en1 mo) mo nd sh ns mt so bo bb (0 + k) (fo (prK (en1 mo) mo nd sh ns mt so bo bb) E 0 k)).1.2.2 ≤ _
    rw [Nat.zero_add]
    cases hh : hdF nd sh ns k with
    | false => rw [prK_0 hh]; omega
    | true =>
      cases hb : shO mo (fo (prK (en1 mo) mo nd sh ns mt so bo bb) E 0 k).1.2.2 (fo (prK (en1 mo) mo nd sh ns mt so bo bb) E 0 k).1.2.1 (bb k) with
      | true =>
        rw [prK_1 hh hb]
        show (fo (prK (en1 mo) mo nd sh ns mt so bo bb) E 0 k).1.2.2 ≤ _
        omega
      | false =>
        rw [prK_2 hh hb]
        by_cases hz : k * 4 ≤ nd
        · have h5 := pr_sz (mo := mo) (sh := sh) (ns := ns) (mt := mt) (so := so) (bo := bo) h2 k (eB nd k - k * 4) (by have := eB_le nd k; omega)
          have h6 : k * 4 + (eB nd k - k * 4) = min ((k + 1) * 4) nd := by unfold eB; omega
          rw [h6] at h5
          rw [show min (k * 4) nd = k * 4 by omega] at h1
          omega
        · exact absurd hh (by rw [hd_no (by omega)]; decide)
theorem prG_sz {how : Nat} (hn : nd ≤ 16) (h : sOK mo E) : (prG how mo nd ns mt so bo bb sh E).1.2.2 ≤ E.1.2.2 + cS ns sh nd := by
  unfold prG
  split
  · have h1 := pk_sz (mo := mo) (nd := nd) (sh := sh) (ns := ns) (mt := mt) (so := so) (bo := bo) (bb := bb) hn h 4 (Nat.le_refl 4)
    rw [show min (4 * 4) nd = nd by omega] at h1
    exact h1
  · exact sc_sz h nd hn
theorem prG_ok {how : Nat} (hn : nd ≤ 16) (h : sOK mo E) : sOK mo (prG how mo nd ns mt so bo bb sh E) := by
  unfold prG
  split
  · exact gks_ok (en_ok mo) hn h
  · exact gss_ok (en_ok mo) hn h
end SZ
/-- what the shards so far have given -/
theorem mcS_ok {mo nd ns how : Nat} {mt : Nat → Bool} {so bo bb : Nat → UInt64} {E : RkT × SeT} (hn : nd ≤ 16) (hA : ∀ j, E.1.1 j < 16) (hA0 : E.1.2.2 = 0) (hS : ∀ j, E.2.1.1 j < 16) : ∀ sh, (∀ j, (mcS (prG how mo nd ns mt so bo bb) E sh).1.1 j < 16) ∧ (∀ j, (mcS (prG how mo nd ns mt so bo bb) E sh).2.1.1 j < 16) ∧ (mcS (prG how mo nd ns mt so bo bb) E sh).1.2.2 ≤ cU ns sh nd
  | 0 => ⟨hA, hS, by show E.1.2.2 ≤ _; omega⟩
  | sh + 1 => by
    obtain ⟨h1, h2, h3⟩ := mcS_ok (mo := mo) (ns := ns) (how := how) (mt := mt) (so := so) (bo := bo) (bb := bb) hn hA hA0 hS sh
    have h4 : sOK mo (((mcS (prG how mo nd ns mt so bo bb) E sh).2.1.1, (mcS (prG how mo nd ns mt so bo bb) E sh).2.1.2.1, 0), (mcS (prG how mo nd ns mt so bo bb) E sh).2.2) := ⟨h2, Nat.zero_le _⟩
    have h5 := prG_ok (how := how) (sh := sh) (ns := ns) (mt := mt) (so := so) (bo := bo) (bb := bb) hn h4
    have h6 := prG_sz (how := how) (sh := sh) (ns := ns) (mt := mt) (so := so) (bo := bo) (bb := bb) hn h4
    refine ⟨fun j => ?_, h5.1, ?_⟩
    · show (if _ ∧ _ then _ else _) < 16
      split
      · exact h5.1 _
      · exact h1 j
    · show _ + _ ≤ _
      rw [cU_s]
      have h7 : (prG how mo nd ns mt so bo bb sh (((mcS (prG how mo nd ns mt so bo bb) E sh).2.1.1, (mcS (prG how mo nd ns mt so bo bb) E sh).2.1.2.1, 0), (mcS (prG how mo nd ns mt so bo bb) E sh).2.2)).1.2.2 ≤ 0 + cS ns sh nd := h6
      omega
/-- a fold over documents that are not of the shard -/
theorem fo_same {α : Type} {g : Nat → α → α} {E : α} {a : Nat} : ∀ m, (∀ x E, a ≤ x → x < a + m → g x E = E) → fo g E 0 (a + m) = fo g E 0 a
  | 0, _ => rfl
  | m + 1, h => by
    show g (0 + (a + m)) (fo g E 0 (a + m)) = _
    rw [Nat.zero_add, h _ _ (by omega) (by omega)]
    exact fo_same m (fun x E h1 h2 => h x E h1 (by omega))
theorem md_in {ns sh d x : Nat} (hn : 0 < ns ∧ ns ≤ 3) (hd : d % ns = sh) (h1 : d < x) (h2 : x < d + ns) : ¬ x % ns = sh := by
  have h3 : ns = 1 ∨ ns = 2 ∨ ns = 3 := by omega
  rcases h3 with h | h | h <;> subst h <;> omega
section ST
variable {ins : InT} {nd sh ns d : Nat} {mt : Nat → Bool} {so : Nat → UInt64} {E : SeT}
theorem st_0 (hs : sh < ns) : fo (scD ins sh ns mt so) E 0 sh = E := by
  have h := fo_same (g := scD ins sh ns mt so) (E := E) (a := 0) sh (fun x E _ h2 => scD_0 (decide_eq_false (by rw [Nat.mod_eq_of_lt (by omega)]; omega)))
  rw [Nat.zero_add] at h
  exact h
theorem st_s (hn : 0 < ns ∧ ns ≤ 3) (hd : d % ns = sh) : fo (scD ins sh ns mt so) E 0 (d + ns) = scD ins sh ns mt so d (fo (scD ins sh ns mt so) E 0 d) := by
  have h := fo_same (g := scD ins sh ns mt so) (E := E) (a := d + 1) (ns - 1) (fun x E h1 h2 => scD_0 (decide_eq_false (md_in hn hd (by omega) (by omega))))
  rw [show d + 1 + (ns - 1) = d + ns by omega] at h
  rw [h]
  show scD ins sh ns mt so (0 + d) _ = _
  rw [Nat.zero_add]
theorem st_e (hn : 0 < ns ∧ ns ≤ 3) (hd : d % ns = sh) (h1 : nd ≤ d) (h2 : d < nd + ns) : fo (scD ins sh ns mt so) E 0 d = fo (scD ins sh ns mt so) E 0 nd := by
  have h := fo_same (g := scD ins sh ns mt so) (E := E) (a := nd) (d - nd) (fun x E a b => scD_0 (decide_eq_false (fun q => ?_)))
  · rw [show nd + (d - nd) = d by omega] at h
    exact h
  · have h3 : ns = 1 ∨ ns = 2 ∨ ns = 3 := by omega
    rcases h3 with h | h | h <;> subst h <;> omega
theorem st_m (hd : d % ns = sh) : (d + ns) % ns = sh := by rw [Nat.add_mod_right]; exact hd
end ST

set_option maxHeartbeats 4000000 in
set_option maxRecDepth 100000 in
/-- reference: score, private 2 -/
theorem m_sc2 (l : Launch) (Γ : Gm) (b M : Nat) (mem : Nat → va_E) {cd nd cz wz iz vz md wh sd sk ps fc : Nat} {mr : Nat → Nat} {mrs : Nat → UInt64} {d mo : Nat} {tz : Nat → Nat} {tf : Nat → Nat → UInt32} {vf : Nat → UInt32}  (hM : 138 ≤ M) (fM : mem 115 = .inr (9, [.int (nI cd), .int (nI nd), .ref (b + 116), .ref (b + 117), .ref (b + 118), .ref (b + 119), .int (nI cz), .ref (b + 120), .int (nI wz), .int (nI iz), .int (nI vz), .ref (b + 121), .ref (b + 122), .ref (b + 123), .ref (b + 124), .ref (b + 125), .ref (b + 126), .ref (b + 127), .ref (b + 128), .ref (b + 129), .int (nI md), .ref (b + 130), .ref (b + 131), .int (nI wh), .ref (b + 132), .ref (b + 133), .int (nI sd), .int (nI sk), .int (nI ps), .int (nI fc), .ref (b + 134), .ref (b + 135)])) (g130 : mem 130 = aN Γ 21 mr) (g131 : mem 131 = aD Γ 21 mrs) (hok : tOK mo (mr, mrs, md)) (hmo : mo ≤ 20) (g118 : mem 118 = aN Γ 16 tz) (g119 : mem 119 = aF Γ 256 (fl16 tf)) (g124 : mem 124 = aF Γ 12 vf) (hd : d < 16) (htz : ∀ d, tz d ≤ 4) (hvz : vz ≤ 3) (hvf : gdF vf) (htf : ∀ d, gdF (tf d)) (htp : 0 < tz d) : Ct l yX10_score (.code yX10_score cX10_score 4 none) ({ frames := 2, cells := 0, slots := 0, locals := 53 } : Room) Γ b M [.ref (b + 115), .int (nI 2), .int (nI d), .int (nI mo)] mem (fun u => u 115 = .inr (9, [.int (nI cd), .int (nI nd), .ref (b + 116), .ref (b + 117), .ref (b + 118), .ref (b + 119), .int (nI cz), .ref (b + 120), .int (nI wz), .int (nI iz), .int (nI vz), .ref (b + 121), .ref (b + 122), .ref (b + 123), .ref (b + 124), .ref (b + 125), .ref (b + 126), .ref (b + 127), .ref (b + 128), .ref (b + 129), .int (nI ((en1 mo d (vsF vf (tf d) (tz d) vz) (mr, mrs, md)).2.2)), .ref (b + 130), .ref (b + 131), .int (nI wh), .ref (b + 132), .ref (b + 133), .int (nI (sd + 1)), .int (nI sk), .int (nI ps), .int (nI fc), .ref (b + 134), .ref (b + 135)]) ∧ u 130 = aN Γ 21 ((en1 mo d (vsF vf (tf d) (tz d) vz) (mr, mrs, md)).1) ∧ u 131 = aD Γ 21 ((en1 mo d (vsF vf (tf d) (tz d) vz) (mr, mrs, md)).2.1) ∧ ∀ j, j ≠ 115 → j ≠ 130 → j ≠ 131 → u j = mem j) none := by
  refine mm_enter (cc := cX10_score) (by decide) (Nat.le_of_ble_eq_true rfl) ?_
  intro p e s m args below meth c ls hx hb hml hown hr hlocks hname hE hh hl
  have hl : lv_has ls 4 [(0, .ref (b + 115)), (1, .int (nI 2)), (2, .int (nI d)), (3, .int (nI mo))] := hl
  have hfr : ∀ j, j ≠ 115 → j ≠ 130 → j ≠ 131 → mem j = mem j := fun j _ _ _ => rfl
  refine lv_aload_n hx hb dX10_score_0 rfl (lv_at hl 0 rfl) ?_
  refine lv_dup hx hb dX10_score_1 rfl ?_
  refine gf_X10_scored hx hb hE hown hh (by omega) fM rfl dX10_score_2 ?_
  refine lv_iconst (v := (nI 1)) hx hb dX10_score_5 (by decide) ?_
  refine nn_iadd hx hb dX10_score_6 ?_
  refine gp_X10_scored (fs' := [.int (nI cd), .int (nI nd), .ref (b + 116), .ref (b + 117), .ref (b + 118), .ref (b + 119), .int (nI cz), .ref (b + 120), .int (nI wz), .int (nI iz), .int (nI vz), .ref (b + 121), .ref (b + 122), .ref (b + 123), .ref (b + 124), .ref (b + 125), .ref (b + 126), .ref (b + 127), .ref (b + 128), .ref (b + 129), .int (nI md), .ref (b + 130), .ref (b + 131), .int (nI wh), .ref (b + 132), .ref (b + 133), .int (nI (sd + 1)), .int (nI sk), .int (nI ps), .int (nI fc), .ref (b + 134), .ref (b + 135)]) hx hb hE hown hh (by omega) fM rfl rfl (show 26 < 32 by decide) rfl dX10_score_7 (fun H locs mem1 f2 k3 hh => ?_)
  have hfr4 : ∀ j, j ≠ 115 → j ≠ 130 → j ≠ 131 → mem1 j = mem j := fun j c0 c1 c2 => (k3 j (by omega)).trans (hfr j c0 c1 c2)
  have f5 : mem1 130 = aN Γ 21 mr := (k3 _ (by omega)).trans g130
  have f6 : mem1 131 = aD Γ 21 mrs := (k3 _ (by omega)).trans g131
  have f7 : mem1 118 = aN Γ 16 tz := (k3 _ (by omega)).trans g118
  have f8 : mem1 119 = aF Γ 256 (fl16 tf) := (k3 _ (by omega)).trans g119
  have f9 : mem1 124 = aF Γ 12 vf := (k3 _ (by omega)).trans g124
  refine lv_aload_n hx hb dX10_score_10 rfl (lv_at hl 0 rfl) ?_
  refine lv_iload_n hx hb dX10_score_11 rfl (lv_at hl 2 rfl) ?_
  refine lv_aload_n hx hb dX10_score_12 rfl (lv_at hl 0 rfl) ?_
  refine lv_iload_n hx hb dX10_score_13 rfl (lv_at hl 1 rfl) ?_
  refine lv_iload_n hx hb dX10_score_14 rfl (lv_at hl 2 rfl) ?_
  refine mm_V0r (As := [.int (nI 2), .int (nI d)]) (rest := [.int (nI d), .ref (b + 115)]) hx hb hml hown hE hl.1 hh (kc_X10_183 hE.2.1 ⟨Nat.le_of_ble_eq_true rfl, Nat.le_of_ble_eq_true rfl⟩) (m_scoreOf2 l Γ b M mem1 (cd := cd) (nd := nd) (cz := cz) (wz := wz) (iz := iz) (vz := vz) (md := md) (wh := wh) (sd := sd + 1) (sk := sk) (ps := ps) (fc := fc) (d := d) (tz := tz) (vf := vf) (by omega) f2 f7 f8 f9 (by omega) (htz) (by omega) (hvf) (htf) (by omega)) rfl (by omega) f2 rfl rfl (Nat.le_of_ble_eq_true rfl) dX10_score_15 rfl rfl (fun H locs hh => ?_)
  refine lv_iload_n hx hb dX10_score_18 rfl (lv_at hl 3 rfl) ?_
  refine mm_V0 (As := [.int (nI d), .double (vsF vf (tf d) (tz d) vz), .int (nI mo)]) (rest := []) hx hb hml hown hE hl.1 hh (kc_X10_186 hE.2.1 ⟨Nat.le_of_ble_eq_true rfl, Nat.le_of_ble_eq_true rfl⟩) (c_X10_enter l Γ b M mem1 (cd := cd) (nd := nd) (cz := cz) (wz := wz) (iz := iz) (vz := vz) (md := md) (wh := wh) (sd := sd + 1) (sk := sk) (ps := ps) (fc := fc) (mr := mr) (mrs := mrs) (d := d) (mo := mo) (x := vsF vf (tf d) (tz d) vz) (by omega) f2 f5 f6 (hok) (by omega) (by omega)) rfl (by omega) f2 rfl rfl (Nat.le_of_ble_eq_true rfl) dX10_score_19 rfl rfl (fun H locs mem10 hP11 hh => ?_)
  obtain ⟨f12, f13, f14, k15⟩ := hP11
  have hfr16 : ∀ j, j ≠ 115 → j ≠ 130 → j ≠ 131 → mem10 j = mem j := fun j c0 c1 c2 => (k15 j (by omega) (by omega) (by omega)).trans (hfr4 j c0 c1 c2)
  have f17 : mem10 118 = aN Γ 16 tz := (k15 _ (by omega) (by omega) (by omega)).trans f7
  have f18 : mem10 119 = aF Γ 256 (fl16 tf) := (k15 _ (by omega) (by omega) (by omega)).trans f8
  have f19 : mem10 124 = aF Γ 12 vf := (k15 _ (by omega) (by omega) (by omega)).trans f9
  exact mm_vret hx hb hr hlocks hE hh (⟨f12, f13, f14, hfr16⟩) dX10_score_22
