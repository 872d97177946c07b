/-! PARTTABLE: pure words -/
def fiR (f V : Nat → UInt64) (n : Nat) : Nat → UInt64 := fun d => if d < n then V d else f d
def rwT (f B : Nat → Nat → UInt64) (n : Nat) : Nat → Nat → UInt64 := fun r => if r < n then B r else f r
theorem fiR_0 (f V : Nat → UInt64) : fiR f V 0 = f := by funext d; exact if_neg (Nat.not_lt_zero _)
theorem fiR_s (f V : Nat → UInt64) (d : Nat) : va_up (fiR f V d) d (V d) = fiR f V (d + 1) := by
  funext j
  unfold va_up fiR
  by_cases e : j = d
  · subst e; rw [if_pos rfl, if_pos (Nat.lt_succ_self _)]
  · rw [if_neg e]
    by_cases h : j < d
    · rw [if_pos h, if_pos (by omega)]
    · rw [if_neg h, if_neg (by omega)]
theorem rwT_0 (f B : Nat → Nat → UInt64) : rwT f B 0 = f := by funext d; exact if_neg (Nat.not_lt_zero _)
theorem rwT_at (f B : Nat → Nat → UInt64) (i : Nat) : rwT f B i i = f i := if_neg (Nat.lt_irrefl _)
theorem rwT_i (f B : Nat → Nat → UInt64) (i : Nat) : va_up (rwT f B i) i (f i) = rwT f B i := by
  funext r
  unfold va_up
  by_cases e : r = i
  · subst e; rw [if_pos rfl, rwT_at]
  · rw [if_neg e]
theorem rwT_s (f B : Nat → Nat → UInt64) (i : Nat) : va_up (rwT f B i) i (B i) = rwT f B (i + 1) := by
  funext r
  unfold va_up rwT
  by_cases e : r = i
  · subst e; rw [if_pos rfl, if_pos (Nat.lt_succ_self _)]
  · rw [if_neg e]
    by_cases h : r < i
    · rw [if_pos h, if_pos (by omega)]
    · rw [if_neg h, if_neg (by omega)]
def bdR (p r0 : Nat → UInt64) : Nat → Nat → UInt64
  | 0 => r0
  | d + 1 => if FP.dcmp (p d) (bdR p r0 d (d / 4)) = some .gt then va_up (bdR p r0 d) (d / 4) (p d) else bdR p r0 d
def bdW (pt bd : Nat → Nat → UInt64) (n : Nat) : Nat → Nat → UInt64 := fun r => bdR (pt r) (fiR (bd r) (fun _ => FP.dconst0) 4) n
def wV (cn : Nat → Nat → Nat) (ln wm : Nat → Nat) (nd : Nat) : Nat → Nat → UInt64 := fun i d => wpC (idfF nd (dwN cn (wm i) nd)) (cn d (wm i)) (ln d) (avF ln nd)
def iV (wt : Nat → Nat → UInt32) (im iw : Nat → Nat) (nd : Nat) : Nat → Nat → UInt64 := fun i d => FP.l2d ((nI (iw i)).toInt64 * (imF (wt d (im i)) (gwF wt nd)).toInt64)
def ptW (pt V : Nat → Nat → UInt64) (nd : Nat) : Nat → Nat → UInt64 := fun r => fiR (pt r) (V r) nd
def anG (f : Nat → Nat → UInt64) (d : Nat) : Nat → Bool
  | 0 => false
  | i + 1 => anG f d i || decide (FP.dcmp (f i d) FP.dconst0 = some .gt)
theorem anG_no {f : Nat → Nat → UInt64} {d i : Nat} (h : anG f d i = false) (hn : ¬ FP.dcmp (f i d) FP.dconst0 = some .gt) : anG f d (i + 1) = false := by simp [anG, h, hn]
theorem anG_yes {f : Nat → Nat → UInt64} {d : Nat} : ∀ {n k : Nat}, k < n → FP.dcmp (f k d) FP.dconst0 = some .gt → anG f d n = true
  | 0, _, h, _ => absurd h (Nat.not_lt_zero _)
  | n + 1, k, h, e => by
    unfold anG
    by_cases hk : k = n
    · subst hk; simp [e]
    · rw [anG_yes (show k < n by omega) e]; rfl
/-- 0 and q i, added in their order, of those i of which c i holds -/
def suG (c : Nat → Bool) (q : Nat → UInt64) : Nat → UInt64
  | 0 => FP.dconst0
  | i + 1 => if c i = true then FP.dadd (suG c q i) (q i) else suG c q i
theorem suG_db {c : Nat → Bool} {q : Nat → UInt64} {K : Nat} (hK : K ≤ 2000) (hK1 : 1 ≤ K) : ∀ n, n ≤ 4 → (∀ i, i < n → db K (q i)) → db (K + 2 * n) (suG c q n)
  | 0, _, _ => by
    show (FP.dconst0).toNat % 2 ^ 63 < (K + 2 * 0) * 2 ^ 52
    have h1 : (FP.dconst0).toNat % 2 ^ 63 = 0 := by decide
    rw [h1]
    exact Nat.mul_pos (by omega) (by decide)
  | n + 1, hn, h => by
    have h1 := suG_db (c := c) hK hK1 n (by omega) (fun i hi => h i (by omega))
    unfold suG
    split
    · exact (h1.add ((h n (by omega)).up (by omega)) (by omega)).up (by omega)
    · exact h1.up (by omega)
def cG (f : Nat → Nat → UInt64) (d : Nat) : Nat → Bool := fun i => decide (FP.dcmp (f i d) FP.dconst0 = some .gt)

set_option maxHeartbeats 4000000 in
set_option maxRecDepth 100000 in
/-- PartTable.fillBounds -/
theorem c_X3_fillBounds (l : Launch) (Γ : Gm) (b M : Nat) (mem : Nat → va_E) {pn : Nat} {pt bd : Nat → Nat → UInt64} {n : Nat} (hM : 138 ≤ M) (fP : mem 80 = .inr (3, [.ref (b + 81), .ref (b + 86), .int (nI pn)])) (fPo : mem 81 = aR Γ 9 4 (fun i => some (b + (82 + i)))) (fpt : ∀ z9, z9 < 4 → mem (82 + z9) = aD Γ 16 (pt z9)) (fBo : mem 86 = aR Γ 9 4 (fun i => some (b + (87 + i)))) (fbd : ∀ z9, z9 < 4 → mem (87 + z9) = aD Γ 4 (bd z9)) (hpn : pn ≤ 4) (hn16 : n ≤ 16) : Ct l yX3_fillBounds (.code yX3_fillBounds cX3_fillBounds 5 none) ({ frames := 0, cells := 0, slots := 0, locals := 0 } : Room) Γ b M [.ref (b + 80), .int (nI n)] mem (fun u => (∀ z9, z9 < 4 → u (87 + z9) = aD Γ 4 ((rwT bd (bdW pt bd n) pn) z9)) ∧ ∀ j, ¬ (87 ≤ j ∧ j < 91) → u j = mem j) none := by
  refine mm_enter (cc := cX3_fillBounds) (by decide) (Nat.le_of_ble_eq_true rfl) ?_
  intro p e s m args below meth c ls hx hb hml hown hr hlocks hname hE hh hl
  have hl : lv_has ls 5 [(0, .ref (b + 80)), (1, .int (nI n))] := hl
  have hfr : ∀ j, ¬ (87 ≤ j ∧ j < 91) → mem j = mem j := fun j _ => rfl
  refine lv_iconst (v := (nI 0)) hx hb dX3_fillBounds_0 (by decide) ?_
  refine lv_istore_n (lv' := [(2, .int (nI 0)), (0, .ref (b + 80)), (1, .int (nI n))]) hx hb dX3_fillBounds_1 rfl hl (by decide) rfl (fun ls hl => ?_)
  have loop2 : ∀ (n9 : Nat) (i : Nat), (pn - i) < n9 → (i ≤ pn) → ∀ (H : Heap) (locs : List Loc) (mem2 : Nat → va_E), (∀ z9, z9 < 4 → mem2 (87 + z9) = aD Γ 4 ((rwT bd (bdW pt bd n) i) z9)) → (∀ j, ¬ (87 ≤ j ∧ j < 91) → mem2 j = mem j) → GH Γ b M mem2 s H locs → ∀ (ls : Array Slot), lv_has ls 5 [(2, .int (nI i)), (0, .ref (b + 80)), (1, .int (nI n))] → W p l e ({ frames := 0, cells := 0, slots := 0, locals := 0 } : Room) s m args below meth c H locs 0 0 (MQ below (QC Γ b M (fun u => (∀ z9, z9 < 4 → u (87 + z9) = aD Γ 4 ((rwT bd (bdW pt bd n) pn) z9)) ∧ ∀ j, ¬ (87 ≤ j ∧ j < 91) → u j = mem j) none) args s 0 0 (fun q => b ≤ q)) (F0 m 2 ls []) := by
    intro n9
    induction n9 with
    | zero => intro i hn; exact absurd hn (Nat.not_lt_zero _)
    | succ n9 ih =>
      intro i hn hi H locs mem1 f3 hfr2 hh ls hl
      have f4 : mem1 80 = .inr (3, [.ref (b + 81), .ref (b + 86), .int (nI pn)]) := (hfr2 _ (by omega)).trans fP
      have f5 : mem1 81 = aR Γ 9 4 (fun i => some (b + (82 + i))) := (hfr2 _ (by omega)).trans fPo
      have f6 : mem1 86 = aR Γ 9 4 (fun i => some (b + (87 + i))) := (hfr2 _ (by omega)).trans fBo
      have f7 : ∀ z9, z9 < 4 → mem1 (82 + z9) = aD Γ 16 (pt z9) := fun z9 hz9 => (hfr2 _ (by omega)).trans (fpt z9 hz9)
      have ih8 := ih
      refine lv_iload_n hx hb dX3_fillBounds_2 rfl (lv_at hl 0 rfl) ?_
      refine lv_aload_n hx hb dX3_fillBounds_3 rfl (lv_at hl 1 rfl) ?_
      refine gf_X3_terms hx hb hE hown hh (by omega) f4 rfl dX3_fillBounds_4 ?_
      refine nn_icmp_ge (tgt := 94) hx hb dX3_fillBounds_7 (by decide) (by omega) (by omega) (fun h9 => ?_) (fun h9 => ?_)
      ·
        have hip : i = pn := by omega
        exact mm_vret hx hb hr hlocks hE hh (⟨by rw [← hip]; exact f3, hfr2⟩) dX3_fillBounds_94
      ·
        refine lv_iconst (v := (nI 0)) hx hb dX3_fillBounds_10 (by decide) ?_
        refine lv_istore_n (lv' := [(3, .int (nI 0)), (2, .int (nI i)), (0, .ref (b + 80)), (1, .int (nI n))]) hx hb dX3_fillBounds_11 rfl hl (by decide) rfl (fun ls hl => ?_)
        have loop12 : ∀ (n9 : Nat) (k : Nat), (4 - k) < n9 → (k ≤ 4) → ∀ (H : Heap) (locs : List Loc) (mem2 : Nat → va_E), (∀ z9, z9 < 4 → mem2 (87 + z9) = aD Γ 4 ((va_up (rwT bd (bdW pt bd n) i) i (fiR (bd i) (fun _ => FP.dconst0) k)) z9)) → (∀ j, ¬ (87 ≤ j ∧ j < 91) → mem2 j = mem j) → GH Γ b M mem2 s H locs → ∀ (ls : Array Slot), lv_has ls 5 [(3, .int (nI k)), (2, .int (nI i)), (0, .ref (b + 80)), (1, .int (nI n))] → W p l e ({ frames := 0, cells := 0, slots := 0, locals := 0 } : Room) s m args below meth c H locs 0 0 (MQ below (QC Γ b M (fun u => (∀ z9, z9 < 4 → u (87 + z9) = aD Γ 4 ((rwT bd (bdW pt bd n) pn) z9)) ∧ ∀ j, ¬ (87 ≤ j ∧ j < 91) → u j = mem j) none) args s 0 0 (fun q => b ≤ q)) (F0 m 12 ls []) := by
          intro n9
          induction n9 with
          | zero => intro k hn; exact absurd hn (Nat.not_lt_zero _)
          | succ n9 ih =>
            intro k hn hk H locs mem10 f12 hfr11 hh ls hl
            have f13 : mem10 80 = .inr (3, [.ref (b + 81), .ref (b + 86), .int (nI pn)]) := (hfr11 _ (by omega)).trans fP
            have f14 : mem10 81 = aR Γ 9 4 (fun i => some (b + (82 + i))) := (hfr11 _ (by omega)).trans fPo
            have f15 : mem10 86 = aR Γ 9 4 (fun i => some (b + (87 + i))) := (hfr11 _ (by omega)).trans fBo
            have f16 : ∀ z9, z9 < 4 → mem10 (82 + z9) = aD Γ 16 (pt z9) := fun z9 hz9 => (hfr11 _ (by omega)).trans (fpt z9 hz9)
            have ih17 := ih
            refine lv_iload_n hx hb dX3_fillBounds_12 rfl (lv_at hl 0 rfl) ?_
            refine lv_iconst (v := (nI 4)) hx hb dX3_fillBounds_13 (by decide) ?_
            refine nn_icmp_ge (tgt := 32) hx hb dX3_fillBounds_14 (by decide) (by omega) (by omega) (fun h18 => ?_) (fun h18 => ?_)
            ·
              obtain rfl : k = 4 := by omega
              refine lv_iconst (v := (nI 0)) hx hb dX3_fillBounds_32 (by decide) ?_
              refine lv_istore_n (lv' := [(3, .int (nI 0)), (2, .int (nI i)), (0, .ref (b + 80)), (1, .int (nI n))]) hx hb dX3_fillBounds_33 rfl hl (by decide) rfl (fun ls hl => ?_)
              have loop34 : ∀ (n9 : Nat) (d : Nat), (n - d) < n9 → (d ≤ n) → ∀ (H : Heap) (locs : List Loc) (mem2 : Nat → va_E), (∀ z9, z9 < 4 → mem2 (87 + z9) = aD Γ 4 ((va_up (rwT bd (bdW pt bd n) i) i (bdR (pt i) (fiR (bd i) (fun _ => FP.dconst0) 4) d)) z9)) → (∀ j, ¬ (87 ≤ j ∧ j < 91) → mem2 j = mem j) → GH Γ b M mem2 s H locs → ∀ (ls : Array Slot), lv_has ls 5 [(3, .int (nI d)), (2, .int (nI i)), (0, .ref (b + 80)), (1, .int (nI n))] → W p l e ({ frames := 0, cells := 0, slots := 0, locals := 0 } : Room) s m args below meth c H locs 0 0 (MQ below (QC Γ b M (fun u => (∀ z9, z9 < 4 → u (87 + z9) = aD Γ 4 ((rwT bd (bdW pt bd n) pn) z9)) ∧ ∀ j, ¬ (87 ≤ j ∧ j < 91) → u j = mem j) none) args s 0 0 (fun q => b ≤ q)) (F0 m 34 ls []) := by
                intro n9
                induction n9 with
                | zero => intro d hn; exact absurd hn (Nat.not_lt_zero _)
                | succ n9 ih =>
                  intro d hn hd H locs mem19 f21 hfr20 hh ls hl
                  have f22 : mem19 80 = .inr (3, [.ref (b + 81), .ref (b + 86), .int (nI pn)]) := (hfr20 _ (by omega)).trans fP
                  have f23 : mem19 81 = aR Γ 9 4 (fun i => some (b + (82 + i))) := (hfr20 _ (by omega)).trans fPo
                  have f24 : mem19 86 = aR Γ 9 4 (fun i => some (b + (87 + i))) := (hfr20 _ (by omega)).trans fBo
                  have f25 : ∀ z9, z9 < 4 → mem19 (82 + z9) = aD Γ 16 (pt z9) := fun z9 hz9 => (hfr20 _ (by omega)).trans (fpt z9 hz9)
                  have ih26 := ih
                  refine lv_iload_n hx hb dX3_fillBounds_34 rfl (lv_at hl 0 rfl) ?_
                  refine lv_iload_n hx hb dX3_fillBounds_35 rfl (lv_at hl 3 rfl) ?_
                  refine nn_icmp_ge (tgt := 88) hx hb dX3_fillBounds_36 (by decide) (by omega) (by omega) (fun h27 => ?_) (fun h27 => ?_)
                  ·
                    have hdn : d = n := by omega
                    refine nn_iinc (x := i) (d := 1) (lv' := [(2, .int (nI (i + 1))), (3, .int (nI d)), (0, .ref (b + 80)), (1, .int (nI n))]) hx hb dX3_fillBounds_88 hl (k := 1) rfl (by decide) (by decide) rfl (fun ls hl => ?_)
                    refine lv_goto (tgt := 2) hx hb dX3_fillBounds_91 (by decide) ?_
                    exact ih8 (i + 1) (by omega) (by omega) _ _ mem19 (by subst hdn; rw [← rwT_s]; exact f21) hfr20 hh ls (lv_sub hl [0, 2, 3] rfl)
                  ·
                    refine lv_iload_n hx hb dX3_fillBounds_39 rfl (lv_at hl 0 rfl) ?_
                    refine lv_iconst (v := (nI 4)) hx hb dX3_fillBounds_40 (by decide) ?_
                    refine nn_idiv hx hb (by omega) (by omega) (by omega) dX3_fillBounds_41 ?_
                    refine lv_istore (lv' := [(4, .int (nI (d / 4))), (3, .int (nI d)), (2, .int (nI i)), (0, .ref (b + 80)), (1, .int (nI n))]) hx hb dX3_fillBounds_42 hl (by decide) rfl (fun ls hl => ?_)
                    refine lv_aload_n hx hb dX3_fillBounds_44 rfl (lv_at hl 3 rfl) ?_
                    refine gf_X3_parts hx hb hE hown hh (by omega) f22 rfl dX3_fillBounds_45 ?_
                    refine lv_iload_n hx hb dX3_fillBounds_48 rfl (lv_at hl 2 rfl) ?_
                    refine mm_aald (q := b + (82 + i)) hx hb hE hh 9 (by omega) f23 rfl rfl (by omega) (by decide) (rfl) dX3_fillBounds_49 ?_
                    refine lv_iload_n hx hb dX3_fillBounds_50 rfl (lv_at hl 1 rfl) ?_
                    refine mm_dald hx hb hE hh (by omega) (f25 i (by omega)) (by omega) (by decide) dX3_fillBounds_51 ?_
                    refine lv_aload_n hx hb dX3_fillBounds_52 rfl (lv_at hl 3 rfl) ?_
                    refine gf_X3_bounds hx hb hE hown hh (by omega) f22 rfl dX3_fillBounds_53 ?_
                    refine lv_iload_n hx hb dX3_fillBounds_56 rfl (lv_at hl 2 rfl) ?_
                    refine mm_aald (q := b + (87 + i)) hx hb hE hh 9 (by omega) f24 rfl rfl (by omega) (by decide) (rfl) dX3_fillBounds_57 ?_
                    refine lv_iload hx hb dX3_fillBounds_58 (lv_at hl 0 rfl) ?_
                    refine mm_dald hx hb hE hh (by omega) (by rw [f21 i (by omega), va_up_self]) (by omega) (by decide) dX3_fillBounds_60 ?_
                    refine lv_dcmp hx hb dX3_fillBounds_61 ?_
                    refine nn_cl_le (tgt := 82) hx hb dX3_fillBounds_62 (by decide) (fun h28 => ?_) (fun h28 => ?_)
                    ·
                      have hn1 : bdR (pt i) (fiR (bd i) (fun _ => FP.dconst0) 4) (d + 1) = bdR (pt i) (fiR (bd i) (fun _ => FP.dconst0) 4) d := if_neg h28
                      refine nn_iinc (x := d) (d := 1) (lv' := [(3, .int (nI (d + 1))), (4, .int (nI (d / 4))), (2, .int (nI i)), (0, .ref (b + 80)), (1, .int (nI n))]) hx hb dX3_fillBounds_82 hl (k := 1) rfl (by decide) (by decide) rfl (fun ls hl => ?_)
                      refine lv_goto (tgt := 34) hx hb dX3_fillBounds_85 (by decide) ?_
                      exact ih26 (d + 1) (by omega) (by omega) _ _ mem19 (by rw [hn1]; exact f21) hfr20 hh ls (lv_sub hl [0, 2, 3, 4] rfl)
                    ·
                      have hn1 : bdR (pt i) (fiR (bd i) (fun _ => FP.dconst0) 4) (d + 1) = va_up (bdR (pt i) (fiR (bd i) (fun _ => FP.dconst0) 4) d) (d / 4) (pt i d) := if_pos (Classical.not_not.mp h28)
                      refine lv_aload_n hx hb dX3_fillBounds_65 rfl (lv_at hl 3 rfl) ?_
                      refine gf_X3_bounds hx hb hE hown hh (by omega) f22 rfl dX3_fillBounds_66 ?_
                      refine lv_iload_n hx hb dX3_fillBounds_69 rfl (lv_at hl 2 rfl) ?_
                      refine mm_aald (q := b + (87 + i)) hx hb hE hh 9 (by omega) f24 rfl rfl (by omega) (by decide) (rfl) dX3_fillBounds_70 ?_
                      refine lv_iload hx hb dX3_fillBounds_71 (lv_at hl 0 rfl) ?_
                      refine lv_aload_n hx hb dX3_fillBounds_73 rfl (lv_at hl 3 rfl) ?_
                      refine gf_X3_parts hx hb hE hown hh (by omega) f22 rfl dX3_fillBounds_74 ?_
                      refine lv_iload_n hx hb dX3_fillBounds_77 rfl (lv_at hl 2 rfl) ?_
                      refine mm_aald (q := b + (82 + i)) hx hb hE hh 9 (by omega) f23 rfl rfl (by omega) (by decide) (rfl) dX3_fillBounds_78 ?_
                      refine lv_iload_n hx hb dX3_fillBounds_79 rfl (lv_at hl 1 rfl) ?_
                      refine mm_dald hx hb hE hh (by omega) (f25 i (by omega)) (by omega) (by decide) dX3_fillBounds_80 ?_
                      refine mm_dast hx hb hE hh (by omega) (by rw [f21 i (by omega), va_up_self]) (by omega) (by decide) dX3_fillBounds_81 (fun H locs mem29 f30 k31 hh => ?_)
                      have hfr32 : ∀ j, ¬ (87 ≤ j ∧ j < 91) → mem29 j = mem j := fun j c0 => (k31 j (by omega)).trans (hfr20 j c0)
                      have f33 : mem29 80 = .inr (3, [.ref (b + 81), .ref (b + 86), .int (nI pn)]) := (k31 _ (by omega)).trans f22
                      have f34 : mem29 81 = aR Γ 9 4 (fun i => some (b + (82 + i))) := (k31 _ (by omega)).trans f23
                      have f35 : mem29 86 = aR Γ 9 4 (fun i => some (b + (87 + i))) := (k31 _ (by omega)).trans f24
                      have f36 : ∀ z9, z9 < 4 → mem29 (87 + z9) = aD Γ 4 ((va_up (rwT bd (bdW pt bd n) i) i (va_up (bdR (pt i) (fiR (bd i) (fun _ => FP.dconst0) 4) d) (d / 4) ((pt i) d))) z9) := by
                        intro z9 hz9
                        by_cases e9 : z9 = i
                        · rw [e9, va_up_self]; exact f30
                        · rw [va_up_ne _ _ e9]; exact ((k31 _ (by omega)).trans (f21 z9 hz9)).trans (by rw [va_up_ne _ _ e9])
                      have f37 : ∀ z9, z9 < 4 → mem29 (82 + z9) = aD Γ 16 (pt z9) := fun z9 hz9 => (k31 _ (by omega)).trans (f25 z9 hz9)
                      refine nn_iinc (x := d) (d := 1) (lv' := [(3, .int (nI (d + 1))), (4, .int (nI (d / 4))), (2, .int (nI i)), (0, .ref (b + 80)), (1, .int (nI n))]) hx hb dX3_fillBounds_82 hl (k := 1) rfl (by decide) (by decide) rfl (fun ls hl => ?_)
                      refine lv_goto (tgt := 34) hx hb dX3_fillBounds_85 (by decide) ?_
                      exact ih26 (d + 1) (by omega) (by omega) _ _ mem29 (by rw [hn1]; exact f36) hfr32 hh ls (lv_sub hl [0, 2, 3, 4] rfl)
              exact loop34 ((n - 0) + 1) 0 (by omega) (by omega) _ _ mem10 (f12) hfr11 hh ls (lv_sub hl [0, 1, 2, 3] rfl)
            ·
              refine lv_aload_n hx hb dX3_fillBounds_17 rfl (lv_at hl 2 rfl) ?_
              refine gf_X3_bounds hx hb hE hown hh (by omega) f13 rfl dX3_fillBounds_18 ?_
              refine lv_iload_n hx hb dX3_fillBounds_21 rfl (lv_at hl 1 rfl) ?_
              refine mm_aald (q := b + (87 + i)) hx hb hE hh 9 (by omega) f15 rfl rfl (by omega) (by decide) (rfl) dX3_fillBounds_22 ?_
              refine lv_iload_n hx hb dX3_fillBounds_23 rfl (lv_at hl 0 rfl) ?_
              refine lv_dconst0 hx hb dX3_fillBounds_24 ?_
              refine mm_dast hx hb hE hh (by omega) (by rw [f12 i (by omega), va_up_self]) (by omega) (by decide) dX3_fillBounds_25 (fun H locs mem38 f39 k40 hh => ?_)
              have hfr41 : ∀ j, ¬ (87 ≤ j ∧ j < 91) → mem38 j = mem j := fun j c0 => (k40 j (by omega)).trans (hfr11 j c0)
              have f42 : mem38 80 = .inr (3, [.ref (b + 81), .ref (b + 86), .int (nI pn)]) := (k40 _ (by omega)).trans f13
              have f43 : mem38 81 = aR Γ 9 4 (fun i => some (b + (82 + i))) := (k40 _ (by omega)).trans f14
              have f44 : mem38 86 = aR Γ 9 4 (fun i => some (b + (87 + i))) := (k40 _ (by omega)).trans f15
              have f45 : ∀ z9, z9 < 4 → mem38 (87 + z9) = aD Γ 4 ((va_up (rwT bd (bdW pt bd n) i) i (va_up (fiR (bd i) (fun _ => FP.dconst0) k) k FP.dconst0)) z9) := by
                intro z9 hz9
                by_cases e9 : z9 = i
                · rw [e9, va_up_self]; exact f39
                · rw [va_up_ne _ _ e9]; exact ((k40 _ (by omega)).trans (f12 z9 hz9)).trans (by rw [va_up_ne _ _ e9])
              have f46 : ∀ z9, z9 < 4 → mem38 (82 + z9) = aD Γ 16 (pt z9) := fun z9 hz9 => (k40 _ (by omega)).trans (f16 z9 hz9)
              refine nn_iinc (x := k) (d := 1) (lv' := [(3, .int (nI (k + 1))), (2, .int (nI i)), (0, .ref (b + 80)), (1, .int (nI n))]) hx hb dX3_fillBounds_26 hl (k := 0) rfl (by decide) (by decide) rfl (fun ls hl => ?_)
              refine lv_goto (tgt := 12) hx hb dX3_fillBounds_29 (by decide) ?_
              exact ih17 (k + 1) (by omega) (by omega) _ _ mem38 (by rw [← fiR_s]; exact f45) hfr41 hh ls (lv_sub hl [0, 1, 2, 3] rfl)
        exact loop12 ((4 - 0) + 1) 0 (by omega) (by omega) _ _ mem1 (by rw [fiR_0, rwT_i]; exact f3) hfr2 hh ls (lv_sub hl [0, 1, 2, 3] rfl)
  exact loop2 ((pn - 0) + 1) 0 (by omega) (by omega) _ _ mem (by rw [rwT_0]; exact fbd) hfr hh ls (lv_sub hl [0, 1, 2] rfl)
theorem suN_ge {ln : Nat → Nat} : ∀ {n d : Nat}, d < n → ln d ≤ suN ln n
  | 0, _, h => absurd h (Nat.not_lt_zero _)
  | n + 1, d, h => by
    unfold suN
    by_cases e : d = n
    · subst e; omega
    · have := suN_ge (ln := ln) (show d < n by omega)
      omega
theorem suN_le {ln : Nat → Nat} (h : ∀ d, ln d ≤ 12000) : ∀ n, suN ln n ≤ 12000 * n
  | 0 => Nat.le_refl _
  | n + 1 => by
    have h1 := suN_le h n
    have h2 := h n
    unfold suN
    omega
theorem av_G {ln : Nat → Nat} {nd d : Nat} (hn : nd ≤ 16) (hd : d < nd) (h0 : 0 < ln d) (hl : ∀ d, ln d ≤ 12000) : dG 990 1090 (avF ln nd) := by
  have h1 := suN_ge (ln := ln) hd
  have h2 := suN_le hl nd
  unfold avF
  rw [if_neg (by omega)]
  exact ⟨(dp_i2d (by omega)).div ((db_i2d _).up (by decide)) (dp_i2d (by omega)) ((db_i2d _).up (by decide)) ((dl_nI (by omega) (by omega)).up (by decide)),
    ((dl_nI (by omega) (by omega)).div ((db_i2d _).up (by decide)) (db_i2d _) ((dl_nI (by omega) (by omega)).up (by decide)) (by decide) (by decide) (by decide) (by decide)).up (by decide),
    ((db_i2d _).div (dl_nI (by omega) (by omega)) ((db_i2d _).up (by decide)) (by decide) (by decide)).up (by decide)⟩
set_option maxHeartbeats 4000000 in
set_option maxRecDepth 100000 in
/-- PartTable.fillWords -/
theorem c_X3_fillWords (l : Launch) (Γ : Gm) (b M : Nat) (mem : Nat → va_E) {pn : Nat} {pt bd : Nat → Nat → UInt64} {nd wz : Nat} {cn : Nat → Nat → Nat} {ln wm : Nat → Nat} (hM : 138 ≤ M) (fP : mem 80 = .inr (3, [.ref (b + 81), .ref (b + 86), .int (nI pn)])) (fPo : mem 81 = aR Γ 9 4 (fun i => some (b + (82 + i)))) (fpt : ∀ z9, z9 < 4 → mem (82 + z9) = aD Γ 16 (pt z9)) (fBo : mem 86 = aR Γ 9 4 (fun i => some (b + (87 + i)))) (fbd : ∀ z9, z9 < 4 → mem (87 + z9) = aD Γ 4 (bd z9)) (fC : mem 1 = .inr (0, [.ref (b + 2), .ref (b + 19), .ref (b + 20), .ref (b + 37), .ref (b + 38), .int (nI nd)])) (fCo : mem 2 = aR Γ 7 16 (fun i => some (b + (3 + i)))) (fcn : ∀ z9, z9 < 16 → mem (3 + z9) = aN Γ 12 (cn z9)) (fL : mem 19 = aN Γ 16 ln) (fW : mem 72 = .inr (5, [.ref (b + 73), .ref (b + 74), .int (nI wz)])) (fW1 : mem 73 = aN Γ 4 wm) (hnd : nd ≤ 16) (hwz : wz ≤ 4) (hcn : ∀ d t, cn d t ≤ 1000) (hlc : ∀ d t, cn d t ≤ ln d) (hln : ∀ d, ln d ≤ 12000) (hwm : ∀ i, wm i < 12) : Ct l yX3_fillWords (.code yX3_fillWords cX3_fillWords 11 none) ({ frames := 2, cells := 0, slots := 0, locals := 52 } : Room) Γ b M [.ref (b + 80), .ref (b + 1), .ref (b + 72)] mem (fun u => u 80 = .inr (3, [.ref (b + 81), .ref (b + 86), .int (nI wz)]) ∧ (∀ z9, z9 < 4 → u (82 + z9) = aD Γ 16 ((rwT pt (ptW pt (wV cn ln wm nd) nd) wz) z9)) ∧ (∀ z9, z9 < 4 → u (87 + z9) = aD Γ 4 ((rwT bd (bdW (rwT pt (ptW pt (wV cn ln wm nd) nd) wz) bd nd) wz) z9)) ∧ ∀ j, j ≠ 80 → ¬ (82 ≤ j ∧ j < 86) → ¬ (87 ≤ j ∧ j < 91) → u j = mem j) none := by
  refine mm_enter (cc := cX3_fillWords) (by decide) (Nat.le_of_ble_eq_true rfl) ?_
  intro p e s m args below meth c ls hx hb hml hown hr hlocks hname hE hh hl
  have hl : lv_has ls 11 [(0, .ref (b + 80)), (1, .ref (b + 1)), (2, .ref (b + 72))] := hl
  have hfr : ∀ j, j ≠ 80 → ¬ (82 ≤ j ∧ j < 86) → ¬ (87 ≤ j ∧ j < 91) → mem j = mem j := fun j _ _ _ => rfl
  refine lv_aload_n hx hb dX3_fillWords_0 rfl (lv_at hl 0 rfl) ?_
  refine lv_aload_n hx hb dX3_fillWords_1 rfl (lv_at hl 2 rfl) ?_
  refine mm_V0r (As := []) (rest := [.ref (b + 80)]) hx hb hml hown hE hl.1 hh (kc_X3_19 hE.2.1 ⟨Nat.le_of_ble_eq_true rfl, Nat.le_of_ble_eq_true rfl⟩) (c_X6_size l Γ b M mem (a := 72) (sz := wz) (by omega) fW) rfl (by omega) fW rfl rfl (Nat.le_of_ble_eq_true rfl) dX3_fillWords_2 rfl rfl (fun H locs hh => ?_)
  refine gp_X3_terms (fs' := [.ref (b + 81), .ref (b + 86), .int (nI wz)]) hx hb hE hown hh (by omega) fP rfl rfl (show 2 < 3 by decide) rfl dX3_fillWords_5 (fun H locs mem1 f2 k3 hh => ?_)
  have hfr4 : ∀ j, j ≠ 80 → ¬ (82 ≤ j ∧ j < 86) → ¬ (87 ≤ j ∧ j < 91) → mem1 j = mem j := fun j c0 c1 c2 => (k3 j (by omega)).trans (hfr j c0 c1 c2)
  have f5 : mem1 81 = aR Γ 9 4 (fun i => some (b + (82 + i))) := (k3 _ (by omega)).trans fPo
  have f6 : mem1 86 = aR Γ 9 4 (fun i => some (b + (87 + i))) := (k3 _ (by omega)).trans fBo
  have f7 : mem1 1 = .inr (0, [.ref (b + 2), .ref (b + 19), .ref (b + 20), .ref (b + 37), .ref (b + 38), .int (nI nd)]) := (k3 _ (by omega)).trans fC
  have f8 : mem1 2 = aR Γ 7 16 (fun i => some (b + (3 + i))) := (k3 _ (by omega)).trans fCo
  have f9 : mem1 19 = aN Γ 16 ln := (k3 _ (by omega)).trans fL
  have f10 : mem1 72 = .inr (5, [.ref (b + 73), .ref (b + 74), .int (nI wz)]) := (k3 _ (by omega)).trans fW
  have f11 : mem1 73 = aN Γ 4 wm := (k3 _ (by omega)).trans fW1
  have f12 : ∀ z9, z9 < 4 → mem1 (82 + z9) = aD Γ 16 (pt z9) := fun z9 hz9 => (k3 _ (by omega)).trans (fpt z9 hz9)
  have f13 : ∀ z9, z9 < 4 → mem1 (87 + z9) = aD Γ 4 (bd z9) := fun z9 hz9 => (k3 _ (by omega)).trans (fbd z9 hz9)
  have f14 : ∀ z9, z9 < 16 → mem1 (3 + z9) = aN Γ 12 (cn z9) := fun z9 hz9 => (k3 _ (by omega)).trans (fcn z9 hz9)
  refine lv_aload_n hx hb dX3_fillWords_8 rfl (lv_at hl 1 rfl) ?_
  refine mm_V0r (As := []) (rest := []) hx hb hml hown hE hl.1 hh (kc_X3_29 hE.2.1 ⟨Nat.le_of_ble_eq_true rfl, Nat.le_of_ble_eq_true rfl⟩) (c_X0_averageLength l Γ b M mem1 (nd := nd) (ln := ln) (by omega) f7 f9 (by omega)) rfl (by omega) f7 rfl rfl (Nat.le_of_ble_eq_true rfl) dX3_fillWords_9 rfl rfl (fun H locs hh => ?_)
  refine lv_dstore_n (lv' := [(3, .double (avF ln nd)), (0, .ref (b + 80)), (1, .ref (b + 1)), (2, .ref (b + 72))]) hx hb dX3_fillWords_12 rfl hl (by decide) rfl (fun ls hl => ?_)
  refine lv_iconst (v := (nI 0)) hx hb dX3_fillWords_13 (by decide) ?_
  refine lv_istore (lv' := [(5, .int (nI 0)), (3, .double (avF ln nd)), (0, .ref (b + 80)), (1, .ref (b + 1)), (2, .ref (b + 72))]) hx hb dX3_fillWords_14 hl (by decide) rfl (fun ls hl => ?_)
  have loop16 : ∀ (n9 : Nat) (i : Nat), (wz - i) < n9 → (i ≤ wz) → ∀ (H : Heap) (locs : List Loc) (mem2 : Nat → va_E), mem2 80 = .inr (3, [.ref (b + 81), .ref (b + 86), .int (nI wz)]) → (∀ z9, z9 < 4 → mem2 (82 + z9) = aD Γ 16 ((rwT pt (ptW pt (wV cn ln wm nd) nd) i) z9)) → (∀ z9, z9 < 4 → mem2 (87 + z9) = aD Γ 4 (bd z9)) → (∀ j, j ≠ 80 → ¬ (82 ≤ j ∧ j < 86) → ¬ (87 ≤ j ∧ j < 91) → mem2 j = mem j) → GH Γ b M mem2 s H locs → ∀ (ls : Array Slot), lv_has ls 11 [(5, .int (nI i)), (3, .double (avF ln nd)), (0, .ref (b + 80)), (1, .ref (b + 1)), (2, .ref (b + 72))] → W p l e ({ frames := 2, cells := 0, slots := 0, locals := 52 } : Room) s m args below meth c H locs 0 0 (MQ below (QC Γ b M (fun u => u 80 = .inr (3, [.ref (b + 81), .ref (b + 86), .int (nI wz)]) ∧ (∀ z9, z9 < 4 → u (82 + z9) = aD Γ 16 ((rwT pt (ptW pt (wV cn ln wm nd) nd) wz) z9)) ∧ (∀ z9, z9 < 4 → u (87 + z9) = aD Γ 4 ((rwT bd (bdW (rwT pt (ptW pt (wV cn ln wm nd) nd) wz) bd nd) wz) z9)) ∧ ∀ j, j ≠ 80 → ¬ (82 ≤ j ∧ j < 86) → ¬ (87 ≤ j ∧ j < 91) → u j = mem j) none) args s 0 0 (fun q => b ≤ q)) (F0 m 16 ls []) := by
    intro n9
    induction n9 with
    | zero => intro i hn; exact absurd hn (Nat.not_lt_zero _)
    | succ n9 ih =>
      intro i hn hi H locs mem15 f17 f18 f19 hfr16 hh ls hl
      have f20 : mem15 81 = aR Γ 9 4 (fun i => some (b + (82 + i))) := (hfr16 _ (by omega) (by omega) (by omega)).trans fPo
      have f21 : mem15 86 = aR Γ 9 4 (fun i => some (b + (87 + i))) := (hfr16 _ (by omega) (by omega) (by omega)).trans fBo
      have f22 : mem15 1 = .inr (0, [.ref (b + 2), .ref (b + 19), .ref (b + 20), .ref (b + 37), .ref (b + 38), .int (nI nd)]) := (hfr16 _ (by omega) (by omega) (by omega)).trans fC
      have f23 : mem15 2 = aR Γ 7 16 (fun i => some (b + (3 + i))) := (hfr16 _ (by omega) (by omega) (by omega)).trans fCo
      have f24 : mem15 19 = aN Γ 16 ln := (hfr16 _ (by omega) (by omega) (by omega)).trans fL
      have f25 : mem15 72 = .inr (5, [.ref (b + 73), .ref (b + 74), .int (nI wz)]) := (hfr16 _ (by omega) (by omega) (by omega)).trans fW
      have f26 : mem15 73 = aN Γ 4 wm := (hfr16 _ (by omega) (by omega) (by omega)).trans fW1
      have f27 : ∀ z9, z9 < 16 → mem15 (3 + z9) = aN Γ 12 (cn z9) := fun z9 hz9 => (hfr16 _ (by omega) (by omega) (by omega)).trans (fcn z9 hz9)
      have hwi := hwm i
      have ih28 := ih
      refine lv_iload hx hb dX3_fillWords_16 (lv_at hl 0 rfl) ?_
      refine lv_aload_n hx hb dX3_fillWords_18 rfl (lv_at hl 2 rfl) ?_
      refine gf_X3_terms hx hb hE hown hh (by omega) f17 rfl dX3_fillWords_19 ?_
      refine nn_icmp_ge (tgt := 106) hx hb dX3_fillWords_22 (by decide) (by omega) (by omega) (fun h29 => ?_) (fun h29 => ?_)
      ·
        obtain rfl : i = wz := by omega
        refine lv_aload_n hx hb dX3_fillWords_106 rfl (lv_at hl 2 rfl) ?_
        refine lv_aload_n hx hb dX3_fillWords_107 rfl (lv_at hl 3 rfl) ?_
        refine mm_V0r (As := []) (rest := [.ref (b + 80)]) hx hb hml hown hE hl.1 hh (kc_X3_39 hE.2.1 ⟨Nat.le_of_ble_eq_true rfl, Nat.le_of_ble_eq_true rfl⟩) (c_X0_size l Γ b M mem15 (nd := nd) (by omega) f22) rfl (by omega) f22 rfl rfl (Nat.le_of_ble_eq_true rfl) dX3_fillWords_108 rfl rfl (fun H locs hh => ?_)
        refine mm_V0 (As := [.int (nI nd)]) (rest := []) hx hb hml hown hE hl.1 hh (kc_X3_58 hE.2.1 ⟨Nat.le_of_ble_eq_true rfl, Nat.le_of_ble_eq_true rfl⟩) (c_X3_fillBounds l Γ b M mem15 (pn := i) (pt := rwT pt (ptW pt (wV cn ln wm nd) nd) i) (bd := bd) (n := nd) (by omega) f17 f20 f18 f21 f19 (by omega) (by omega)) rfl (by omega) f17 rfl rfl (Nat.le_of_ble_eq_true rfl) dX3_fillWords_111 rfl rfl (fun H locs mem30 hP31 hh => ?_)
        obtain ⟨f32, k33⟩ := hP31
        have hfr34 : ∀ j, j ≠ 80 → ¬ (82 ≤ j ∧ j < 86) → ¬ (87 ≤ j ∧ j < 91) → mem30 j = mem j := fun j c0 c1 c2 => (k33 j (by omega)).trans (hfr16 j c0 c1 c2)
        have f35 : mem30 80 = .inr (3, [.ref (b + 81), .ref (b + 86), .int (nI i)]) := (k33 _ (by omega)).trans f17
        have f36 : mem30 81 = aR Γ 9 4 (fun i => some (b + (82 + i))) := (k33 _ (by omega)).trans f20
        have f37 : mem30 86 = aR Γ 9 4 (fun i => some (b + (87 + i))) := (k33 _ (by omega)).trans f21
        have f38 : mem30 1 = .inr (0, [.ref (b + 2), .ref (b + 19), .ref (b + 20), .ref (b + 37), .ref (b + 38), .int (nI nd)]) := (k33 _ (by omega)).trans f22
        have f39 : mem30 2 = aR Γ 7 16 (fun i => some (b + (3 + i))) := (k33 _ (by omega)).trans f23
        have f40 : mem30 19 = aN Γ 16 ln := (k33 _ (by omega)).trans f24
        have f41 : mem30 72 = .inr (5, [.ref (b + 73), .ref (b + 74), .int (nI i)]) := (k33 _ (by omega)).trans f25
        have f42 : mem30 73 = aN Γ 4 wm := (k33 _ (by omega)).trans f26
        have f43 : ∀ z9, z9 < 4 → mem30 (82 + z9) = aD Γ 16 ((rwT pt (ptW pt (wV cn ln wm nd) nd) i) z9) := fun z9 hz9 => (k33 _ (by omega)).trans (f18 z9 hz9)
        have f44 : ∀ z9, z9 < 16 → mem30 (3 + z9) = aN Γ 12 (cn z9) := fun z9 hz9 => (k33 _ (by omega)).trans (f27 z9 hz9)
        exact mm_vret hx hb hr hlocks hE hh (⟨f35, f43, f32, hfr34⟩) dX3_fillWords_114
      ·
        refine lv_aload_n hx hb dX3_fillWords_25 rfl (lv_at hl 4 rfl) ?_
        refine lv_iload hx hb dX3_fillWords_26 (lv_at hl 0 rfl) ?_
        refine mm_V0r (As := [.int (nI i)]) (rest := []) hx hb hml hown hE hl.1 hh (kc_X3_35 hE.2.1 ⟨Nat.le_of_ble_eq_true rfl, Nat.le_of_ble_eq_true rfl⟩) (c_X6_termAt l Γ b M mem15 (a := 72) (sz := wz) (tm := wm) (i := i) (by omega) f25 f26 (by omega)) rfl (by omega) f25 rfl rfl (Nat.le_of_ble_eq_true rfl) dX3_fillWords_28 rfl rfl (fun H locs hh => ?_)
        refine lv_istore (lv' := [(6, .int (nI (wm i))), (5, .int (nI i)), (3, .double (avF ln nd)), (0, .ref (b + 80)), (1, .ref (b + 1)), (2, .ref (b + 72))]) hx hb dX3_fillWords_31 hl (by decide) rfl (fun ls hl => ?_)
        refine lv_aload_n hx hb dX3_fillWords_33 rfl (lv_at hl 4 rfl) ?_
        refine mm_V0r (As := []) (rest := []) hx hb hml hown hE hl.1 hh (kc_X3_39 hE.2.1 ⟨Nat.le_of_ble_eq_true rfl, Nat.le_of_ble_eq_true rfl⟩) (c_X0_size l Γ b M mem15 (nd := nd) (by omega) f22) rfl (by omega) f22 rfl rfl (Nat.le_of_ble_eq_true rfl) dX3_fillWords_34 rfl rfl (fun H locs hh => ?_)
        refine lv_aload_n hx hb dX3_fillWords_37 rfl (lv_at hl 4 rfl) ?_
        refine lv_iload hx hb dX3_fillWords_38 (lv_at hl 0 rfl) ?_
        refine mm_V0r (As := [.int (nI (wm i))]) (rest := [.int (nI nd)]) hx hb hml hown hE hl.1 hh (kc_X3_40 hE.2.1 ⟨Nat.le_of_ble_eq_true rfl, Nat.le_of_ble_eq_true rfl⟩) (c_X0_documentsWith l Γ b M mem15 (nd := nd) (t := wm i) (cn := cn) (by omega) f22 f23 f27 (by omega) (by omega) (hcn)) rfl (by omega) f22 rfl rfl (Nat.le_of_ble_eq_true rfl) dX3_fillWords_40 rfl rfl (fun H locs hh => ?_)
        refine mm_SN0r (As := [.int (nI nd), .int (nI (dwN cn (wm i) nd))]) (rest := []) hx hb hml hown hE hl.1 hh (kc_X3_43 hE.2.1 hE.2.2.1 ⟨Nat.le_of_ble_eq_true rfl, Nat.le_of_ble_eq_true rfl⟩) (c_X9_inverseFrequency l Γ b M mem15 (n := nd) (f := dwN cn (wm i) nd) (by omega) (dwN_le _ _ _)) rfl rfl (Nat.le_of_ble_eq_true rfl) dX3_fillWords_43 rfl rfl (fun H locs hh => ?_)
        refine lv_dstore (lv' := [(7, .double (idfF nd (dwN cn (wm i) nd))), (6, .int (nI (wm i))), (5, .int (nI i)), (3, .double (avF ln nd)), (0, .ref (b + 80)), (1, .ref (b + 1)), (2, .ref (b + 72))]) hx hb dX3_fillWords_46 hl (by decide) rfl (fun ls hl => ?_)
        refine lv_iconst (v := (nI 0)) hx hb dX3_fillWords_48 (by decide) ?_
        refine lv_istore (lv' := [(9, .int (nI 0)), (7, .double (idfF nd (dwN cn (wm i) nd))), (6, .int (nI (wm i))), (5, .int (nI i)), (3, .double (avF ln nd)), (0, .ref (b + 80)), (1, .ref (b + 1)), (2, .ref (b + 72))]) hx hb dX3_fillWords_49 hl (by decide) rfl (fun ls hl => ?_)
        have loop51 : ∀ (n9 : Nat) (d : Nat), (nd - d) < n9 → (d ≤ nd) → ∀ (H : Heap) (locs : List Loc) (mem2 : Nat → va_E), mem2 80 = .inr (3, [.ref (b + 81), .ref (b + 86), .int (nI wz)]) → (∀ z9, z9 < 4 → mem2 (82 + z9) = aD Γ 16 ((va_up (rwT pt (ptW pt (wV cn ln wm nd) nd) i) i (fiR (pt i) ((wV cn ln wm nd) i) d)) z9)) → (∀ z9, z9 < 4 → mem2 (87 + z9) = aD Γ 4 (bd z9)) → (∀ j, j ≠ 80 → ¬ (82 ≤ j ∧ j < 86) → ¬ (87 ≤ j ∧ j < 91) → mem2 j = mem j) → GH Γ b M mem2 s H locs → ∀ (ls : Array Slot), lv_has ls 11 [(9, .int (nI d)), (7, .double (idfF nd (dwN cn (wm i) nd))), (6, .int (nI (wm i))), (5, .int (nI i)), (3, .double (avF ln nd)), (0, .ref (b + 80)), (1, .ref (b + 1)), (2, .ref (b + 72))] → W p l e ({ frames := 2, cells := 0, slots := 0, locals := 52 } : Room) s m args below meth c H locs 0 0 (MQ below (QC Γ b M (fun u => u 80 = .inr (3, [.ref (b + 81), .ref (b + 86), .int (nI wz)]) ∧ (∀ z9, z9 < 4 → u (82 + z9) = aD Γ 16 ((rwT pt (ptW pt (wV cn ln wm nd) nd) wz) z9)) ∧ (∀ z9, z9 < 4 → u (87 + z9) = aD Γ 4 ((rwT bd (bdW (rwT pt (ptW pt (wV cn ln wm nd) nd) wz) bd nd) wz) z9)) ∧ ∀ j, j ≠ 80 → ¬ (82 ≤ j ∧ j < 86) → ¬ (87 ≤ j ∧ j < 91) → u j = mem j) none) args s 0 0 (fun q => b ≤ q)) (F0 m 51 ls []) := by
          intro n9
          induction n9 with
          | zero => intro d hn; exact absurd hn (Nat.not_lt_zero _)
          | succ n9 ih =>
            intro d hn hd H locs mem45 f47 f48 f49 hfr46 hh ls hl
            have f50 : mem45 81 = aR Γ 9 4 (fun i => some (b + (82 + i))) := (hfr46 _ (by omega) (by omega) (by omega)).trans fPo
            have f51 : mem45 86 = aR Γ 9 4 (fun i => some (b + (87 + i))) := (hfr46 _ (by omega) (by omega) (by omega)).trans fBo
            have f52 : mem45 1 = .inr (0, [.ref (b + 2), .ref (b + 19), .ref (b + 20), .ref (b + 37), .ref (b + 38), .int (nI nd)]) := (hfr46 _ (by omega) (by omega) (by omega)).trans fC
            have f53 : mem45 2 = aR Γ 7 16 (fun i => some (b + (3 + i))) := (hfr46 _ (by omega) (by omega) (by omega)).trans fCo
            have f54 : mem45 19 = aN Γ 16 ln := (hfr46 _ (by omega) (by omega) (by omega)).trans fL
            have f55 : mem45 72 = .inr (5, [.ref (b + 73), .ref (b + 74), .int (nI wz)]) := (hfr46 _ (by omega) (by omega) (by omega)).trans fW
            have f56 : mem45 73 = aN Γ 4 wm := (hfr46 _ (by omega) (by omega) (by omega)).trans fW1
            have f57 : ∀ z9, z9 < 16 → mem45 (3 + z9) = aN Γ 12 (cn z9) := fun z9 hz9 => (hfr46 _ (by omega) (by omega) (by omega)).trans (fcn z9 hz9)
            have ih58 := ih
            refine lv_iload hx hb dX3_fillWords_51 (lv_at hl 0 rfl) ?_
            refine lv_aload_n hx hb dX3_fillWords_53 rfl (lv_at hl 6 rfl) ?_
            refine mm_V0r (As := []) (rest := [.int (nI d)]) hx hb hml hown hE hl.1 hh (kc_X3_39 hE.2.1 ⟨Nat.le_of_ble_eq_true rfl, Nat.le_of_ble_eq_true rfl⟩) (c_X0_size l Γ b M mem45 (nd := nd) (by omega) f52) rfl (by omega) f52 rfl rfl (Nat.le_of_ble_eq_true rfl) dX3_fillWords_54 rfl rfl (fun H locs hh => ?_)
            refine nn_icmp_ge (tgt := 100) hx hb dX3_fillWords_57 (by decide) (by omega) (by omega) (fun h59 => ?_) (fun h59 => ?_)
            ·
              have hdn : d = nd := by omega
              refine nn_iinc (x := i) (d := 1) (lv' := [(5, .int (nI (i + 1))), (9, .int (nI d)), (7, .double (idfF nd (dwN cn (wm i) nd))), (6, .int (nI (wm i))), (3, .double (avF ln nd)), (0, .ref (b + 80)), (1, .ref (b + 1)), (2, .ref (b + 72))]) hx hb dX3_fillWords_100 hl (k := 3) rfl (by decide) (by decide) rfl (fun ls hl => ?_)
              refine lv_goto (tgt := 16) hx hb dX3_fillWords_103 (by decide) ?_
              exact ih28 (i + 1) (by omega) (by omega) _ _ mem45 (f47) (by subst hdn; rw [← rwT_s]; exact f48) (f49) hfr46 hh ls (lv_sub hl [0, 4, 5, 6, 7] rfl)
            ·
              refine lv_aload_n hx hb dX3_fillWords_60 rfl (lv_at hl 6 rfl) ?_
              refine lv_iload hx hb dX3_fillWords_61 (lv_at hl 0 rfl) ?_
              refine lv_iload hx hb dX3_fillWords_63 (lv_at hl 2 rfl) ?_
              refine mm_V0r (As := [.int (nI d), .int (nI (wm i))]) (rest := []) hx hb hml hown hE hl.1 hh (kc_X3_47 hE.2.1 ⟨Nat.le_of_ble_eq_true rfl, Nat.le_of_ble_eq_true rfl⟩) (c_X0_countOf l Γ b M mem45 (nd := nd) (d := d) (t := wm i) (cn := cn) (by omega) f52 f53 f57 (by omega) (by omega)) rfl (by omega) f52 rfl rfl (Nat.le_of_ble_eq_true rfl) dX3_fillWords_65 rfl rfl (fun H locs hh => ?_)
              refine lv_istore (lv' := [(10, .int (nI (cn d (wm i)))), (9, .int (nI d)), (7, .double (idfF nd (dwN cn (wm i) nd))), (6, .int (nI (wm i))), (5, .int (nI i)), (3, .double (avF ln nd)), (0, .ref (b + 80)), (1, .ref (b + 1)), (2, .ref (b + 72))]) hx hb dX3_fillWords_68 hl (by decide) rfl (fun ls hl => ?_)
              refine lv_aload_n hx hb dX3_fillWords_70 rfl (lv_at hl 6 rfl) ?_
              refine gf_X3_parts hx hb hE hown hh (by omega) f47 rfl dX3_fillWords_71 ?_
              refine lv_iload hx hb dX3_fillWords_74 (lv_at hl 4 rfl) ?_
              refine mm_aald (q := b + (82 + i)) hx hb hE hh 9 (by omega) f50 rfl rfl (by omega) (by decide) (rfl) dX3_fillWords_76 ?_
              refine lv_iload hx hb dX3_fillWords_77 (lv_at hl 1 rfl) ?_
              refine lv_dload hx hb dX3_fillWords_79 (lv_at hl 2 rfl) ?_
              refine lv_iload hx hb dX3_fillWords_81 (lv_at hl 0 rfl) ?_
              refine lv_aload_n hx hb dX3_fillWords_83 rfl (lv_at hl 7 rfl) ?_
              refine lv_iload hx hb dX3_fillWords_84 (lv_at hl 1 rfl) ?_
              refine mm_V0r (As := [.int (nI d)]) (rest := [.int (nI (cn d (wm i))), .double (idfF nd (dwN cn (wm i) nd)), .int (nI d), .ref (b + (82 + i))]) hx hb hml hown hE hl.1 hh (kc_X3_51 hE.2.1 ⟨Nat.le_of_ble_eq_true rfl, Nat.le_of_ble_eq_true rfl⟩) (c_X0_lengthOf l Γ b M mem45 (nd := nd) (d := d) (ln := ln) (by omega) f52 f54 (by omega)) rfl (by omega) f52 rfl rfl (Nat.le_of_ble_eq_true rfl) dX3_fillWords_86 rfl rfl (fun H locs hh => ?_)
              refine lv_dload_n hx hb dX3_fillWords_89 rfl (lv_at hl 5 rfl) ?_
              refine mm_SN0r (As := [.double (idfF nd (dwN cn (wm i) nd)), .int (nI (cn d (wm i))), .int (nI (ln d)), .double (avF ln nd)]) (rest := [.int (nI d), .ref (b + (82 + i))]) hx hb hml hown hE hl.1 hh (kc_X3_54 hE.2.1 hE.2.2.1 ⟨Nat.le_of_ble_eq_true rfl, Nat.le_of_ble_eq_true rfl⟩) (c_X9_wordPart l Γ b M mem45 (idf := idfF nd (dwN cn (wm i) nd)) (avg := avF ln nd) (k := cn d (wm i)) (len := ln d) (hcn _ _) (by have := hln d; omega) (idf_G hnd (dwN_le _ _ _)) (fun h => av_G hnd (show d < nd by omega) (Nat.lt_of_lt_of_le h (hlc d (wm i))) hln)) rfl rfl (Nat.le_of_ble_eq_true rfl) dX3_fillWords_90 rfl rfl (fun H locs hh => ?_)
              refine mm_dast hx hb hE hh (by omega) (by rw [f48 i (by omega), va_up_self]) (by omega) (by decide) dX3_fillWords_93 (fun H locs mem60 f61 k62 hh => ?_)
              have hfr63 : ∀ j, j ≠ 80 → ¬ (82 ≤ j ∧ j < 86) → ¬ (87 ≤ j ∧ j < 91) → mem60 j = mem j := fun j c0 c1 c2 => (k62 j (by omega)).trans (hfr46 j c0 c1 c2)
              have f64 : mem60 80 = .inr (3, [.ref (b + 81), .ref (b + 86), .int (nI wz)]) := (k62 _ (by omega)).trans f47
              have f65 : mem60 81 = aR Γ 9 4 (fun i => some (b + (82 + i))) := (k62 _ (by omega)).trans f50
              have f66 : mem60 86 = aR Γ 9 4 (fun i => some (b + (87 + i))) := (k62 _ (by omega)).trans f51
              have f67 : mem60 1 = .inr (0, [.ref (b + 2), .ref (b + 19), .ref (b + 20), .ref (b + 37), .ref (b + 38), .int (nI nd)]) := (k62 _ (by omega)).trans f52
              have f68 : mem60 2 = aR Γ 7 16 (fun i => some (b + (3 + i))) := (k62 _ (by omega)).trans f53
              have f69 : mem60 19 = aN Γ 16 ln := (k62 _ (by omega)).trans f54
              have f70 : mem60 72 = .inr (5, [.ref (b + 73), .ref (b + 74), .int (nI wz)]) := (k62 _ (by omega)).trans f55
              have f71 : mem60 73 = aN Γ 4 wm := (k62 _ (by omega)).trans f56
              have f72 : ∀ z9, z9 < 4 → mem60 (82 + z9) = aD Γ 16 ((va_up (rwT pt (ptW pt (wV cn ln wm nd) nd) i) i (va_up (fiR (pt i) ((wV cn ln wm nd) i) d) d (wpC (idfF nd (dwN cn (wm i) nd)) (cn d (wm i)) (ln d) (avF ln nd)))) z9) := by
                intro z9 hz9
                by_cases e9 : z9 = i
                · rw [e9, va_up_self]; exact f61
                · rw [va_up_ne _ _ e9]; exact ((k62 _ (by omega)).trans (f48 z9 hz9)).trans (by rw [va_up_ne _ _ e9])
              have f73 : ∀ z9, z9 < 4 → mem60 (87 + z9) = aD Γ 4 (bd z9) := fun z9 hz9 => (k62 _ (by omega)).trans (f49 z9 hz9)
              have f74 : ∀ z9, z9 < 16 → mem60 (3 + z9) = aN Γ 12 (cn z9) := fun z9 hz9 => (k62 _ (by omega)).trans (f57 z9 hz9)
              refine nn_iinc (x := d) (d := 1) (lv' := [(9, .int (nI (d + 1))), (10, .int (nI (cn d (wm i)))), (7, .double (idfF nd (dwN cn (wm i) nd))), (6, .int (nI (wm i))), (5, .int (nI i)), (3, .double (avF ln nd)), (0, .ref (b + 80)), (1, .ref (b + 1)), (2, .ref (b + 72))]) hx hb dX3_fillWords_94 hl (k := 1) rfl (by decide) (by decide) rfl (fun ls hl => ?_)
              refine lv_goto (tgt := 51) hx hb dX3_fillWords_97 (by decide) ?_
              exact ih58 (d + 1) (by omega) (by omega) _ _ mem60 (f64) (by rw [← fiR_s]; exact f72) (f73) hfr63 hh ls (lv_sub hl [0, 2, 3, 4, 5, 6, 7, 8] rfl)
        exact loop51 ((nd - 0) + 1) 0 (by omega) (by omega) _ _ mem15 (f17) (by rw [fiR_0, rwT_i]; exact f18) (f19) hfr16 hh ls (lv_sub hl [0, 1, 2, 3, 4, 5, 6, 7] rfl)
  exact loop16 ((wz - 0) + 1) 0 (by omega) (by omega) _ _ mem1 (f2) (by rw [rwT_0]; exact f12) (f13) hfr4 hh ls (lv_sub hl [0, 1, 2, 3, 4] rfl)
set_option maxHeartbeats 4000000 in
set_option maxRecDepth 100000 in
/-- PartTable.fillImpacts -/
theorem c_X3_fillImpacts (l : Launch) (Γ : Gm) (b M : Nat) (mem : Nat → va_E) {pn : Nat} {pt bd : Nat → Nat → UInt64} {nd iz : Nat} {wt : Nat → Nat → UInt32} {im iw : Nat → Nat} (hM : 138 ≤ M) (fP : mem 80 = .inr (3, [.ref (b + 81), .ref (b + 86), .int (nI pn)])) (fPo : mem 81 = aR Γ 9 4 (fun i => some (b + (82 + i)))) (fpt : ∀ z9, z9 < 4 → mem (82 + z9) = aD Γ 16 (pt z9)) (fBo : mem 86 = aR Γ 9 4 (fun i => some (b + (87 + i)))) (fbd : ∀ z9, z9 < 4 → mem (87 + z9) = aD Γ 4 (bd z9)) (fC : mem 1 = .inr (0, [.ref (b + 2), .ref (b + 19), .ref (b + 20), .ref (b + 37), .ref (b + 38), .int (nI nd)])) (fWo : mem 20 = aR Γ 8 16 (fun i => some (b + (21 + i)))) (fwt : ∀ z9, z9 < 16 → mem (21 + z9) = aF Γ 12 (wt z9)) (fI : mem 75 = .inr (5, [.ref (b + 76), .ref (b + 77), .int (nI iz)])) (fI1 : mem 76 = aN Γ 4 im) (fI2 : mem 77 = aN Γ 4 iw) (hnd : nd ≤ 16) (hiz : iz ≤ 4) (hwt : ∀ d t, fb 148 (wt d t)) (him : ∀ i, im i < 12) : Ct l yX3_fillImpacts (.code yX3_fillImpacts cX3_fillImpacts 8 none) ({ frames := 2, cells := 0, slots := 0, locals := 44 } : Room) Γ b M [.ref (b + 80), .ref (b + 1), .ref (b + 75)] mem (fun u => u 80 = .inr (3, [.ref (b + 81), .ref (b + 86), .int (nI iz)]) ∧ (∀ z9, z9 < 4 → u (82 + z9) = aD Γ 16 ((rwT pt (ptW pt (iV wt im iw nd) nd) iz) z9)) ∧ (∀ z9, z9 < 4 → u (87 + z9) = aD Γ 4 ((rwT bd (bdW (rwT pt (ptW pt (iV wt im iw nd) nd) iz) bd nd) iz) z9)) ∧ ∀ j, j ≠ 80 → ¬ (82 ≤ j ∧ j < 86) → ¬ (87 ≤ j ∧ j < 91) → u j = mem j) none := by
  refine mm_enter (cc := cX3_fillImpacts) (by decide) (Nat.le_of_ble_eq_true rfl) ?_
  intro p e s m args below meth c ls hx hb hml hown hr hlocks hname hE hh hl
  have hl : lv_has ls 8 [(0, .ref (b + 80)), (1, .ref (b + 1)), (2, .ref (b + 75))] := hl
  have hfr : ∀ j, j ≠ 80 → ¬ (82 ≤ j ∧ j < 86) → ¬ (87 ≤ j ∧ j < 91) → mem j = mem j := fun j _ _ _ => rfl
  refine lv_aload_n hx hb dX3_fillImpacts_0 rfl (lv_at hl 0 rfl) ?_
  refine lv_aload_n hx hb dX3_fillImpacts_1 rfl (lv_at hl 2 rfl) ?_
  refine mm_V0r (As := []) (rest := [.ref (b + 80)]) hx hb hml hown hE hl.1 hh (kc_X3_19 hE.2.1 ⟨Nat.le_of_ble_eq_true rfl, Nat.le_of_ble_eq_true rfl⟩) (c_X6_size l Γ b M mem (a := 75) (sz := iz) (by omega) fI) rfl (by omega) fI rfl rfl (Nat.le_of_ble_eq_true rfl) dX3_fillImpacts_2 rfl rfl (fun H locs hh => ?_)
  refine gp_X3_terms (fs' := [.ref (b + 81), .ref (b + 86), .int (nI iz)]) hx hb hE hown hh (by omega) fP rfl rfl (show 2 < 3 by decide) rfl dX3_fillImpacts_5 (fun H locs mem1 f2 k3 hh => ?_)
  have hfr4 : ∀ j, j ≠ 80 → ¬ (82 ≤ j ∧ j < 86) → ¬ (87 ≤ j ∧ j < 91) → mem1 j = mem j := fun j c0 c1 c2 => (k3 j (by omega)).trans (hfr j c0 c1 c2)
  have f5 : mem1 81 = aR Γ 9 4 (fun i => some (b + (82 + i))) := (k3 _ (by omega)).trans fPo
  have f6 : mem1 86 = aR Γ 9 4 (fun i => some (b + (87 + i))) := (k3 _ (by omega)).trans fBo
  have f7 : mem1 1 = .inr (0, [.ref (b + 2), .ref (b + 19), .ref (b + 20), .ref (b + 37), .ref (b + 38), .int (nI nd)]) := (k3 _ (by omega)).trans fC
  have f8 : mem1 20 = aR Γ 8 16 (fun i => some (b + (21 + i))) := (k3 _ (by omega)).trans fWo
  have f9 : mem1 75 = .inr (5, [.ref (b + 76), .ref (b + 77), .int (nI iz)]) := (k3 _ (by omega)).trans fI
  have f10 : mem1 76 = aN Γ 4 im := (k3 _ (by omega)).trans fI1
  have f11 : mem1 77 = aN Γ 4 iw := (k3 _ (by omega)).trans fI2
  have f12 : ∀ z9, z9 < 4 → mem1 (82 + z9) = aD Γ 16 (pt z9) := fun z9 hz9 => (k3 _ (by omega)).trans (fpt z9 hz9)
  have f13 : ∀ z9, z9 < 4 → mem1 (87 + z9) = aD Γ 4 (bd z9) := fun z9 hz9 => (k3 _ (by omega)).trans (fbd z9 hz9)
  have f14 : ∀ z9, z9 < 16 → mem1 (21 + z9) = aF Γ 12 (wt z9) := fun z9 hz9 => (k3 _ (by omega)).trans (fwt z9 hz9)
  refine lv_aload_n hx hb dX3_fillImpacts_8 rfl (lv_at hl 1 rfl) ?_
  refine mm_V0r (As := []) (rest := []) hx hb hml hown hE hl.1 hh (kc_X3_62 hE.2.1 ⟨Nat.le_of_ble_eq_true rfl, Nat.le_of_ble_eq_true rfl⟩) (c_X0_greatestWeight l Γ b M mem1 (nd := nd) (wt := wt) (by omega) f7 f8 f14 (by omega) (hwt)) rfl (by omega) f7 rfl rfl (Nat.le_of_ble_eq_true rfl) dX3_fillImpacts_9 rfl rfl (fun H locs hh => ?_)
  refine lv_fstore_n (lv' := [(3, .float (gwF wt nd)), (0, .ref (b + 80)), (1, .ref (b + 1)), (2, .ref (b + 75))]) hx hb dX3_fillImpacts_12 rfl hl (by decide) rfl (fun ls hl => ?_)
  refine lv_iconst (v := (nI 0)) hx hb dX3_fillImpacts_13 (by decide) ?_
  refine lv_istore (lv' := [(4, .int (nI 0)), (3, .float (gwF wt nd)), (0, .ref (b + 80)), (1, .ref (b + 1)), (2, .ref (b + 75))]) hx hb dX3_fillImpacts_14 hl (by decide) rfl (fun ls hl => ?_)
  have loop16 : ∀ (n9 : Nat) (i : Nat), (iz - i) < n9 → (i ≤ iz) → ∀ (H : Heap) (locs : List Loc) (mem2 : Nat → va_E), mem2 80 = .inr (3, [.ref (b + 81), .ref (b + 86), .int (nI iz)]) → (∀ z9, z9 < 4 → mem2 (82 + z9) = aD Γ 16 ((rwT pt (ptW pt (iV wt im iw nd) nd) i) z9)) → (∀ z9, z9 < 4 → mem2 (87 + z9) = aD Γ 4 (bd z9)) → (∀ j, j ≠ 80 → ¬ (82 ≤ j ∧ j < 86) → ¬ (87 ≤ j ∧ j < 91) → mem2 j = mem j) → GH Γ b M mem2 s H locs → ∀ (ls : Array Slot), lv_has ls 8 [(4, .int (nI i)), (3, .float (gwF wt nd)), (0, .ref (b + 80)), (1, .ref (b + 1)), (2, .ref (b + 75))] → W p l e ({ frames := 2, cells := 0, slots := 0, locals := 44 } : Room) s m args below meth c H locs 0 0 (MQ below (QC Γ b M (fun u => u 80 = .inr (3, [.ref (b + 81), .ref (b + 86), .int (nI iz)]) ∧ (∀ z9, z9 < 4 → u (82 + z9) = aD Γ 16 ((rwT pt (ptW pt (iV wt im iw nd) nd) iz) z9)) ∧ (∀ z9, z9 < 4 → u (87 + z9) = aD Γ 4 ((rwT bd (bdW (rwT pt (ptW pt (iV wt im iw nd) nd) iz) bd nd) iz) z9)) ∧ ∀ j, j ≠ 80 → ¬ (82 ≤ j ∧ j < 86) → ¬ (87 ≤ j ∧ j < 91) → u j = mem j) none) args s 0 0 (fun q => b ≤ q)) (F0 m 16 ls []) := by
    intro n9
    induction n9 with
    | zero => intro i hn; exact absurd hn (Nat.not_lt_zero _)
    | succ n9 ih =>
      intro i hn hi H locs mem15 f17 f18 f19 hfr16 hh ls hl
      have f20 : mem15 81 = aR Γ 9 4 (fun i => some (b + (82 + i))) := (hfr16 _ (by omega) (by omega) (by omega)).trans fPo
      have f21 : mem15 86 = aR Γ 9 4 (fun i => some (b + (87 + i))) := (hfr16 _ (by omega) (by omega) (by omega)).trans fBo
      have f22 : mem15 1 = .inr (0, [.ref (b + 2), .ref (b + 19), .ref (b + 20), .ref (b + 37), .ref (b + 38), .int (nI nd)]) := (hfr16 _ (by omega) (by omega) (by omega)).trans fC
      have f23 : mem15 20 = aR Γ 8 16 (fun i => some (b + (21 + i))) := (hfr16 _ (by omega) (by omega) (by omega)).trans fWo
      have f24 : mem15 75 = .inr (5, [.ref (b + 76), .ref (b + 77), .int (nI iz)]) := (hfr16 _ (by omega) (by omega) (by omega)).trans fI
      have f25 : mem15 76 = aN Γ 4 im := (hfr16 _ (by omega) (by omega) (by omega)).trans fI1
      have f26 : mem15 77 = aN Γ 4 iw := (hfr16 _ (by omega) (by omega) (by omega)).trans fI2
      have f27 : ∀ z9, z9 < 16 → mem15 (21 + z9) = aF Γ 12 (wt z9) := fun z9 hz9 => (hfr16 _ (by omega) (by omega) (by omega)).trans (fwt z9 hz9)
      have hii := him i
      have ih28 := ih
      refine lv_iload hx hb dX3_fillImpacts_16 (lv_at hl 0 rfl) ?_
      refine lv_aload_n hx hb dX3_fillImpacts_18 rfl (lv_at hl 2 rfl) ?_
      refine gf_X3_terms hx hb hE hown hh (by omega) f17 rfl dX3_fillImpacts_19 ?_
      refine nn_icmp_ge (tgt := 86) hx hb dX3_fillImpacts_22 (by decide) (by omega) (by omega) (fun h29 => ?_) (fun h29 => ?_)
      ·
        obtain rfl : i = iz := by omega
        refine lv_aload_n hx hb dX3_fillImpacts_86 rfl (lv_at hl 2 rfl) ?_
        refine lv_aload_n hx hb dX3_fillImpacts_87 rfl (lv_at hl 3 rfl) ?_
        refine mm_V0r (As := []) (rest := [.ref (b + 80)]) hx hb hml hown hE hl.1 hh (kc_X3_39 hE.2.1 ⟨Nat.le_of_ble_eq_true rfl, Nat.le_of_ble_eq_true rfl⟩) (c_X0_size l Γ b M mem15 (nd := nd) (by omega) f22) rfl (by omega) f22 rfl rfl (Nat.le_of_ble_eq_true rfl) dX3_fillImpacts_88 rfl rfl (fun H locs hh => ?_)
        refine mm_V0 (As := [.int (nI nd)]) (rest := []) hx hb hml hown hE hl.1 hh (kc_X3_58 hE.2.1 ⟨Nat.le_of_ble_eq_true rfl, Nat.le_of_ble_eq_true rfl⟩) (c_X3_fillBounds l Γ b M mem15 (pn := i) (pt := rwT pt (ptW pt (iV wt im iw nd) nd) i) (bd := bd) (n := nd) (by omega) f17 f20 f18 f21 f19 (by omega) (by omega)) rfl (by omega) f17 rfl rfl (Nat.le_of_ble_eq_true rfl) dX3_fillImpacts_91 rfl rfl (fun H locs mem30 hP31 hh => ?_)
        obtain ⟨f32, k33⟩ := hP31
        have hfr34 : ∀ j, j ≠ 80 → ¬ (82 ≤ j ∧ j < 86) → ¬ (87 ≤ j ∧ j < 91) → mem30 j = mem j := fun j c0 c1 c2 => (k33 j (by omega)).trans (hfr16 j c0 c1 c2)
        have f35 : mem30 80 = .inr (3, [.ref (b + 81), .ref (b + 86), .int (nI i)]) := (k33 _ (by omega)).trans f17
        have f36 : mem30 81 = aR Γ 9 4 (fun i => some (b + (82 + i))) := (k33 _ (by omega)).trans f20
        have f37 : mem30 86 = aR Γ 9 4 (fun i => some (b + (87 + i))) := (k33 _ (by omega)).trans f21
        have f38 : mem30 1 = .inr (0, [.ref (b + 2), .ref (b + 19), .ref (b + 20), .ref (b + 37), .ref (b + 38), .int (nI nd)]) := (k33 _ (by omega)).trans f22
        have f39 : mem30 20 = aR Γ 8 16 (fun i => some (b + (21 + i))) := (k33 _ (by omega)).trans f23
        have f40 : mem30 75 = .inr (5, [.ref (b + 76), .ref (b + 77), .int (nI i)]) := (k33 _ (by omega)).trans f24
        have f41 : mem30 76 = aN Γ 4 im := (k33 _ (by omega)).trans f25
        have f42 : mem30 77 = aN Γ 4 iw := (k33 _ (by omega)).trans f26
        have f43 : ∀ z9, z9 < 4 → mem30 (82 + z9) = aD Γ 16 ((rwT pt (ptW pt (iV wt im iw nd) nd) i) z9) := fun z9 hz9 => (k33 _ (by omega)).trans (f18 z9 hz9)
        have f44 : ∀ z9, z9 < 16 → mem30 (21 + z9) = aF Γ 12 (wt z9) := fun z9 hz9 => (k33 _ (by omega)).trans (f27 z9 hz9)
        exact mm_vret hx hb hr hlocks hE hh (⟨f35, f43, f32, hfr34⟩) dX3_fillImpacts_94
      ·
        refine lv_iconst (v := (nI 0)) hx hb dX3_fillImpacts_25 (by decide) ?_
        refine lv_istore (lv' := [(5, .int (nI 0)), (4, .int (nI i)), (3, .float (gwF wt nd)), (0, .ref (b + 80)), (1, .ref (b + 1)), (2, .ref (b + 75))]) hx hb dX3_fillImpacts_26 hl (by decide) rfl (fun ls hl => ?_)
        have loop28 : ∀ (n9 : Nat) (d : Nat), (nd - d) < n9 → (d ≤ nd) → ∀ (H : Heap) (locs : List Loc) (mem2 : Nat → va_E), mem2 80 = .inr (3, [.ref (b + 81), .ref (b + 86), .int (nI iz)]) → (∀ z9, z9 < 4 → mem2 (82 + z9) = aD Γ 16 ((va_up (rwT pt (ptW pt (iV wt im iw nd) nd) i) i (fiR (pt i) ((iV wt im iw nd) i) d)) z9)) → (∀ z9, z9 < 4 → mem2 (87 + z9) = aD Γ 4 (bd z9)) → (∀ j, j ≠ 80 → ¬ (82 ≤ j ∧ j < 86) → ¬ (87 ≤ j ∧ j < 91) → mem2 j = mem j) → GH Γ b M mem2 s H locs → ∀ (ls : Array Slot), lv_has ls 8 [(5, .int (nI d)), (4, .int (nI i)), (3, .float (gwF wt nd)), (0, .ref (b + 80)), (1, .ref (b + 1)), (2, .ref (b + 75))] → W p l e ({ frames := 2, cells := 0, slots := 0, locals := 44 } : Room) s m args below meth c H locs 0 0 (MQ below (QC Γ b M (fun u => u 80 = .inr (3, [.ref (b + 81), .ref (b + 86), .int (nI iz)]) ∧ (∀ z9, z9 < 4 → u (82 + z9) = aD Γ 16 ((rwT pt (ptW pt (iV wt im iw nd) nd) iz) z9)) ∧ (∀ z9, z9 < 4 → u (87 + z9) = aD Γ 4 ((rwT bd (bdW (rwT pt (ptW pt (iV wt im iw nd) nd) iz) bd nd) iz) z9)) ∧ ∀ j, j ≠ 80 → ¬ (82 ≤ j ∧ j < 86) → ¬ (87 ≤ j ∧ j < 91) → u j = mem j) none) args s 0 0 (fun q => b ≤ q)) (F0 m 28 ls []) := by
          intro n9
          induction n9 with
          | zero => intro d hn; exact absurd hn (Nat.not_lt_zero _)
          | succ n9 ih =>
            intro d hn hd H locs mem45 f47 f48 f49 hfr46 hh ls hl
            have f50 : mem45 81 = aR Γ 9 4 (fun i => some (b + (82 + i))) := (hfr46 _ (by omega) (by omega) (by omega)).trans fPo
            have f51 : mem45 86 = aR Γ 9 4 (fun i => some (b + (87 + i))) := (hfr46 _ (by omega) (by omega) (by omega)).trans fBo
            have f52 : mem45 1 = .inr (0, [.ref (b + 2), .ref (b + 19), .ref (b + 20), .ref (b + 37), .ref (b + 38), .int (nI nd)]) := (hfr46 _ (by omega) (by omega) (by omega)).trans fC
            have f53 : mem45 20 = aR Γ 8 16 (fun i => some (b + (21 + i))) := (hfr46 _ (by omega) (by omega) (by omega)).trans fWo
            have f54 : mem45 75 = .inr (5, [.ref (b + 76), .ref (b + 77), .int (nI iz)]) := (hfr46 _ (by omega) (by omega) (by omega)).trans fI
            have f55 : mem45 76 = aN Γ 4 im := (hfr46 _ (by omega) (by omega) (by omega)).trans fI1
            have f56 : mem45 77 = aN Γ 4 iw := (hfr46 _ (by omega) (by omega) (by omega)).trans fI2
            have f57 : ∀ z9, z9 < 16 → mem45 (21 + z9) = aF Γ 12 (wt z9) := fun z9 hz9 => (hfr46 _ (by omega) (by omega) (by omega)).trans (fwt z9 hz9)
            have ih58 := ih
            refine lv_iload hx hb dX3_fillImpacts_28 (lv_at hl 0 rfl) ?_
            refine lv_aload_n hx hb dX3_fillImpacts_30 rfl (lv_at hl 4 rfl) ?_
            refine mm_V0r (As := []) (rest := [.int (nI d)]) hx hb hml hown hE hl.1 hh (kc_X3_39 hE.2.1 ⟨Nat.le_of_ble_eq_true rfl, Nat.le_of_ble_eq_true rfl⟩) (c_X0_size l Γ b M mem45 (nd := nd) (by omega) f52) rfl (by omega) f52 rfl rfl (Nat.le_of_ble_eq_true rfl) dX3_fillImpacts_31 rfl rfl (fun H locs hh => ?_)
            refine nn_icmp_ge (tgt := 80) hx hb dX3_fillImpacts_34 (by decide) (by omega) (by omega) (fun h59 => ?_) (fun h59 => ?_)
            ·
              have hdn : d = nd := by omega
              refine nn_iinc (x := i) (d := 1) (lv' := [(4, .int (nI (i + 1))), (5, .int (nI d)), (3, .float (gwF wt nd)), (0, .ref (b + 80)), (1, .ref (b + 1)), (2, .ref (b + 75))]) hx hb dX3_fillImpacts_80 hl (k := 1) rfl (by decide) (by decide) rfl (fun ls hl => ?_)
              refine lv_goto (tgt := 16) hx hb dX3_fillImpacts_83 (by decide) ?_
              exact ih28 (i + 1) (by omega) (by omega) _ _ mem45 (f47) (by subst hdn; rw [← rwT_s]; exact f48) (f49) hfr46 hh ls (lv_sub hl [0, 2, 3, 4, 5] rfl)
            ·
              refine lv_aload_n hx hb dX3_fillImpacts_37 rfl (lv_at hl 4 rfl) ?_
              refine lv_iload hx hb dX3_fillImpacts_38 (lv_at hl 0 rfl) ?_
              refine lv_aload_n hx hb dX3_fillImpacts_40 rfl (lv_at hl 5 rfl) ?_
              refine lv_iload hx hb dX3_fillImpacts_41 (lv_at hl 1 rfl) ?_
              refine mm_V0r (As := [.int (nI i)]) (rest := [.int (nI d), .ref (b + 1)]) hx hb hml hown hE hl.1 hh (kc_X3_35 hE.2.1 ⟨Nat.le_of_ble_eq_true rfl, Nat.le_of_ble_eq_true rfl⟩) (c_X6_termAt l Γ b M mem45 (a := 75) (sz := iz) (tm := im) (i := i) (by omega) f54 f55 (by omega)) rfl (by omega) f54 rfl rfl (Nat.le_of_ble_eq_true rfl) dX3_fillImpacts_43 rfl rfl (fun H locs hh => ?_)
              refine lv_fload_n hx hb dX3_fillImpacts_46 rfl (lv_at hl 2 rfl) ?_
              refine mm_V0r (As := [.int (nI d), .int (nI (im i)), .float (gwF wt nd)]) (rest := []) hx hb hml hown hE hl.1 hh (kc_X3_66 hE.2.1 ⟨Nat.le_of_ble_eq_true rfl, Nat.le_of_ble_eq_true rfl⟩) (c_X0_impactOf l Γ b M mem45 (nd := nd) (d := d) (t := im i) (wt := wt) (g := gwF wt nd) (by omega) f52 f53 f57 (by omega) (by omega) ((hwt _ _).up (by decide)) ((gwF_ok hwt nd).2.up (by decide))) rfl (by omega) f52 rfl rfl (Nat.le_of_ble_eq_true rfl) dX3_fillImpacts_47 rfl rfl (fun H locs hh => ?_)
              refine lv_i2l hx hb dX3_fillImpacts_50 rfl ?_
              refine lv_lstore (lv' := [(6, .long ((imF (wt d (im i)) (gwF wt nd)).toInt64)), (5, .int (nI d)), (4, .int (nI i)), (3, .float (gwF wt nd)), (0, .ref (b + 80)), (1, .ref (b + 1)), (2, .ref (b + 75))]) hx hb dX3_fillImpacts_51 hl (by decide) rfl (fun ls hl => ?_)
              refine lv_aload_n hx hb dX3_fillImpacts_53 rfl (lv_at hl 4 rfl) ?_
              refine gf_X3_parts hx hb hE hown hh (by omega) f47 rfl dX3_fillImpacts_54 ?_
              refine lv_iload hx hb dX3_fillImpacts_57 (lv_at hl 2 rfl) ?_
              refine mm_aald (q := b + (82 + i)) hx hb hE hh 9 (by omega) f50 rfl rfl (by omega) (by decide) (rfl) dX3_fillImpacts_59 ?_
              refine lv_iload hx hb dX3_fillImpacts_60 (lv_at hl 1 rfl) ?_
              refine lv_aload_n hx hb dX3_fillImpacts_62 rfl (lv_at hl 6 rfl) ?_
              refine lv_iload hx hb dX3_fillImpacts_63 (lv_at hl 2 rfl) ?_
              refine mm_V0r (As := [.int (nI i)]) (rest := [.int (nI d), .ref (b + (82 + i))]) hx hb hml hown hE hl.1 hh (kc_X3_70 hE.2.1 ⟨Nat.le_of_ble_eq_true rfl, Nat.le_of_ble_eq_true rfl⟩) (c_X6_weightAt l Γ b M mem45 (a := 75) (sz := iz) (tw := iw) (i := i) (by omega) f54 f56 (by omega)) rfl (by omega) f54 rfl rfl (Nat.le_of_ble_eq_true rfl) dX3_fillImpacts_65 rfl rfl (fun H locs hh => ?_)
              refine lv_i2l hx hb dX3_fillImpacts_68 rfl ?_
              refine lv_lload hx hb dX3_fillImpacts_69 (lv_at hl 0 rfl) ?_
              refine lv_lmul hx hb dX3_fillImpacts_71 ?_
              refine lv_l2d hx hb dX3_fillImpacts_72 ?_
              refine mm_dast hx hb hE hh (by omega) (by rw [f48 i (by omega), va_up_self]) (by omega) (by decide) dX3_fillImpacts_73 (fun H locs mem60 f61 k62 hh => ?_)
              have hfr63 : ∀ j, j ≠ 80 → ¬ (82 ≤ j ∧ j < 86) → ¬ (87 ≤ j ∧ j < 91) → mem60 j = mem j := fun j c0 c1 c2 => (k62 j (by omega)).trans (hfr46 j c0 c1 c2)
              have f64 : mem60 80 = .inr (3, [.ref (b + 81), .ref (b + 86), .int (nI iz)]) := (k62 _ (by omega)).trans f47
              have f65 : mem60 81 = aR Γ 9 4 (fun i => some (b + (82 + i))) := (k62 _ (by omega)).trans f50
              have f66 : mem60 86 = aR Γ 9 4 (fun i => some (b + (87 + i))) := (k62 _ (by omega)).trans f51
              have f67 : mem60 1 = .inr (0, [.ref (b + 2), .ref (b + 19), .ref (b + 20), .ref (b + 37), .ref (b + 38), .int (nI nd)]) := (k62 _ (by omega)).trans f52
              have f68 : mem60 20 = aR Γ 8 16 (fun i => some (b + (21 + i))) := (k62 _ (by omega)).trans f53
              have f69 : mem60 75 = .inr (5, [.ref (b + 76), .ref (b + 77), .int (nI iz)]) := (k62 _ (by omega)).trans f54
              have f70 : mem60 76 = aN Γ 4 im := (k62 _ (by omega)).trans f55
              have f71 : mem60 77 = aN Γ 4 iw := (k62 _ (by omega)).trans f56
              have f72 : ∀ z9, z9 < 4 → mem60 (82 + z9) = aD Γ 16 ((va_up (rwT pt (ptW pt (iV wt im iw nd) nd) i) i (va_up (fiR (pt i) ((iV wt im iw nd) i) d) d (FP.l2d (((nI (iw i)).toInt64) * ((imF (wt d (im i)) (gwF wt nd)).toInt64))))) z9) := by
                intro z9 hz9
                by_cases e9 : z9 = i
                · rw [e9, va_up_self]; exact f61
                · rw [va_up_ne _ _ e9]; exact ((k62 _ (by omega)).trans (f48 z9 hz9)).trans (by rw [va_up_ne _ _ e9])
              have f73 : ∀ z9, z9 < 4 → mem60 (87 + z9) = aD Γ 4 (bd z9) := fun z9 hz9 => (k62 _ (by omega)).trans (f49 z9 hz9)
              have f74 : ∀ z9, z9 < 16 → mem60 (21 + z9) = aF Γ 12 (wt z9) := fun z9 hz9 => (k62 _ (by omega)).trans (f57 z9 hz9)
              refine nn_iinc (x := d) (d := 1) (lv' := [(5, .int (nI (d + 1))), (6, .long ((imF (wt d (im i)) (gwF wt nd)).toInt64)), (4, .int (nI i)), (3, .float (gwF wt nd)), (0, .ref (b + 80)), (1, .ref (b + 1)), (2, .ref (b + 75))]) hx hb dX3_fillImpacts_74 hl (k := 1) rfl (by decide) (by decide) rfl (fun ls hl => ?_)
              refine lv_goto (tgt := 28) hx hb dX3_fillImpacts_77 (by decide) ?_
              exact ih58 (d + 1) (by omega) (by omega) _ _ mem60 (f64) (by rw [← fiR_s]; exact f72) (f73) hfr63 hh ls (lv_sub hl [0, 2, 3, 4, 5, 6] rfl)
        exact loop28 ((nd - 0) + 1) 0 (by omega) (by omega) _ _ mem15 (f17) (by rw [fiR_0, rwT_i]; exact f18) (f19) hfr16 hh ls (lv_sub hl [0, 1, 2, 3, 4, 5] rfl)
  exact loop16 ((iz - 0) + 1) 0 (by omega) (by omega) _ _ mem1 (f2) (by rw [rwT_0]; exact f12) (f13) hfr4 hh ls (lv_sub hl [0, 1, 2, 3, 4] rfl)
set_option maxHeartbeats 4000000 in
set_option maxRecDepth 100000 in
/-- PartTable.matches -/
theorem c_X3_matches (l : Launch) (Γ : Gm) (b M : Nat) (mem : Nat → va_E) {pn : Nat} {pt bd : Nat → Nat → UInt64} {d : Nat} (hM : 138 ≤ M) (fP : mem 80 = .inr (3, [.ref (b + 81), .ref (b + 86), .int (nI pn)])) (fPo : mem 81 = aR Γ 9 4 (fun i => some (b + (82 + i)))) (fpt : ∀ z9, z9 < 4 → mem (82 + z9) = aD Γ 16 (pt z9)) (hpn : pn ≤ 4) (hd : d < 16) : Ct l yX3_matches (.code yX3_matches cX3_matches 3 (some .boolean)) ({ frames := 0, cells := 0, slots := 0, locals := 0 } : Room) Γ b M [.ref (b + 80), .int (nI d)] mem (fun u => u = mem) (some (.int (bI (anG pt d pn)))) := by
  refine mm_enter (cc := cX3_matches) (by decide) (Nat.le_of_ble_eq_true rfl) ?_
  intro p e s m args below meth c ls hx hb hml hown hr hlocks hname hE hh hl
  have hl : lv_has ls 3 [(0, .ref (b + 80)), (1, .int (nI d))] := hl
  refine lv_iconst (v := (nI 0)) hx hb dX3_matches_0 (by decide) ?_
  refine lv_istore_n (lv' := [(2, .int (nI 0)), (0, .ref (b + 80)), (1, .int (nI d))]) hx hb dX3_matches_1 rfl hl (by decide) rfl (fun ls hl => ?_)
  have loop2 : ∀ (n9 : Nat) (i : Nat), (pn - i) < n9 → (i ≤ pn) → (anG pt d i = false) → ∀ (H : Heap) (locs : List Loc), GH Γ b M mem s H locs → ∀ (ls : Array Slot), lv_has ls 3 [(2, .int (nI i)), (0, .ref (b + 80)), (1, .int (nI d))] → W p l e ({ frames := 0, cells := 0, slots := 0, locals := 0 } : Room) s m args below meth c H locs 0 0 (MQ below (QC Γ b M (fun u => u = mem) (some (.int (bI (anG pt d pn))))) args s 0 0 (fun q => b ≤ q)) (F0 m 2 ls []) := by
    intro n9
    induction n9 with
    | zero => intro i hn; exact absurd hn (Nat.not_lt_zero _)
    | succ n9 ih =>
      intro i hn hi hno H locs hh ls hl
      have ih1 := ih
      refine lv_iload_n hx hb dX3_matches_2 rfl (lv_at hl 0 rfl) ?_
      refine lv_aload_n hx hb dX3_matches_3 rfl (lv_at hl 1 rfl) ?_
      refine gf_X3_terms hx hb hE hown hh (by omega) fP rfl dX3_matches_4 ?_
      refine nn_icmp_ge (tgt := 31) hx hb dX3_matches_7 (by decide) (by omega) (by omega) (fun h2 => ?_) (fun h2 => ?_)
      ·
        refine lv_iconst (v := (nI 0)) hx hb dX3_matches_31 (by decide) ?_
        exact mm_zret hx hb hr hlocks hE hh (by rw [← show i = pn by omega, hno]; rfl) (rfl) rfl dX3_matches_32
      ·
        refine lv_aload_n hx hb dX3_matches_10 rfl (lv_at hl 1 rfl) ?_
        refine gf_X3_parts hx hb hE hown hh (by omega) fP rfl dX3_matches_11 ?_
        refine lv_iload_n hx hb dX3_matches_14 rfl (lv_at hl 0 rfl) ?_
        refine mm_aald (q := b + (82 + i)) hx hb hE hh 9 (by omega) fPo rfl rfl (by omega) (by decide) (rfl) dX3_matches_15 ?_
        refine lv_iload_n hx hb dX3_matches_16 rfl (lv_at hl 2 rfl) ?_
        refine mm_dald hx hb hE hh (by omega) (fpt i (by omega)) (by omega) (by decide) dX3_matches_17 ?_
        refine lv_dconst0 hx hb dX3_matches_18 ?_
        refine lv_dcmp hx hb dX3_matches_19 ?_
        refine nn_cl_le (tgt := 25) hx hb dX3_matches_20 (by decide) (fun h3 => ?_) (fun h3 => ?_)
        ·
          have hno2 := anG_no hno h3
          refine nn_iinc (x := i) (d := 1) (lv' := [(2, .int (nI (i + 1))), (0, .ref (b + 80)), (1, .int (nI d))]) hx hb dX3_matches_25 hl (k := 0) rfl (by decide) (by decide) rfl (fun ls hl => ?_)
          refine lv_goto (tgt := 2) hx hb dX3_matches_28 (by decide) ?_
          exact ih1 (i + 1) (by omega) (by omega) (hno2) _ _ hh ls (lv_sub hl [0, 1, 2] rfl)
        ·
          have hy := anG_yes (f := pt) (show i < pn by omega) (Classical.not_not.mp h3)
          refine lv_iconst (v := (nI 1)) hx hb dX3_matches_23 (by decide) ?_
          exact mm_zret hx hb hr hlocks hE hh (by rw [hy]; rfl) (rfl) rfl dX3_matches_24
  exact loop2 ((pn - 0) + 1) 0 (by omega) (by omega) (rfl) _ _ hh ls (lv_sub hl [0, 1, 2] rfl)
set_option maxHeartbeats 4000000 in
set_option maxRecDepth 100000 in
/-- yX3_scoreOf -/
theorem c_X3_scoreOf (l : Launch) (Γ : Gm) (b M : Nat) (mem : Nat → va_E) {pn : Nat} {pt bd : Nat → Nat → UInt64} {d : Nat} (hM : 138 ≤ M) (fP : mem 80 = .inr (3, [.ref (b + 81), .ref (b + 86), .int (nI pn)])) (fPo : mem 81 = aR Γ 9 4 (fun i => some (b + (82 + i)))) (fpt : ∀ z9, z9 < 4 → mem (82 + z9) = aD Γ 16 (pt z9)) (hpn : pn ≤ 4) (hd : d < 16) (hpb : ∀ i, i < pn → db 1090 (pt i d)) : Ct l yX3_scoreOf (.code yX3_scoreOf cX3_scoreOf 5 (some .double)) ({ frames := 0, cells := 0, slots := 0, locals := 0 } : Room) Γ b M [.ref (b + 80), .int (nI d)] mem (fun u => u = mem) (some (.double (suG (cG pt d) (fun i => pt i d) pn))) := by
  refine mm_enter (cc := cX3_scoreOf) (by decide) (Nat.le_of_ble_eq_true rfl) ?_
  intro p e s m args below meth c ls hx hb hml hown hr hlocks hname hE hh hl
  have hl : lv_has ls 5 [(0, .ref (b + 80)), (1, .int (nI d))] := hl
  refine lv_dconst0 hx hb dX3_scoreOf_0 ?_
  refine lv_dstore_n (lv' := [(2, .double FP.dconst0), (0, .ref (b + 80)), (1, .int (nI d))]) hx hb dX3_scoreOf_1 rfl hl (by decide) rfl (fun ls hl => ?_)
  refine lv_iconst (v := (nI 0)) hx hb dX3_scoreOf_2 (by decide) ?_
  refine lv_istore (lv' := [(4, .int (nI 0)), (2, .double FP.dconst0), (0, .ref (b + 80)), (1, .int (nI d))]) hx hb dX3_scoreOf_3 hl (by decide) rfl (fun ls hl => ?_)
  have loop5 : ∀ (n9 : Nat) (i : Nat), (pn - i) < n9 → (i ≤ pn) → ∀ (H : Heap) (locs : List Loc), GH Γ b M mem s H locs → ∀ (ls : Array Slot), lv_has ls 5 [(4, .int (nI i)), (2, .double (suG (cG pt d) (fun i => pt i d) i)), (0, .ref (b + 80)), (1, .int (nI d))] → W p l e ({ frames := 0, cells := 0, slots := 0, locals := 0 } : Room) s m args below meth c H locs 0 0 (MQ below (QC Γ b M (fun u => u = mem) (some (.double (suG (cG pt d) (fun i => pt i d) pn)))) args s 0 0 (fun q => b ≤ q)) (F0 m 5 ls []) := by
    intro n9
    induction n9 with
    | zero => intro i hn; exact absurd hn (Nat.not_lt_zero _)
    | succ n9 ih =>
      intro i hn hi H locs hh ls hl
      have ih1 := ih
      refine lv_iload hx hb dX3_scoreOf_5 (lv_at hl 0 rfl) ?_
      refine lv_aload_n hx hb dX3_scoreOf_7 rfl (lv_at hl 2 rfl) ?_
      refine gf_X3_terms hx hb hE hown hh (by omega) fP rfl dX3_scoreOf_8 ?_
      refine nn_icmp_ge (tgt := 46) hx hb dX3_scoreOf_11 (by decide) (by omega) (by omega) (fun h2 => ?_) (fun h2 => ?_)
      ·
        obtain rfl : i = pn := by omega
        refine lv_dload_n hx hb dX3_scoreOf_46 rfl (lv_at hl 1 rfl) ?_
        exact mm_dret hx hb hr hlocks hE hh (rfl) (rfl) dX3_scoreOf_47
      ·
        refine lv_aload_n hx hb dX3_scoreOf_14 rfl (lv_at hl 2 rfl) ?_
        refine gf_X3_parts hx hb hE hown hh (by omega) fP rfl dX3_scoreOf_15 ?_
        refine lv_iload hx hb dX3_scoreOf_18 (lv_at hl 0 rfl) ?_
        refine mm_aald (q := b + (82 + i)) hx hb hE hh 9 (by omega) fPo rfl rfl (by omega) (by decide) (rfl) dX3_scoreOf_20 ?_
        refine lv_iload_n hx hb dX3_scoreOf_21 rfl (lv_at hl 3 rfl) ?_
        refine mm_dald hx hb hE hh (by omega) (fpt i (by omega)) (by omega) (by decide) dX3_scoreOf_22 ?_
        refine lv_dconst0 hx hb dX3_scoreOf_23 ?_
        refine lv_dcmp hx hb dX3_scoreOf_24 ?_
        refine nn_cl_le (tgt := 40) hx hb dX3_scoreOf_25 (by decide) (fun h3 => ?_) (fun h3 => ?_)
        ·
          have hn1 : suG (cG pt d) (fun i => pt i d) (i + 1) = suG (cG pt d) (fun i => pt i d) i := if_neg (fun q => h3 (of_decide_eq_true q))
          refine nn_iinc (x := i) (d := 1) (lv' := [(4, .int (nI (i + 1))), (2, .double (suG (cG pt d) (fun i => pt i d) i)), (0, .ref (b + 80)), (1, .int (nI d))]) hx hb dX3_scoreOf_40 hl (k := 0) rfl (by decide) (by decide) rfl (fun ls hl => ?_)
          refine lv_goto (tgt := 5) hx hb dX3_scoreOf_43 (by decide) ?_
          exact ih1 (i + 1) (by omega) (by omega) _ _ hh ls (lv_sub hl [0, 1, 2, 3] (by rw [hn1]; rfl))
        ·
          have hn1 : suG (cG pt d) (fun i => pt i d) (i + 1) = FP.dadd (suG (cG pt d) (fun i => pt i d) i) ((fun i => pt i d) i) := if_pos (decide_eq_true (Classical.not_not.mp h3))
          refine lv_dload_n hx hb dX3_scoreOf_28 rfl (lv_at hl 1 rfl) ?_
          refine lv_aload_n hx hb dX3_scoreOf_29 rfl (lv_at hl 2 rfl) ?_
          refine gf_X3_parts hx hb hE hown hh (by omega) fP rfl dX3_scoreOf_30 ?_
          refine lv_iload hx hb dX3_scoreOf_33 (lv_at hl 0 rfl) ?_
          refine mm_aald (q := b + (82 + i)) hx hb hE hh 9 (by omega) fPo rfl rfl (by omega) (by decide) (rfl) dX3_scoreOf_35 ?_
          refine lv_iload_n hx hb dX3_scoreOf_36 rfl (lv_at hl 3 rfl) ?_
          refine mm_dald hx hb hE hh (by omega) (fpt i (by omega)) (by omega) (by decide) dX3_scoreOf_37 ?_
          refine lv_dadd hx hb dX3_scoreOf_38 ((hn1 ▸ (suG_db (c := (cG pt d)) (K := 1090) (by decide) (by decide) (i + 1) (by omega) (fun i9 hi9 => hpb i9 (by omega))).n (by omega))) ?_
          refine lv_dstore_n (lv' := [(2, .double (FP.dadd (suG (cG pt d) (fun i => pt i d) i) ((pt i) d))), (4, .int (nI i)), (0, .ref (b + 80)), (1, .int (nI d))]) hx hb dX3_scoreOf_39 rfl hl (by decide) rfl (fun ls hl => ?_)
          refine nn_iinc (x := i) (d := 1) (lv' := [(4, .int (nI (i + 1))), (2, .double (FP.dadd (suG (cG pt d) (fun i => pt i d) i) ((pt i) d))), (0, .ref (b + 80)), (1, .int (nI d))]) hx hb dX3_scoreOf_40 hl (k := 1) rfl (by decide) (by decide) rfl (fun ls hl => ?_)
          refine lv_goto (tgt := 5) hx hb dX3_scoreOf_43 (by decide) ?_
          exact ih1 (i + 1) (by omega) (by omega) _ _ hh ls (lv_sub hl [0, 1, 2, 3] (by rw [hn1]; rfl))
  exact loop5 ((pn - 0) + 1) 0 (by omega) (by omega) _ _ hh ls (lv_sub hl [0, 1, 2, 3] rfl)
set_option maxHeartbeats 4000000 in
set_option maxRecDepth 100000 in
/-- yX3_blockBound -/
theorem c_X3_blockBound (l : Launch) (Γ : Gm) (b M : Nat) (mem : Nat → va_E) {pn : Nat} {pt bd : Nat → Nat → UInt64} {k : Nat} (hM : 138 ≤ M) (fP : mem 80 = .inr (3, [.ref (b + 81), .ref (b + 86), .int (nI pn)])) (fBo : mem 86 = aR Γ 9 4 (fun i => some (b + (87 + i)))) (fbd : ∀ z9, z9 < 4 → mem (87 + z9) = aD Γ 4 (bd z9)) (hpn : pn ≤ 4) (hk : k < 4) (hbb : ∀ i, i < pn → ∀ k, k < 4 → db 1090 (bd i k)) : Ct l yX3_blockBound (.code yX3_blockBound cX3_blockBound 5 (some .double)) ({ frames := 0, cells := 0, slots := 0, locals := 0 } : Room) Γ b M [.ref (b + 80), .int (nI k)] mem (fun u => u = mem) (some (.double (suG (fun _ => true) (fun i => bd i k) pn))) := by
  refine mm_enter (cc := cX3_blockBound) (by decide) (Nat.le_of_ble_eq_true rfl) ?_
  intro p e s m args below meth c ls hx hb hml hown hr hlocks hname hE hh hl
  have hl : lv_has ls 5 [(0, .ref (b + 80)), (1, .int (nI k))] := hl
  refine lv_dconst0 hx hb dX3_blockBound_0 ?_
  refine lv_dstore_n (lv' := [(2, .double FP.dconst0), (0, .ref (b + 80)), (1, .int (nI k))]) hx hb dX3_blockBound_1 rfl hl (by decide) rfl (fun ls hl => ?_)
  refine lv_iconst (v := (nI 0)) hx hb dX3_blockBound_2 (by decide) ?_
  refine lv_istore (lv' := [(4, .int (nI 0)), (2, .double FP.dconst0), (0, .ref (b + 80)), (1, .int (nI k))]) hx hb dX3_blockBound_3 hl (by decide) rfl (fun ls hl => ?_)
  have loop5 : ∀ (n9 : Nat) (i : Nat), (pn - i) < n9 → (i ≤ pn) → ∀ (H : Heap) (locs : List Loc), GH Γ b M mem s H locs → ∀ (ls : Array Slot), lv_has ls 5 [(4, .int (nI i)), (2, .double (suG (fun _ => true) (fun i => bd i k) i)), (0, .ref (b + 80)), (1, .int (nI k))] → W p l e ({ frames := 0, cells := 0, slots := 0, locals := 0 } : Room) s m args below meth c H locs 0 0 (MQ below (QC Γ b M (fun u => u = mem) (some (.double (suG (fun _ => true) (fun i => bd i k) pn)))) args s 0 0 (fun q => b ≤ q)) (F0 m 5 ls []) := by
    intro n9
    induction n9 with
    | zero => intro i hn; exact absurd hn (Nat.not_lt_zero _)
    | succ n9 ih =>
      intro i hn hi H locs hh ls hl
      have ih1 := ih
      refine lv_iload hx hb dX3_blockBound_5 (lv_at hl 0 rfl) ?_
      refine lv_aload_n hx hb dX3_blockBound_7 rfl (lv_at hl 2 rfl) ?_
      refine gf_X3_terms hx hb hE hown hh (by omega) fP rfl dX3_blockBound_8 ?_
      refine nn_icmp_ge (tgt := 32) hx hb dX3_blockBound_11 (by decide) (by omega) (by omega) (fun h2 => ?_) (fun h2 => ?_)
      ·
        obtain rfl : i = pn := by omega
        refine lv_dload_n hx hb dX3_blockBound_32 rfl (lv_at hl 1 rfl) ?_
        exact mm_dret hx hb hr hlocks hE hh (rfl) (rfl) dX3_blockBound_33
      ·
        have hn1 : suG (fun _ => true) (fun i => bd i k) (i + 1) = FP.dadd (suG (fun _ => true) (fun i => bd i k) i) ((fun i => bd i k) i) := if_pos rfl
        refine lv_dload_n hx hb dX3_blockBound_14 rfl (lv_at hl 1 rfl) ?_
        refine lv_aload_n hx hb dX3_blockBound_15 rfl (lv_at hl 2 rfl) ?_
        refine gf_X3_bounds hx hb hE hown hh (by omega) fP rfl dX3_blockBound_16 ?_
        refine lv_iload hx hb dX3_blockBound_19 (lv_at hl 0 rfl) ?_
        refine mm_aald (q := b + (87 + i)) hx hb hE hh 9 (by omega) fBo rfl rfl (by omega) (by decide) (rfl) dX3_blockBound_21 ?_
        refine lv_iload_n hx hb dX3_blockBound_22 rfl (lv_at hl 3 rfl) ?_
        refine mm_dald hx hb hE hh (by omega) (fbd i (by omega)) (by omega) (by decide) dX3_blockBound_23 ?_
        refine lv_dadd hx hb dX3_blockBound_24 ((hn1 ▸ (suG_db (c := (fun _ => true)) (K := 1090) (by decide) (by decide) (i + 1) (by omega) (fun i9 hi9 => hbb i9 (by omega) k hk)).n (by omega))) ?_
        refine lv_dstore_n (lv' := [(2, .double (FP.dadd (suG (fun _ => true) (fun i => bd i k) i) ((bd i) k))), (4, .int (nI i)), (0, .ref (b + 80)), (1, .int (nI k))]) hx hb dX3_blockBound_25 rfl hl (by decide) rfl (fun ls hl => ?_)
        refine nn_iinc (x := i) (d := 1) (lv' := [(4, .int (nI (i + 1))), (2, .double (FP.dadd (suG (fun _ => true) (fun i => bd i k) i) ((bd i) k))), (0, .ref (b + 80)), (1, .int (nI k))]) hx hb dX3_blockBound_26 hl (k := 1) rfl (by decide) (by decide) rfl (fun ls hl => ?_)
        refine lv_goto (tgt := 5) hx hb dX3_blockBound_29 (by decide) ?_
        exact ih1 (i + 1) (by omega) (by omega) _ _ hh ls (lv_sub hl [0, 1, 2, 3] (by rw [hn1]; rfl))
  exact loop5 ((pn - 0) + 1) 0 (by omega) (by omega) _ _ hh ls (lv_sub hl [0, 1, 2, 3] rfl)
set_option maxHeartbeats 4000000 in
set_option maxRecDepth 100000 in
/-- yX3_documentBound -/
theorem c_X3_documentBound (l : Launch) (Γ : Gm) (b M : Nat) (mem : Nat → va_E) {pn : Nat} {pt bd : Nat → Nat → UInt64} {d : Nat} (hM : 138 ≤ M) (fP : mem 80 = .inr (3, [.ref (b + 81), .ref (b + 86), .int (nI pn)])) (fPo : mem 81 = aR Γ 9 4 (fun i => some (b + (82 + i)))) (fpt : ∀ z9, z9 < 4 → mem (82 + z9) = aD Γ 16 (pt z9)) (fBo : mem 86 = aR Γ 9 4 (fun i => some (b + (87 + i)))) (fbd : ∀ z9, z9 < 4 → mem (87 + z9) = aD Γ 4 (bd z9)) (hpn : pn ≤ 4) (hd : d < 16) (hbb : ∀ i, i < pn → ∀ k, k < 4 → db 1090 (bd i k)) : Ct l yX3_documentBound (.code yX3_documentBound cX3_documentBound 5 (some .double)) ({ frames := 0, cells := 0, slots := 0, locals := 0 } : Room) Γ b M [.ref (b + 80), .int (nI d)] mem (fun u => u = mem) (some (.double (suG (cG pt d) (fun i => bd i (d / 4)) pn))) := by
  refine mm_enter (cc := cX3_documentBound) (by decide) (Nat.le_of_ble_eq_true rfl) ?_
  intro p e s m args below meth c ls hx hb hml hown hr hlocks hname hE hh hl
  have hl : lv_has ls 5 [(0, .ref (b + 80)), (1, .int (nI d))] := hl
  refine lv_dconst0 hx hb dX3_documentBound_0 ?_
  refine lv_dstore_n (lv' := [(2, .double FP.dconst0), (0, .ref (b + 80)), (1, .int (nI d))]) hx hb dX3_documentBound_1 rfl hl (by decide) rfl (fun ls hl => ?_)
  refine lv_iconst (v := (nI 0)) hx hb dX3_documentBound_2 (by decide) ?_
  refine lv_istore (lv' := [(4, .int (nI 0)), (2, .double FP.dconst0), (0, .ref (b + 80)), (1, .int (nI d))]) hx hb dX3_documentBound_3 hl (by decide) rfl (fun ls hl => ?_)
  have loop5 : ∀ (n9 : Nat) (i : Nat), (pn - i) < n9 → (i ≤ pn) → ∀ (H : Heap) (locs : List Loc), GH Γ b M mem s H locs → ∀ (ls : Array Slot), lv_has ls 5 [(4, .int (nI i)), (2, .double (suG (cG pt d) (fun i => bd i (d / 4)) i)), (0, .ref (b + 80)), (1, .int (nI d))] → W p l e ({ frames := 0, cells := 0, slots := 0, locals := 0 } : Room) s m args below meth c H locs 0 0 (MQ below (QC Γ b M (fun u => u = mem) (some (.double (suG (cG pt d) (fun i => bd i (d / 4)) pn)))) args s 0 0 (fun q => b ≤ q)) (F0 m 5 ls []) := by
    intro n9
    induction n9 with
    | zero => intro i hn; exact absurd hn (Nat.not_lt_zero _)
    | succ n9 ih =>
      intro i hn hi H locs hh ls hl
      have ih1 := ih
      refine lv_iload hx hb dX3_documentBound_5 (lv_at hl 0 rfl) ?_
      refine lv_aload_n hx hb dX3_documentBound_7 rfl (lv_at hl 2 rfl) ?_
      refine gf_X3_terms hx hb hE hown hh (by omega) fP rfl dX3_documentBound_8 ?_
      refine nn_icmp_ge (tgt := 48) hx hb dX3_documentBound_11 (by decide) (by omega) (by omega) (fun h2 => ?_) (fun h2 => ?_)
      ·
        obtain rfl : i = pn := by omega
        refine lv_dload_n hx hb dX3_documentBound_48 rfl (lv_at hl 1 rfl) ?_
        exact mm_dret hx hb hr hlocks hE hh (rfl) (rfl) dX3_documentBound_49
      ·
        refine lv_aload_n hx hb dX3_documentBound_14 rfl (lv_at hl 2 rfl) ?_
        refine gf_X3_parts hx hb hE hown hh (by omega) fP rfl dX3_documentBound_15 ?_
        refine lv_iload hx hb dX3_documentBound_18 (lv_at hl 0 rfl) ?_
        refine mm_aald (q := b + (82 + i)) hx hb hE hh 9 (by omega) fPo rfl rfl (by omega) (by decide) (rfl) dX3_documentBound_20 ?_
        refine lv_iload_n hx hb dX3_documentBound_21 rfl (lv_at hl 3 rfl) ?_
        refine mm_dald hx hb hE hh (by omega) (fpt i (by omega)) (by omega) (by decide) dX3_documentBound_22 ?_
        refine lv_dconst0 hx hb dX3_documentBound_23 ?_
        refine lv_dcmp hx hb dX3_documentBound_24 ?_
        refine nn_cl_le (tgt := 42) hx hb dX3_documentBound_25 (by decide) (fun h3 => ?_) (fun h3 => ?_)
        ·
          have hn1 : suG (cG pt d) (fun i => bd i (d / 4)) (i + 1) = suG (cG pt d) (fun i => bd i (d / 4)) i := if_neg (fun q => h3 (of_decide_eq_true q))
          refine nn_iinc (x := i) (d := 1) (lv' := [(4, .int (nI (i + 1))), (2, .double (suG (cG pt d) (fun i => bd i (d / 4)) i)), (0, .ref (b + 80)), (1, .int (nI d))]) hx hb dX3_documentBound_42 hl (k := 0) rfl (by decide) (by decide) rfl (fun ls hl => ?_)
          refine lv_goto (tgt := 5) hx hb dX3_documentBound_45 (by decide) ?_
          exact ih1 (i + 1) (by omega) (by omega) _ _ hh ls (lv_sub hl [0, 1, 2, 3] (by rw [hn1]; rfl))
        ·
          have hn1 : suG (cG pt d) (fun i => bd i (d / 4)) (i + 1) = FP.dadd (suG (cG pt d) (fun i => bd i (d / 4)) i) ((fun i => bd i (d / 4)) i) := if_pos (decide_eq_true (Classical.not_not.mp h3))
          refine lv_dload_n hx hb dX3_documentBound_28 rfl (lv_at hl 1 rfl) ?_
          refine lv_aload_n hx hb dX3_documentBound_29 rfl (lv_at hl 2 rfl) ?_
          refine gf_X3_bounds hx hb hE hown hh (by omega) fP rfl dX3_documentBound_30 ?_
          refine lv_iload hx hb dX3_documentBound_33 (lv_at hl 0 rfl) ?_
          refine mm_aald (q := b + (87 + i)) hx hb hE hh 9 (by omega) fBo rfl rfl (by omega) (by decide) (rfl) dX3_documentBound_35 ?_
          refine lv_iload_n hx hb dX3_documentBound_36 rfl (lv_at hl 3 rfl) ?_
          refine lv_iconst (v := (nI 4)) hx hb dX3_documentBound_37 (by decide) ?_
          refine nn_idiv hx hb (by omega) (by omega) (by omega) dX3_documentBound_38 ?_
          refine mm_dald hx hb hE hh (by omega) (fbd i (by omega)) (by omega) (by decide) dX3_documentBound_39 ?_
          refine lv_dadd hx hb dX3_documentBound_40 ((hn1 ▸ (suG_db (c := (cG pt d)) (K := 1090) (by decide) (by decide) (i + 1) (by omega) (fun i9 hi9 => hbb i9 (by omega) (d / 4) (by omega))).n (by omega))) ?_
          refine lv_dstore_n (lv' := [(2, .double (FP.dadd (suG (cG pt d) (fun i => bd i (d / 4)) i) ((bd i) (d / 4)))), (4, .int (nI i)), (0, .ref (b + 80)), (1, .int (nI d))]) hx hb dX3_documentBound_41 rfl hl (by decide) rfl (fun ls hl => ?_)
          refine nn_iinc (x := i) (d := 1) (lv' := [(4, .int (nI (i + 1))), (2, .double (FP.dadd (suG (cG pt d) (fun i => bd i (d / 4)) i) ((bd i) (d / 4)))), (0, .ref (b + 80)), (1, .int (nI d))]) hx hb dX3_documentBound_42 hl (k := 1) rfl (by decide) (by decide) rfl (fun ls hl => ?_)
          refine lv_goto (tgt := 5) hx hb dX3_documentBound_45 (by decide) ?_
          exact ih1 (i + 1) (by omega) (by omega) _ _ hh ls (lv_sub hl [0, 1, 2, 3] (by rw [hn1]; rfl))
  exact loop5 ((pn - 0) + 1) 0 (by omega) (by omega) _ _ hh ls (lv_sub hl [0, 1, 2, 3] rfl)
