/-! SEARCH, where it doesn't throw -/
theorem nI_nn {k : Nat} (h : k < 2 ^ 31) : ¬ nI k < 0 := nI_pos h

set_option maxHeartbeats 4000000 in
set_option maxRecDepth 100000 in
/-- search, W -/
theorem c_X9_searchW (l : Launch) (Γ : Gm) (b M : Nat) (mem : Nat → va_E) {lf sf : Nat} {pn how : Nat} {pt bd : Nat → Nat → UInt64} {nd wz : Nat} {cn : Nat → Nat → Nat} {ln wm : Nat → Nat}{k ns lim2 ssz ll lz sd sk ps : Nat} {made : Bool} {sdc ldc0 : Nat → Nat} {ssc lsc0 : Nat → UInt64} (hM : 138 ≤ M) (fH : mem 0 = .inr (8, [.ref (b + 1), .ref (b + 72), .ref (b + 75), .ref (b + 78), .ref (b + 80), .ref (b + 91), .ref (b + 93), .ref (b + 96), .ref (b + 109)])) (fP : mem 80 = .inr (3, [.ref (b + 81), .ref (b + 86), .int (nI pn)])) (fPo : mem 81 = aR Γ 9 4 (fun i => some (b + (82 + i)))) (fpt : ∀ z9, z9 < 4 → mem (82 + z9) = aD Γ 16 (pt z9)) (fBo : mem 86 = aR Γ 9 4 (fun i => some (b + (87 + i)))) (fbd : ∀ z9, z9 < 4 → mem (87 + z9) = aD Γ 4 (bd z9)) (fC : mem 1 = .inr (0, [.ref (b + 2), .ref (b + 19), .ref (b + 20), .ref (b + 37), .ref (b + 38), .int (nI nd)])) (fCo : mem 2 = aR Γ 7 16 (fun i => some (b + (3 + i)))) (fcn : ∀ z9, z9 < 16 → mem (3 + z9) = aN Γ 12 (cn z9)) (fL : mem 19 = aN Γ 16 ln) (fW : mem 72 = .inr (5, [.ref (b + 73), .ref (b + 74), .int (nI wz)])) (fW1 : mem 73 = aN Γ 4 wm) (hnd : nd ≤ 16) (hwz : wz ≤ 4) (hcn : ∀ d t, cn d t ≤ 1000) (hlc : ∀ d t, cn d t ≤ ln d) (hln : ∀ d, ln d ≤ 12000) (hwm : ∀ i, wm i < 12) (fl : mem 97 = .inr (2, [.ref (b + 98), .int (bI made), .int (nI sd), .int (nI sk), .int (nI ps)])) (fl1 : mem 98 = .inr (4, [.ref (b + 99), .ref (b + 100), .int (nI ll), .int (nI lz)])) (fl2 : mem 99 = aN Γ 20 ldc0) (fl3 : mem 100 = aD Γ 20 lsc0) (fs0 : mem 93 = .inr (4, [.ref (b + 94), .ref (b + 95), .int (nI lim2), .int (nI ssz)])) (fs1 : mem 94 = aN Γ 20 sdc) (fs2 : mem 95 = aD Γ 20 ssc) (fLo : mem 96 = aR Γ 5 3 (fun i => some (b + (97 + 4 * i)))) (hk : k ≤ 20) (hns : 0 < ns ∧ ns < 2 ^ 31) (hsd : ∀ j, sdc j < 16) (hld : ∀ j, ldc0 j < 16) (hhow : how < 3) (fF : mem 109 = .inr (1, [.ref (b + 110), .ref (b + 113), .ref (b + 114)])) (fR0 : mem 110 = .inr (4, [.ref (b + 111), .ref (b + 112), .int (nI lf), .int (nI sf)])) (hns3 : ns ≤ 3) (hmk : mkHow (nI 0) (nI how) = true) (hh2 : ¬ how = 2) : Ct l yX9_search (.code yX9_search cX9_search 5 (some .int)) ({ frames := 5, cells := 0, slots := 0, locals := 131 } : Room) Γ b M [.ref (b + 0), .int (nI 0), .int (nI how), .int (nI k), .int (nI ns)] mem (fun u => u 97 = .inr (2, [.ref (b + 98), .int (bI true), .int (nI ((mkS (min k 20) (wiG (st1 (min k 20)) how (min k 20) nd ns wz (rwT pt (ptW pt (wV cn ln wm nd) nd) wz) (rwT bd (bdW (rwT pt (ptW pt (wV cn ln wm nd) nd) wz) bd nd) wz)) ((ldc0, lsc0, 0), (sdc, ssc, ssz), 0, 0, 0) ns).2.2.1)), .int (nI ((mkS (min k 20) (wiG (st1 (min k 20)) how (min k 20) nd ns wz (rwT pt (ptW pt (wV cn ln wm nd) nd) wz) (rwT bd (bdW (rwT pt (ptW pt (wV cn ln wm nd) nd) wz) bd nd) wz)) ((ldc0, lsc0, 0), (sdc, ssc, ssz), 0, 0, 0) ns).2.2.2.1)), .int (nI ((mkS (min k 20) (wiG (st1 (min k 20)) how (min k 20) nd ns wz (rwT pt (ptW pt (wV cn ln wm nd) nd) wz) (rwT bd (bdW (rwT pt (ptW pt (wV cn ln wm nd) nd) wz) bd nd) wz)) ((ldc0, lsc0, 0), (sdc, ssc, ssz), 0, 0, 0) ns).2.2.2.2))]) ∧ u 98 = .inr (4, [.ref (b + 99), .ref (b + 100), .int (nI (min k 20)), .int (nI ((mkS (min k 20) (wiG (st1 (min k 20)) how (min k 20) nd ns wz (rwT pt (ptW pt (wV cn ln wm nd) nd) wz) (rwT bd (bdW (rwT pt (ptW pt (wV cn ln wm nd) nd) wz) bd nd) wz)) ((ldc0, lsc0, 0), (sdc, ssc, ssz), 0, 0, 0) ns).1.2.2))]) ∧ u 99 = aN Γ 20 ((mkS (min k 20) (wiG (st1 (min k 20)) how (min k 20) nd ns wz (rwT pt (ptW pt (wV cn ln wm nd) nd) wz) (rwT bd (bdW (rwT pt (ptW pt (wV cn ln wm nd) nd) wz) bd nd) wz)) ((ldc0, lsc0, 0), (sdc, ssc, ssz), 0, 0, 0) ns).1.1) ∧ u 100 = aD Γ 20 ((mkS (min k 20) (wiG (st1 (min k 20)) how (min k 20) nd ns wz (rwT pt (ptW pt (wV cn ln wm nd) nd) wz) (rwT bd (bdW (rwT pt (ptW pt (wV cn ln wm nd) nd) wz) bd nd) wz)) ((ldc0, lsc0, 0), (sdc, ssc, ssz), 0, 0, 0) ns).1.2.1) ∧ u 93 = .inr (4, [.ref (b + 94), .ref (b + 95), .int (nI (min k 20)), .int (nI ((mkS (min k 20) (wiG (st1 (min k 20)) how (min k 20) nd ns wz (rwT pt (ptW pt (wV cn ln wm nd) nd) wz) (rwT bd (bdW (rwT pt (ptW pt (wV cn ln wm nd) nd) wz) bd nd) wz)) ((ldc0, lsc0, 0), (sdc, ssc, ssz), 0, 0, 0) ns).2.1.2.2))]) ∧ u 94 = aN Γ 20 ((mkS (min k 20) (wiG (st1 (min k 20)) how (min k 20) nd ns wz (rwT pt (ptW pt (wV cn ln wm nd) nd) wz) (rwT bd (bdW (rwT pt (ptW pt (wV cn ln wm nd) nd) wz) bd nd) wz)) ((ldc0, lsc0, 0), (sdc, ssc, ssz), 0, 0, 0) ns).2.1.1) ∧ u 95 = aD Γ 20 ((mkS (min k 20) (wiG (st1 (min k 20)) how (min k 20) nd ns wz (rwT pt (ptW pt (wV cn ln wm nd) nd) wz) (rwT bd (bdW (rwT pt (ptW pt (wV cn ln wm nd) nd) wz) bd nd) wz)) ((ldc0, lsc0, 0), (sdc, ssc, ssz), 0, 0, 0) ns).2.1.2.1) ∧ u 80 = .inr (3, [.ref (b + 81), .ref (b + 86), .int (nI wz)]) ∧ (∀ z9, z9 < 4 → u (82 + z9) = aD Γ 16 ((rwT pt (ptW pt (wV cn ln wm nd) nd) wz) z9)) ∧ (∀ z9, z9 < 4 → u (87 + z9) = aD Γ 4 ((rwT bd (bdW (rwT pt (ptW pt (wV cn ln wm nd) nd) wz) bd nd) wz) z9)) ∧ u 110 = .inr (4, [.ref (b + 111), .ref (b + 112), .int (nI 0), .int (nI 0)]) ∧ ∀ j, j ≠ 97 → j ≠ 98 → j ≠ 99 → j ≠ 100 → j ≠ 93 → j ≠ 94 → j ≠ 95 → j ≠ 80 → ¬ (82 ≤ j ∧ j < 86) → ¬ (87 ≤ j ∧ j < 91) → j ≠ 110 → u j = mem j) (some (.int (nI ((mkS (min k 20) (wiG (st1 (min k 20)) how (min k 20) nd ns wz (rwT pt (ptW pt (wV cn ln wm nd) nd) wz) (rwT bd (bdW (rwT pt (ptW pt (wV cn ln wm nd) nd) wz) bd nd) wz)) ((ldc0, lsc0, 0), (sdc, ssc, ssz), 0, 0, 0) ns).1.2.2)))) := by
  refine mm_enter (cc := cX9_search) (by decide) (Nat.le_of_ble_eq_true rfl) ?_
  intro p e s m args below meth c ls hx hb hml hown hr hlocks hname hE hh hl
  have hl : lv_has ls 5 [(0, .ref (b + 0)), (1, .int (nI 0)), (2, .int (nI how)), (3, .int (nI k)), (4, .int (nI ns))] := hl
  have hfr : ∀ j, j ≠ 97 → j ≠ 98 → j ≠ 99 → j ≠ 100 → j ≠ 93 → j ≠ 94 → j ≠ 95 → j ≠ 80 → ¬ (82 ≤ j ∧ j < 86) → ¬ (87 ≤ j ∧ j < 91) → j ≠ 110 → mem j = mem j := fun j _ _ _ _ _ _ _ _ _ _ _ => rfl
  refine lv_iload_n hx hb dX9_search_0 rfl (lv_at hl 1 rfl) ?_
  refine mm_S0r (As := [.int (nI 0)]) (rest := []) hx hb hml hown hE hl.1 hh (kc_X9_172 hE.2.1 ⟨Nat.le_of_ble_eq_true rfl, Nat.le_of_ble_eq_true rfl⟩) (c_X9_isView l Γ b M mem (t := (nI 0))) rfl rfl (Nat.le_of_ble_eq_true rfl) dX9_search_1 rfl rfl (fun H locs hh => ?_)
  refine nn_beq (tgt := 15) hx hb dX9_search_4 (by decide) (fun h1 => ?_) (fun h1 => ?_)
  ·
    exact (no_tf (inR_y (show 0 < 3 by decide) (by decide)) h1).elim
  ·
    refine lv_iload_n hx hb dX9_search_7 rfl (lv_at hl 1 rfl) ?_
    refine lv_iload_n hx hb dX9_search_8 rfl (lv_at hl 2 rfl) ?_
    refine mm_S0r (As := [.int (nI 0), .int (nI how)]) (rest := []) hx hb hml hown hE hl.1 hh (kc_X9_175 hE.2.1 ⟨Nat.le_of_ble_eq_true rfl, Nat.le_of_ble_eq_true rfl⟩) (c_X9_isMadeHow l Γ b M mem (view := (nI 0)) (how := (nI how))) rfl rfl (Nat.le_of_ble_eq_true rfl) dX9_search_9 rfl rfl (fun H locs hh => ?_)
    refine nn_bne (tgt := 25) hx hb dX9_search_12 (by decide) (fun h2 => ?_) (fun h2 => ?_)
    ·
      refine lv_iload_n hx hb dX9_search_25 rfl (lv_at hl 3 rfl) ?_
      refine lv_if_lt (tgt := 47) hx hb dX9_search_26 (by decide) (fun h3 => ?_) (fun h3 => ?_)
      ·
        exact absurd h3 (nI_nn (by omega))
      ·
        refine lv_iload_n hx hb dX9_search_29 rfl (lv_at hl 3 rfl) ?_
        refine lv_bipush (v := (nI 20)) hx hb dX9_search_30 (by decide) ?_
        refine nn_icmp_gt (tgt := 47) hx hb dX9_search_32 (by decide) (by omega) (by omega) (fun h4 => ?_) (fun h4 => ?_)
        ·
          exact absurd h4 (by omega)
        ·
          refine lv_iload hx hb dX9_search_35 (lv_at hl 4 rfl) ?_
          refine lv_iconst (v := (nI 1)) hx hb dX9_search_37 (by decide) ?_
          refine nn_icmp_lt (tgt := 47) hx hb dX9_search_38 (by decide) (by omega) (by omega) (fun h5 => ?_) (fun h5 => ?_)
          ·
            exact absurd h5 (by omega)
          ·
            refine lv_iload hx hb dX9_search_41 (lv_at hl 4 rfl) ?_
            refine lv_iconst (v := (nI 3)) hx hb dX9_search_43 (by decide) ?_
            refine nn_icmp_le (tgt := 57) hx hb dX9_search_44 (by decide) (by omega) (by omega) (fun h6 => ?_) (fun h6 => ?_)
            ·
              refine lv_iload_n hx hb dX9_search_57 rfl (lv_at hl 2 rfl) ?_
              refine lv_iconst (v := (nI 2)) hx hb dX9_search_58 (by decide) ?_
              refine nn_icmp_ne (tgt := 85) hx hb dX9_search_59 (by decide) (by omega) (by omega) (fun h7 => ?_) (fun h7 => ?_)
              ·
                refine lv_aload_n hx hb dX9_search_85 rfl (lv_at hl 0 rfl) ?_
                refine gf_X9_fusion hx hb hE hown hh (by omega) fH rfl dX9_search_86 ?_
                refine mm_V0 (As := []) (rest := []) hx hb hml hown hE hl.1 hh (kc_X9_188 hE.2.1 ⟨Nat.le_of_ble_eq_true rfl, Nat.le_of_ble_eq_true rfl⟩) (c_X1_forget l Γ b M mem (lim := lf) (sz := sf) (by omega) fF fR0) rfl (by omega) fF rfl rfl (Nat.le_of_ble_eq_true rfl) dX9_search_89 rfl rfl (fun H locs mem8 hP9 hh => ?_)
                obtain ⟨f10, k11⟩ := hP9
                have hfr12 : ∀ j, j ≠ 97 → j ≠ 98 → j ≠ 99 → j ≠ 100 → j ≠ 93 → j ≠ 94 → j ≠ 95 → j ≠ 80 → ¬ (82 ≤ j ∧ j < 86) → ¬ (87 ≤ j ∧ j < 91) → j ≠ 110 → mem8 j = mem j := fun j c0 c1 c2 c3 c4 c5 c6 c7 c8 c9 c10 => (k11 j (by omega)).trans (hfr j c0 c1 c2 c3 c4 c5 c6 c7 c8 c9 c10)
                have f13 : mem8 0 = .inr (8, [.ref (b + 1), .ref (b + 72), .ref (b + 75), .ref (b + 78), .ref (b + 80), .ref (b + 91), .ref (b + 93), .ref (b + 96), .ref (b + 109)]) := (k11 _ (by omega)).trans fH
                have f14 : mem8 80 = .inr (3, [.ref (b + 81), .ref (b + 86), .int (nI pn)]) := (k11 _ (by omega)).trans fP
                have f15 : mem8 81 = aR Γ 9 4 (fun i => some (b + (82 + i))) := (k11 _ (by omega)).trans fPo
                have f16 : mem8 86 = aR Γ 9 4 (fun i => some (b + (87 + i))) := (k11 _ (by omega)).trans fBo
                have f17 : mem8 1 = .inr (0, [.ref (b + 2), .ref (b + 19), .ref (b + 20), .ref (b + 37), .ref (b + 38), .int (nI nd)]) := (k11 _ (by omega)).trans fC
                have f18 : mem8 2 = aR Γ 7 16 (fun i => some (b + (3 + i))) := (k11 _ (by omega)).trans fCo
                have f19 : mem8 19 = aN Γ 16 ln := (k11 _ (by omega)).trans fL
                have f20 : mem8 72 = .inr (5, [.ref (b + 73), .ref (b + 74), .int (nI wz)]) := (k11 _ (by omega)).trans fW
                have f21 : mem8 73 = aN Γ 4 wm := (k11 _ (by omega)).trans fW1
                have f22 : mem8 97 = .inr (2, [.ref (b + 98), .int (bI made), .int (nI sd), .int (nI sk), .int (nI ps)]) := (k11 _ (by omega)).trans fl
                have f23 : mem8 98 = .inr (4, [.ref (b + 99), .ref (b + 100), .int (nI ll), .int (nI lz)]) := (k11 _ (by omega)).trans fl1
                have f24 : mem8 99 = aN Γ 20 ldc0 := (k11 _ (by omega)).trans fl2
                have f25 : mem8 100 = aD Γ 20 lsc0 := (k11 _ (by omega)).trans fl3
                have f26 : mem8 93 = .inr (4, [.ref (b + 94), .ref (b + 95), .int (nI lim2), .int (nI ssz)]) := (k11 _ (by omega)).trans fs0
                have f27 : mem8 94 = aN Γ 20 sdc := (k11 _ (by omega)).trans fs1
                have f28 : mem8 95 = aD Γ 20 ssc := (k11 _ (by omega)).trans fs2
                have f29 : mem8 96 = aR Γ 5 3 (fun i => some (b + (97 + 4 * i))) := (k11 _ (by omega)).trans fLo
                have f30 : mem8 109 = .inr (1, [.ref (b + 110), .ref (b + 113), .ref (b + 114)]) := (k11 _ (by omega)).trans fF
                have f31 : ∀ z9, z9 < 4 → mem8 (82 + z9) = aD Γ 16 (pt z9) := fun z9 hz9 => (k11 _ (by omega)).trans (fpt z9 hz9)
                have f32 : ∀ z9, z9 < 4 → mem8 (87 + z9) = aD Γ 4 (bd z9) := fun z9 hz9 => (k11 _ (by omega)).trans (fbd z9 hz9)
                have f33 : ∀ z9, z9 < 16 → mem8 (3 + z9) = aN Γ 12 (cn z9) := fun z9 hz9 => (k11 _ (by omega)).trans (fcn z9 hz9)
                refine lv_aload_n hx hb dX9_search_92 rfl (lv_at hl 0 rfl) ?_
                refine lv_iload_n hx hb dX9_search_93 rfl (lv_at hl 1 rfl) ?_
                refine lv_iload_n hx hb dX9_search_94 rfl (lv_at hl 2 rfl) ?_
                refine lv_iload_n hx hb dX9_search_95 rfl (lv_at hl 3 rfl) ?_
                refine lv_iload hx hb dX9_search_96 (lv_at hl 4 rfl) ?_
                refine mm_V0 (As := [.int (nI 0), .int (nI how), .int (nI k), .int (nI ns)]) (rest := []) hx hb hml hown hE hl.1 hh (kc_X9_191 hE.2.1 ⟨Nat.le_of_ble_eq_true rfl, Nat.le_of_ble_eq_true rfl⟩) (c_X9_makeListW l Γ b M mem8 (pn := pn) (how := how) (pt := pt) (bd := bd) (nd := nd) (wz := wz) (cn := cn) (ln := ln) (wm := wm) (k := k) (ns := ns) (lim2 := lim2) (ssz := ssz) (ll := ll) (lz := lz) (sd := sd) (sk := sk) (ps := ps) (made := made) (sdc := sdc) (ldc0 := ldc0) (ssc := ssc) (lsc0 := lsc0) (by omega) f13 f14 f15 f31 f16 f32 f17 f18 f33 f19 f20 f21 (by omega) (by omega) (hcn) (hlc) (hln) (hwm) f22 f23 f24 f25 f26 f27 f28 f29 (by omega) (by omega) (hsd) (hld) (by omega)) rfl (by omega) f13 rfl rfl (Nat.le_of_ble_eq_true rfl) dX9_search_98 rfl rfl (fun H locs mem34 hP35 hh => ?_)
                obtain ⟨f36, f37, f38, f39, f40, f41, f42, f43, f44, f45, k46⟩ := hP35
                have hfr47 : ∀ j, j ≠ 97 → j ≠ 98 → j ≠ 99 → j ≠ 100 → j ≠ 93 → j ≠ 94 → j ≠ 95 → j ≠ 80 → ¬ (82 ≤ j ∧ j < 86) → ¬ (87 ≤ j ∧ j < 91) → j ≠ 110 → mem34 j = mem j := fun j c0 c1 c2 c3 c4 c5 c6 c7 c8 c9 c10 => (k46 j (by omega) (by omega) (by omega) (by omega) (by omega) (by omega) (by omega) (by omega) (by omega) (by omega)).trans (hfr12 j c0 c1 c2 c3 c4 c5 c6 c7 c8 c9 c10)
                have f48 : mem34 0 = .inr (8, [.ref (b + 1), .ref (b + 72), .ref (b + 75), .ref (b + 78), .ref (b + 80), .ref (b + 91), .ref (b + 93), .ref (b + 96), .ref (b + 109)]) := (k46 _ (by omega) (by omega) (by omega) (by omega) (by omega) (by omega) (by omega) (by omega) (by omega) (by omega)).trans f13
                have f49 : mem34 81 = aR Γ 9 4 (fun i => some (b + (82 + i))) := (k46 _ (by omega) (by omega) (by omega) (by omega) (by omega) (by omega) (by omega) (by omega) (by omega) (by omega)).trans f15
                have f50 : mem34 86 = aR Γ 9 4 (fun i => some (b + (87 + i))) := (k46 _ (by omega) (by omega) (by omega) (by omega) (by omega) (by omega) (by omega) (by omega) (by omega) (by omega)).trans f16
                have f51 : mem34 1 = .inr (0, [.ref (b + 2), .ref (b + 19), .ref (b + 20), .ref (b + 37), .ref (b + 38), .int (nI nd)]) := (k46 _ (by omega) (by omega) (by omega) (by omega) (by omega) (by omega) (by omega) (by omega) (by omega) (by omega)).trans f17
                have f52 : mem34 2 = aR Γ 7 16 (fun i => some (b + (3 + i))) := (k46 _ (by omega) (by omega) (by omega) (by omega) (by omega) (by omega) (by omega) (by omega) (by omega) (by omega)).trans f18
                have f53 : mem34 19 = aN Γ 16 ln := (k46 _ (by omega) (by omega) (by omega) (by omega) (by omega) (by omega) (by omega) (by omega) (by omega) (by omega)).trans f19
                have f54 : mem34 72 = .inr (5, [.ref (b + 73), .ref (b + 74), .int (nI wz)]) := (k46 _ (by omega) (by omega) (by omega) (by omega) (by omega) (by omega) (by omega) (by omega) (by omega) (by omega)).trans f20
                have f55 : mem34 73 = aN Γ 4 wm := (k46 _ (by omega) (by omega) (by omega) (by omega) (by omega) (by omega) (by omega) (by omega) (by omega) (by omega)).trans f21
                have f56 : mem34 96 = aR Γ 5 3 (fun i => some (b + (97 + 4 * i))) := (k46 _ (by omega) (by omega) (by omega) (by omega) (by omega) (by omega) (by omega) (by omega) (by omega) (by omega)).trans f29
                have f57 : mem34 109 = .inr (1, [.ref (b + 110), .ref (b + 113), .ref (b + 114)]) := (k46 _ (by omega) (by omega) (by omega) (by omega) (by omega) (by omega) (by omega) (by omega) (by omega) (by omega)).trans f30
                have f58 : mem34 110 = .inr (4, [.ref (b + 111), .ref (b + 112), .int (nI 0), .int (nI 0)]) := (k46 _ (by omega) (by omega) (by omega) (by omega) (by omega) (by omega) (by omega) (by omega) (by omega) (by omega)).trans f10
                have f59 : ∀ z9, z9 < 16 → mem34 (3 + z9) = aN Γ 12 (cn z9) := fun z9 hz9 => (k46 _ (by omega) (by omega) (by omega) (by omega) (by omega) (by omega) (by omega) (by omega) (by omega) (by omega)).trans (f33 z9 hz9)
                exact mm_iret hx hb hr hlocks hE hh (rfl) (⟨f36, f37, f38, f39, f40, f41, f42, f43, f44, f45, f58, hfr47⟩) dX9_search_101
              ·
                exact absurd h7 hh2
            ·
              exact absurd h6 (by omega)
    ·
      exact (no_tf hmk h2).elim
set_option maxHeartbeats 4000000 in
set_option maxRecDepth 100000 in
/-- search, I -/
theorem c_X9_searchI (l : Launch) (Γ : Gm) (b M : Nat) (mem : Nat → va_E) {lf sf : Nat} {pn how : Nat} {pt bd : Nat → Nat → UInt64} {nd iz : Nat} {wt : Nat → Nat → UInt32} {im iw : Nat → Nat}{k ns lim2 ssz ll lz sd sk ps : Nat} {made : Bool} {sdc ldc0 : Nat → Nat} {ssc lsc0 : Nat → UInt64} (hM : 138 ≤ M) (fH : mem 0 = .inr (8, [.ref (b + 1), .ref (b + 72), .ref (b + 75), .ref (b + 78), .ref (b + 80), .ref (b + 91), .ref (b + 93), .ref (b + 96), .ref (b + 109)])) (fP : mem 80 = .inr (3, [.ref (b + 81), .ref (b + 86), .int (nI pn)])) (fPo : mem 81 = aR Γ 9 4 (fun i => some (b + (82 + i)))) (fpt : ∀ z9, z9 < 4 → mem (82 + z9) = aD Γ 16 (pt z9)) (fBo : mem 86 = aR Γ 9 4 (fun i => some (b + (87 + i)))) (fbd : ∀ z9, z9 < 4 → mem (87 + z9) = aD Γ 4 (bd z9)) (fC : mem 1 = .inr (0, [.ref (b + 2), .ref (b + 19), .ref (b + 20), .ref (b + 37), .ref (b + 38), .int (nI nd)])) (fWo : mem 20 = aR Γ 8 16 (fun i => some (b + (21 + i)))) (fwt : ∀ z9, z9 < 16 → mem (21 + z9) = aF Γ 12 (wt z9)) (fI : mem 75 = .inr (5, [.ref (b + 76), .ref (b + 77), .int (nI iz)])) (fI1 : mem 76 = aN Γ 4 im) (fI2 : mem 77 = aN Γ 4 iw) (hnd : nd ≤ 16) (hiz : iz ≤ 4) (hwt : ∀ d t, fb 148 (wt d t)) (him : ∀ i, im i < 12) (fl : mem 101 = .inr (2, [.ref (b + 102), .int (bI made), .int (nI sd), .int (nI sk), .int (nI ps)])) (fl1 : mem 102 = .inr (4, [.ref (b + 103), .ref (b + 104), .int (nI ll), .int (nI lz)])) (fl2 : mem 103 = aN Γ 20 ldc0) (fl3 : mem 104 = aD Γ 20 lsc0) (fs0 : mem 93 = .inr (4, [.ref (b + 94), .ref (b + 95), .int (nI lim2), .int (nI ssz)])) (fs1 : mem 94 = aN Γ 20 sdc) (fs2 : mem 95 = aD Γ 20 ssc) (fLo : mem 96 = aR Γ 5 3 (fun i => some (b + (97 + 4 * i)))) (hk : k ≤ 20) (hns : 0 < ns ∧ ns < 2 ^ 31) (hsd : ∀ j, sdc j < 16) (hld : ∀ j, ldc0 j < 16) (hhow : how < 3) (fF : mem 109 = .inr (1, [.ref (b + 110), .ref (b + 113), .ref (b + 114)])) (fR0 : mem 110 = .inr (4, [.ref (b + 111), .ref (b + 112), .int (nI lf), .int (nI sf)])) (hns3 : ns ≤ 3) (hmk : mkHow (nI 1) (nI how) = true) (hh2 : ¬ how = 2) : Ct l yX9_search (.code yX9_search cX9_search 5 (some .int)) ({ frames := 5, cells := 0, slots := 0, locals := 126 } : Room) Γ b M [.ref (b + 0), .int (nI 1), .int (nI how), .int (nI k), .int (nI ns)] mem (fun u => u 101 = .inr (2, [.ref (b + 102), .int (bI true), .int (nI ((mkS (min k 20) (wiG (st1 (min k 20)) how (min k 20) nd ns iz (rwT pt (ptW pt (iV wt im iw nd) nd) iz) (rwT bd (bdW (rwT pt (ptW pt (iV wt im iw nd) nd) iz) bd nd) iz)) ((ldc0, lsc0, 0), (sdc, ssc, ssz), 0, 0, 0) ns).2.2.1)), .int (nI ((mkS (min k 20) (wiG (st1 (min k 20)) how (min k 20) nd ns iz (rwT pt (ptW pt (iV wt im iw nd) nd) iz) (rwT bd (bdW (rwT pt (ptW pt (iV wt im iw nd) nd) iz) bd nd) iz)) ((ldc0, lsc0, 0), (sdc, ssc, ssz), 0, 0, 0) ns).2.2.2.1)), .int (nI ((mkS (min k 20) (wiG (st1 (min k 20)) how (min k 20) nd ns iz (rwT pt (ptW pt (iV wt im iw nd) nd) iz) (rwT bd (bdW (rwT pt (ptW pt (iV wt im iw nd) nd) iz) bd nd) iz)) ((ldc0, lsc0, 0), (sdc, ssc, ssz), 0, 0, 0) ns).2.2.2.2))]) ∧ u 102 = .inr (4, [.ref (b + 103), .ref (b + 104), .int (nI (min k 20)), .int (nI ((mkS (min k 20) (wiG (st1 (min k 20)) how (min k 20) nd ns iz (rwT pt (ptW pt (iV wt im iw nd) nd) iz) (rwT bd (bdW (rwT pt (ptW pt (iV wt im iw nd) nd) iz) bd nd) iz)) ((ldc0, lsc0, 0), (sdc, ssc, ssz), 0, 0, 0) ns).1.2.2))]) ∧ u 103 = aN Γ 20 ((mkS (min k 20) (wiG (st1 (min k 20)) how (min k 20) nd ns iz (rwT pt (ptW pt (iV wt im iw nd) nd) iz) (rwT bd (bdW (rwT pt (ptW pt (iV wt im iw nd) nd) iz) bd nd) iz)) ((ldc0, lsc0, 0), (sdc, ssc, ssz), 0, 0, 0) ns).1.1) ∧ u 104 = aD Γ 20 ((mkS (min k 20) (wiG (st1 (min k 20)) how (min k 20) nd ns iz (rwT pt (ptW pt (iV wt im iw nd) nd) iz) (rwT bd (bdW (rwT pt (ptW pt (iV wt im iw nd) nd) iz) bd nd) iz)) ((ldc0, lsc0, 0), (sdc, ssc, ssz), 0, 0, 0) ns).1.2.1) ∧ u 93 = .inr (4, [.ref (b + 94), .ref (b + 95), .int (nI (min k 20)), .int (nI ((mkS (min k 20) (wiG (st1 (min k 20)) how (min k 20) nd ns iz (rwT pt (ptW pt (iV wt im iw nd) nd) iz) (rwT bd (bdW (rwT pt (ptW pt (iV wt im iw nd) nd) iz) bd nd) iz)) ((ldc0, lsc0, 0), (sdc, ssc, ssz), 0, 0, 0) ns).2.1.2.2))]) ∧ u 94 = aN Γ 20 ((mkS (min k 20) (wiG (st1 (min k 20)) how (min k 20) nd ns iz (rwT pt (ptW pt (iV wt im iw nd) nd) iz) (rwT bd (bdW (rwT pt (ptW pt (iV wt im iw nd) nd) iz) bd nd) iz)) ((ldc0, lsc0, 0), (sdc, ssc, ssz), 0, 0, 0) ns).2.1.1) ∧ u 95 = aD Γ 20 ((mkS (min k 20) (wiG (st1 (min k 20)) how (min k 20) nd ns iz (rwT pt (ptW pt (iV wt im iw nd) nd) iz) (rwT bd (bdW (rwT pt (ptW pt (iV wt im iw nd) nd) iz) bd nd) iz)) ((ldc0, lsc0, 0), (sdc, ssc, ssz), 0, 0, 0) ns).2.1.2.1) ∧ u 80 = .inr (3, [.ref (b + 81), .ref (b + 86), .int (nI iz)]) ∧ (∀ z9, z9 < 4 → u (82 + z9) = aD Γ 16 ((rwT pt (ptW pt (iV wt im iw nd) nd) iz) z9)) ∧ (∀ z9, z9 < 4 → u (87 + z9) = aD Γ 4 ((rwT bd (bdW (rwT pt (ptW pt (iV wt im iw nd) nd) iz) bd nd) iz) z9)) ∧ u 110 = .inr (4, [.ref (b + 111), .ref (b + 112), .int (nI 0), .int (nI 0)]) ∧ ∀ j, j ≠ 101 → j ≠ 102 → j ≠ 103 → j ≠ 104 → j ≠ 93 → j ≠ 94 → j ≠ 95 → j ≠ 80 → ¬ (82 ≤ j ∧ j < 86) → ¬ (87 ≤ j ∧ j < 91) → j ≠ 110 → u j = mem j) (some (.int (nI ((mkS (min k 20) (wiG (st1 (min k 20)) how (min k 20) nd ns iz (rwT pt (ptW pt (iV wt im iw nd) nd) iz) (rwT bd (bdW (rwT pt (ptW pt (iV wt im iw nd) nd) iz) bd nd) iz)) ((ldc0, lsc0, 0), (sdc, ssc, ssz), 0, 0, 0) ns).1.2.2)))) := by
  refine mm_enter (cc := cX9_search) (by decide) (Nat.le_of_ble_eq_true rfl) ?_
  intro p e s m args below meth c ls hx hb hml hown hr hlocks hname hE hh hl
  have hl : lv_has ls 5 [(0, .ref (b + 0)), (1, .int (nI 1)), (2, .int (nI how)), (3, .int (nI k)), (4, .int (nI ns))] := hl
  have hfr : ∀ j, j ≠ 101 → j ≠ 102 → j ≠ 103 → j ≠ 104 → j ≠ 93 → j ≠ 94 → j ≠ 95 → j ≠ 80 → ¬ (82 ≤ j ∧ j < 86) → ¬ (87 ≤ j ∧ j < 91) → j ≠ 110 → mem j = mem j := fun j _ _ _ _ _ _ _ _ _ _ _ => rfl
  refine lv_iload_n hx hb dX9_search_0 rfl (lv_at hl 1 rfl) ?_
  refine mm_S0r (As := [.int (nI 1)]) (rest := []) hx hb hml hown hE hl.1 hh (kc_X9_172 hE.2.1 ⟨Nat.le_of_ble_eq_true rfl, Nat.le_of_ble_eq_true rfl⟩) (c_X9_isView l Γ b M mem (t := (nI 1))) rfl rfl (Nat.le_of_ble_eq_true rfl) dX9_search_1 rfl rfl (fun H locs hh => ?_)
  refine nn_beq (tgt := 15) hx hb dX9_search_4 (by decide) (fun h1 => ?_) (fun h1 => ?_)
  ·
    exact (no_tf (inR_y (show 1 < 3 by decide) (by decide)) h1).elim
  ·
    refine lv_iload_n hx hb dX9_search_7 rfl (lv_at hl 1 rfl) ?_
    refine lv_iload_n hx hb dX9_search_8 rfl (lv_at hl 2 rfl) ?_
    refine mm_S0r (As := [.int (nI 1), .int (nI how)]) (rest := []) hx hb hml hown hE hl.1 hh (kc_X9_175 hE.2.1 ⟨Nat.le_of_ble_eq_true rfl, Nat.le_of_ble_eq_true rfl⟩) (c_X9_isMadeHow l Γ b M mem (view := (nI 1)) (how := (nI how))) rfl rfl (Nat.le_of_ble_eq_true rfl) dX9_search_9 rfl rfl (fun H locs hh => ?_)
    refine nn_bne (tgt := 25) hx hb dX9_search_12 (by decide) (fun h2 => ?_) (fun h2 => ?_)
    ·
      refine lv_iload_n hx hb dX9_search_25 rfl (lv_at hl 3 rfl) ?_
      refine lv_if_lt (tgt := 47) hx hb dX9_search_26 (by decide) (fun h3 => ?_) (fun h3 => ?_)
      ·
        exact absurd h3 (nI_nn (by omega))
      ·
        refine lv_iload_n hx hb dX9_search_29 rfl (lv_at hl 3 rfl) ?_
        refine lv_bipush (v := (nI 20)) hx hb dX9_search_30 (by decide) ?_
        refine nn_icmp_gt (tgt := 47) hx hb dX9_search_32 (by decide) (by omega) (by omega) (fun h4 => ?_) (fun h4 => ?_)
        ·
          exact absurd h4 (by omega)
        ·
          refine lv_iload hx hb dX9_search_35 (lv_at hl 4 rfl) ?_
          refine lv_iconst (v := (nI 1)) hx hb dX9_search_37 (by decide) ?_
          refine nn_icmp_lt (tgt := 47) hx hb dX9_search_38 (by decide) (by omega) (by omega) (fun h5 => ?_) (fun h5 => ?_)
          ·
            exact absurd h5 (by omega)
          ·
            refine lv_iload hx hb dX9_search_41 (lv_at hl 4 rfl) ?_
            refine lv_iconst (v := (nI 3)) hx hb dX9_search_43 (by decide) ?_
            refine nn_icmp_le (tgt := 57) hx hb dX9_search_44 (by decide) (by omega) (by omega) (fun h6 => ?_) (fun h6 => ?_)
            ·
              refine lv_iload_n hx hb dX9_search_57 rfl (lv_at hl 2 rfl) ?_
              refine lv_iconst (v := (nI 2)) hx hb dX9_search_58 (by decide) ?_
              refine nn_icmp_ne (tgt := 85) hx hb dX9_search_59 (by decide) (by omega) (by omega) (fun h7 => ?_) (fun h7 => ?_)
              ·
                refine lv_aload_n hx hb dX9_search_85 rfl (lv_at hl 0 rfl) ?_
                refine gf_X9_fusion hx hb hE hown hh (by omega) fH rfl dX9_search_86 ?_
                refine mm_V0 (As := []) (rest := []) hx hb hml hown hE hl.1 hh (kc_X9_188 hE.2.1 ⟨Nat.le_of_ble_eq_true rfl, Nat.le_of_ble_eq_true rfl⟩) (c_X1_forget l Γ b M mem (lim := lf) (sz := sf) (by omega) fF fR0) rfl (by omega) fF rfl rfl (Nat.le_of_ble_eq_true rfl) dX9_search_89 rfl rfl (fun H locs mem8 hP9 hh => ?_)
                obtain ⟨f10, k11⟩ := hP9
                have hfr12 : ∀ j, j ≠ 101 → j ≠ 102 → j ≠ 103 → j ≠ 104 → j ≠ 93 → j ≠ 94 → j ≠ 95 → j ≠ 80 → ¬ (82 ≤ j ∧ j < 86) → ¬ (87 ≤ j ∧ j < 91) → j ≠ 110 → mem8 j = mem j := fun j c0 c1 c2 c3 c4 c5 c6 c7 c8 c9 c10 => (k11 j (by omega)).trans (hfr j c0 c1 c2 c3 c4 c5 c6 c7 c8 c9 c10)
                have f13 : mem8 0 = .inr (8, [.ref (b + 1), .ref (b + 72), .ref (b + 75), .ref (b + 78), .ref (b + 80), .ref (b + 91), .ref (b + 93), .ref (b + 96), .ref (b + 109)]) := (k11 _ (by omega)).trans fH
                have f14 : mem8 80 = .inr (3, [.ref (b + 81), .ref (b + 86), .int (nI pn)]) := (k11 _ (by omega)).trans fP
                have f15 : mem8 81 = aR Γ 9 4 (fun i => some (b + (82 + i))) := (k11 _ (by omega)).trans fPo
                have f16 : mem8 86 = aR Γ 9 4 (fun i => some (b + (87 + i))) := (k11 _ (by omega)).trans fBo
                have f17 : mem8 1 = .inr (0, [.ref (b + 2), .ref (b + 19), .ref (b + 20), .ref (b + 37), .ref (b + 38), .int (nI nd)]) := (k11 _ (by omega)).trans fC
                have f18 : mem8 20 = aR Γ 8 16 (fun i => some (b + (21 + i))) := (k11 _ (by omega)).trans fWo
                have f19 : mem8 75 = .inr (5, [.ref (b + 76), .ref (b + 77), .int (nI iz)]) := (k11 _ (by omega)).trans fI
                have f20 : mem8 76 = aN Γ 4 im := (k11 _ (by omega)).trans fI1
                have f21 : mem8 77 = aN Γ 4 iw := (k11 _ (by omega)).trans fI2
                have f22 : mem8 101 = .inr (2, [.ref (b + 102), .int (bI made), .int (nI sd), .int (nI sk), .int (nI ps)]) := (k11 _ (by omega)).trans fl
                have f23 : mem8 102 = .inr (4, [.ref (b + 103), .ref (b + 104), .int (nI ll), .int (nI lz)]) := (k11 _ (by omega)).trans fl1
                have f24 : mem8 103 = aN Γ 20 ldc0 := (k11 _ (by omega)).trans fl2
                have f25 : mem8 104 = aD Γ 20 lsc0 := (k11 _ (by omega)).trans fl3
                have f26 : mem8 93 = .inr (4, [.ref (b + 94), .ref (b + 95), .int (nI lim2), .int (nI ssz)]) := (k11 _ (by omega)).trans fs0
                have f27 : mem8 94 = aN Γ 20 sdc := (k11 _ (by omega)).trans fs1
                have f28 : mem8 95 = aD Γ 20 ssc := (k11 _ (by omega)).trans fs2
                have f29 : mem8 96 = aR Γ 5 3 (fun i => some (b + (97 + 4 * i))) := (k11 _ (by omega)).trans fLo
                have f30 : mem8 109 = .inr (1, [.ref (b + 110), .ref (b + 113), .ref (b + 114)]) := (k11 _ (by omega)).trans fF
                have f31 : ∀ z9, z9 < 4 → mem8 (82 + z9) = aD Γ 16 (pt z9) := fun z9 hz9 => (k11 _ (by omega)).trans (fpt z9 hz9)
                have f32 : ∀ z9, z9 < 4 → mem8 (87 + z9) = aD Γ 4 (bd z9) := fun z9 hz9 => (k11 _ (by omega)).trans (fbd z9 hz9)
                have f33 : ∀ z9, z9 < 16 → mem8 (21 + z9) = aF Γ 12 (wt z9) := fun z9 hz9 => (k11 _ (by omega)).trans (fwt z9 hz9)
                refine lv_aload_n hx hb dX9_search_92 rfl (lv_at hl 0 rfl) ?_
                refine lv_iload_n hx hb dX9_search_93 rfl (lv_at hl 1 rfl) ?_
                refine lv_iload_n hx hb dX9_search_94 rfl (lv_at hl 2 rfl) ?_
                refine lv_iload_n hx hb dX9_search_95 rfl (lv_at hl 3 rfl) ?_
                refine lv_iload hx hb dX9_search_96 (lv_at hl 4 rfl) ?_
                refine mm_V0 (As := [.int (nI 1), .int (nI how), .int (nI k), .int (nI ns)]) (rest := []) hx hb hml hown hE hl.1 hh (kc_X9_191 hE.2.1 ⟨Nat.le_of_ble_eq_true rfl, Nat.le_of_ble_eq_true rfl⟩) (c_X9_makeListI l Γ b M mem8 (pn := pn) (how := how) (pt := pt) (bd := bd) (nd := nd) (iz := iz) (wt := wt) (im := im) (iw := iw) (k := k) (ns := ns) (lim2 := lim2) (ssz := ssz) (ll := ll) (lz := lz) (sd := sd) (sk := sk) (ps := ps) (made := made) (sdc := sdc) (ldc0 := ldc0) (ssc := ssc) (lsc0 := lsc0) (by omega) f13 f14 f15 f31 f16 f32 f17 f18 f33 f19 f20 f21 (by omega) (by omega) (hwt) (him) f22 f23 f24 f25 f26 f27 f28 f29 (by omega) (by omega) (hsd) (hld) (by omega)) rfl (by omega) f13 rfl rfl (Nat.le_of_ble_eq_true rfl) dX9_search_98 rfl rfl (fun H locs mem34 hP35 hh => ?_)
                obtain ⟨f36, f37, f38, f39, f40, f41, f42, f43, f44, f45, k46⟩ := hP35
                have hfr47 : ∀ j, j ≠ 101 → j ≠ 102 → j ≠ 103 → j ≠ 104 → j ≠ 93 → j ≠ 94 → j ≠ 95 → j ≠ 80 → ¬ (82 ≤ j ∧ j < 86) → ¬ (87 ≤ j ∧ j < 91) → j ≠ 110 → mem34 j = mem j := fun j c0 c1 c2 c3 c4 c5 c6 c7 c8 c9 c10 => (k46 j (by omega) (by omega) (by omega) (by omega) (by omega) (by omega) (by omega) (by omega) (by omega) (by omega)).trans (hfr12 j c0 c1 c2 c3 c4 c5 c6 c7 c8 c9 c10)
                have f48 : mem34 0 = .inr (8, [.ref (b + 1), .ref (b + 72), .ref (b + 75), .ref (b + 78), .ref (b + 80), .ref (b + 91), .ref (b + 93), .ref (b + 96), .ref (b + 109)]) := (k46 _ (by omega) (by omega) (by omega) (by omega) (by omega) (by omega) (by omega) (by omega) (by omega) (by omega)).trans f13
                have f49 : mem34 81 = aR Γ 9 4 (fun i => some (b + (82 + i))) := (k46 _ (by omega) (by omega) (by omega) (by omega) (by omega) (by omega) (by omega) (by omega) (by omega) (by omega)).trans f15
                have f50 : mem34 86 = aR Γ 9 4 (fun i => some (b + (87 + i))) := (k46 _ (by omega) (by omega) (by omega) (by omega) (by omega) (by omega) (by omega) (by omega) (by omega) (by omega)).trans f16
                have f51 : mem34 1 = .inr (0, [.ref (b + 2), .ref (b + 19), .ref (b + 20), .ref (b + 37), .ref (b + 38), .int (nI nd)]) := (k46 _ (by omega) (by omega) (by omega) (by omega) (by omega) (by omega) (by omega) (by omega) (by omega) (by omega)).trans f17
                have f52 : mem34 20 = aR Γ 8 16 (fun i => some (b + (21 + i))) := (k46 _ (by omega) (by omega) (by omega) (by omega) (by omega) (by omega) (by omega) (by omega) (by omega) (by omega)).trans f18
                have f53 : mem34 75 = .inr (5, [.ref (b + 76), .ref (b + 77), .int (nI iz)]) := (k46 _ (by omega) (by omega) (by omega) (by omega) (by omega) (by omega) (by omega) (by omega) (by omega) (by omega)).trans f19
                have f54 : mem34 76 = aN Γ 4 im := (k46 _ (by omega) (by omega) (by omega) (by omega) (by omega) (by omega) (by omega) (by omega) (by omega) (by omega)).trans f20
                have f55 : mem34 77 = aN Γ 4 iw := (k46 _ (by omega) (by omega) (by omega) (by omega) (by omega) (by omega) (by omega) (by omega) (by omega) (by omega)).trans f21
                have f56 : mem34 96 = aR Γ 5 3 (fun i => some (b + (97 + 4 * i))) := (k46 _ (by omega) (by omega) (by omega) (by omega) (by omega) (by omega) (by omega) (by omega) (by omega) (by omega)).trans f29
                have f57 : mem34 109 = .inr (1, [.ref (b + 110), .ref (b + 113), .ref (b + 114)]) := (k46 _ (by omega) (by omega) (by omega) (by omega) (by omega) (by omega) (by omega) (by omega) (by omega) (by omega)).trans f30
                have f58 : mem34 110 = .inr (4, [.ref (b + 111), .ref (b + 112), .int (nI 0), .int (nI 0)]) := (k46 _ (by omega) (by omega) (by omega) (by omega) (by omega) (by omega) (by omega) (by omega) (by omega) (by omega)).trans f10
                have f59 : ∀ z9, z9 < 16 → mem34 (21 + z9) = aF Γ 12 (wt z9) := fun z9 hz9 => (k46 _ (by omega) (by omega) (by omega) (by omega) (by omega) (by omega) (by omega) (by omega) (by omega) (by omega)).trans (f33 z9 hz9)
                exact mm_iret hx hb hr hlocks hE hh (rfl) (⟨f36, f37, f38, f39, f40, f41, f42, f43, f44, f45, f58, hfr47⟩) dX9_search_101
              ·
                exact absurd h7 hh2
            ·
              exact absurd h6 (by omega)
    ·
      exact (no_tf hmk h2).elim
set_option maxHeartbeats 4000000 in
set_option maxRecDepth 100000 in
/-- search, V -/
theorem c_X9_searchV (l : Launch) (Γ : Gm) (b M : Nat) (mem : Nat → va_E) {lf sf : Nat} {near : Bool} {how nd cz vz : Nat} {wa : Nat → Bool} {cf vf : Nat → UInt32} {tz : Nat → Nat} {tf : Nat → Nat → UInt32}{k ns lim2 ssz ll lz sd sk ps : Nat} {made : Bool} {sdc ldc0 : Nat → Nat} {ssc lsc0 : Nat → UInt64} (hM : 138 ≤ M) (fH : mem 0 = .inr (8, [.ref (b + 1), .ref (b + 72), .ref (b + 75), .ref (b + 78), .ref (b + 80), .ref (b + 91), .ref (b + 93), .ref (b + 96), .ref (b + 109)])) (fS : mem 91 = .inr (7, [.ref (b + 1), .ref (b + 78), .ref (b + 92), .int (bI near)])) (fSw : mem 92 = aB Γ 4 wa) (fC : mem 1 = .inr (0, [.ref (b + 2), .ref (b + 19), .ref (b + 20), .ref (b + 37), .ref (b + 38), .int (nI nd)])) (fZ : mem 38 = .inr (6, [.ref (b + 39), .int (nI 4), .int (nI cz)])) (fZf : mem 39 = aF Γ 16 cf) (fV : mem 78 = .inr (6, [.ref (b + 79), .int (nI 3), .int (nI vz)])) (fVf : mem 79 = aF Γ 12 vf) (hcz : cz ≤ 4) (hvz : vz ≤ 3) (hcf : gdF cf) (hvf : gdF vf) (fTo : mem 37 = aR Γ 6 16 (fun i => some (b + (40 + 2 * i)))) (ftz : ∀ z9, z9 < 16 → mem (40 + 2 * z9) = .inr (6, [.ref (b + (40 + 2 * z9 + 1)), .int (nI 4), .int (nI (tz z9))])) (ftf : ∀ z9, z9 < 16 → mem (40 + 2 * z9 + 1) = aF Γ 16 (tf z9)) (hnd : nd ≤ 16) (htz : ∀ d, tz d ≤ 4) (htf : ∀ d, gdF (tf d)) (fl : mem 105 = .inr (2, [.ref (b + 106), .int (bI made), .int (nI sd), .int (nI sk), .int (nI ps)])) (fl1 : mem 106 = .inr (4, [.ref (b + 107), .ref (b + 108), .int (nI ll), .int (nI lz)])) (fl2 : mem 107 = aN Γ 20 ldc0) (fl3 : mem 108 = aD Γ 20 lsc0) (fs0 : mem 93 = .inr (4, [.ref (b + 94), .ref (b + 95), .int (nI lim2), .int (nI ssz)])) (fs1 : mem 94 = aN Γ 20 sdc) (fs2 : mem 95 = aD Γ 20 ssc) (fLo : mem 96 = aR Γ 5 3 (fun i => some (b + (97 + 4 * i)))) (hk : k ≤ 20) (hns : 0 < ns ∧ ns < 2 ^ 31) (hsd : ∀ j, sdc j < 16) (hld : ∀ j, ldc0 j < 16) (hhow : how < 3) (hh1 : how ≠ 1) (fF : mem 109 = .inr (1, [.ref (b + 110), .ref (b + 113), .ref (b + 114)])) (fR0 : mem 110 = .inr (4, [.ref (b + 111), .ref (b + 112), .int (nI lf), .int (nI sf)])) (hns3 : ns ≤ 3) (hmk : mkHow (nI 2) (nI how) = true) (hcz0 : how = 2 → cz ≠ 0) : Ct l yX9_search (.code yX9_search cX9_search 5 (some .int)) ({ frames := 6, cells := 0, slots := 0, locals := 148 } : Room) Γ b M [.ref (b + 0), .int (nI 2), .int (nI how), .int (nI k), .int (nI ns)] mem (fun u => u 105 = .inr (2, [.ref (b + 106), .int (bI true), .int (nI ((mkS (min k 20) (veG (st1 (min k 20)) nd ns (veM (decide (how = 2)) cz (waG wa cz (nrq vf cf cz) vz) tf cf tz vz) (veS vf tf tz vz)) ((ldc0, lsc0, 0), (sdc, ssc, ssz), 0, 0, 0) ns).2.2.1)), .int (nI ((mkS (min k 20) (veG (st1 (min k 20)) nd ns (veM (decide (how = 2)) cz (waG wa cz (nrq vf cf cz) vz) tf cf tz vz) (veS vf tf tz vz)) ((ldc0, lsc0, 0), (sdc, ssc, ssz), 0, 0, 0) ns).2.2.2.1)), .int (nI ((mkS (min k 20) (veG (st1 (min k 20)) nd ns (veM (decide (how = 2)) cz (waG wa cz (nrq vf cf cz) vz) tf cf tz vz) (veS vf tf tz vz)) ((ldc0, lsc0, 0), (sdc, ssc, ssz), 0, 0, 0) ns).2.2.2.2))]) ∧ u 106 = .inr (4, [.ref (b + 107), .ref (b + 108), .int (nI (min k 20)), .int (nI ((mkS (min k 20) (veG (st1 (min k 20)) nd ns (veM (decide (how = 2)) cz (waG wa cz (nrq vf cf cz) vz) tf cf tz vz) (veS vf tf tz vz)) ((ldc0, lsc0, 0), (sdc, ssc, ssz), 0, 0, 0) ns).1.2.2))]) ∧ u 107 = aN Γ 20 ((mkS (min k 20) (veG (st1 (min k 20)) nd ns (veM (decide (how = 2)) cz (waG wa cz (nrq vf cf cz) vz) tf cf tz vz) (veS vf tf tz vz)) ((ldc0, lsc0, 0), (sdc, ssc, ssz), 0, 0, 0) ns).1.1) ∧ u 108 = aD Γ 20 ((mkS (min k 20) (veG (st1 (min k 20)) nd ns (veM (decide (how = 2)) cz (waG wa cz (nrq vf cf cz) vz) tf cf tz vz) (veS vf tf tz vz)) ((ldc0, lsc0, 0), (sdc, ssc, ssz), 0, 0, 0) ns).1.2.1) ∧ u 93 = .inr (4, [.ref (b + 94), .ref (b + 95), .int (nI (min k 20)), .int (nI ((mkS (min k 20) (veG (st1 (min k 20)) nd ns (veM (decide (how = 2)) cz (waG wa cz (nrq vf cf cz) vz) tf cf tz vz) (veS vf tf tz vz)) ((ldc0, lsc0, 0), (sdc, ssc, ssz), 0, 0, 0) ns).2.1.2.2))]) ∧ u 94 = aN Γ 20 ((mkS (min k 20) (veG (st1 (min k 20)) nd ns (veM (decide (how = 2)) cz (waG wa cz (nrq vf cf cz) vz) tf cf tz vz) (veS vf tf tz vz)) ((ldc0, lsc0, 0), (sdc, ssc, ssz), 0, 0, 0) ns).2.1.1) ∧ u 95 = aD Γ 20 ((mkS (min k 20) (veG (st1 (min k 20)) nd ns (veM (decide (how = 2)) cz (waG wa cz (nrq vf cf cz) vz) tf cf tz vz) (veS vf tf tz vz)) ((ldc0, lsc0, 0), (sdc, ssc, ssz), 0, 0, 0) ns).2.1.2.1) ∧ u 91 = .inr (7, [.ref (b + 1), .ref (b + 78), .ref (b + 92), .int (bI (decide (how = 2)))]) ∧ u 92 = aB Γ 4 (waG wa cz (nrq vf cf cz) vz) ∧ u 110 = .inr (4, [.ref (b + 111), .ref (b + 112), .int (nI 0), .int (nI 0)]) ∧ ∀ j, j ≠ 105 → j ≠ 106 → j ≠ 107 → j ≠ 108 → j ≠ 93 → j ≠ 94 → j ≠ 95 → j ≠ 91 → j ≠ 92 → j ≠ 110 → u j = mem j) (some (.int (nI ((mkS (min k 20) (veG (st1 (min k 20)) nd ns (veM (decide (how = 2)) cz (waG wa cz (nrq vf cf cz) vz) tf cf tz vz) (veS vf tf tz vz)) ((ldc0, lsc0, 0), (sdc, ssc, ssz), 0, 0, 0) ns).1.2.2)))) := by
  refine mm_enter (cc := cX9_search) (by decide) (Nat.le_of_ble_eq_true rfl) ?_
  intro p e s m args below meth c ls hx hb hml hown hr hlocks hname hE hh hl
  have hl : lv_has ls 5 [(0, .ref (b + 0)), (1, .int (nI 2)), (2, .int (nI how)), (3, .int (nI k)), (4, .int (nI ns))] := hl
  have hfr : ∀ j, j ≠ 105 → j ≠ 106 → j ≠ 107 → j ≠ 108 → j ≠ 93 → j ≠ 94 → j ≠ 95 → j ≠ 91 → j ≠ 92 → j ≠ 110 → mem j = mem j := fun j _ _ _ _ _ _ _ _ _ _ => rfl
  refine lv_iload_n hx hb dX9_search_0 rfl (lv_at hl 1 rfl) ?_
  refine mm_S0r (As := [.int (nI 2)]) (rest := []) hx hb hml hown hE hl.1 hh (kc_X9_172 hE.2.1 ⟨Nat.le_of_ble_eq_true rfl, Nat.le_of_ble_eq_true rfl⟩) (c_X9_isView l Γ b M mem (t := (nI 2))) rfl rfl (Nat.le_of_ble_eq_true rfl) dX9_search_1 rfl rfl (fun H locs hh => ?_)
  refine nn_beq (tgt := 15) hx hb dX9_search_4 (by decide) (fun h1 => ?_) (fun h1 => ?_)
  ·
    exact (no_tf (inR_y (show 2 < 3 by decide) (by decide)) h1).elim
  ·
    refine lv_iload_n hx hb dX9_search_7 rfl (lv_at hl 1 rfl) ?_
    refine lv_iload_n hx hb dX9_search_8 rfl (lv_at hl 2 rfl) ?_
    refine mm_S0r (As := [.int (nI 2), .int (nI how)]) (rest := []) hx hb hml hown hE hl.1 hh (kc_X9_175 hE.2.1 ⟨Nat.le_of_ble_eq_true rfl, Nat.le_of_ble_eq_true rfl⟩) (c_X9_isMadeHow l Γ b M mem (view := (nI 2)) (how := (nI how))) rfl rfl (Nat.le_of_ble_eq_true rfl) dX9_search_9 rfl rfl (fun H locs hh => ?_)
    refine nn_bne (tgt := 25) hx hb dX9_search_12 (by decide) (fun h2 => ?_) (fun h2 => ?_)
    ·
      refine lv_iload_n hx hb dX9_search_25 rfl (lv_at hl 3 rfl) ?_
      refine lv_if_lt (tgt := 47) hx hb dX9_search_26 (by decide) (fun h3 => ?_) (fun h3 => ?_)
      ·
        exact absurd h3 (nI_nn (by omega))
      ·
        refine lv_iload_n hx hb dX9_search_29 rfl (lv_at hl 3 rfl) ?_
        refine lv_bipush (v := (nI 20)) hx hb dX9_search_30 (by decide) ?_
        refine nn_icmp_gt (tgt := 47) hx hb dX9_search_32 (by decide) (by omega) (by omega) (fun h4 => ?_) (fun h4 => ?_)
        ·
          exact absurd h4 (by omega)
        ·
          refine lv_iload hx hb dX9_search_35 (lv_at hl 4 rfl) ?_
          refine lv_iconst (v := (nI 1)) hx hb dX9_search_37 (by decide) ?_
          refine nn_icmp_lt (tgt := 47) hx hb dX9_search_38 (by decide) (by omega) (by omega) (fun h5 => ?_) (fun h5 => ?_)
          ·
            exact absurd h5 (by omega)
          ·
            refine lv_iload hx hb dX9_search_41 (lv_at hl 4 rfl) ?_
            refine lv_iconst (v := (nI 3)) hx hb dX9_search_43 (by decide) ?_
            refine nn_icmp_le (tgt := 57) hx hb dX9_search_44 (by decide) (by omega) (by omega) (fun h6 => ?_) (fun h6 => ?_)
            ·
              refine lv_iload_n hx hb dX9_search_57 rfl (lv_at hl 2 rfl) ?_
              refine lv_iconst (v := (nI 2)) hx hb dX9_search_58 (by decide) ?_
              refine nn_icmp_ne (tgt := 85) hx hb dX9_search_59 (by decide) (by omega) (by omega) (fun h7 => ?_) (fun h7 => ?_)
              ·
                refine lv_aload_n hx hb dX9_search_85 rfl (lv_at hl 0 rfl) ?_
                refine gf_X9_fusion hx hb hE hown hh (by omega) fH rfl dX9_search_86 ?_
                refine mm_V0 (As := []) (rest := []) hx hb hml hown hE hl.1 hh (kc_X9_188 hE.2.1 ⟨Nat.le_of_ble_eq_true rfl, Nat.le_of_ble_eq_true rfl⟩) (c_X1_forget l Γ b M mem (lim := lf) (sz := sf) (by omega) fF fR0) rfl (by omega) fF rfl rfl (Nat.le_of_ble_eq_true rfl) dX9_search_89 rfl rfl (fun H locs mem8 hP9 hh => ?_)
                obtain ⟨f10, k11⟩ := hP9
                have hfr12 : ∀ j, j ≠ 105 → j ≠ 106 → j ≠ 107 → j ≠ 108 → j ≠ 93 → j ≠ 94 → j ≠ 95 → j ≠ 91 → j ≠ 92 → j ≠ 110 → mem8 j = mem j := fun j c0 c1 c2 c3 c4 c5 c6 c7 c8 c9 => (k11 j (by omega)).trans (hfr j c0 c1 c2 c3 c4 c5 c6 c7 c8 c9)
                have f13 : mem8 0 = .inr (8, [.ref (b + 1), .ref (b + 72), .ref (b + 75), .ref (b + 78), .ref (b + 80), .ref (b + 91), .ref (b + 93), .ref (b + 96), .ref (b + 109)]) := (k11 _ (by omega)).trans fH
                have f14 : mem8 91 = .inr (7, [.ref (b + 1), .ref (b + 78), .ref (b + 92), .int (bI near)]) := (k11 _ (by omega)).trans fS
                have f15 : mem8 92 = aB Γ 4 wa := (k11 _ (by omega)).trans fSw
                have f16 : mem8 1 = .inr (0, [.ref (b + 2), .ref (b + 19), .ref (b + 20), .ref (b + 37), .ref (b + 38), .int (nI nd)]) := (k11 _ (by omega)).trans fC
                have f17 : mem8 38 = .inr (6, [.ref (b + 39), .int (nI 4), .int (nI cz)]) := (k11 _ (by omega)).trans fZ
                have f18 : mem8 39 = aF Γ 16 cf := (k11 _ (by omega)).trans fZf
                have f19 : mem8 78 = .inr (6, [.ref (b + 79), .int (nI 3), .int (nI vz)]) := (k11 _ (by omega)).trans fV
                have f20 : mem8 79 = aF Γ 12 vf := (k11 _ (by omega)).trans fVf
                have f21 : mem8 37 = aR Γ 6 16 (fun i => some (b + (40 + 2 * i))) := (k11 _ (by omega)).trans fTo
                have f22 : mem8 105 = .inr (2, [.ref (b + 106), .int (bI made), .int (nI sd), .int (nI sk), .int (nI ps)]) := (k11 _ (by omega)).trans fl
                have f23 : mem8 106 = .inr (4, [.ref (b + 107), .ref (b + 108), .int (nI ll), .int (nI lz)]) := (k11 _ (by omega)).trans fl1
                have f24 : mem8 107 = aN Γ 20 ldc0 := (k11 _ (by omega)).trans fl2
                have f25 : mem8 108 = aD Γ 20 lsc0 := (k11 _ (by omega)).trans fl3
                have f26 : mem8 93 = .inr (4, [.ref (b + 94), .ref (b + 95), .int (nI lim2), .int (nI ssz)]) := (k11 _ (by omega)).trans fs0
                have f27 : mem8 94 = aN Γ 20 sdc := (k11 _ (by omega)).trans fs1
                have f28 : mem8 95 = aD Γ 20 ssc := (k11 _ (by omega)).trans fs2
                have f29 : mem8 96 = aR Γ 5 3 (fun i => some (b + (97 + 4 * i))) := (k11 _ (by omega)).trans fLo
                have f30 : mem8 109 = .inr (1, [.ref (b + 110), .ref (b + 113), .ref (b + 114)]) := (k11 _ (by omega)).trans fF
                have f31 : ∀ z9, z9 < 16 → mem8 (40 + 2 * z9) = .inr (6, [.ref (b + (40 + 2 * z9 + 1)), .int (nI 4), .int (nI (tz z9))]) := fun z9 hz9 => (k11 _ (by omega)).trans (ftz z9 hz9)
                have f32 : ∀ z9, z9 < 16 → mem8 (40 + 2 * z9 + 1) = aF Γ 16 (tf z9) := fun z9 hz9 => (k11 _ (by omega)).trans (ftf z9 hz9)
                refine lv_aload_n hx hb dX9_search_92 rfl (lv_at hl 0 rfl) ?_
                refine lv_iload_n hx hb dX9_search_93 rfl (lv_at hl 1 rfl) ?_
                refine lv_iload_n hx hb dX9_search_94 rfl (lv_at hl 2 rfl) ?_
                refine lv_iload_n hx hb dX9_search_95 rfl (lv_at hl 3 rfl) ?_
                refine lv_iload hx hb dX9_search_96 (lv_at hl 4 rfl) ?_
                refine mm_V0 (As := [.int (nI 2), .int (nI how), .int (nI k), .int (nI ns)]) (rest := []) hx hb hml hown hE hl.1 hh (kc_X9_191 hE.2.1 ⟨Nat.le_of_ble_eq_true rfl, Nat.le_of_ble_eq_true rfl⟩) (c_X9_makeListV l Γ b M mem8 (near := near) (how := how) (nd := nd) (cz := cz) (vz := vz) (wa := wa) (cf := cf) (vf := vf) (tz := tz) (tf := tf) (k := k) (ns := ns) (lim2 := lim2) (ssz := ssz) (ll := ll) (lz := lz) (sd := sd) (sk := sk) (ps := ps) (made := made) (sdc := sdc) (ldc0 := ldc0) (ssc := ssc) (lsc0 := lsc0) (by omega) f13 f14 f15 f16 f17 f18 f19 f20 (by omega) (by omega) (hcf) (hvf) f21 f31 f32 (by omega) (htz) (htf) f22 f23 f24 f25 f26 f27 f28 f29 (by omega) (by omega) (hsd) (hld) (by omega) (by omega)) rfl (by omega) f13 rfl rfl (Nat.le_of_ble_eq_true rfl) dX9_search_98 rfl rfl (fun H locs mem33 hP34 hh => ?_)
                obtain ⟨f35, f36, f37, f38, f39, f40, f41, f42, f43, k44⟩ := hP34
                have hfr45 : ∀ j, j ≠ 105 → j ≠ 106 → j ≠ 107 → j ≠ 108 → j ≠ 93 → j ≠ 94 → j ≠ 95 → j ≠ 91 → j ≠ 92 → j ≠ 110 → mem33 j = mem j := fun j c0 c1 c2 c3 c4 c5 c6 c7 c8 c9 => (k44 j (by omega) (by omega) (by omega) (by omega) (by omega) (by omega) (by omega) (by omega) (by omega)).trans (hfr12 j c0 c1 c2 c3 c4 c5 c6 c7 c8 c9)
                have f46 : mem33 0 = .inr (8, [.ref (b + 1), .ref (b + 72), .ref (b + 75), .ref (b + 78), .ref (b + 80), .ref (b + 91), .ref (b + 93), .ref (b + 96), .ref (b + 109)]) := (k44 _ (by omega) (by omega) (by omega) (by omega) (by omega) (by omega) (by omega) (by omega) (by omega)).trans f13
                have f47 : mem33 1 = .inr (0, [.ref (b + 2), .ref (b + 19), .ref (b + 20), .ref (b + 37), .ref (b + 38), .int (nI nd)]) := (k44 _ (by omega) (by omega) (by omega) (by omega) (by omega) (by omega) (by omega) (by omega) (by omega)).trans f16
                have f48 : mem33 38 = .inr (6, [.ref (b + 39), .int (nI 4), .int (nI cz)]) := (k44 _ (by omega) (by omega) (by omega) (by omega) (by omega) (by omega) (by omega) (by omega) (by omega)).trans f17
                have f49 : mem33 39 = aF Γ 16 cf := (k44 _ (by omega) (by omega) (by omega) (by omega) (by omega) (by omega) (by omega) (by omega) (by omega)).trans f18
                have f50 : mem33 78 = .inr (6, [.ref (b + 79), .int (nI 3), .int (nI vz)]) := (k44 _ (by omega) (by omega) (by omega) (by omega) (by omega) (by omega) (by omega) (by omega) (by omega)).trans f19
                have f51 : mem33 79 = aF Γ 12 vf := (k44 _ (by omega) (by omega) (by omega) (by omega) (by omega) (by omega) (by omega) (by omega) (by omega)).trans f20
                have f52 : mem33 37 = aR Γ 6 16 (fun i => some (b + (40 + 2 * i))) := (k44 _ (by omega) (by omega) (by omega) (by omega) (by omega) (by omega) (by omega) (by omega) (by omega)).trans f21
                have f53 : mem33 96 = aR Γ 5 3 (fun i => some (b + (97 + 4 * i))) := (k44 _ (by omega) (by omega) (by omega) (by omega) (by omega) (by omega) (by omega) (by omega) (by omega)).trans f29
                have f54 : mem33 109 = .inr (1, [.ref (b + 110), .ref (b + 113), .ref (b + 114)]) := (k44 _ (by omega) (by omega) (by omega) (by omega) (by omega) (by omega) (by omega) (by omega) (by omega)).trans f30
                have f55 : mem33 110 = .inr (4, [.ref (b + 111), .ref (b + 112), .int (nI 0), .int (nI 0)]) := (k44 _ (by omega) (by omega) (by omega) (by omega) (by omega) (by omega) (by omega) (by omega) (by omega)).trans f10
                have f56 : ∀ z9, z9 < 16 → mem33 (40 + 2 * z9) = .inr (6, [.ref (b + (40 + 2 * z9 + 1)), .int (nI 4), .int (nI (tz z9))]) := fun z9 hz9 => (k44 _ (by omega) (by omega) (by omega) (by omega) (by omega) (by omega) (by omega) (by omega) (by omega)).trans (f31 z9 hz9)
                have f57 : ∀ z9, z9 < 16 → mem33 (40 + 2 * z9 + 1) = aF Γ 16 (tf z9) := fun z9 hz9 => (k44 _ (by omega) (by omega) (by omega) (by omega) (by omega) (by omega) (by omega) (by omega) (by omega)).trans (f32 z9 hz9)
                exact mm_iret hx hb hr hlocks hE hh (rfl) (⟨f35, f36, f37, f38, f39, f40, f41, f42, f43, f55, hfr45⟩) dX9_search_101
              ·
                have g1 := h7
                refine lv_aload_n hx hb dX9_search_62 rfl (lv_at hl 0 rfl) ?_
                refine gf_X9_collection hx hb hE hown hh (by omega) fH rfl dX9_search_63 ?_
                refine mm_V0r (As := []) (rest := []) hx hb hml hown hE hl.1 hh (kc_X9_143 hE.2.1 ⟨Nat.le_of_ble_eq_true rfl, Nat.le_of_ble_eq_true rfl⟩) (c_X0_centroidRow l Γ b M mem (nd := nd) (by omega) fC) rfl (by omega) fC rfl rfl (Nat.le_of_ble_eq_true rfl) dX9_search_66 rfl rfl (fun H locs hh => ?_)
                refine mm_V0r (As := []) (rest := []) hx hb hml hown hE hl.1 hh (kc_X9_183 hE.2.1 ⟨Nat.le_of_ble_eq_true rfl, Nat.le_of_ble_eq_true rfl⟩) (c_X7_size l Γ b M mem (a := 38) (lim := 4) (sz := cz) (by omega) fZ) rfl (by omega) fZ rfl rfl (Nat.le_of_ble_eq_true rfl) dX9_search_69 rfl rfl (fun H locs hh => ?_)
                refine nn_if_ne (tgt := 85) hx hb dX9_search_72 (by decide) (by omega) (fun h58 => ?_) (fun h58 => ?_)
                ·
                  refine lv_aload_n hx hb dX9_search_85 rfl (lv_at hl 0 rfl) ?_
                  refine gf_X9_fusion hx hb hE hown hh (by omega) fH rfl dX9_search_86 ?_
                  refine mm_V0 (As := []) (rest := []) hx hb hml hown hE hl.1 hh (kc_X9_188 hE.2.1 ⟨Nat.le_of_ble_eq_true rfl, Nat.le_of_ble_eq_true rfl⟩) (c_X1_forget l Γ b M mem (lim := lf) (sz := sf) (by omega) fF fR0) rfl (by omega) fF rfl rfl (Nat.le_of_ble_eq_true rfl) dX9_search_89 rfl rfl (fun H locs mem59 hP60 hh => ?_)
                  obtain ⟨f61, k62⟩ := hP60
                  have hfr63 : ∀ j, j ≠ 105 → j ≠ 106 → j ≠ 107 → j ≠ 108 → j ≠ 93 → j ≠ 94 → j ≠ 95 → j ≠ 91 → j ≠ 92 → j ≠ 110 → mem59 j = mem j := fun j c0 c1 c2 c3 c4 c5 c6 c7 c8 c9 => (k62 j (by omega)).trans (hfr j c0 c1 c2 c3 c4 c5 c6 c7 c8 c9)
                  have f64 : mem59 0 = .inr (8, [.ref (b + 1), .ref (b + 72), .ref (b + 75), .ref (b + 78), .ref (b + 80), .ref (b + 91), .ref (b + 93), .ref (b + 96), .ref (b + 109)]) := (k62 _ (by omega)).trans fH
                  have f65 : mem59 91 = .inr (7, [.ref (b + 1), .ref (b + 78), .ref (b + 92), .int (bI near)]) := (k62 _ (by omega)).trans fS
                  have f66 : mem59 92 = aB Γ 4 wa := (k62 _ (by omega)).trans fSw
                  have f67 : mem59 1 = .inr (0, [.ref (b + 2), .ref (b + 19), .ref (b + 20), .ref (b + 37), .ref (b + 38), .int (nI nd)]) := (k62 _ (by omega)).trans fC
                  have f68 : mem59 38 = .inr (6, [.ref (b + 39), .int (nI 4), .int (nI cz)]) := (k62 _ (by omega)).trans fZ
                  have f69 : mem59 39 = aF Γ 16 cf := (k62 _ (by omega)).trans fZf
                  have f70 : mem59 78 = .inr (6, [.ref (b + 79), .int (nI 3), .int (nI vz)]) := (k62 _ (by omega)).trans fV
                  have f71 : mem59 79 = aF Γ 12 vf := (k62 _ (by omega)).trans fVf
                  have f72 : mem59 37 = aR Γ 6 16 (fun i => some (b + (40 + 2 * i))) := (k62 _ (by omega)).trans fTo
                  have f73 : mem59 105 = .inr (2, [.ref (b + 106), .int (bI made), .int (nI sd), .int (nI sk), .int (nI ps)]) := (k62 _ (by omega)).trans fl
                  have f74 : mem59 106 = .inr (4, [.ref (b + 107), .ref (b + 108), .int (nI ll), .int (nI lz)]) := (k62 _ (by omega)).trans fl1
                  have f75 : mem59 107 = aN Γ 20 ldc0 := (k62 _ (by omega)).trans fl2
                  have f76 : mem59 108 = aD Γ 20 lsc0 := (k62 _ (by omega)).trans fl3
                  have f77 : mem59 93 = .inr (4, [.ref (b + 94), .ref (b + 95), .int (nI lim2), .int (nI ssz)]) := (k62 _ (by omega)).trans fs0
                  have f78 : mem59 94 = aN Γ 20 sdc := (k62 _ (by omega)).trans fs1
                  have f79 : mem59 95 = aD Γ 20 ssc := (k62 _ (by omega)).trans fs2
                  have f80 : mem59 96 = aR Γ 5 3 (fun i => some (b + (97 + 4 * i))) := (k62 _ (by omega)).trans fLo
                  have f81 : mem59 109 = .inr (1, [.ref (b + 110), .ref (b + 113), .ref (b + 114)]) := (k62 _ (by omega)).trans fF
                  have f82 : ∀ z9, z9 < 16 → mem59 (40 + 2 * z9) = .inr (6, [.ref (b + (40 + 2 * z9 + 1)), .int (nI 4), .int (nI (tz z9))]) := fun z9 hz9 => (k62 _ (by omega)).trans (ftz z9 hz9)
                  have f83 : ∀ z9, z9 < 16 → mem59 (40 + 2 * z9 + 1) = aF Γ 16 (tf z9) := fun z9 hz9 => (k62 _ (by omega)).trans (ftf z9 hz9)
                  refine lv_aload_n hx hb dX9_search_92 rfl (lv_at hl 0 rfl) ?_
                  refine lv_iload_n hx hb dX9_search_93 rfl (lv_at hl 1 rfl) ?_
                  refine lv_iload_n hx hb dX9_search_94 rfl (lv_at hl 2 rfl) ?_
                  refine lv_iload_n hx hb dX9_search_95 rfl (lv_at hl 3 rfl) ?_
                  refine lv_iload hx hb dX9_search_96 (lv_at hl 4 rfl) ?_
                  refine mm_V0 (As := [.int (nI 2), .int (nI how), .int (nI k), .int (nI ns)]) (rest := []) hx hb hml hown hE hl.1 hh (kc_X9_191 hE.2.1 ⟨Nat.le_of_ble_eq_true rfl, Nat.le_of_ble_eq_true rfl⟩) (c_X9_makeListV l Γ b M mem59 (near := near) (how := how) (nd := nd) (cz := cz) (vz := vz) (wa := wa) (cf := cf) (vf := vf) (tz := tz) (tf := tf) (k := k) (ns := ns) (lim2 := lim2) (ssz := ssz) (ll := ll) (lz := lz) (sd := sd) (sk := sk) (ps := ps) (made := made) (sdc := sdc) (ldc0 := ldc0) (ssc := ssc) (lsc0 := lsc0) (by omega) f64 f65 f66 f67 f68 f69 f70 f71 (by omega) (by omega) (hcf) (hvf) f72 f82 f83 (by omega) (htz) (htf) f73 f74 f75 f76 f77 f78 f79 f80 (by omega) (by omega) (hsd) (hld) (by omega) (by omega)) rfl (by omega) f64 rfl rfl (Nat.le_of_ble_eq_true rfl) dX9_search_98 rfl rfl (fun H locs mem84 hP85 hh => ?_)
                  obtain ⟨f86, f87, f88, f89, f90, f91, f92, f93, f94, k95⟩ := hP85
                  have hfr96 : ∀ j, j ≠ 105 → j ≠ 106 → j ≠ 107 → j ≠ 108 → j ≠ 93 → j ≠ 94 → j ≠ 95 → j ≠ 91 → j ≠ 92 → j ≠ 110 → mem84 j = mem j := fun j c0 c1 c2 c3 c4 c5 c6 c7 c8 c9 => (k95 j (by omega) (by omega) (by omega) (by omega) (by omega) (by omega) (by omega) (by omega) (by omega)).trans (hfr63 j c0 c1 c2 c3 c4 c5 c6 c7 c8 c9)
                  have f97 : mem84 0 = .inr (8, [.ref (b + 1), .ref (b + 72), .ref (b + 75), .ref (b + 78), .ref (b + 80), .ref (b + 91), .ref (b + 93), .ref (b + 96), .ref (b + 109)]) := (k95 _ (by omega) (by omega) (by omega) (by omega) (by omega) (by omega) (by omega) (by omega) (by omega)).trans f64
                  have f98 : mem84 1 = .inr (0, [.ref (b + 2), .ref (b + 19), .ref (b + 20), .ref (b + 37), .ref (b + 38), .int (nI nd)]) := (k95 _ (by omega) (by omega) (by omega) (by omega) (by omega) (by omega) (by omega) (by omega) (by omega)).trans f67
                  have f99 : mem84 38 = .inr (6, [.ref (b + 39), .int (nI 4), .int (nI cz)]) := (k95 _ (by omega) (by omega) (by omega) (by omega) (by omega) (by omega) (by omega) (by omega) (by omega)).trans f68
                  have f100 : mem84 39 = aF Γ 16 cf := (k95 _ (by omega) (by omega) (by omega) (by omega) (by omega) (by omega) (by omega) (by omega) (by omega)).trans f69
                  have f101 : mem84 78 = .inr (6, [.ref (b + 79), .int (nI 3), .int (nI vz)]) := (k95 _ (by omega) (by omega) (by omega) (by omega) (by omega) (by omega) (by omega) (by omega) (by omega)).trans f70
                  have f102 : mem84 79 = aF Γ 12 vf := (k95 _ (by omega) (by omega) (by omega) (by omega) (by omega) (by omega) (by omega) (by omega) (by omega)).trans f71
                  have f103 : mem84 37 = aR Γ 6 16 (fun i => some (b + (40 + 2 * i))) := (k95 _ (by omega) (by omega) (by omega) (by omega) (by omega) (by omega) (by omega) (by omega) (by omega)).trans f72
                  have f104 : mem84 96 = aR Γ 5 3 (fun i => some (b + (97 + 4 * i))) := (k95 _ (by omega) (by omega) (by omega) (by omega) (by omega) (by omega) (by omega) (by omega) (by omega)).trans f80
                  have f105 : mem84 109 = .inr (1, [.ref (b + 110), .ref (b + 113), .ref (b + 114)]) := (k95 _ (by omega) (by omega) (by omega) (by omega) (by omega) (by omega) (by omega) (by omega) (by omega)).trans f81
                  have f106 : mem84 110 = .inr (4, [.ref (b + 111), .ref (b + 112), .int (nI 0), .int (nI 0)]) := (k95 _ (by omega) (by omega) (by omega) (by omega) (by omega) (by omega) (by omega) (by omega) (by omega)).trans f61
                  have f107 : ∀ z9, z9 < 16 → mem84 (40 + 2 * z9) = .inr (6, [.ref (b + (40 + 2 * z9 + 1)), .int (nI 4), .int (nI (tz z9))]) := fun z9 hz9 => (k95 _ (by omega) (by omega) (by omega) (by omega) (by omega) (by omega) (by omega) (by omega) (by omega)).trans (f82 z9 hz9)
                  have f108 : ∀ z9, z9 < 16 → mem84 (40 + 2 * z9 + 1) = aF Γ 16 (tf z9) := fun z9 hz9 => (k95 _ (by omega) (by omega) (by omega) (by omega) (by omega) (by omega) (by omega) (by omega) (by omega)).trans (f83 z9 hz9)
                  exact mm_iret hx hb hr hlocks hE hh (rfl) (⟨f86, f87, f88, f89, f90, f91, f92, f93, f94, f106, hfr96⟩) dX9_search_101
                ·
                  exact absurd h58 (by have := hcz0 g1; omega)
            ·
              exact absurd h6 (by omega)
    ·
      exact (no_tf hmk h2).elim
