/-! FUSION: pure words; numbers not below 0 and no NaN -/
def nnP (x : UInt64) : Prop := dp x ∧ vf_n64 x
theorem n64_ne {x : UInt64} : vf_n64 x ↔ FP.Core.val64 x ≠ .nan := n64_core.trans (FP.Core.notNaN_iff x)
theorem nnP_dat {x : UInt64} (h : nnP x) : (∃ c q, FP.Core.val64 x = .fin false c q) ∨ FP.Core.val64 x = .inf false := by
  have hn := n64_ne.mp h.2
  have hs := (sgn_dp hn).mp h.1
  cases hd : FP.Core.val64 x with
  | nan => exact absurd hd hn
  | inf s => rw [hd] at hs; have hs' : s = false := hs; subst hs'; exact Or.inr rfl
  | fin s c q => rw [hd] at hs; have hs' : s = false := hs; subst hs'; exact Or.inl ⟨c, q, rfl⟩
theorem nnP_of {x : UInt64} {d : FP.Core.Datum} (h : FP.Core.val64 x = d) (hn : d ≠ .nan) (hs : FP.Core.sgn d = false) : nnP x := by
  have h1 : FP.Core.val64 x ≠ .nan := by rw [h]; exact hn
  exact ⟨(sgn_dp h1).mpr (by rw [h]; exact hs), n64_ne.mpr h1⟩
theorem nnP.add {x y : UInt64} (hx : nnP x) (hy : nnP y) : nnP (FP.dadd x y) := by
  rcases nnP_dat hx with ⟨c, q, ex⟩ | ex
  · rcases nnP_dat hy with ⟨d, r, ey⟩ | ey
    · refine nnP_of (FP.Core.val64_dadd x y) ?_ ?_
      · rw [ex, ey]; exact FP.Core.roundRatio_ne_nan _ _ _ _ _
      · rw [ex, ey]
        show FP.Core.sgn (FP.Core.roundRatio _ (FP.Core.sumSign false false _) _ _ _) = false
        rw [FP.Core.sgn_roundRatio]
        unfold FP.Core.sumSign
        split
        · rfl
        · rename_i h
          have : ¬ FP.Core.sumUnits false c q false d r (min q r) < 0 := by
            unfold FP.Core.sumUnits FP.Core.signed
            rw [if_neg (by decide), if_neg (by decide)]
            omega
          simp [this]
    · exact nnP_of (d := .inf false) (by rw [show FP.Core.val64 (FP.dadd x y) = _ from FP.Core.val64_dadd x y, ex, ey]; rfl) (by intro h; cases h) rfl
  · rcases nnP_dat hy with ⟨d, r, ey⟩ | ey
    · exact nnP_of (d := .inf false) (by rw [show FP.Core.val64 (FP.dadd x y) = _ from FP.Core.val64_dadd x y, ex, ey]; rfl) (by intro h; cases h) rfl
    · exact nnP_of (d := .inf false) (by rw [show FP.Core.val64 (FP.dadd x y) = _ from FP.Core.val64_dadd x y, ex, ey]; rfl) (by intro h; cases h) rfl
theorem nnP.mulI {x : UInt64} {k : Nat} (hx : nnP x) (hk : 0 < k) (hk2 : k < 2 ^ 31) : nnP (FP.dmul x (FP.i2d (nI k))) := by
  have hy : nnP (FP.i2d (nI k)) := ⟨dp_i2d hk2, (db_i2d _).n (by decide)⟩
  have hz : ¬ FP.Core.DZero (FP.i2d (nI k)) := by
    rw [FP.Core.zero_bits2]
    exact FP.Core.i2d_ne_zero (nI_ne0 hk hk2)
  have hf := FP.Core.i2d_fin (nI k)
  have hn : FP.Core.dIsNaN (FP.Core.dmul x (FP.i2d (nI k))) = false := FP.Core.dmul_out' (n64_core.mp hx.2) hf hz
  refine nnP_of rfl ((FP.Core.notNaN_iff _).mp hn) ?_
  have e1 : FP.Core.val64 (FP.dmul x (FP.i2d (nI k))) = _ := FP.Core.val64_dmul x (FP.i2d (nI k))
  rw [e1]
  rcases nnP_dat hy with ⟨d, r, ey⟩ | ey
  · rcases nnP_dat hx with ⟨c, q, ex⟩ | ex
    · rw [ex, ey]; exact FP.Core.sgn_roundRatio _ _ _ _ _
    · have hd : d ≠ 0 := by rintro rfl; exact hz ⟨false, r, ey⟩
      rw [ex, ey]
      simp only [FP.Core.exactProduct, if_neg hd]
      rfl
  · obtain ⟨s, c, q, e⟩ := hf
    rw [show FP.Core.val64 (FP.i2d (nI k)) = _ from e] at ey
    cases ey
/-- finite, and not -0 -/
def fnZ (x : UInt64) : Prop := db 1200 x ∧ x.toNat ≠ 2 ^ 63
theorem key_ge_sub {x y : UInt64} (hx : fnZ x) (hy : fnZ y) (h : FP.Core.dkey y ≤ FP.Core.dkey x) : dp (FP.dsub x y) ∧ db 1202 (FP.dsub x y) ∧ (FP.Core.dkey y < FP.Core.dkey x → dl 0 (FP.dsub x y) ∧ ¬ FP.Core.DZero (FP.dsub x y)) := by
  have fx := hx.1.fin (by decide)
  have fy := hy.1.fin (by decide)
  have hb : db 1202 (FP.dsub x y) := (hx.1.sub hy.1 (by decide)).up (by decide)
  have hn := (hb.fin (by decide)).ne_nan
  have zc : (FP.Core.zval FP.Core.b64 (FP.Core.val64 y) < FP.Core.zval FP.Core.b64 (FP.Core.val64 x)) ↔ FP.Core.dkey y < FP.Core.dkey x := by
    rw [← FP.Core.dcmp_lt_key fy.ne_nan fx.ne_nan]
    show _ ↔ FP.Core.order (FP.Core.val64 y) (FP.Core.val64 x) = some .lt
    rw [FP.Core.order_zval FP.Core.good_b64 (FP.Core.val64_fits y) (FP.Core.val64_fits x) fy.ne_nan fx.ne_nan, FP.Core.compare_ite]
    split
    · simp_all
    · split <;> simp_all
  have hpos : FP.Core.dkey y < FP.Core.dkey x → 1 ≤ FP.Core.zval FP.Core.b64 (FP.Core.val64 (FP.dsub x y)) := by
    intro hlt
    have h1 := zc.mpr hlt
    have e1 : FP.Core.val64 (FP.dsub x y) = _ := FP.Core.val64_dsub x y
    rw [e1]
    have hv : FP.Core.zval FP.Core.b64 (FP.Core.val64 1) = 1 := by decide +kernel
    rw [← hv]
    refine FP.Core.sum_ge FP.Core.good_b64 (V := FP.Core.val64 1) fx ?_ (FP.Core.val64_fits x) (FP.Core.negate_fits (FP.Core.val64_fits y)) (FP.Core.val64_fits 1) (by rw [FP.Core.ne_nan]; decide) ?_
    · obtain ⟨s, c, q, e⟩ := fy
      exact ⟨!s, c, q, by rw [e]; rfl⟩
    · rw [FP.Core.zval_negate, hv]; omega
  refine ⟨?_, hb, fun hlt => ⟨by unfold dl; rw [Nat.zero_mul]; exact Nat.zero_le _, ?_⟩⟩
  · rcases Int.lt_or_eq_of_le h with hlt | heq
    · have h2 := hpos hlt
      refine (sgn_dp hn).mpr ?_
      unfold FP.Core.zval at h2
      cases hs : FP.Core.sgn (FP.Core.val64 (FP.dsub x y)) with
      | false => rfl
      | true =>
        rw [hs] at h2
        have h3 : FP.Core.signed true (FP.Core.zmag FP.Core.b64 (FP.Core.val64 (FP.dsub x y))) = -(FP.Core.zmag FP.Core.b64 (FP.Core.val64 (FP.dsub x y)) : Int) := rfl
        rw [h3] at h2
        omega
    · have exy : x = y := by
        have hx2 := hx.2
        have hy2 := hy.2
        unfold FP.Core.dkey at heq
        have := x.toNat_lt
        have := y.toNat_lt
        refine UInt64.toNat_inj.mp ?_
        split at heq <;> split at heq <;> omega
      subst exy
      obtain ⟨s, c, q, e⟩ := fx
      have e2 : FP.dsub x x = FP.dconst0 := FP.Core.dsub_self e
      rw [e2]
      unfold dp
      decide
  · intro hz
    have h2 := hpos hlt
    have h3 : FP.Core.zval FP.Core.b64 (FP.Core.val64 (FP.dsub x y)) = 0 := FP.Core.DZero.zval hz
    omega
def shA (sc : Nat → UInt64) (sz i : Nat) : UInt64 := if FP.dcmp (sc 0) (sc (sz - 1)) = some .gt then FP.ddiv (FP.dsub (sc i) (sc (sz - 1))) (FP.dsub (sc 0) (sc (sz - 1))) else FP.dconst1
def shF (way : Nat) (sc : Nat → UInt64) (sz i : Nat) : UInt64 := if way = 0 then FP.ddiv FP.dconst1 (FP.i2d (nI (60 + (i + 1)))) else shA sc sz i
/-- a list's scores: finite, no -0, not rising -/
def scOK (sc : Nat → UInt64) (sz : Nat) : Prop := (∀ j, j < sz → fnZ (sc j)) ∧ ∀ i j, i ≤ j → j < sz → FP.Core.dkey (sc j) ≤ FP.Core.dkey (sc i)
theorem sh_n {x y : UInt64} (hx : dp x) (hxb : db 1202 x) (hy : dp y) (hyb : db 1202 y) (hz : ¬ FP.Core.DZero y) : nnP (FP.ddiv x y) := by
  have fx := hxb.fin (by decide)
  have fy := hyb.fin (by decide)
  have hn : FP.Core.val64 (FP.Core.ddiv x y) ≠ .nan := (FP.Core.notNaN_iff _).mp (FP.Core.ddiv_out fx.notNaN fy hz)
  have sx := (sgn_dp fx.ne_nan).mp hx
  have sy := (sgn_dp fy.ne_nan).mp hy
  refine nnP_of rfl hn ?_
  have e1 : FP.Core.val64 (FP.ddiv x y) = _ := FP.Core.val64_ddiv x y
  rw [e1]
  obtain ⟨s, c, q, ex⟩ := fx
  obtain ⟨t, d, r, ey⟩ := fy
  have hd : d ≠ 0 := by rintro rfl; exact hz ⟨t, r, ey⟩
  rw [ex] at sx ⊢
  rw [ey] at sy ⊢
  have sx' : s = false := sx
  have sy' : t = false := sy
  subst sx'
  subst sy'
  simp only [FP.Core.quotient, if_neg hd]
  exact FP.Core.sgn_roundRatio _ _ _ _ _
theorem gt_key {x y : UInt64} (hx : fnZ x) (hy : fnZ y) : FP.dcmp x y = some .gt ↔ FP.Core.dkey y < FP.Core.dkey x := FP.Core.dcmp_gt_key (hx.1.fin (by decide)).ne_nan (hy.1.fin (by decide)).ne_nan
theorem shA_q {sc : Nat → UInt64} {sz i : Nat} (h : scOK sc sz) (hi : i < sz) (hg : FP.dcmp (sc 0) (sc (sz - 1)) = some .gt) : nnP (FP.ddiv (FP.dsub (sc i) (sc (sz - 1))) (FP.dsub (sc 0) (sc (sz - 1)))) := by
  have hl := h.1 (sz - 1) (by omega)
  have h0 := h.1 0 (by omega)
  have a := key_ge_sub (h.1 i hi) hl (h.2 i (sz - 1) (by omega) (by omega))
  have b := key_ge_sub h0 hl (h.2 0 (sz - 1) (by omega) (by omega))
  exact sh_n a.1 a.2.1 b.1 b.2.1 (b.2.2 ((gt_key h0 hl).mp hg)).2
theorem nnP_1 : nnP FP.dconst1 := ⟨by unfold dp; decide, (show db 1030 FP.dconst1 by unfold db; decide).n (by decide)⟩
theorem sh_60 {k : Nat} (hk : 0 < k) (hk2 : k < 2 ^ 31) : nnP (FP.ddiv FP.dconst1 (FP.i2d (nI k))) := sh_n nnP_1.1 (show db 1202 FP.dconst1 by unfold db; decide) (dp_i2d hk2) ((db_i2d _).up (by decide)) (by rw [FP.Core.zero_bits2]; exact FP.Core.i2d_ne_zero (nI_ne0 hk hk2))
theorem shF_n {way : Nat} {sc : Nat → UInt64} {sz i : Nat} (h : scOK sc sz) (hi : i < sz) (hz : sz ≤ 20) : nnP (shF way sc sz i) := by
  unfold shF
  split
  · exact sh_60 (by omega) (by omega)
  · unfold shA
    split
    · rename_i hg; exact shA_q h hi hg
    · exact nnP_1
abbrev FuT : Type := (Nat → UInt64) × (Nat → Nat)
def ad1 (d : Nat) (x : UInt64) (U : FuT) : FuT := (va_up U.1 d (FP.dadd (U.1 d) x), va_up U.2 d (U.2 d + 1))
def adL (way : Nat) (T : RkT) (U : FuT) : Nat → FuT
  | 0 => U
  | i + 1 => ad1 (T.1 i) (shF way T.2.1 T.2.2 i) (adL way T U i)
def uOK (U : FuT) (k : Nat) : Prop := (∀ d, d < 16 → nnP (U.1 d)) ∧ ∀ d, d < 16 → U.2 d ≤ k
theorem adL_ok {way : Nat} {T : RkT} {U : FuT} {k : Nat} (h : uOK U k) (hs : scOK T.2.1 T.2.2) (hz : T.2.2 ≤ 20) (hT : ∀ j, T.1 j < 16) : ∀ i, i ≤ T.2.2 → uOK (adL way T U i) (k + i)
  | 0, _ => h
  | i + 1, hi => by
    obtain ⟨h1, h2⟩ := adL_ok h hs hz hT i (by omega)
    refine ⟨fun d hd => ?_, fun d hd => ?_⟩
    · show nnP (va_up (adL way T U i).1 (T.1 i) (FP.dadd ((adL way T U i).1 (T.1 i)) (shF way T.2.1 T.2.2 i)) d)
      unfold va_up
      split
      · exact (h1 _ (hT i)).add (shF_n hs (by omega) hz)
      · exact h1 d hd
    · show va_up (adL way T U i).2 (T.1 i) ((adL way T U i).2 (T.1 i) + 1) d ≤ k + (i + 1)
      unfold va_up
      split
      · have := h2 (T.1 i) (hT i); omega
      · have := h2 d hd; omega
def lmd (lst : Nat → Bool × Nat × Nat × Nat) : Nat → Bool := fun v => (lst v).1
def zrN (f : Nat → Nat) (n : Nat) : Nat → Nat := fun k => if k < n then 0 else f k
theorem zrN_0 (f : Nat → Nat) : zrN f 0 = f := by funext d; exact if_neg (Nat.not_lt_zero _)
theorem zrN_s (f : Nat → Nat) (d : Nat) : va_up (zrN f d) d 0 = zrN f (d + 1) := by
  funext j
  unfold va_up zrN
  by_cases e : j = d
  · subst e; rw [if_pos rfl, if_pos (Nat.lt_succ_self _)]
  · rw [if_neg e]
    by_cases h : j < d
    · rw [if_pos h, if_pos (by omega)]
    · rw [if_neg h, if_neg (by omega)]
def fu0 (to : Nat → UInt64) (mb : Nat → Nat) : FuT := (fiR to (fun _ => FP.dconst0) 16, zrN mb 16)
def fuV (way : Nat) (made : Nat → Bool) (T : Nat → RkT) (U : FuT) : Nat → FuT
  | 0 => U
  | v + 1 => if made v = true then adL way (T v) (fuV way made T U v) (T v).2.2 else fuV way made T U v
def lsT (ldc : Nat → Nat → Nat) (lsc : Nat → Nat → UInt64) (lrk : Nat → Nat × Nat) : Nat → RkT := fun v => (ldc v, lsc v, (lrk v).2)
/-- a made list: its documents below 16, its scores in order -/
def lsOK (made : Nat → Bool) (T : Nat → RkT) : Prop := ∀ v, v < 3 → made v = true → scOK (T v).2.1 (T v).2.2 ∧ (T v).2.2 ≤ 20 ∧ ∀ j, (T v).1 j < 16
theorem fuV_ok {way : Nat} {made : Nat → Bool} {T : Nat → RkT} {U : FuT} (h : lsOK made T) (hU : uOK U 0) : ∀ v, v ≤ 3 → uOK (fuV way made T U v) (20 * v)
  | 0, _ => hU
  | v + 1, hv => by
    have h1 := fuV_ok (way := way) h hU v (by omega)
    unfold fuV
    split
    · rename_i hm
      obtain ⟨a1, a2, a3⟩ := h v (by omega) hm
      have h2 := adL_ok (way := way) h1 a1 a2 a3 _ (Nat.le_refl _)
      exact ⟨h2.1, fun d hd => by have := h2.2 d hd; omega⟩
    · exact ⟨h1.1, fun d hd => by have := h1.2 d hd; omega⟩
theorem fu0_ok (to : Nat → UInt64) (mb : Nat → Nat) : uOK (fu0 to mb) 0 := by
  refine ⟨fun d hd => ?_, fun d hd => ?_⟩
  · have e : (fu0 to mb).1 d = FP.dconst0 := if_pos hd
    rw [e]
    exact ⟨by unfold dp; decide, (show db 1030 FP.dconst0 by unfold db; decide).n (by decide)⟩
  · have e : (fu0 to mb).2 d = 0 := if_pos hd
    rw [e]
    exact Nat.le_refl _
def vwF (way : Nat) (U : FuT) (d : Nat) : UInt64 := if way = 2 then FP.dmul (U.1 d) (FP.i2d (nI (U.2 d))) else U.1 d
def fuR (way : Nat) (U : FuT) (T : RkT) : Nat → RkT
  | 0 => T
  | d + 1 => if 0 < U.2 d then st1 16 d (vwF way U d) (fuR way U T d) else fuR way U T d
theorem fuR_ok {way : Nat} {U : FuT} {T : RkT} (h : tOK 16 T) : ∀ d, d ≤ 16 → tOK 16 (fuR way U T d)
  | 0, _ => h
  | d + 1, hd => by
    unfold fuR
    split
    · exact st1_ok (fuR_ok h d (by omega)) (by omega)
    · exact fuR_ok h d (by omega)

set_option maxHeartbeats 4000000 in
set_option maxRecDepth 100000 in
/-- Fusion.ranking -/
theorem c_X1_ranking (l : Launch) (Γ : Gm) (b M : Nat) (mem : Nat → va_E)  (hM : 138 ≤ M) (fF : mem 109 = .inr (1, [.ref (b + 110), .ref (b + 113), .ref (b + 114)])) : Ct l yX1_ranking (.code yX1_ranking cX1_ranking 1 (some (.object "HybridSearch$Ranking"))) ({ frames := 0, cells := 0, slots := 0, locals := 0 } : Room) Γ b M [.ref (b + 109)] mem (fun u => u = mem) (some (.ref (b + 110))) := by
  refine mm_enter (cc := cX1_ranking) (by decide) (Nat.le_of_ble_eq_true rfl) ?_
  intro p e s m args below meth c ls hx hb hml hown hr hlocks hname hE hh hl
  have hl : lv_has ls 1 [(0, .ref (b + 109))] := hl
  refine lv_aload_n hx hb dX1_ranking_0 rfl (lv_at hl 0 rfl) ?_
  refine gf_X1_ranking hx hb hE hown hh (by omega) fF rfl dX1_ranking_1 ?_
  exact mm_aret hx hb hr hlocks hE hh (rfl) (rfl) dX1_ranking_4
set_option maxHeartbeats 4000000 in
set_option maxRecDepth 100000 in
/-- Fusion.forget -/
theorem c_X1_forget (l : Launch) (Γ : Gm) (b M : Nat) (mem : Nat → va_E) {lim sz : Nat} (hM : 138 ≤ M) (fF : mem 109 = .inr (1, [.ref (b + 110), .ref (b + 113), .ref (b + 114)])) (fR : mem 110 = .inr (4, [.ref (b + 111), .ref (b + 112), .int (nI lim), .int (nI sz)])) : Ct l yX1_forget (.code yX1_forget cX1_forget 1 none) ({ frames := 2, cells := 0, slots := 0, locals := 35 } : Room) Γ b M [.ref (b + 109)] mem (fun u => u 110 = .inr (4, [.ref (b + 111), .ref (b + 112), .int (nI 0), .int (nI 0)]) ∧ ∀ j, j ≠ 110 → u j = mem j) none := by
  refine mm_enter (cc := cX1_forget) (by decide) (Nat.le_of_ble_eq_true rfl) ?_
  intro p e s m args below meth c ls hx hb hml hown hr hlocks hname hE hh hl
  have hl : lv_has ls 1 [(0, .ref (b + 109))] := hl
  have hfr : ∀ j, j ≠ 110 → mem j = mem j := fun j _ => rfl
  refine lv_aload_n hx hb dX1_forget_0 rfl (lv_at hl 0 rfl) ?_
  refine gf_X1_ranking hx hb hE hown hh (by omega) fF rfl dX1_forget_1 ?_
  refine lv_iconst (v := (nI 0)) hx hb dX1_forget_4 (by decide) ?_
  refine mm_V0 (As := [.int (nI 0)]) (rest := []) hx hb hml hown hE hl.1 hh (kc_X1_26 hE.2.1 ⟨Nat.le_of_ble_eq_true rfl, Nat.le_of_ble_eq_true rfl⟩) (c_X4_start l Γ b M mem (a := 110) (lim := lim) (sz := sz) (k := 0) (by omega) fR (by omega)) rfl (by omega) fR rfl rfl (Nat.le_of_ble_eq_true rfl) dX1_forget_5 rfl rfl (fun H locs mem1 hP2 hh => ?_)
  obtain ⟨f3, k4⟩ := hP2
  have hfr5 : ∀ j, j ≠ 110 → mem1 j = mem j := fun j c0 => (k4 j (by omega)).trans (hfr j c0)
  have f6 : mem1 109 = .inr (1, [.ref (b + 110), .ref (b + 113), .ref (b + 114)]) := (k4 _ (by omega)).trans fF
  exact mm_vret hx hb hr hlocks hE hh (⟨f3, hfr5⟩) dX1_forget_8
set_option maxHeartbeats 4000000 in
set_option maxRecDepth 100000 in
/-- Fusion.shareAt -/
theorem c_X1_shareAt (l : Launch) (Γ : Gm) (b M : Nat) (mem : Nat → va_E) {a i lim : Nat} {T : RkT} (hMa : a + 3 ≤ M) (fa0 : mem a = .inr (4, [.ref (b + (a + 1)), .ref (b + (a + 2)), .int (nI lim), .int (nI T.2.2)])) (fa1 : mem (a + 1) = aN Γ 20 T.1) (fa2 : mem (a + 2) = aD Γ 20 T.2.1) (hs : scOK T.2.1 T.2.2) (hz20 : T.2.2 ≤ 20) (hi : i < T.2.2) : Ct l yX1_shareAt (.code yX1_shareAt cX1_shareAt 6 (some .double)) ({ frames := 1, cells := 0, slots := 0, locals := 21 } : Room) Γ b M [.ref (b + a), .int (nI i)] mem (fun u => u = mem) (some (.double (shA T.2.1 T.2.2 i))) := by
  refine mm_enter (cc := cX1_shareAt) (by decide) (Nat.le_of_ble_eq_true rfl) ?_
  intro p e s m args below meth c ls hx hb hml hown hr hlocks hname hE hh hl
  have hl : lv_has ls 6 [(0, .ref (b + a)), (1, .int (nI i))] := hl
  refine lv_aload_n hx hb dX1_shareAt_0 rfl (lv_at hl 0 rfl) ?_
  refine lv_iconst (v := (nI 0)) hx hb dX1_shareAt_1 (by decide) ?_
  refine mm_V0r (As := [.int (nI 0)]) (rest := []) hx hb hml hown hE hl.1 hh (kc_X1_59 hE.2.1 ⟨Nat.le_of_ble_eq_true rfl, Nat.le_of_ble_eq_true rfl⟩) (c_X4_scoreAt l Γ b M mem (a := a) (lim := lim) (sz := T.2.2) (i := 0) (sc := T.2.1) (by omega) fa0 fa2 (by omega)) rfl (by omega) fa0 rfl rfl (Nat.le_of_ble_eq_true rfl) dX1_shareAt_2 rfl rfl (fun H locs hh => ?_)
  refine lv_dstore_n (lv' := [(2, .double (T.2.1 0)), (0, .ref (b + a)), (1, .int (nI i))]) hx hb dX1_shareAt_5 rfl hl (by decide) rfl (fun ls hl => ?_)
  refine lv_aload_n hx hb dX1_shareAt_6 rfl (lv_at hl 1 rfl) ?_
  refine lv_aload_n hx hb dX1_shareAt_7 rfl (lv_at hl 1 rfl) ?_
  refine mm_V0r (As := []) (rest := [.ref (b + a)]) hx hb hml hown hE hl.1 hh (kc_X1_47 hE.2.1 ⟨Nat.le_of_ble_eq_true rfl, Nat.le_of_ble_eq_true rfl⟩) (c_X4_size l Γ b M mem (a := a) (lim := lim) (sz := T.2.2) (by omega) fa0) rfl (by omega) fa0 rfl rfl (Nat.le_of_ble_eq_true rfl) dX1_shareAt_8 rfl rfl (fun H locs hh => ?_)
  refine lv_iconst (v := (nI 1)) hx hb dX1_shareAt_11 (by decide) ?_
  refine nn_isub hx hb (by omega) dX1_shareAt_12 ?_
  refine mm_V0r (As := [.int (nI (T.2.2 - 1))]) (rest := []) hx hb hml hown hE hl.1 hh (kc_X1_59 hE.2.1 ⟨Nat.le_of_ble_eq_true rfl, Nat.le_of_ble_eq_true rfl⟩) (c_X4_scoreAt l Γ b M mem (a := a) (lim := lim) (sz := T.2.2) (i := T.2.2 - 1) (sc := T.2.1) (by omega) fa0 fa2 (by omega)) rfl (by omega) fa0 rfl rfl (Nat.le_of_ble_eq_true rfl) dX1_shareAt_13 rfl rfl (fun H locs hh => ?_)
  refine lv_dstore (lv' := [(4, .double (T.2.1 (T.2.2 - 1))), (2, .double (T.2.1 0)), (0, .ref (b + a)), (1, .int (nI i))]) hx hb dX1_shareAt_16 hl (by decide) rfl (fun ls hl => ?_)
  refine lv_dload_n hx hb dX1_shareAt_18 rfl (lv_at hl 1 rfl) ?_
  refine lv_dload hx hb dX1_shareAt_19 (lv_at hl 0 rfl) ?_
  refine lv_dcmp hx hb dX1_shareAt_21 ?_
  refine nn_cl_gt (tgt := 27) hx hb dX1_shareAt_22 (by decide) (fun h1 => ?_) (fun h1 => ?_)
  ·
    have h22 := h1
    have hq : shA T.2.1 T.2.2 i = FP.ddiv (FP.dsub (T.2.1 i) (T.2.1 (T.2.2 - 1))) (FP.dsub (T.2.1 0) (T.2.1 (T.2.2 - 1))) := if_pos h1
    have a0 := key_ge_sub (hs.1 i hi) (hs.1 (T.2.2 - 1) (by omega)) (hs.2 i (T.2.2 - 1) (by omega) (by omega))
    have b0 := key_ge_sub (hs.1 0 (by omega)) (hs.1 (T.2.2 - 1) (by omega)) (hs.2 0 (T.2.2 - 1) (by omega) (by omega))
    refine lv_aload_n hx hb dX1_shareAt_27 rfl (lv_at hl 2 rfl) ?_
    refine lv_iload_n hx hb dX1_shareAt_28 rfl (lv_at hl 3 rfl) ?_
    refine mm_V0r (As := [.int (nI i)]) (rest := []) hx hb hml hown hE hl.1 hh (kc_X1_59 hE.2.1 ⟨Nat.le_of_ble_eq_true rfl, Nat.le_of_ble_eq_true rfl⟩) (c_X4_scoreAt l Γ b M mem (a := a) (lim := lim) (sz := T.2.2) (i := i) (sc := T.2.1) (by omega) fa0 fa2 (by omega)) rfl (by omega) fa0 rfl rfl (Nat.le_of_ble_eq_true rfl) dX1_shareAt_29 rfl rfl (fun H locs hh => ?_)
    refine lv_dload hx hb dX1_shareAt_32 (lv_at hl 0 rfl) ?_
    refine lv_dsub hx hb dX1_shareAt_34 (a0.2.1.n (by decide)) ?_
    refine lv_dload_n hx hb dX1_shareAt_35 rfl (lv_at hl 1 rfl) ?_
    refine lv_dload hx hb dX1_shareAt_36 (lv_at hl 0 rfl) ?_
    refine lv_dsub hx hb dX1_shareAt_38 (b0.2.1.n (by decide)) ?_
    refine lv_ddiv hx hb dX1_shareAt_39 ((shA_q hs hi h22).2) ?_
    exact mm_dret hx hb hr hlocks hE hh (by rw [hq]) (rfl) dX1_shareAt_40
  ·
    have hq : shA T.2.1 T.2.2 i = FP.dconst1 := if_neg h1
    refine lv_dconst1 hx hb dX1_shareAt_25 ?_
    exact mm_dret hx hb hr hlocks hE hh (by rw [hq]) (rfl) dX1_shareAt_26
set_option maxHeartbeats 4000000 in
set_option maxRecDepth 100000 in
/-- Fusion.addList -/
theorem c_X1_addList (l : Launch) (Γ : Gm) (b M : Nat) (mem : Nat → va_E) {a lim way k : Nat} {T : RkT} {U : FuT} (hM : 138 ≤ M) (hMa : a + 3 ≤ 113) (fF : mem 109 = .inr (1, [.ref (b + 110), .ref (b + 113), .ref (b + 114)])) (fU1 : mem 113 = aD Γ 16 U.1) (fU2 : mem 114 = aN Γ 16 U.2) (fa0 : mem a = .inr (4, [.ref (b + (a + 1)), .ref (b + (a + 2)), .int (nI lim), .int (nI T.2.2)])) (fa1 : mem (a + 1) = aN Γ 20 T.1) (fa2 : mem (a + 2) = aD Γ 20 T.2.1) (hs : scOK T.2.1 T.2.2) (hz20 : T.2.2 ≤ 20) (hT : ∀ j, T.1 j < 16) (hU : uOK U k) (hw : way < 3) (hk : k ≤ 100) : Ct l yX1_addList (.code yX1_addList cX1_addList 5 none) ({ frames := 2, cells := 0, slots := 0, locals := 46 } : Room) Γ b M [.ref (b + 109), .ref (b + a), .int (nI way)] mem (fun u => u 113 = aD Γ 16 ((adL way T U T.2.2).1) ∧ u 114 = aN Γ 16 ((adL way T U T.2.2).2) ∧ ∀ j, j ≠ 113 → j ≠ 114 → u j = mem j) none := by
  refine mm_enter (cc := cX1_addList) (by decide) (Nat.le_of_ble_eq_true rfl) ?_
  intro p e s m args below meth c ls hx hb hml hown hr hlocks hname hE hh hl
  have hl : lv_has ls 5 [(0, .ref (b + 109)), (1, .ref (b + a)), (2, .int (nI way))] := hl
  have hfr : ∀ j, j ≠ 113 → j ≠ 114 → mem j = mem j := fun j _ _ => rfl
  refine lv_iconst (v := (nI 0)) hx hb dX1_addList_0 (by decide) ?_
  refine lv_istore_n (lv' := [(3, .int (nI 0)), (0, .ref (b + 109)), (1, .ref (b + a)), (2, .int (nI way))]) hx hb dX1_addList_1 rfl hl (by decide) rfl (fun ls hl => ?_)
  have loop2 : ∀ (n9 : Nat) (i : Nat), (T.2.2 - i) < n9 → (i ≤ T.2.2) → ∀ (H : Heap) (locs : List Loc) (mem2 : Nat → va_E), mem2 113 = aD Γ 16 ((adL way T U i).1) → mem2 114 = aN Γ 16 ((adL way T U i).2) → (∀ j, j ≠ 113 → j ≠ 114 → mem2 j = mem j) → GH Γ b M mem2 s H locs → ∀ (ls : Array Slot), lv_has ls 5 [(3, .int (nI i)), (0, .ref (b + 109)), (1, .ref (b + a)), (2, .int (nI way))] → W p l e ({ frames := 2, cells := 0, slots := 0, locals := 46 } : Room) s m args below meth c H locs 0 0 (MQ below (QC Γ b M (fun u => u 113 = aD Γ 16 ((adL way T U T.2.2).1) ∧ u 114 = aN Γ 16 ((adL way T U T.2.2).2) ∧ ∀ j, j ≠ 113 → j ≠ 114 → u j = mem j) none) args s 0 0 (fun q => b ≤ q)) (F0 m 2 ls []) := by
    intro n9
    induction n9 with
    | zero => intro i hn; exact absurd hn (Nat.not_lt_zero _)
    | succ n9 ih =>
      intro i hn hi H locs mem1 f3 f4 hfr2 hh ls hl
      have f5 : mem1 109 = .inr (1, [.ref (b + 110), .ref (b + 113), .ref (b + 114)]) := (hfr2 _ (by omega) (by omega)).trans fF
      have f6 : mem1 a = .inr (4, [.ref (b + (a + 1)), .ref (b + (a + 2)), .int (nI lim), .int (nI T.2.2)]) := (hfr2 _ (by omega) (by omega)).trans fa0
      have f7 : mem1 (a + 1) = aN Γ 20 T.1 := (hfr2 _ (by omega) (by omega)).trans fa1
      have f8 : mem1 (a + 2) = aD Γ 20 T.2.1 := (hfr2 _ (by omega) (by omega)).trans fa2
      have hok := adL_ok (way := way) hU hs hz20 hT i hi
      have hd2 := hT i
      have ih9 := ih
      refine lv_iload_n hx hb dX1_addList_2 rfl (lv_at hl 0 rfl) ?_
      refine lv_aload_n hx hb dX1_addList_3 rfl (lv_at hl 2 rfl) ?_
      refine mm_V0r (As := []) (rest := [.int (nI i)]) hx hb hml hown hE hl.1 hh (kc_X1_47 hE.2.1 ⟨Nat.le_of_ble_eq_true rfl, Nat.le_of_ble_eq_true rfl⟩) (c_X4_size l Γ b M mem1 (a := a) (lim := lim) (sz := T.2.2) (by omega) f6) rfl (by omega) f6 rfl rfl (Nat.le_of_ble_eq_true rfl) dX1_addList_4 rfl rfl (fun H locs hh => ?_)
      refine nn_icmp_ge (tgt := 70) hx hb dX1_addList_7 (by decide) (by omega) (by omega) (fun h10 => ?_) (fun h10 => ?_)
      ·
        have hie : i = T.2.2 := by omega
        exact mm_vret hx hb hr hlocks hE hh (by rw [← hie]; exact ⟨f3, f4, hfr2⟩) dX1_addList_70
      ·
        refine lv_aload_n hx hb dX1_addList_10 rfl (lv_at hl 2 rfl) ?_
        refine lv_iload_n hx hb dX1_addList_11 rfl (lv_at hl 0 rfl) ?_
        refine mm_V0r (As := [.int (nI i)]) (rest := []) hx hb hml hown hE hl.1 hh (kc_X1_51 hE.2.1 ⟨Nat.le_of_ble_eq_true rfl, Nat.le_of_ble_eq_true rfl⟩) (c_X4_documentAt l Γ b M mem1 (a := a) (lim := lim) (sz := T.2.2) (i := i) (dc := T.1) (by omega) f6 f7 (by omega)) rfl (by omega) f6 rfl rfl (Nat.le_of_ble_eq_true rfl) dX1_addList_12 rfl rfl (fun H locs hh => ?_)
        refine lv_istore (lv' := [(4, .int (nI (T.1 i))), (3, .int (nI i)), (0, .ref (b + 109)), (1, .ref (b + a)), (2, .int (nI way))]) hx hb dX1_addList_15 hl (by decide) rfl (fun ls hl => ?_)
        refine lv_aload_n hx hb dX1_addList_17 rfl (lv_at hl 2 rfl) ?_
        refine gf_X1_totals hx hb hE hown hh (by omega) f5 rfl dX1_addList_18 ?_
        refine lv_iload hx hb dX1_addList_21 (lv_at hl 0 rfl) ?_
        refine lv_aload_n hx hb dX1_addList_23 rfl (lv_at hl 2 rfl) ?_
        refine gf_X1_totals hx hb hE hown hh (by omega) f5 rfl dX1_addList_24 ?_
        refine lv_iload hx hb dX1_addList_27 (lv_at hl 0 rfl) ?_
        refine mm_dald hx hb hE hh (by omega) f3 (by omega) (by decide) dX1_addList_29 ?_
        refine lv_iload_n hx hb dX1_addList_30 rfl (lv_at hl 4 rfl) ?_
        refine nn_if_ne (tgt := 46) hx hb dX1_addList_31 (by decide) (by omega) (fun h11 => ?_) (fun h11 => ?_)
        ·
          have hsh : shF way T.2.1 T.2.2 i = shA T.2.1 T.2.2 i := if_neg (by omega)
          refine lv_aload_n hx hb dX1_addList_46 rfl (lv_at hl 3 rfl) ?_
          refine lv_iload_n hx hb dX1_addList_47 rfl (lv_at hl 1 rfl) ?_
          refine mm_S0r (As := [.ref (b + a), .int (nI i)]) (rest := [.double (((adL way T U i).1) (T.1 i)), .int (nI (T.1 i)), .ref (b + 113)]) hx hb hml hown hE hl.1 hh (kc_X1_55 hE.2.1 ⟨Nat.le_of_ble_eq_true rfl, Nat.le_of_ble_eq_true rfl⟩) (c_X1_shareAt l Γ b M mem1 (a := a) (i := i) (lim := lim) (by omega) f6 f7 f8 (hs) (by omega) (by omega)) rfl rfl (Nat.le_of_ble_eq_true rfl) dX1_addList_48 rfl rfl (fun H locs hh => ?_)
          rw [← hsh]
          refine lv_dadd hx hb dX1_addList_51 (((hok.1 _ hd2).add (shF_n hs (by omega) hz20)).2) ?_
          refine mm_dast hx hb hE hh (by omega) f3 (by omega) (by decide) dX1_addList_52 (fun H locs mem12 f13 k14 hh => ?_)
          have hfr15 : ∀ j, j ≠ 113 → j ≠ 114 → mem12 j = mem j := fun j c0 c1 => (k14 j (by omega)).trans (hfr2 j c0 c1)
          have f16 : mem12 114 = aN Γ 16 ((adL way T U i).2) := (k14 _ (by omega)).trans f4
          have f17 : mem12 109 = .inr (1, [.ref (b + 110), .ref (b + 113), .ref (b + 114)]) := (k14 _ (by omega)).trans f5
          have f18 : mem12 a = .inr (4, [.ref (b + (a + 1)), .ref (b + (a + 2)), .int (nI lim), .int (nI T.2.2)]) := (k14 _ (by omega)).trans f6
          have f19 : mem12 (a + 1) = aN Γ 20 T.1 := (k14 _ (by omega)).trans f7
          have f20 : mem12 (a + 2) = aD Γ 20 T.2.1 := (k14 _ (by omega)).trans f8
          refine lv_aload_n hx hb dX1_addList_53 rfl (lv_at hl 2 rfl) ?_
          refine gf_X1_memberships hx hb hE hown hh (by omega) f17 rfl dX1_addList_54 ?_
          refine lv_iload hx hb dX1_addList_57 (lv_at hl 0 rfl) ?_
          refine lv_dup2_11 hx hb dX1_addList_59 rfl rfl ?_
          refine mm_iald hx hb hE hh (by omega) f16 (by omega) (by decide) dX1_addList_60 ?_
          refine lv_iconst (v := (nI 1)) hx hb dX1_addList_61 (by decide) ?_
          refine nn_iadd hx hb dX1_addList_62 ?_
          refine mm_iast hx hb hE hh (by omega) f16 (by omega) (by decide) dX1_addList_63 (fun H locs mem21 f22 k23 hh => ?_)
          rw [va_up_nI] at f22
          have hfr24 : ∀ j, j ≠ 113 → j ≠ 114 → mem21 j = mem j := fun j c0 c1 => (k23 j (by omega)).trans (hfr15 j c0 c1)
          have f25 : mem21 113 = aD Γ 16 (va_up ((adL way T U i).1) (T.1 i) (FP.dadd (((adL way T U i).1) (T.1 i)) (shF way T.2.1 T.2.2 i))) := (k23 _ (by omega)).trans f13
          have f26 : mem21 109 = .inr (1, [.ref (b + 110), .ref (b + 113), .ref (b + 114)]) := (k23 _ (by omega)).trans f17
          have f27 : mem21 a = .inr (4, [.ref (b + (a + 1)), .ref (b + (a + 2)), .int (nI lim), .int (nI T.2.2)]) := (k23 _ (by omega)).trans f18
          have f28 : mem21 (a + 1) = aN Γ 20 T.1 := (k23 _ (by omega)).trans f19
          have f29 : mem21 (a + 2) = aD Γ 20 T.2.1 := (k23 _ (by omega)).trans f20
          refine nn_iinc (x := i) (d := 1) (lv' := [(3, .int (nI (i + 1))), (4, .int (nI (T.1 i))), (0, .ref (b + 109)), (1, .ref (b + a)), (2, .int (nI way))]) hx hb dX1_addList_64 hl (k := 1) rfl (by decide) (by decide) rfl (fun ls hl => ?_)
          refine lv_goto (tgt := 2) hx hb dX1_addList_67 (by decide) ?_
          exact ih9 (i + 1) (by omega) (by omega) _ _ mem21 (f25) (f22) hfr24 hh ls (lv_sub hl [0, 2, 3, 4] rfl)
        ·
          have hsh : shF way T.2.1 T.2.2 i = FP.ddiv FP.dconst1 (FP.i2d (nI (60 + (i + 1)))) := if_pos h11
          refine lv_dconst1 hx hb dX1_addList_34 ?_
          refine lv_bipush (v := (nI 60)) hx hb dX1_addList_35 (by decide) ?_
          refine lv_iload_n hx hb dX1_addList_37 rfl (lv_at hl 1 rfl) ?_
          refine lv_iconst (v := (nI 1)) hx hb dX1_addList_38 (by decide) ?_
          refine nn_iadd hx hb dX1_addList_39 ?_
          refine nn_iadd hx hb dX1_addList_40 ?_
          refine lv_i2d hx hb dX1_addList_41 ?_
          refine lv_ddiv hx hb dX1_addList_42 ((sh_60 (by omega) (by omega)).2) ?_
          refine lv_goto (tgt := 51) hx hb dX1_addList_43 (by decide) ?_
          rw [← hsh]
          refine lv_dadd hx hb dX1_addList_51 (((hok.1 _ hd2).add (shF_n hs (by omega) hz20)).2) ?_
          refine mm_dast hx hb hE hh (by omega) f3 (by omega) (by decide) dX1_addList_52 (fun H locs mem30 f31 k32 hh => ?_)
          have hfr33 : ∀ j, j ≠ 113 → j ≠ 114 → mem30 j = mem j := fun j c0 c1 => (k32 j (by omega)).trans (hfr2 j c0 c1)
          have f34 : mem30 114 = aN Γ 16 ((adL way T U i).2) := (k32 _ (by omega)).trans f4
          have f35 : mem30 109 = .inr (1, [.ref (b + 110), .ref (b + 113), .ref (b + 114)]) := (k32 _ (by omega)).trans f5
          have f36 : mem30 a = .inr (4, [.ref (b + (a + 1)), .ref (b + (a + 2)), .int (nI lim), .int (nI T.2.2)]) := (k32 _ (by omega)).trans f6
          have f37 : mem30 (a + 1) = aN Γ 20 T.1 := (k32 _ (by omega)).trans f7
          have f38 : mem30 (a + 2) = aD Γ 20 T.2.1 := (k32 _ (by omega)).trans f8
          refine lv_aload_n hx hb dX1_addList_53 rfl (lv_at hl 2 rfl) ?_
          refine gf_X1_memberships hx hb hE hown hh (by omega) f35 rfl dX1_addList_54 ?_
          refine lv_iload hx hb dX1_addList_57 (lv_at hl 0 rfl) ?_
          refine lv_dup2_11 hx hb dX1_addList_59 rfl rfl ?_
          refine mm_iald hx hb hE hh (by omega) f34 (by omega) (by decide) dX1_addList_60 ?_
          refine lv_iconst (v := (nI 1)) hx hb dX1_addList_61 (by decide) ?_
          refine nn_iadd hx hb dX1_addList_62 ?_
          refine mm_iast hx hb hE hh (by omega) f34 (by omega) (by decide) dX1_addList_63 (fun H locs mem39 f40 k41 hh => ?_)
          rw [va_up_nI] at f40
          have hfr42 : ∀ j, j ≠ 113 → j ≠ 114 → mem39 j = mem j := fun j c0 c1 => (k41 j (by omega)).trans (hfr33 j c0 c1)
          have f43 : mem39 113 = aD Γ 16 (va_up ((adL way T U i).1) (T.1 i) (FP.dadd (((adL way T U i).1) (T.1 i)) (shF way T.2.1 T.2.2 i))) := (k41 _ (by omega)).trans f31
          have f44 : mem39 109 = .inr (1, [.ref (b + 110), .ref (b + 113), .ref (b + 114)]) := (k41 _ (by omega)).trans f35
          have f45 : mem39 a = .inr (4, [.ref (b + (a + 1)), .ref (b + (a + 2)), .int (nI lim), .int (nI T.2.2)]) := (k41 _ (by omega)).trans f36
          have f46 : mem39 (a + 1) = aN Γ 20 T.1 := (k41 _ (by omega)).trans f37
          have f47 : mem39 (a + 2) = aD Γ 20 T.2.1 := (k41 _ (by omega)).trans f38
          refine nn_iinc (x := i) (d := 1) (lv' := [(3, .int (nI (i + 1))), (4, .int (nI (T.1 i))), (0, .ref (b + 109)), (1, .ref (b + a)), (2, .int (nI way))]) hx hb dX1_addList_64 hl (k := 1) rfl (by decide) (by decide) rfl (fun ls hl => ?_)
          refine lv_goto (tgt := 2) hx hb dX1_addList_67 (by decide) ?_
          exact ih9 (i + 1) (by omega) (by omega) _ _ mem39 (f43) (f40) hfr42 hh ls (lv_sub hl [0, 2, 3, 4] rfl)
  exact loop2 ((T.2.2 - 0) + 1) 0 (by omega) (by omega) _ _ mem (fU1) (fU2) hfr hh ls (lv_sub hl [0, 1, 2, 3] rfl)
set_option maxHeartbeats 4000000 in
set_option maxRecDepth 100000 in
/-- Fusion.make -/
theorem c_X1_make (l : Launch) (Γ : Gm) (b M : Nat) (mem : Nat → va_E) {way lim sz : Nat} {to : Nat → UInt64} {mb fdc : Nat → Nat} {fsc : Nat → UInt64} {lst : Nat → Bool × Nat × Nat × Nat} {lrk : Nat → Nat × Nat} {ldc : Nat → Nat → Nat} {lsc : Nat → Nat → UInt64} (hM : 138 ≤ M) (fF : mem 109 = .inr (1, [.ref (b + 110), .ref (b + 113), .ref (b + 114)])) (fF1 : mem 113 = aD Γ 16 to) (fF2 : mem 114 = aN Γ 16 mb) (fR0 : mem 110 = .inr (4, [.ref (b + 111), .ref (b + 112), .int (nI lim), .int (nI sz)])) (fR1 : mem 111 = aN Γ 20 fdc) (fR2 : mem 112 = aD Γ 20 fsc) (fLo : mem 96 = aR Γ 5 3 (fun i => some (b + (97 + 4 * i)))) (fls : ∀ z9, z9 < 3 → mem (97 + 4 * z9) = .inr (2, [.ref (b + (97 + 4 * z9 + 1)), .int (bI ((lst z9).1)), .int (nI ((lst z9).2.1)), .int (nI ((lst z9).2.2.1)), .int (nI ((lst z9).2.2.2))])) (flr : ∀ z9, z9 < 3 → mem (97 + 4 * z9 + 1) = .inr (4, [.ref (b + (97 + 4 * z9 + 2)), .ref (b + (97 + 4 * z9 + 3)), .int (nI ((lrk z9).1)), .int (nI ((lrk z9).2))])) (fld : ∀ z9, z9 < 3 → mem (97 + 4 * z9 + 2) = aN Γ 20 (ldc z9)) (flc : ∀ z9, z9 < 3 → mem (97 + 4 * z9 + 3) = aD Γ 20 (lsc z9)) (hw : way < 3) (hls : lsOK (lmd lst) (lsT ldc lsc lrk)) (hfd : ∀ j, fdc j < 16) : Ct l yX1_make (.code yX1_make cX1_make 4 (some .int)) ({ frames := 3, cells := 0, slots := 0, locals := 70 } : Room) Γ b M [.ref (b + 109), .ref (b + 96), .int (nI way)] mem (fun u => u 110 = .inr (4, [.ref (b + 111), .ref (b + 112), .int (nI 16), .int (nI ((fuR way (fuV way (lmd lst) (lsT ldc lsc lrk) (fu0 to mb) 3) (fdc, fsc, 0) 16).2.2))]) ∧ u 111 = aN Γ 20 ((fuR way (fuV way (lmd lst) (lsT ldc lsc lrk) (fu0 to mb) 3) (fdc, fsc, 0) 16).1) ∧ u 112 = aD Γ 20 ((fuR way (fuV way (lmd lst) (lsT ldc lsc lrk) (fu0 to mb) 3) (fdc, fsc, 0) 16).2.1) ∧ u 113 = aD Γ 16 ((fuV way (lmd lst) (lsT ldc lsc lrk) (fu0 to mb) 3).1) ∧ u 114 = aN Γ 16 ((fuV way (lmd lst) (lsT ldc lsc lrk) (fu0 to mb) 3).2) ∧ ∀ j, j ≠ 110 → j ≠ 111 → j ≠ 112 → j ≠ 113 → j ≠ 114 → u j = mem j) (some (.int (nI ((fuR way (fuV way (lmd lst) (lsT ldc lsc lrk) (fu0 to mb) 3) (fdc, fsc, 0) 16).2.2)))) := by
  refine mm_enter (cc := cX1_make) (by decide) (Nat.le_of_ble_eq_true rfl) ?_
  intro p e s m args below meth c ls hx hb hml hown hr hlocks hname hE hh hl
  have hl : lv_has ls 4 [(0, .ref (b + 109)), (1, .ref (b + 96)), (2, .int (nI way))] := hl
  have hfr : ∀ j, j ≠ 110 → j ≠ 111 → j ≠ 112 → j ≠ 113 → j ≠ 114 → mem j = mem j := fun j _ _ _ _ _ => rfl
  refine lv_iconst (v := (nI 0)) hx hb dX1_make_0 (by decide) ?_
  refine lv_istore_n (lv' := [(3, .int (nI 0)), (0, .ref (b + 109)), (1, .ref (b + 96)), (2, .int (nI way))]) hx hb dX1_make_1 rfl hl (by decide) rfl (fun ls hl => ?_)
  have loop2 : ∀ (n9 : Nat) (d : Nat), (16 - d) < n9 → (d ≤ 16) → ∀ (H : Heap) (locs : List Loc) (mem2 : Nat → va_E), mem2 113 = aD Γ 16 (fiR to (fun _ => FP.dconst0) d) → mem2 114 = aN Γ 16 (zrN mb d) → mem2 110 = .inr (4, [.ref (b + 111), .ref (b + 112), .int (nI lim), .int (nI sz)]) → mem2 111 = aN Γ 20 fdc → mem2 112 = aD Γ 20 fsc → (∀ j, j ≠ 110 → j ≠ 111 → j ≠ 112 → j ≠ 113 → j ≠ 114 → mem2 j = mem j) → GH Γ b M mem2 s H locs → ∀ (ls : Array Slot), lv_has ls 4 [(3, .int (nI d)), (0, .ref (b + 109)), (1, .ref (b + 96)), (2, .int (nI way))] → W p l e ({ frames := 3, cells := 0, slots := 0, locals := 70 } : Room) s m args below meth c H locs 0 0 (MQ below (QC Γ b M (fun u => u 110 = .inr (4, [.ref (b + 111), .ref (b + 112), .int (nI 16), .int (nI ((fuR way (fuV way (lmd lst) (lsT ldc lsc lrk) (fu0 to mb) 3) (fdc, fsc, 0) 16).2.2))]) ∧ u 111 = aN Γ 20 ((fuR way (fuV way (lmd lst) (lsT ldc lsc lrk) (fu0 to mb) 3) (fdc, fsc, 0) 16).1) ∧ u 112 = aD Γ 20 ((fuR way (fuV way (lmd lst) (lsT ldc lsc lrk) (fu0 to mb) 3) (fdc, fsc, 0) 16).2.1) ∧ u 113 = aD Γ 16 ((fuV way (lmd lst) (lsT ldc lsc lrk) (fu0 to mb) 3).1) ∧ u 114 = aN Γ 16 ((fuV way (lmd lst) (lsT ldc lsc lrk) (fu0 to mb) 3).2) ∧ ∀ j, j ≠ 110 → j ≠ 111 → j ≠ 112 → j ≠ 113 → j ≠ 114 → u j = mem j) (some (.int (nI ((fuR way (fuV way (lmd lst) (lsT ldc lsc lrk) (fu0 to mb) 3) (fdc, fsc, 0) 16).2.2))))) args s 0 0 (fun q => b ≤ q)) (F0 m 2 ls []) := by
    intro n9
    induction n9 with
    | zero => intro d hn; exact absurd hn (Nat.not_lt_zero _)
    | succ n9 ih =>
      intro d hn hd H locs mem1 f3 f4 f5 f6 f7 hfr2 hh ls hl
      have f8 : mem1 109 = .inr (1, [.ref (b + 110), .ref (b + 113), .ref (b + 114)]) := (hfr2 _ (by omega) (by omega) (by omega) (by omega) (by omega)).trans fF
      have f9 : mem1 96 = aR Γ 5 3 (fun i => some (b + (97 + 4 * i))) := (hfr2 _ (by omega) (by omega) (by omega) (by omega) (by omega)).trans fLo
      have f10 : ∀ z9, z9 < 3 → mem1 (97 + 4 * z9) = .inr (2, [.ref (b + (97 + 4 * z9 + 1)), .int (bI ((lst z9).1)), .int (nI ((lst z9).2.1)), .int (nI ((lst z9).2.2.1)), .int (nI ((lst z9).2.2.2))]) := fun z9 hz9 => (hfr2 _ (by omega) (by omega) (by omega) (by omega) (by omega)).trans (fls z9 hz9)
      have f11 : ∀ z9, z9 < 3 → mem1 (97 + 4 * z9 + 1) = .inr (4, [.ref (b + (97 + 4 * z9 + 2)), .ref (b + (97 + 4 * z9 + 3)), .int (nI ((lrk z9).1)), .int (nI ((lrk z9).2))]) := fun z9 hz9 => (hfr2 _ (by omega) (by omega) (by omega) (by omega) (by omega)).trans (flr z9 hz9)
      have f12 : ∀ z9, z9 < 3 → mem1 (97 + 4 * z9 + 2) = aN Γ 20 (ldc z9) := fun z9 hz9 => (hfr2 _ (by omega) (by omega) (by omega) (by omega) (by omega)).trans (fld z9 hz9)
      have f13 : ∀ z9, z9 < 3 → mem1 (97 + 4 * z9 + 3) = aD Γ 20 (lsc z9) := fun z9 hz9 => (hfr2 _ (by omega) (by omega) (by omega) (by omega) (by omega)).trans (flc z9 hz9)
      have ih14 := ih
      refine lv_iload_n hx hb dX1_make_2 rfl (lv_at hl 0 rfl) ?_
      refine lv_bipush (v := (nI 16)) hx hb dX1_make_3 (by decide) ?_
      refine nn_icmp_ge (tgt := 28) hx hb dX1_make_5 (by decide) (by omega) (by omega) (fun h15 => ?_) (fun h15 => ?_)
      ·
        obtain rfl : d = 16 := by omega
        refine lv_iconst (v := (nI 0)) hx hb dX1_make_28 (by decide) ?_
        refine lv_istore_n (lv' := [(3, .int (nI 0)), (0, .ref (b + 109)), (1, .ref (b + 96)), (2, .int (nI way))]) hx hb dX1_make_29 rfl hl (by decide) rfl (fun ls hl => ?_)
        have loop30 : ∀ (n9 : Nat) (v : Nat), (3 - v) < n9 → (v ≤ 3) → ∀ (H : Heap) (locs : List Loc) (mem2 : Nat → va_E), mem2 113 = aD Γ 16 ((fuV way (lmd lst) (lsT ldc lsc lrk) (fu0 to mb) v).1) → mem2 114 = aN Γ 16 ((fuV way (lmd lst) (lsT ldc lsc lrk) (fu0 to mb) v).2) → mem2 110 = .inr (4, [.ref (b + 111), .ref (b + 112), .int (nI lim), .int (nI sz)]) → mem2 111 = aN Γ 20 fdc → mem2 112 = aD Γ 20 fsc → (∀ j, j ≠ 110 → j ≠ 111 → j ≠ 112 → j ≠ 113 → j ≠ 114 → mem2 j = mem j) → GH Γ b M mem2 s H locs → ∀ (ls : Array Slot), lv_has ls 4 [(3, .int (nI v)), (0, .ref (b + 109)), (1, .ref (b + 96)), (2, .int (nI way))] → W p l e ({ frames := 3, cells := 0, slots := 0, locals := 70 } : Room) s m args below meth c H locs 0 0 (MQ below (QC Γ b M (fun u => u 110 = .inr (4, [.ref (b + 111), .ref (b + 112), .int (nI 16), .int (nI ((fuR way (fuV way (lmd lst) (lsT ldc lsc lrk) (fu0 to mb) 3) (fdc, fsc, 0) 16).2.2))]) ∧ u 111 = aN Γ 20 ((fuR way (fuV way (lmd lst) (lsT ldc lsc lrk) (fu0 to mb) 3) (fdc, fsc, 0) 16).1) ∧ u 112 = aD Γ 20 ((fuR way (fuV way (lmd lst) (lsT ldc lsc lrk) (fu0 to mb) 3) (fdc, fsc, 0) 16).2.1) ∧ u 113 = aD Γ 16 ((fuV way (lmd lst) (lsT ldc lsc lrk) (fu0 to mb) 3).1) ∧ u 114 = aN Γ 16 ((fuV way (lmd lst) (lsT ldc lsc lrk) (fu0 to mb) 3).2) ∧ ∀ j, j ≠ 110 → j ≠ 111 → j ≠ 112 → j ≠ 113 → j ≠ 114 → u j = mem j) (some (.int (nI ((fuR way (fuV way (lmd lst) (lsT ldc lsc lrk) (fu0 to mb) 3) (fdc, fsc, 0) 16).2.2))))) args s 0 0 (fun q => b ≤ q)) (F0 m 30 ls []) := by
          intro n9
          induction n9 with
          | zero => intro v hn; exact absurd hn (Nat.not_lt_zero _)
          | succ n9 ih =>
            intro v hn hv H locs mem16 f18 f19 f20 f21 f22 hfr17 hh ls hl
            have f23 : mem16 109 = .inr (1, [.ref (b + 110), .ref (b + 113), .ref (b + 114)]) := (hfr17 _ (by omega) (by omega) (by omega) (by omega) (by omega)).trans fF
            have f24 : mem16 96 = aR Γ 5 3 (fun i => some (b + (97 + 4 * i))) := (hfr17 _ (by omega) (by omega) (by omega) (by omega) (by omega)).trans fLo
            have f25 : ∀ z9, z9 < 3 → mem16 (97 + 4 * z9) = .inr (2, [.ref (b + (97 + 4 * z9 + 1)), .int (bI ((lst z9).1)), .int (nI ((lst z9).2.1)), .int (nI ((lst z9).2.2.1)), .int (nI ((lst z9).2.2.2))]) := fun z9 hz9 => (hfr17 _ (by omega) (by omega) (by omega) (by omega) (by omega)).trans (fls z9 hz9)
            have f26 : ∀ z9, z9 < 3 → mem16 (97 + 4 * z9 + 1) = .inr (4, [.ref (b + (97 + 4 * z9 + 2)), .ref (b + (97 + 4 * z9 + 3)), .int (nI ((lrk z9).1)), .int (nI ((lrk z9).2))]) := fun z9 hz9 => (hfr17 _ (by omega) (by omega) (by omega) (by omega) (by omega)).trans (flr z9 hz9)
            have f27 : ∀ z9, z9 < 3 → mem16 (97 + 4 * z9 + 2) = aN Γ 20 (ldc z9) := fun z9 hz9 => (hfr17 _ (by omega) (by omega) (by omega) (by omega) (by omega)).trans (fld z9 hz9)
            have f28 : ∀ z9, z9 < 3 → mem16 (97 + 4 * z9 + 3) = aD Γ 20 (lsc z9) := fun z9 hz9 => (hfr17 _ (by omega) (by omega) (by omega) (by omega) (by omega)).trans (flc z9 hz9)
            have hvo := fuV_ok (way := way) hls (fu0_ok to mb) v hv
            have ih29 := ih
            refine lv_iload_n hx hb dX1_make_30 rfl (lv_at hl 0 rfl) ?_
            refine lv_aload_n hx hb dX1_make_31 rfl (lv_at hl 2 rfl) ?_
            refine mm_alen hx hb hE hh 5 (by omega) f24 rfl dX1_make_32 ?_
            refine nn_icmp_ge (tgt := 62) hx hb dX1_make_33 (by decide) (by omega) (by omega) (fun h30 => ?_) (fun h30 => ?_)
            ·
              obtain rfl : v = 3 := by omega
              refine lv_aload_n hx hb dX1_make_62 rfl (lv_at hl 1 rfl) ?_
              refine gf_X1_ranking hx hb hE hown hh (by omega) f23 rfl dX1_make_63 ?_
              refine lv_bipush (v := (nI 16)) hx hb dX1_make_66 (by decide) ?_
              refine mm_V0 (As := [.int (nI 16)]) (rest := []) hx hb hml hown hE hl.1 hh (kc_X1_26 hE.2.1 ⟨Nat.le_of_ble_eq_true rfl, Nat.le_of_ble_eq_true rfl⟩) (c_X4_start l Γ b M mem16 (a := 110) (lim := lim) (sz := sz) (k := 16) (by omega) f20 (by omega)) rfl (by omega) f20 rfl rfl (Nat.le_of_ble_eq_true rfl) dX1_make_68 rfl rfl (fun H locs mem31 hP32 hh => ?_)
              obtain ⟨f33, k34⟩ := hP32
              have hfr35 : ∀ j, j ≠ 110 → j ≠ 111 → j ≠ 112 → j ≠ 113 → j ≠ 114 → mem31 j = mem j := fun j c0 c1 c2 c3 c4 => (k34 j (by omega)).trans (hfr17 j c0 c1 c2 c3 c4)
              have f36 : mem31 113 = aD Γ 16 ((fuV way (lmd lst) (lsT ldc lsc lrk) (fu0 to mb) 3).1) := (k34 _ (by omega)).trans f18
              have f37 : mem31 114 = aN Γ 16 ((fuV way (lmd lst) (lsT ldc lsc lrk) (fu0 to mb) 3).2) := (k34 _ (by omega)).trans f19
              have f38 : mem31 111 = aN Γ 20 fdc := (k34 _ (by omega)).trans f21
              have f39 : mem31 112 = aD Γ 20 fsc := (k34 _ (by omega)).trans f22
              have f40 : mem31 109 = .inr (1, [.ref (b + 110), .ref (b + 113), .ref (b + 114)]) := (k34 _ (by omega)).trans f23
              have f41 : mem31 96 = aR Γ 5 3 (fun i => some (b + (97 + 4 * i))) := (k34 _ (by omega)).trans f24
              have f42 : ∀ z9, z9 < 3 → mem31 (97 + 4 * z9) = .inr (2, [.ref (b + (97 + 4 * z9 + 1)), .int (bI ((lst z9).1)), .int (nI ((lst z9).2.1)), .int (nI ((lst z9).2.2.1)), .int (nI ((lst z9).2.2.2))]) := fun z9 hz9 => (k34 _ (by omega)).trans (f25 z9 hz9)
              have f43 : ∀ z9, z9 < 3 → mem31 (97 + 4 * z9 + 1) = .inr (4, [.ref (b + (97 + 4 * z9 + 2)), .ref (b + (97 + 4 * z9 + 3)), .int (nI ((lrk z9).1)), .int (nI ((lrk z9).2))]) := fun z9 hz9 => (k34 _ (by omega)).trans (f26 z9 hz9)
              have f44 : ∀ z9, z9 < 3 → mem31 (97 + 4 * z9 + 2) = aN Γ 20 (ldc z9) := fun z9 hz9 => (k34 _ (by omega)).trans (f27 z9 hz9)
              have f45 : ∀ z9, z9 < 3 → mem31 (97 + 4 * z9 + 3) = aD Γ 20 (lsc z9) := fun z9 hz9 => (k34 _ (by omega)).trans (f28 z9 hz9)
              refine lv_iconst (v := (nI 0)) hx hb dX1_make_71 (by decide) ?_
              refine lv_istore_n (lv' := [(3, .int (nI 0)), (0, .ref (b + 109)), (1, .ref (b + 96)), (2, .int (nI way))]) hx hb dX1_make_72 rfl hl (by decide) rfl (fun ls hl => ?_)
              have loop73 : ∀ (n9 : Nat) (d : Nat), (16 - d) < n9 → (d ≤ 16) → ∀ (H : Heap) (locs : List Loc) (mem2 : Nat → va_E), mem2 110 = .inr (4, [.ref (b + 111), .ref (b + 112), .int (nI 16), .int (nI ((fuR way (fuV way (lmd lst) (lsT ldc lsc lrk) (fu0 to mb) 3) (fdc, fsc, 0) d).2.2))]) → mem2 111 = aN Γ 20 ((fuR way (fuV way (lmd lst) (lsT ldc lsc lrk) (fu0 to mb) 3) (fdc, fsc, 0) d).1) → mem2 112 = aD Γ 20 ((fuR way (fuV way (lmd lst) (lsT ldc lsc lrk) (fu0 to mb) 3) (fdc, fsc, 0) d).2.1) → mem2 113 = aD Γ 16 ((fuV way (lmd lst) (lsT ldc lsc lrk) (fu0 to mb) 3).1) → mem2 114 = aN Γ 16 ((fuV way (lmd lst) (lsT ldc lsc lrk) (fu0 to mb) 3).2) → (∀ j, j ≠ 110 → j ≠ 111 → j ≠ 112 → j ≠ 113 → j ≠ 114 → mem2 j = mem j) → GH Γ b M mem2 s H locs → ∀ (ls : Array Slot), lv_has ls 4 [(3, .int (nI d)), (0, .ref (b + 109)), (1, .ref (b + 96)), (2, .int (nI way))] → W p l e ({ frames := 3, cells := 0, slots := 0, locals := 70 } : Room) s m args below meth c H locs 0 0 (MQ below (QC Γ b M (fun u => u 110 = .inr (4, [.ref (b + 111), .ref (b + 112), .int (nI 16), .int (nI ((fuR way (fuV way (lmd lst) (lsT ldc lsc lrk) (fu0 to mb) 3) (fdc, fsc, 0) 16).2.2))]) ∧ u 111 = aN Γ 20 ((fuR way (fuV way (lmd lst) (lsT ldc lsc lrk) (fu0 to mb) 3) (fdc, fsc, 0) 16).1) ∧ u 112 = aD Γ 20 ((fuR way (fuV way (lmd lst) (lsT ldc lsc lrk) (fu0 to mb) 3) (fdc, fsc, 0) 16).2.1) ∧ u 113 = aD Γ 16 ((fuV way (lmd lst) (lsT ldc lsc lrk) (fu0 to mb) 3).1) ∧ u 114 = aN Γ 16 ((fuV way (lmd lst) (lsT ldc lsc lrk) (fu0 to mb) 3).2) ∧ ∀ j, j ≠ 110 → j ≠ 111 → j ≠ 112 → j ≠ 113 → j ≠ 114 → u j = mem j) (some (.int (nI ((fuR way (fuV way (lmd lst) (lsT ldc lsc lrk) (fu0 to mb) 3) (fdc, fsc, 0) 16).2.2))))) args s 0 0 (fun q => b ≤ q)) (F0 m 73 ls []) := by
                intro n9
                induction n9 with
                | zero => intro d hn; exact absurd hn (Nat.not_lt_zero _)
                | succ n9 ih =>
                  intro d hn hd H locs mem46 f48 f49 f50 f51 f52 hfr47 hh ls hl
                  have f53 : mem46 109 = .inr (1, [.ref (b + 110), .ref (b + 113), .ref (b + 114)]) := (hfr47 _ (by omega) (by omega) (by omega) (by omega) (by omega)).trans fF
                  have f54 : mem46 96 = aR Γ 5 3 (fun i => some (b + (97 + 4 * i))) := (hfr47 _ (by omega) (by omega) (by omega) (by omega) (by omega)).trans fLo
                  have f55 : ∀ z9, z9 < 3 → mem46 (97 + 4 * z9) = .inr (2, [.ref (b + (97 + 4 * z9 + 1)), .int (bI ((lst z9).1)), .int (nI ((lst z9).2.1)), .int (nI ((lst z9).2.2.1)), .int (nI ((lst z9).2.2.2))]) := fun z9 hz9 => (hfr47 _ (by omega) (by omega) (by omega) (by omega) (by omega)).trans (fls z9 hz9)
                  have f56 : ∀ z9, z9 < 3 → mem46 (97 + 4 * z9 + 1) = .inr (4, [.ref (b + (97 + 4 * z9 + 2)), .ref (b + (97 + 4 * z9 + 3)), .int (nI ((lrk z9).1)), .int (nI ((lrk z9).2))]) := fun z9 hz9 => (hfr47 _ (by omega) (by omega) (by omega) (by omega) (by omega)).trans (flr z9 hz9)
                  have f57 : ∀ z9, z9 < 3 → mem46 (97 + 4 * z9 + 2) = aN Γ 20 (ldc z9) := fun z9 hz9 => (hfr47 _ (by omega) (by omega) (by omega) (by omega) (by omega)).trans (fld z9 hz9)
                  have f58 : ∀ z9, z9 < 3 → mem46 (97 + 4 * z9 + 3) = aD Γ 20 (lsc z9) := fun z9 hz9 => (hfr47 _ (by omega) (by omega) (by omega) (by omega) (by omega)).trans (flc z9 hz9)
                  have hvo := fuV_ok (way := way) hls (fu0_ok to mb) 3 (Nat.le_refl 3)
                  have hro := fuR_ok (way := way) (U := (fuV way (lmd lst) (lsT ldc lsc lrk) (fu0 to mb) 3)) (T := (fdc, fsc, 0)) ⟨hfd, Nat.zero_le _⟩ d hd
                  have hro2 := hro.2
                  have ih59 := ih
                  refine lv_iload_n hx hb dX1_make_73 rfl (lv_at hl 0 rfl) ?_
                  refine lv_bipush (v := (nI 16)) hx hb dX1_make_74 (by decide) ?_
                  refine nn_icmp_ge (tgt := 130) hx hb dX1_make_76 (by decide) (by omega) (by omega) (fun h60 => ?_) (fun h60 => ?_)
                  ·
                    obtain rfl : d = 16 := by omega
                    refine lv_aload_n hx hb dX1_make_130 rfl (lv_at hl 1 rfl) ?_
                    refine gf_X1_ranking hx hb hE hown hh (by omega) f53 rfl dX1_make_131 ?_
                    refine mm_V0r (As := []) (rest := []) hx hb hml hown hE hl.1 hh (kc_X1_47 hE.2.1 ⟨Nat.le_of_ble_eq_true rfl, Nat.le_of_ble_eq_true rfl⟩) (c_X4_size l Γ b M mem46 (a := 110) (lim := 16) (sz := (fuR way (fuV way (lmd lst) (lsT ldc lsc lrk) (fu0 to mb) 3) (fdc, fsc, 0) 16).2.2) (by omega) f48) rfl (by omega) f48 rfl rfl (Nat.le_of_ble_eq_true rfl) dX1_make_134 rfl rfl (fun H locs hh => ?_)
                    exact mm_iret hx hb hr hlocks hE hh (rfl) (⟨f48, f49, f50, f51, f52, hfr47⟩) dX1_make_137
                  ·
                    have hmd : (fuV way (lmd lst) (lsT ldc lsc lrk) (fu0 to mb) 3).2 d ≤ 60 := hvo.2 d (by omega)
                    refine lv_aload_n hx hb dX1_make_79 rfl (lv_at hl 1 rfl) ?_
                    refine gf_X1_memberships hx hb hE hown hh (by omega) f53 rfl dX1_make_80 ?_
                    refine lv_iload_n hx hb dX1_make_83 rfl (lv_at hl 0 rfl) ?_
                    refine mm_iald hx hb hE hh (by omega) f52 (by omega) (by decide) dX1_make_84 ?_
                    refine nn_if_le (tgt := 124) hx hb dX1_make_85 (by decide) (by omega) (fun h61 => ?_) (fun h61 => ?_)
                    ·
                      have hn1 : fuR way (fuV way (lmd lst) (lsT ldc lsc lrk) (fu0 to mb) 3) (fdc, fsc, 0) (d + 1) = (fuR way (fuV way (lmd lst) (lsT ldc lsc lrk) (fu0 to mb) 3) (fdc, fsc, 0) d) := if_neg (by omega)
                      refine nn_iinc (x := d) (d := 1) (lv' := [(3, .int (nI (d + 1))), (0, .ref (b + 109)), (1, .ref (b + 96)), (2, .int (nI way))]) hx hb dX1_make_124 hl (k := 0) rfl (by decide) (by decide) rfl (fun ls hl => ?_)
                      refine lv_goto (tgt := 73) hx hb dX1_make_127 (by decide) ?_
                      exact ih59 (d + 1) (by omega) (by omega) _ _ mem46 (by rw [hn1]; exact f48) (by rw [hn1]; exact f49) (by rw [hn1]; exact f50) (f51) (f52) hfr47 hh ls (lv_sub hl [0, 1, 2, 3] rfl)
                    ·
                      have hn1 : fuR way (fuV way (lmd lst) (lsT ldc lsc lrk) (fu0 to mb) 3) (fdc, fsc, 0) (d + 1) = st1 16 d (vwF way (fuV way (lmd lst) (lsT ldc lsc lrk) (fu0 to mb) 3) d) (fuR way (fuV way (lmd lst) (lsT ldc lsc lrk) (fu0 to mb) 3) (fdc, fsc, 0) d) := if_pos h61
                      refine lv_aload_n hx hb dX1_make_88 rfl (lv_at hl 1 rfl) ?_
                      refine gf_X1_ranking hx hb hE hown hh (by omega) f53 rfl dX1_make_89 ?_
                      refine lv_iload_n hx hb dX1_make_92 rfl (lv_at hl 0 rfl) ?_
                      refine lv_iload_n hx hb dX1_make_93 rfl (lv_at hl 3 rfl) ?_
                      refine lv_iconst (v := (nI 2)) hx hb dX1_make_94 (by decide) ?_
                      refine nn_icmp_ne (tgt := 115) hx hb dX1_make_95 (by decide) (by omega) (by omega) (fun h62 => ?_) (fun h62 => ?_)
                      ·
                        have hvw : vwF way (fuV way (lmd lst) (lsT ldc lsc lrk) (fu0 to mb) 3) d = (fuV way (lmd lst) (lsT ldc lsc lrk) (fu0 to mb) 3).1 d := if_neg (by omega)
                        refine lv_aload_n hx hb dX1_make_115 rfl (lv_at hl 1 rfl) ?_
                        refine gf_X1_totals hx hb hE hown hh (by omega) f53 rfl dX1_make_116 ?_
                        refine lv_iload_n hx hb dX1_make_119 rfl (lv_at hl 0 rfl) ?_
                        refine mm_dald hx hb hE hh (by omega) f51 (by omega) (by decide) dX1_make_120 ?_
                        rw [← hvw]
                        refine mm_V0 (As := [.int (nI d), .double (vwF way (fuV way (lmd lst) (lsT ldc lsc lrk) (fu0 to mb) 3) d)]) (rest := []) hx hb hml hown hE hl.1 hh (kc_X1_43 hE.2.1 ⟨Nat.le_of_ble_eq_true rfl, Nat.le_of_ble_eq_true rfl⟩) (c_X4_offer l Γ b M mem46 (a := 110) (lim := 16) (sz := (fuR way (fuV way (lmd lst) (lsT ldc lsc lrk) (fu0 to mb) 3) (fdc, fsc, 0) d).2.2) (d := d) (x := vwF way (fuV way (lmd lst) (lsT ldc lsc lrk) (fu0 to mb) 3) d) (dc := (fuR way (fuV way (lmd lst) (lsT ldc lsc lrk) (fu0 to mb) 3) (fdc, fsc, 0) d).1) (sc := (fuR way (fuV way (lmd lst) (lsT ldc lsc lrk) (fu0 to mb) 3) (fdc, fsc, 0) d).2.1) (by omega) f48 f49 f50 (by omega) (by omega) (by omega) (hro.1)) rfl (by omega) f48 rfl rfl (Nat.le_of_ble_eq_true rfl) dX1_make_121 rfl rfl (fun H locs mem63 hP64 hh => ?_)
                        obtain ⟨f65, f66, f67, k68⟩ := hP64
                        have hfr69 : ∀ j, j ≠ 110 → j ≠ 111 → j ≠ 112 → j ≠ 113 → j ≠ 114 → mem63 j = mem j := fun j c0 c1 c2 c3 c4 => (k68 j (by omega) (by omega) (by omega)).trans (hfr47 j c0 c1 c2 c3 c4)
                        have f70 : mem63 113 = aD Γ 16 ((fuV way (lmd lst) (lsT ldc lsc lrk) (fu0 to mb) 3).1) := (k68 _ (by omega) (by omega) (by omega)).trans f51
                        have f71 : mem63 114 = aN Γ 16 ((fuV way (lmd lst) (lsT ldc lsc lrk) (fu0 to mb) 3).2) := (k68 _ (by omega) (by omega) (by omega)).trans f52
                        have f72 : mem63 109 = .inr (1, [.ref (b + 110), .ref (b + 113), .ref (b + 114)]) := (k68 _ (by omega) (by omega) (by omega)).trans f53
                        have f73 : mem63 96 = aR Γ 5 3 (fun i => some (b + (97 + 4 * i))) := (k68 _ (by omega) (by omega) (by omega)).trans f54
                        have f74 : ∀ z9, z9 < 3 → mem63 (97 + 4 * z9) = .inr (2, [.ref (b + (97 + 4 * z9 + 1)), .int (bI ((lst z9).1)), .int (nI ((lst z9).2.1)), .int (nI ((lst z9).2.2.1)), .int (nI ((lst z9).2.2.2))]) := fun z9 hz9 => (k68 _ (by omega) (by omega) (by omega)).trans (f55 z9 hz9)
                        have f75 : ∀ z9, z9 < 3 → mem63 (97 + 4 * z9 + 1) = .inr (4, [.ref (b + (97 + 4 * z9 + 2)), .ref (b + (97 + 4 * z9 + 3)), .int (nI ((lrk z9).1)), .int (nI ((lrk z9).2))]) := fun z9 hz9 => (k68 _ (by omega) (by omega) (by omega)).trans (f56 z9 hz9)
                        have f76 : ∀ z9, z9 < 3 → mem63 (97 + 4 * z9 + 2) = aN Γ 20 (ldc z9) := fun z9 hz9 => (k68 _ (by omega) (by omega) (by omega)).trans (f57 z9 hz9)
                        have f77 : ∀ z9, z9 < 3 → mem63 (97 + 4 * z9 + 3) = aD Γ 20 (lsc z9) := fun z9 hz9 => (k68 _ (by omega) (by omega) (by omega)).trans (f58 z9 hz9)
                        refine nn_iinc (x := d) (d := 1) (lv' := [(3, .int (nI (d + 1))), (0, .ref (b + 109)), (1, .ref (b + 96)), (2, .int (nI way))]) hx hb dX1_make_124 hl (k := 0) rfl (by decide) (by decide) rfl (fun ls hl => ?_)
                        refine lv_goto (tgt := 73) hx hb dX1_make_127 (by decide) ?_
                        exact ih59 (d + 1) (by omega) (by omega) _ _ mem63 (by rw [hn1]; exact f65) (by rw [hn1]; exact f66) (by rw [hn1]; exact f67) (f70) (f71) hfr69 hh ls (lv_sub hl [0, 1, 2, 3] rfl)
                      ·
                        have hvw : vwF way (fuV way (lmd lst) (lsT ldc lsc lrk) (fu0 to mb) 3) d = FP.dmul ((fuV way (lmd lst) (lsT ldc lsc lrk) (fu0 to mb) 3).1 d) (FP.i2d (nI ((fuV way (lmd lst) (lsT ldc lsc lrk) (fu0 to mb) 3).2 d))) := if_pos (by omega)
                        refine lv_aload_n hx hb dX1_make_98 rfl (lv_at hl 1 rfl) ?_
                        refine gf_X1_totals hx hb hE hown hh (by omega) f53 rfl dX1_make_99 ?_
                        refine lv_iload_n hx hb dX1_make_102 rfl (lv_at hl 0 rfl) ?_
                        refine mm_dald hx hb hE hh (by omega) f51 (by omega) (by decide) dX1_make_103 ?_
                        refine lv_aload_n hx hb dX1_make_104 rfl (lv_at hl 1 rfl) ?_
                        refine gf_X1_memberships hx hb hE hown hh (by omega) f53 rfl dX1_make_105 ?_
                        refine lv_iload_n hx hb dX1_make_108 rfl (lv_at hl 0 rfl) ?_
                        refine mm_iald hx hb hE hh (by omega) f52 (by omega) (by decide) dX1_make_109 ?_
                        refine lv_i2d hx hb dX1_make_110 ?_
                        refine lv_dmul hx hb dX1_make_111 (((hvo.1 d (by omega)).mulI (by omega) (by omega)).2) ?_
                        refine lv_goto (tgt := 121) hx hb dX1_make_112 (by decide) ?_
                        rw [← hvw]
                        refine mm_V0 (As := [.int (nI d), .double (vwF way (fuV way (lmd lst) (lsT ldc lsc lrk) (fu0 to mb) 3) d)]) (rest := []) hx hb hml hown hE hl.1 hh (kc_X1_43 hE.2.1 ⟨Nat.le_of_ble_eq_true rfl, Nat.le_of_ble_eq_true rfl⟩) (c_X4_offer l Γ b M mem46 (a := 110) (lim := 16) (sz := (fuR way (fuV way (lmd lst) (lsT ldc lsc lrk) (fu0 to mb) 3) (fdc, fsc, 0) d).2.2) (d := d) (x := vwF way (fuV way (lmd lst) (lsT ldc lsc lrk) (fu0 to mb) 3) d) (dc := (fuR way (fuV way (lmd lst) (lsT ldc lsc lrk) (fu0 to mb) 3) (fdc, fsc, 0) d).1) (sc := (fuR way (fuV way (lmd lst) (lsT ldc lsc lrk) (fu0 to mb) 3) (fdc, fsc, 0) d).2.1) (by omega) f48 f49 f50 (by omega) (by omega) (by omega) (hro.1)) rfl (by omega) f48 rfl rfl (Nat.le_of_ble_eq_true rfl) dX1_make_121 rfl rfl (fun H locs mem78 hP79 hh => ?_)
                        obtain ⟨f80, f81, f82, k83⟩ := hP79
                        have hfr84 : ∀ j, j ≠ 110 → j ≠ 111 → j ≠ 112 → j ≠ 113 → j ≠ 114 → mem78 j = mem j := fun j c0 c1 c2 c3 c4 => (k83 j (by omega) (by omega) (by omega)).trans (hfr47 j c0 c1 c2 c3 c4)
                        have f85 : mem78 113 = aD Γ 16 ((fuV way (lmd lst) (lsT ldc lsc lrk) (fu0 to mb) 3).1) := (k83 _ (by omega) (by omega) (by omega)).trans f51
                        have f86 : mem78 114 = aN Γ 16 ((fuV way (lmd lst) (lsT ldc lsc lrk) (fu0 to mb) 3).2) := (k83 _ (by omega) (by omega) (by omega)).trans f52
                        have f87 : mem78 109 = .inr (1, [.ref (b + 110), .ref (b + 113), .ref (b + 114)]) := (k83 _ (by omega) (by omega) (by omega)).trans f53
                        have f88 : mem78 96 = aR Γ 5 3 (fun i => some (b + (97 + 4 * i))) := (k83 _ (by omega) (by omega) (by omega)).trans f54
                        have f89 : ∀ z9, z9 < 3 → mem78 (97 + 4 * z9) = .inr (2, [.ref (b + (97 + 4 * z9 + 1)), .int (bI ((lst z9).1)), .int (nI ((lst z9).2.1)), .int (nI ((lst z9).2.2.1)), .int (nI ((lst z9).2.2.2))]) := fun z9 hz9 => (k83 _ (by omega) (by omega) (by omega)).trans (f55 z9 hz9)
                        have f90 : ∀ z9, z9 < 3 → mem78 (97 + 4 * z9 + 1) = .inr (4, [.ref (b + (97 + 4 * z9 + 2)), .ref (b + (97 + 4 * z9 + 3)), .int (nI ((lrk z9).1)), .int (nI ((lrk z9).2))]) := fun z9 hz9 => (k83 _ (by omega) (by omega) (by omega)).trans (f56 z9 hz9)
                        have f91 : ∀ z9, z9 < 3 → mem78 (97 + 4 * z9 + 2) = aN Γ 20 (ldc z9) := fun z9 hz9 => (k83 _ (by omega) (by omega) (by omega)).trans (f57 z9 hz9)
                        have f92 : ∀ z9, z9 < 3 → mem78 (97 + 4 * z9 + 3) = aD Γ 20 (lsc z9) := fun z9 hz9 => (k83 _ (by omega) (by omega) (by omega)).trans (f58 z9 hz9)
                        refine nn_iinc (x := d) (d := 1) (lv' := [(3, .int (nI (d + 1))), (0, .ref (b + 109)), (1, .ref (b + 96)), (2, .int (nI way))]) hx hb dX1_make_124 hl (k := 0) rfl (by decide) (by decide) rfl (fun ls hl => ?_)
                        refine lv_goto (tgt := 73) hx hb dX1_make_127 (by decide) ?_
                        exact ih59 (d + 1) (by omega) (by omega) _ _ mem78 (by rw [hn1]; exact f80) (by rw [hn1]; exact f81) (by rw [hn1]; exact f82) (f85) (f86) hfr84 hh ls (lv_sub hl [0, 1, 2, 3] rfl)
              exact loop73 ((16 - 0) + 1) 0 (by omega) (by omega) _ _ mem31 (f33) (f38) (f39) (f36) (f37) hfr35 hh ls (lv_sub hl [0, 1, 2, 3] rfl)
            ·
              refine lv_aload_n hx hb dX1_make_36 rfl (lv_at hl 2 rfl) ?_
              refine lv_iload_n hx hb dX1_make_37 rfl (lv_at hl 0 rfl) ?_
              refine mm_aald (q := b + (97 + 4 * v)) hx hb hE hh 5 (by omega) f24 rfl rfl (by omega) (by decide) (rfl) dX1_make_38 ?_
              refine mm_V0r (As := []) (rest := []) hx hb hml hown hE hl.1 hh (kc_X1_30 hE.2.1 ⟨Nat.le_of_ble_eq_true rfl, Nat.le_of_ble_eq_true rfl⟩) (c_X2_isMade l Γ b M mem16 (a := 97 + 4 * v) (sd := (lst v).2.1) (sk := (lst v).2.2.1) (ps := (lst v).2.2.2) (made := (lst v).1) (by omega) (f25 v (by omega))) rfl (by omega) (f25 v (by omega)) rfl rfl (Nat.le_of_ble_eq_true rfl) dX1_make_39 rfl rfl (fun H locs hh => ?_)
              refine nn_beq (tgt := 56) hx hb dX1_make_42 (by decide) (fun h93 => ?_) (fun h93 => ?_)
              ·
                have hn1 : fuV way (lmd lst) (lsT ldc lsc lrk) (fu0 to mb) (v + 1) = (fuV way (lmd lst) (lsT ldc lsc lrk) (fu0 to mb) v) := if_neg (by rw [show lmd lst v = false from h93]; decide)
                refine nn_iinc (x := v) (d := 1) (lv' := [(3, .int (nI (v + 1))), (0, .ref (b + 109)), (1, .ref (b + 96)), (2, .int (nI way))]) hx hb dX1_make_56 hl (k := 0) rfl (by decide) (by decide) rfl (fun ls hl => ?_)
                refine lv_goto (tgt := 30) hx hb dX1_make_59 (by decide) ?_
                exact ih29 (v + 1) (by omega) (by omega) _ _ mem16 (by rw [hn1]; exact f18) (by rw [hn1]; exact f19) (f20) (f21) (f22) hfr17 hh ls (lv_sub hl [0, 1, 2, 3] rfl)
              ·
                have hn1 : fuV way (lmd lst) (lsT ldc lsc lrk) (fu0 to mb) (v + 1) = adL way ((lsT ldc lsc lrk) v) (fuV way (lmd lst) (lsT ldc lsc lrk) (fu0 to mb) v) ((lsT ldc lsc lrk) v).2.2 := if_pos h93
                obtain ⟨hl1, hl2, hl3⟩ := hls v (by omega) h93
                refine lv_aload_n hx hb dX1_make_45 rfl (lv_at hl 1 rfl) ?_
                refine lv_aload_n hx hb dX1_make_46 rfl (lv_at hl 2 rfl) ?_
                refine lv_iload_n hx hb dX1_make_47 rfl (lv_at hl 0 rfl) ?_
                refine mm_aald (q := b + (97 + 4 * v)) hx hb hE hh 5 (by omega) f24 rfl rfl (by omega) (by decide) (rfl) dX1_make_48 ?_
                refine mm_V0r (As := []) (rest := [.ref (b + 109)]) hx hb hml hown hE hl.1 hh (kc_X1_36 hE.2.1 ⟨Nat.le_of_ble_eq_true rfl, Nat.le_of_ble_eq_true rfl⟩) (c_X2_ranking l Γ b M mem16 (a := 97 + 4 * v) (sd := (lst v).2.1) (sk := (lst v).2.2.1) (ps := (lst v).2.2.2) (made := (lst v).1) (by omega) (f25 v (by omega))) rfl (by omega) (f25 v (by omega)) rfl rfl (Nat.le_of_ble_eq_true rfl) dX1_make_49 rfl rfl (fun H locs hh => ?_)
                refine lv_iload_n hx hb dX1_make_52 rfl (lv_at hl 3 rfl) ?_
                refine mm_V0 (As := [.ref (b + (97 + 4 * v + 1)), .int (nI way)]) (rest := []) hx hb hml hown hE hl.1 hh (kc_X1_39 hE.2.1 ⟨Nat.le_of_ble_eq_true rfl, Nat.le_of_ble_eq_true rfl⟩) (c_X1_addList l Γ b M mem16 (a := 97 + 4 * v + 1) (lim := (lrk v).1) (way := way) (k := 20 * v) (T := (lsT ldc lsc lrk v)) (U := (fuV way (lmd lst) (lsT ldc lsc lrk) (fu0 to mb) v)) (by omega) (by omega) f23 f18 f19 (f26 v (by omega)) (f27 v (by omega)) (f28 v (by omega)) (hl1) (hl2) (hl3) (hvo) (by omega) (by omega)) rfl (by omega) f23 rfl rfl (Nat.le_of_ble_eq_true rfl) dX1_make_53 rfl rfl (fun H locs mem94 hP95 hh => ?_)
                obtain ⟨f96, f97, k98⟩ := hP95
                have hfr99 : ∀ j, j ≠ 110 → j ≠ 111 → j ≠ 112 → j ≠ 113 → j ≠ 114 → mem94 j = mem j := fun j c0 c1 c2 c3 c4 => (k98 j (by omega) (by omega)).trans (hfr17 j c0 c1 c2 c3 c4)
                have f100 : mem94 110 = .inr (4, [.ref (b + 111), .ref (b + 112), .int (nI lim), .int (nI sz)]) := (k98 _ (by omega) (by omega)).trans f20
                have f101 : mem94 111 = aN Γ 20 fdc := (k98 _ (by omega) (by omega)).trans f21
                have f102 : mem94 112 = aD Γ 20 fsc := (k98 _ (by omega) (by omega)).trans f22
                have f103 : mem94 109 = .inr (1, [.ref (b + 110), .ref (b + 113), .ref (b + 114)]) := (k98 _ (by omega) (by omega)).trans f23
                have f104 : mem94 96 = aR Γ 5 3 (fun i => some (b + (97 + 4 * i))) := (k98 _ (by omega) (by omega)).trans f24
                have f105 : ∀ z9, z9 < 3 → mem94 (97 + 4 * z9) = .inr (2, [.ref (b + (97 + 4 * z9 + 1)), .int (bI ((lst z9).1)), .int (nI ((lst z9).2.1)), .int (nI ((lst z9).2.2.1)), .int (nI ((lst z9).2.2.2))]) := fun z9 hz9 => (k98 _ (by omega) (by omega)).trans (f25 z9 hz9)
                have f106 : ∀ z9, z9 < 3 → mem94 (97 + 4 * z9 + 1) = .inr (4, [.ref (b + (97 + 4 * z9 + 2)), .ref (b + (97 + 4 * z9 + 3)), .int (nI ((lrk z9).1)), .int (nI ((lrk z9).2))]) := fun z9 hz9 => (k98 _ (by omega) (by omega)).trans (f26 z9 hz9)
                have f107 : ∀ z9, z9 < 3 → mem94 (97 + 4 * z9 + 2) = aN Γ 20 (ldc z9) := fun z9 hz9 => (k98 _ (by omega) (by omega)).trans (f27 z9 hz9)
                have f108 : ∀ z9, z9 < 3 → mem94 (97 + 4 * z9 + 3) = aD Γ 20 (lsc z9) := fun z9 hz9 => (k98 _ (by omega) (by omega)).trans (f28 z9 hz9)
                refine nn_iinc (x := v) (d := 1) (lv' := [(3, .int (nI (v + 1))), (0, .ref (b + 109)), (1, .ref (b + 96)), (2, .int (nI way))]) hx hb dX1_make_56 hl (k := 0) rfl (by decide) (by decide) rfl (fun ls hl => ?_)
                refine lv_goto (tgt := 30) hx hb dX1_make_59 (by decide) ?_
                exact ih29 (v + 1) (by omega) (by omega) _ _ mem94 (by rw [hn1]; exact f96) (by rw [hn1]; exact f97) (f100) (f101) (f102) hfr99 hh ls (lv_sub hl [0, 1, 2, 3] rfl)
        exact loop30 ((3 - 0) + 1) 0 (by omega) (by omega) _ _ mem1 (f3) (f4) (f5) (f6) (f7) hfr2 hh ls (lv_sub hl [0, 1, 2, 3] rfl)
      ·
        refine lv_aload_n hx hb dX1_make_8 rfl (lv_at hl 1 rfl) ?_
        refine gf_X1_totals hx hb hE hown hh (by omega) f8 rfl dX1_make_9 ?_
        refine lv_iload_n hx hb dX1_make_12 rfl (lv_at hl 0 rfl) ?_
        refine lv_dconst0 hx hb dX1_make_13 ?_
        refine mm_dast hx hb hE hh (by omega) f3 (by omega) (by decide) dX1_make_14 (fun H locs mem109 f110 k111 hh => ?_)
        have hfr112 : ∀ j, j ≠ 110 → j ≠ 111 → j ≠ 112 → j ≠ 113 → j ≠ 114 → mem109 j = mem j := fun j c0 c1 c2 c3 c4 => (k111 j (by omega)).trans (hfr2 j c0 c1 c2 c3 c4)
        have f113 : mem109 114 = aN Γ 16 (zrN mb d) := (k111 _ (by omega)).trans f4
        have f114 : mem109 110 = .inr (4, [.ref (b + 111), .ref (b + 112), .int (nI lim), .int (nI sz)]) := (k111 _ (by omega)).trans f5
        have f115 : mem109 111 = aN Γ 20 fdc := (k111 _ (by omega)).trans f6
        have f116 : mem109 112 = aD Γ 20 fsc := (k111 _ (by omega)).trans f7
        have f117 : mem109 109 = .inr (1, [.ref (b + 110), .ref (b + 113), .ref (b + 114)]) := (k111 _ (by omega)).trans f8
        have f118 : mem109 96 = aR Γ 5 3 (fun i => some (b + (97 + 4 * i))) := (k111 _ (by omega)).trans f9
        have f119 : ∀ z9, z9 < 3 → mem109 (97 + 4 * z9) = .inr (2, [.ref (b + (97 + 4 * z9 + 1)), .int (bI ((lst z9).1)), .int (nI ((lst z9).2.1)), .int (nI ((lst z9).2.2.1)), .int (nI ((lst z9).2.2.2))]) := fun z9 hz9 => (k111 _ (by omega)).trans (f10 z9 hz9)
        have f120 : ∀ z9, z9 < 3 → mem109 (97 + 4 * z9 + 1) = .inr (4, [.ref (b + (97 + 4 * z9 + 2)), .ref (b + (97 + 4 * z9 + 3)), .int (nI ((lrk z9).1)), .int (nI ((lrk z9).2))]) := fun z9 hz9 => (k111 _ (by omega)).trans (f11 z9 hz9)
        have f121 : ∀ z9, z9 < 3 → mem109 (97 + 4 * z9 + 2) = aN Γ 20 (ldc z9) := fun z9 hz9 => (k111 _ (by omega)).trans (f12 z9 hz9)
        have f122 : ∀ z9, z9 < 3 → mem109 (97 + 4 * z9 + 3) = aD Γ 20 (lsc z9) := fun z9 hz9 => (k111 _ (by omega)).trans (f13 z9 hz9)
        refine lv_aload_n hx hb dX1_make_15 rfl (lv_at hl 1 rfl) ?_
        refine gf_X1_memberships hx hb hE hown hh (by omega) f117 rfl dX1_make_16 ?_
        refine lv_iload_n hx hb dX1_make_19 rfl (lv_at hl 0 rfl) ?_
        refine lv_iconst (v := (nI 0)) hx hb dX1_make_20 (by decide) ?_
        refine mm_iast hx hb hE hh (by omega) f113 (by omega) (by decide) dX1_make_21 (fun H locs mem123 f124 k125 hh => ?_)
        rw [va_up_nI] at f124
        have hfr126 : ∀ j, j ≠ 110 → j ≠ 111 → j ≠ 112 → j ≠ 113 → j ≠ 114 → mem123 j = mem j := fun j c0 c1 c2 c3 c4 => (k125 j (by omega)).trans (hfr112 j c0 c1 c2 c3 c4)
        have f127 : mem123 113 = aD Γ 16 (va_up (fiR to (fun _ => FP.dconst0) d) d FP.dconst0) := (k125 _ (by omega)).trans f110
        have f128 : mem123 110 = .inr (4, [.ref (b + 111), .ref (b + 112), .int (nI lim), .int (nI sz)]) := (k125 _ (by omega)).trans f114
        have f129 : mem123 111 = aN Γ 20 fdc := (k125 _ (by omega)).trans f115
        have f130 : mem123 112 = aD Γ 20 fsc := (k125 _ (by omega)).trans f116
        have f131 : mem123 109 = .inr (1, [.ref (b + 110), .ref (b + 113), .ref (b + 114)]) := (k125 _ (by omega)).trans f117
        have f132 : mem123 96 = aR Γ 5 3 (fun i => some (b + (97 + 4 * i))) := (k125 _ (by omega)).trans f118
        have f133 : ∀ z9, z9 < 3 → mem123 (97 + 4 * z9) = .inr (2, [.ref (b + (97 + 4 * z9 + 1)), .int (bI ((lst z9).1)), .int (nI ((lst z9).2.1)), .int (nI ((lst z9).2.2.1)), .int (nI ((lst z9).2.2.2))]) := fun z9 hz9 => (k125 _ (by omega)).trans (f119 z9 hz9)
        have f134 : ∀ z9, z9 < 3 → mem123 (97 + 4 * z9 + 1) = .inr (4, [.ref (b + (97 + 4 * z9 + 2)), .ref (b + (97 + 4 * z9 + 3)), .int (nI ((lrk z9).1)), .int (nI ((lrk z9).2))]) := fun z9 hz9 => (k125 _ (by omega)).trans (f120 z9 hz9)
        have f135 : ∀ z9, z9 < 3 → mem123 (97 + 4 * z9 + 2) = aN Γ 20 (ldc z9) := fun z9 hz9 => (k125 _ (by omega)).trans (f121 z9 hz9)
        have f136 : ∀ z9, z9 < 3 → mem123 (97 + 4 * z9 + 3) = aD Γ 20 (lsc z9) := fun z9 hz9 => (k125 _ (by omega)).trans (f122 z9 hz9)
        refine nn_iinc (x := d) (d := 1) (lv' := [(3, .int (nI (d + 1))), (0, .ref (b + 109)), (1, .ref (b + 96)), (2, .int (nI way))]) hx hb dX1_make_22 hl (k := 0) rfl (by decide) (by decide) rfl (fun ls hl => ?_)
        refine lv_goto (tgt := 2) hx hb dX1_make_25 (by decide) ?_
        exact ih14 (d + 1) (by omega) (by omega) _ _ mem123 (by rw [← fiR_s]; exact f127) (by rw [← zrN_s]; exact f124) (f128) (f129) (f130) hfr126 hh ls (lv_sub hl [0, 1, 2, 3] rfl)
  exact loop2 ((16 - 0) + 1) 0 (by omega) (by omega) _ _ mem (by rw [fiR_0]; exact fF1) (by rw [zrN_0]; exact fF2) (fR0) (fR1) (fR2) hfr hh ls (lv_sub hl [0, 1, 2, 3] rfl)
