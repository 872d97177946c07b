/-! LOWER BOUNDS of products, quotients and sums -/
section FB
theorem mul_ge {f : FP.Core.Fmt} (hf : FP.Core.Good f) {x y La Lb K : Nat} (hx : La * f.tails ≤ FP.Core.mag f x) (hxf : FP.Core.mag f x < FP.Core.infBits f) (hy : Lb * f.tails ≤ FP.Core.mag f y) (hyf : FP.Core.mag f y < FP.Core.infBits f)
    (ha : 1 ≤ La) (hb : 1 ≤ Lb) (hK : 1 ≤ K) (hKi : K * f.tails ≤ FP.Core.infBits f) (h : K + 1 + (-f.qmin).toNat ≤ f.p - 1 + La + Lb) : K * f.tails ≤ FP.Core.mag f (FP.Core.mul f x y) := by
  obtain ⟨s, c, q, x1, x2, x3⟩ := FP.Core.fin_of_mag hf hxf
  obtain ⟨t, d, r, y1, y2, y3⟩ := FP.Core.fin_of_mag hf hyf
  obtain ⟨p1, p2, p3⟩ := FP.Core.product_units x2 y2
  have hq := FP.Core.qmin_neg hf
  have hd : FP.Core.decode f (FP.Core.mul f x y) = FP.Core.roundRatio f (s != t) (c * d) 1 (q + r) := by
    unfold FP.Core.mul
    rw [FP.Core.decode_enc hf (FP.Core.round_fits hf _), x1, y1, p1]; rfl
  have l1 : f.tails * 2 ^ (La - 1) ≤ FP.Core.unitsOf f (FP.Core.mag f x) := by rw [← FP.Core.unitsOf_start ha]; exact FP.Core.unitsOf_le_iff.mpr hx
  have l2 : f.tails * 2 ^ (Lb - 1) ≤ FP.Core.unitsOf f (FP.Core.mag f y) := by rw [← FP.Core.unitsOf_start hb]; exact FP.Core.unitsOf_le_iff.mpr hy
  refine FP.Core.mag_ge hf hd (by decide) (e0 := 2 * f.qmin) (by omega) p2 hKi ?_
  rw [p3, x3, y3, FP.Core.unitsOf_start hK, Nat.mul_one]
  calc f.tails * 2 ^ (K - 1) * 2 ^ (f.qmin - 2 * f.qmin).toNat = f.tails * 2 ^ (K - 1 + (f.qmin - 2 * f.qmin).toNat) := by rw [Nat.pow_add, Nat.mul_assoc]
    _ ≤ f.tails * 2 ^ (f.p - 1 + (La - 1) + (Lb - 1)) := Nat.mul_le_mul_left _ (Nat.pow_le_pow_right (by decide) (by omega))
    _ = (f.tails * 2 ^ (La - 1)) * (f.tails * 2 ^ (Lb - 1)) := by rw [Nat.pow_add, Nat.pow_add, show 2 ^ (f.p - 1) = f.tails from rfl]; ac_rfl
    _ ≤ _ := Nat.mul_le_mul l1 l2
theorem div_ge {f : FP.Core.Fmt} (hf : FP.Core.Good f) {x y La Kb K : Nat} (hx : La * f.tails ≤ FP.Core.mag f x) (hxf : FP.Core.mag f x < FP.Core.infBits f) (hy : FP.Core.mag f y < Kb * f.tails) (hy0 : 1 ≤ FP.Core.mag f y)
    (ha : 1 ≤ La) (hb : Kb ≤ f.exps - 1) (hK : 1 ≤ K) (hKi : K * f.tails ≤ FP.Core.infBits f) (h : K + Kb + (f.p - 1) ≤ La + 1 + (-f.qmin).toNat) : K * f.tails ≤ FP.Core.mag f (FP.Core.div f x y) := by
  obtain ⟨s, c, q, x1, x2, x3⟩ := FP.Core.fin_of_mag hf hxf
  obtain ⟨t, d, r, y1, y2, y3⟩ := FP.Core.fin_of_mag hf (FP.Core.mag_lt_inf hy hb)
  have hq := FP.Core.qmin_neg hf
  have hd0 : d ≠ 0 := by
    rintro rfl
    have h1 : FP.Core.zmag f (.fin t 0 r) = 0 := Nat.zero_mul _
    rw [h1] at y3
    have := FP.Core.unitsOf_eq_zero.mp y3.symm
    omega
  have hd : FP.Core.decode f (FP.Core.div f x y) = FP.Core.roundRatio f (s != t) c d (q - r) := by
    unfold FP.Core.div
    rw [FP.Core.decode_enc hf (FP.Core.quotient_fits hf _ _), x1, y1]
    simp only [FP.Core.quotient, if_neg hd0]
  have hx1 := x2.2.1
  have hy1 := y2.2.1
  obtain ⟨k1, l2⟩ := FP.Core.units_lt_start hy
  have l1 : f.tails * 2 ^ (La - 1) ≤ FP.Core.unitsOf f (FP.Core.mag f x) := by rw [← FP.Core.unitsOf_start ha]; exact FP.Core.unitsOf_le_iff.mpr hx
  refine FP.Core.mag_ge hf hd (by omega) (e0 := 2 * f.qmin - r) (by omega) (by omega) hKi ?_
  rw [FP.Core.unitsOf_start hK]
  have e1 : FP.Core.inUnits c (q - r) (2 * f.qmin - r) = FP.Core.zmag f (.fin s c q) * 2 ^ (-f.qmin).toNat := by
    show c * _ = c * _ * _
    rw [Nat.mul_assoc, ← Nat.pow_add]; congr 2; omega
  have e2 : 2 ^ (f.qmin - (2 * f.qmin - r)).toNat * d = FP.Core.zmag f (.fin t d r) := by
    show _ = d * _
    rw [Nat.mul_comm]; congr 2; omega
  rw [e1, Nat.mul_assoc, e2, x3, y3]
  calc f.tails * 2 ^ (K - 1) * FP.Core.unitsOf f (FP.Core.mag f y) ≤ f.tails * 2 ^ (K - 1) * (f.tails * 2 ^ (Kb - 1)) := Nat.mul_le_mul_left _ (Nat.le_of_lt l2)
    _ = f.tails * 2 ^ (K - 1 + (f.p - 1) + (Kb - 1)) := by rw [Nat.pow_add, Nat.pow_add, show 2 ^ (f.p - 1) = f.tails from rfl]; ac_rfl
    _ ≤ f.tails * 2 ^ (La - 1 + (-f.qmin).toNat) := Nat.mul_le_mul_left _ (Nat.pow_le_pow_right (by decide) (by omega))
    _ = f.tails * 2 ^ (La - 1) * 2 ^ (-f.qmin).toNat := by rw [Nat.pow_add, Nat.mul_assoc]
    _ ≤ _ := Nat.mul_le_mul_right _ l1
theorem dl.mul {La Lb : Nat} {x y : UInt64} (hx : dl La x) (hx2 : db 2047 x) (hy : dl Lb y) (hy2 : db 2047 y) (ha : 1 ≤ La) (hb : 1 ≤ Lb) (h1 : 1024 ≤ La + Lb) (h2 : La + Lb ≤ 3070) : dl (La + Lb - 1023) (FP.dmul x y) := by
  have h0 : (FP.Core.dmul x y).toNat = FP.Core.mul FP.Core.b64 x.toNat y.toNat := FP.Core.toNat_of64 (FP.Core.round_fits FP.Core.good_b64 _)
  have := mul_ge FP.Core.good_b64 (x := x.toNat) (y := y.toNat) (La := La) (Lb := Lb) (K := La + Lb - 1023) (by rw [FP.Core.mag_toNat64, FP.Core.tails_b64]; exact hx) (by rw [FP.Core.mag_toNat64, FP.Core.infBits_b64]; exact hx2) (by rw [FP.Core.mag_toNat64, FP.Core.tails_b64]; exact hy) (by rw [FP.Core.mag_toNat64, FP.Core.infBits_b64]; exact hy2) ha hb (by omega) (by rw [FP.Core.tails_b64, FP.Core.infBits_b64]; omega) (by rw [FP.Core.p_b64, FP.Core.qmin_b64]; omega)
  rw [← h0, FP.Core.mag_toNat64, FP.Core.tails_b64] at this
  exact this
theorem dl.div {La Kb : Nat} {x y : UInt64} (hx : dl La x) (hx2 : db 2047 x) (hy : db Kb y) (hy0 : dl 1 y) (ha : 1 ≤ La) (hb : Kb ≤ 2047) (h1 : Kb + 1 ≤ La + 1023) (h2 : La + 1023 ≤ Kb + 2047) : dl (La + 1023 - Kb) (FP.ddiv x y) := by
  have h0 : (FP.Core.ddiv x y).toNat = FP.Core.div FP.Core.b64 x.toNat y.toNat := FP.Core.toNat_of64 (FP.Core.quotient_fits FP.Core.good_b64 _ _)
  have hy0' : 1 * 2 ^ 52 ≤ y.toNat % 2 ^ 63 := hy0
  have a1 : La * FP.Core.b64.tails ≤ FP.Core.mag FP.Core.b64 x.toNat := by rw [FP.Core.mag_toNat64, FP.Core.tails_b64]; exact hx
  have a2 : FP.Core.mag FP.Core.b64 x.toNat < FP.Core.infBits FP.Core.b64 := by rw [FP.Core.mag_toNat64, FP.Core.infBits_b64]; exact hx2
  have a3 : FP.Core.mag FP.Core.b64 y.toNat < Kb * FP.Core.b64.tails := by rw [FP.Core.mag_toNat64, FP.Core.tails_b64]; exact hy
  have a4 : 1 ≤ FP.Core.mag FP.Core.b64 y.toNat := by
    rw [FP.Core.mag_toNat64]
    generalize y.toNat % 2 ^ 63 = z at hy0' ⊢
    omega
  have a5 : Kb ≤ FP.Core.b64.exps - 1 := by rw [FP.Core.exps_b64]; exact hb
  have a6 : (La + 1023 - Kb) * FP.Core.b64.tails ≤ FP.Core.infBits FP.Core.b64 := by rw [FP.Core.tails_b64, FP.Core.infBits_b64]; exact Nat.le_trans (Nat.mul_le_mul_right _ (show La + 1023 - Kb ≤ 2047 by omega)) (show 2047 * 2 ^ 52 ≤ 9218868437227405312 by decide)
  have a7 : (La + 1023 - Kb) + Kb + (FP.Core.b64.p - 1) ≤ La + 1 + (-FP.Core.b64.qmin).toNat := by rw [FP.Core.p_b64, FP.Core.qmin_b64]; omega
  have := div_ge FP.Core.good_b64 a1 a2 a3 a4 ha a5 (by omega) a6 a7
  rw [← h0, FP.Core.mag_toNat64, FP.Core.tails_b64] at this
  exact this
/-- a sum of a number above 0 and one not below 0 is not below the first -/
theorem dadd_ge {x y : UInt64} (hx0 : 0 < x.toNat) (hx : x.toNat < 2046 * 2 ^ 52) (hy : y.toNat < 2046 * 2 ^ 52) : x.toNat ≤ (FP.dadd x y).toNat ∧ (FP.dadd x y).toNat < 2 ^ 63 := by
  have hbx : db 2046 x := by unfold db; omega
  have hby : db 2046 y := by unfold db; omega
  have fx : FP.Core.DFin x := by rw [FP.Core.fin_bits]; omega
  have fy : FP.Core.DFin y := by rw [FP.Core.fin_bits]; omega
  have hr : FP.Core.val64 (FP.Core.dadd x y) ≠ .nan := (FP.Core.notNaN_iff _).mp (FP.Core.dadd_out fx.notNaN fy)
  have zx : FP.Core.zval FP.Core.b64 (FP.Core.val64 x) = (FP.Core.unitsOf FP.Core.b64 x.toNat : Int) := by
    unfold FP.Core.zval
    rw [FP.Core.sgn_bits fx.ne_nan, FP.Core.zmag_bits fx.ne_nan, show x.toNat % 2 ^ 63 = x.toNat by omega, show decide (2 ^ 63 ≤ x.toNat) = false by simp; omega]
    rfl
  have zy : FP.Core.zval FP.Core.b64 (FP.Core.val64 y) = (FP.Core.unitsOf FP.Core.b64 y.toNat : Int) := by
    unfold FP.Core.zval
    rw [FP.Core.sgn_bits fy.ne_nan, FP.Core.zmag_bits fy.ne_nan, show y.toNat % 2 ^ 63 = y.toNat by omega, show decide (2 ^ 63 ≤ y.toNat) = false by simp; omega]
    rfl
  have h1 := FP.Core.sum_ge FP.Core.good_b64 (V := FP.Core.val64 x) fx fy (FP.Core.val64_fits x) (FP.Core.val64_fits y) (FP.Core.val64_fits x) fx.ne_nan (by omega)
  rw [← FP.Core.val64_dadd, zx] at h1
  unfold FP.Core.zval at h1
  rw [FP.Core.sgn_bits hr, FP.Core.zmag_bits hr] at h1
  have hu : 0 < FP.Core.unitsOf FP.Core.b64 x.toNat := Nat.pos_of_ne_zero (fun h => by have := FP.Core.unitsOf_eq_zero.mp h; omega)
  by_cases hs : 2 ^ 63 ≤ (FP.Core.dadd x y).toNat
  · rw [show decide (2 ^ 63 ≤ (FP.Core.dadd x y).toNat) = true by simp [hs]] at h1
    have h2 : FP.Core.signed true (FP.Core.unitsOf FP.Core.b64 ((FP.Core.dadd x y).toNat % 2 ^ 63)) = -(FP.Core.unitsOf FP.Core.b64 ((FP.Core.dadd x y).toNat % 2 ^ 63) : Int) := rfl
    rw [h2] at h1
    omega
  · rw [show decide (2 ^ 63 ≤ (FP.Core.dadd x y).toNat) = false by simp; omega] at h1
    have h2 : FP.Core.signed false (FP.Core.unitsOf FP.Core.b64 ((FP.Core.dadd x y).toNat % 2 ^ 63)) = (FP.Core.unitsOf FP.Core.b64 ((FP.Core.dadd x y).toNat % 2 ^ 63) : Int) := rfl
    rw [h2, show (FP.Core.dadd x y).toNat % 2 ^ 63 = (FP.Core.dadd x y).toNat by omega] at h1
    have h3 : FP.Core.unitsOf FP.Core.b64 x.toNat ≤ FP.Core.unitsOf FP.Core.b64 (FP.Core.dadd x y).toNat := by omega
    exact ⟨FP.Core.unitsOf_le_iff.mp h3, by show (FP.Core.dadd x y).toNat < 2 ^ 63; omega⟩
/-- the sign: not below 0 -/
def dp (x : UInt64) : Prop := x.toNat < 2 ^ 63
theorem sgn_dp {x : UInt64} (h : FP.Core.val64 x ≠ .nan) : dp x ↔ FP.Core.sgn (FP.Core.val64 x) = false := by
  rw [FP.Core.sgn_bits h]
  unfold dp
  simp
theorem db.fin {K : Nat} {x : UInt64} (h : db K x) (hK : K ≤ 2047) : FP.Core.DFin x := FP.Core.fin_of_lt h hK
theorem dp.mul {x y : UInt64} (hx : dp x) (hx2 : db 2047 x) (hy : dp y) (hy2 : db 2047 y) : dp (FP.dmul x y) := by
  have fx := hx2.fin (Nat.le_refl _)
  have fy := hy2.fin (Nat.le_refl _)
  have hn : FP.Core.val64 (FP.Core.dmul x y) ≠ .nan := (FP.Core.notNaN_iff _).mp (FP.Core.dmul_out fx fy)
  have sx := (sgn_dp fx.ne_nan).mp hx
  have sy := (sgn_dp fy.ne_nan).mp hy
  refine (sgn_dp hn).mpr ?_
  rw [FP.Core.val64_dmul]
  obtain ⟨s, c, q, ex⟩ := fx
  obtain ⟨t, d, r, ey⟩ := fy
  rw [ex] at sx ⊢
  rw [ey] at sy ⊢
  have sx' : s = false := sx
  have sy' : t = false := sy
  subst sx'
  subst sy'
  exact FP.Core.sgn_roundRatio _ _ _ _ _
theorem dp.div {x y : UInt64} (hx : dp x) (hx2 : db 2047 x) (hy : dp y) (hy2 : db 2047 y) (hy0 : dl 1 y) : dp (FP.ddiv x y) := by
  have fx := hx2.fin (Nat.le_refl _)
  have fy := hy2.fin (Nat.le_refl _)
  have hz : ¬ FP.Core.DZero y := by
    rw [FP.Core.zero_bits2]
    have : 1 * 2 ^ 52 ≤ y.toNat % 2 ^ 63 := hy0
    intro h
    rw [h] at this
    exact absurd this (by decide)
  have hn : FP.Core.val64 (FP.Core.ddiv x y) ≠ .nan := (FP.Core.notNaN_iff _).mp (FP.Core.ddiv_out fx.notNaN fy hz)
  have sx := (sgn_dp fx.ne_nan).mp hx
  have sy := (sgn_dp fy.ne_nan).mp hy
  refine (sgn_dp hn).mpr ?_
  rw [FP.Core.val64_ddiv]
  obtain ⟨s, c, q, ex⟩ := fx
  obtain ⟨t, d, r, ey⟩ := fy
  have hd : d ≠ 0 := by
    rintro rfl
    exact hz ⟨t, r, ey⟩
  rw [ex] at sx ⊢
  rw [ey] at sy ⊢
  have sx' : s = false := sx
  have sy' : t = false := sy
  subst sx'
  subst sy'
  simp only [FP.Core.quotient, if_neg hd]
  exact FP.Core.sgn_roundRatio _ _ _ _ _
theorem dp.add {x y : UInt64} (hx : dp x) (hx0 : dl 1 x) (hx2 : db 2046 x) (hy : dp y) (hy2 : db 2046 y) : dp (FP.dadd x y) ∧ ∀ L, dl L x → dl L (FP.dadd x y) := by
  have h1 : x.toNat % 2 ^ 63 = x.toNat := Nat.mod_eq_of_lt hx
  have h2 : y.toNat % 2 ^ 63 = y.toNat := Nat.mod_eq_of_lt hy
  unfold dl db at *
  rw [h1] at hx0 hx2
  rw [h2] at hy2
  obtain ⟨h3, h4⟩ := dadd_ge (x := x) (y := y) (Nat.lt_of_lt_of_le (by decide) hx0) hx2 hy2
  refine ⟨h4, fun L hL => ?_⟩
  rw [h1] at hL
  rw [Nat.mod_eq_of_lt h4]
  exact Nat.le_trans hL h3
theorem dp_i2d {v : Nat} (h : v < 2 ^ 31) : dp (FP.i2d (nI v)) := by
  have fx := FP.Core.i2d_fin (nI v)
  refine (sgn_dp fx.ne_nan).mpr ?_
  rw [FP.Core.val64_i2d, nI_toInt h]
  show FP.Core.sgn (FP.Core.roundRatio _ (decide ((v : Int) < 0)) _ _ _) = false
  rw [FP.Core.sgn_roundRatio]
  simp
theorem dl_nI {v : Nat} (h : v < 2 ^ 31) (h0 : 0 < v) : dl 1023 (FP.i2d (nI v)) := dl_i2d (nI_ne0 h0 h)
theorem dl.up {L L' : Nat} {x : UInt64} (h : dl L x) (hL : L' ≤ L) : dl L' x := Nat.le_trans (Nat.mul_le_mul_right _ hL) h
end FB
