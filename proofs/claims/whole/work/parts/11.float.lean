/-! FLOATS: bounds by the exponent's field. db K x: |x| < 2^(K-1023); dl L x: |x| ≥ 2^(L-1023); fb, fl likewise with 127 -/
def db (K : Nat) (x : UInt64) : Prop := x.toNat % 2 ^ 63 < K * 2 ^ 52
def dl (L : Nat) (x : UInt64) : Prop := L * 2 ^ 52 ≤ x.toNat % 2 ^ 63
def fb (K : Nat) (x : UInt32) : Prop := x.toNat % 2 ^ 31 < K * 2 ^ 23
def fl (L : Nat) (x : UInt32) : Prop := L * 2 ^ 23 ≤ x.toNat % 2 ^ 31
theorem n64_iff (x : UInt64) : vf_n64 x ↔ x.toNat % 2 ^ 63 ≤ 9218868437227405312 := by
  unfold vf_n64
  rw [UInt64.le_iff_toNat_le, UInt64.toNat_and]
  rw [show (0x7fffffffffffffff : UInt64).toNat = 2 ^ 63 - 1 from rfl, Nat.and_two_pow_sub_one_eq_mod]
  exact Iff.rfl
theorem n32_iff (x : UInt32) : vf_n32 x ↔ x.toNat % 2 ^ 31 ≤ 2139095040 := by
  unfold vf_n32
  rw [UInt32.le_iff_toNat_le, UInt32.toNat_and]
  rw [show (0x7fffffff : UInt32).toNat = 2 ^ 31 - 1 from rfl, Nat.and_two_pow_sub_one_eq_mod]
  exact Iff.rfl
theorem db.n {K : Nat} {x : UInt64} (h : db K x) (hK : K ≤ 2047) : vf_n64 x := by
  rw [n64_iff]; unfold db at h; omega
theorem fb.n {K : Nat} {x : UInt32} (h : fb K x) (hK : K ≤ 255) : vf_n32 x := by
  rw [n32_iff]; unfold fb at h; omega
theorem db.up {K K' : Nat} {x : UInt64} (h : db K x) (hK : K ≤ K') : db K' x := Nat.lt_of_lt_of_le h (Nat.mul_le_mul_right _ hK)
theorem fb.up {K K' : Nat} {x : UInt32} (h : fb K x) (hK : K ≤ K') : fb K' x := Nat.lt_of_lt_of_le h (Nat.mul_le_mul_right _ hK)
theorem db.add {K : Nat} {x y : UInt64} (hx : db K x) (hy : db K y) (hK : K ≤ 2047) : db (K + 2) (FP.dadd x y) := FP.Core.dadd_mag hx hy hK
theorem db.sub {K : Nat} {x y : UInt64} (hx : db K x) (hy : db K y) (hK : K ≤ 2047) : db (K + 2) (FP.dsub x y) := FP.Core.dsub_mag hx hy hK
theorem db.mul {Ka Kb : Nat} {x y : UInt64} (hx : db Ka x) (hy : db Kb y) (ha : Ka ≤ 2047) (hb : Kb ≤ 2047) : db (Ka + Kb - 1025 + 3) (FP.dmul x y) := FP.Core.dmul_mag hx hy ha hb
theorem db.div {K L : Nat} {x y : UInt64} (hx : db K x) (hy : dl L y) (hy2 : db 2047 y) (hK : K ≤ 2047) (hL : 1 ≤ L) : db (K + 1021 - L + 3) (FP.ddiv x y) := FP.Core.ddiv_mag hx hy hy2 hK hL
theorem fb.add {K : Nat} {x y : UInt32} (hx : fb K x) (hy : fb K y) (hK : K ≤ 255) : fb (K + 2) (FP.fadd x y) := FP.Core.fadd_mag hx hy hK
theorem fb.mul {Ka Kb : Nat} {x y : UInt32} (hx : fb Ka x) (hy : fb Kb y) (ha : Ka ≤ 255) (hb : Kb ≤ 255) : fb (Ka + Kb - 129 + 3) (FP.fmul x y) := FP.Core.fmul_mag hx hy ha hb
theorem fb.div {K L : Nat} {x y : UInt32} (hx : fb K x) (hy : fl L y) (hy2 : fb 255 y) (hK : K ≤ 255) (hL : 1 ≤ L) : fb (K + 125 - L + 3) (FP.fdiv x y) := FP.Core.fdiv_mag hx hy hy2 hK hL
theorem db_i2d (v : Int32) : db 1056 (FP.i2d v) := FP.Core.i2d_mag v
theorem fb_i2f (v : Int32) : fb 160 (FP.i2f v) := FP.Core.i2f_mag v
theorem dl_i2d {v : Int32} (h : v ≠ 0) : dl 1023 (FP.i2d v) := (FP.Core.i2d_big (FP.Core.int32_ne h)).1
theorem n64_core {x : UInt64} : vf_n64 x ↔ FP.Core.dIsNaN x = false := by
  rw [n64_iff, FP.Core.notNaN_iff, FP.Core.ne_nan]
theorem n32_core {x : UInt32} : vf_n32 x ↔ FP.Core.fIsNaN x = false := by
  rw [n32_iff, FP.Core.notNaN_iff32, FP.Core.ne_nan32]
theorem f2d_n {x : UInt32} (h : vf_n32 x) : vf_n64 (FP.f2d x) := by
  rw [n64_core, FP.f2d_core (n32_core.mp h)]
  exact FP.Core.f2d_out (n32_core.mp h)
