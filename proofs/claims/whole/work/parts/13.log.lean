/-! THE LOGARITHM: its pure words; halving is exact; what it is bounded by -/
def lgs : Nat → UInt64 → Nat → UInt64 × Nat
  | 0, m, e => (m, e)
  | n + 1, m, e => if FP.dcmp m 4611686018427387904 = some .gt ∨ FP.dcmp m 4611686018427387904 = some .eq then lgs n (FP.ddiv m 4611686018427387904) (e + 1) else (m, e)
def lgp (s : UInt64) : Nat → UInt64
  | 0 => s
  | i + 1 => FP.dmul (lgp s i) (FP.dmul s s)
def lgu (s : UInt64) : Nat → UInt64
  | 0 => FP.dconst0
  | i + 1 => FP.dadd (lgu s i) (FP.ddiv (lgp s i) (FP.i2d (nI (2 * i + 1))))
def lgR (m : UInt64) : UInt64 := FP.ddiv (FP.dsub m FP.dconst1) (FP.dadd m FP.dconst1)
def lgF (x : UInt64) : UInt64 := FP.dadd (FP.dmul 4611686018427387904 (lgu (lgR (lgs 40 x 0).1) 10)) (FP.dmul (FP.i2d (nI (lgs 40 x 0).2)) 4604418534313441775)
theorem d_fin {m : UInt64} (h2 : m.toNat < 2047 * 2 ^ 52) : FP.Core.val64 m ≠ .nan := by
  rw [FP.Core.ne_nan]; omega
theorem d_two : (4611686018427387904 : UInt64).toNat = 1024 * 2 ^ 52 := by decide
theorem ge2 {m : UInt64} (h2 : m.toNat < 2047 * 2 ^ 52) : (FP.dcmp m 4611686018427387904 = some .gt ∨ FP.dcmp m 4611686018427387904 = some .eq) ↔ 1024 * 2 ^ 52 ≤ m.toNat := by
  obtain ⟨-, h3, h4⟩ := FP.Core.mono_bits (d_fin h2) (d_fin (m := 4611686018427387904) (by decide)) (by omega) (by decide)
  rw [d_two] at h3 h4
  show (FP.Core.dcmp _ _ = _ ∨ FP.Core.dcmp _ _ = _) ↔ _
  rw [h3, h4]
  omega
theorem d_shape {m : UInt64} (h1 : 2 ^ 52 ≤ m.toNat) (h2 : m.toNat < 2047 * 2 ^ 52) : FP.Core.val64 m = .fin false (2 ^ 52 + m.toNat % 2 ^ 52) (-1074 + (((m.toNat / 2 ^ 52 : Nat) : Int) - 1)) := by
  have a1 : FP.Core.fieldE FP.Core.b64 m.toNat = m.toNat / 2 ^ 52 := by
    show m.toNat / 2 ^ 52 % 2 ^ 11 = _
    omega
  have a2 : FP.Core.fieldT FP.Core.b64 m.toNat = m.toNat % 2 ^ 52 := rfl
  have a3 : FP.Core.fieldS FP.Core.b64 m.toNat = false := by
    show (m.toNat / 2 ^ 52 / 2 ^ 11 % 2 == 1) = false
    rw [show m.toNat / 2 ^ 52 / 2 ^ 11 = 0 by omega]
    rfl
  unfold FP.Core.val64 FP.Core.decode
  rw [a1, a2, a3]
  rw [if_neg (by show ¬ m.toNat / 2 ^ 52 = 2048 - 1; omega), if_neg (by omega)]
  rfl
theorem half_bits {m : UInt64} (h1 : 1024 * 2 ^ 52 ≤ m.toNat) (h2 : m.toNat < 2047 * 2 ^ 52) : (FP.ddiv m 4611686018427387904).toNat = m.toNat - 2 ^ 52 := by
  have e1 : (FP.Core.ddiv m 4611686018427387904).toNat = FP.Core.encode FP.Core.b64 (FP.Core.quotient FP.Core.b64 (FP.Core.val64 m) (FP.Core.val64 4611686018427387904)) := FP.Core.toNat_of64 (FP.Core.quotient_fits FP.Core.good_b64 _ _)
  have e2 : FP.Core.val64 4611686018427387904 = .fin false (2 ^ 52) (-51) := by decide +kernel
  have e3 := d_shape (m := m) (by omega) h2
  have e4 : FP.Core.roundRatio FP.Core.b64 (false != false) (2 ^ 52 + m.toNat % 2 ^ 52) (2 ^ 52) ((-1074 + (((m.toNat / 2 ^ 52 : Nat) : Int) - 1)) - (-51)) = .fin false (2 ^ 52 + m.toNat % 2 ^ 52) (-1074 + (((m.toNat / 2 ^ 52 : Nat) : Int) - 2)) := by
    refine FP.Core.roundRatio_exact FP.Core.good_b64 (by decide) ⟨?_, ?_, ?_, Or.inr ?_⟩ ?_
    · show _ < 2 ^ 53; omega
    · show (-1074 : Int) ≤ _; omega
    · show _ ≤ (971 : Int); omega
    · show 2 ^ 52 ≤ _; omega
    · rw [show ((-1074 + (((m.toNat / 2 ^ 52 : Nat) : Int) - 1)) - (-51) - (-1074 + (((m.toNat / 2 ^ 52 : Nat) : Int) - 2))).toNat = 52 by omega, show ((-1074 + (((m.toNat / 2 ^ 52 : Nat) : Int) - 2)) - ((-1074 + (((m.toNat / 2 ^ 52 : Nat) : Int) - 1)) - (-51))).toNat = 0 by omega]
      omega
  have hn0 : (2 ^ 52 : Nat) ≠ 0 := by decide
  have e5 : FP.Core.quotient FP.Core.b64 (.fin false (2 ^ 52 + m.toNat % 2 ^ 52) (-1074 + (((m.toNat / 2 ^ 52 : Nat) : Int) - 1))) (.fin false (2 ^ 52) (-51)) = FP.Core.roundRatio FP.Core.b64 (false != false) (2 ^ 52 + m.toNat % 2 ^ 52) (2 ^ 52) ((-1074 + (((m.toNat / 2 ^ 52 : Nat) : Int) - 1)) - (-51)) := by
    simp only [FP.Core.quotient, if_neg hn0]
  have hlt : ¬ (2 ^ 52 + m.toNat % 2 ^ 52 < FP.Core.b64.tails) := by rw [FP.Core.tails_b64]; omega
  have e6 : FP.Core.encode FP.Core.b64 (.fin false (2 ^ 52 + m.toNat % 2 ^ 52) (-1074 + (((m.toNat / 2 ^ 52 : Nat) : Int) - 2))) = FP.Core.assemble FP.Core.b64 false (((-1074 + (((m.toNat / 2 ^ 52 : Nat) : Int) - 2)) - FP.Core.b64.qmin).toNat + 1) (2 ^ 52 + m.toNat % 2 ^ 52 - FP.Core.b64.tails) := by
    simp only [FP.Core.encode, if_neg hlt]
  show (FP.Core.ddiv m 4611686018427387904).toNat = _
  rw [e1, e2, e3, e5, e4, e6]
  unfold FP.Core.assemble
  rw [FP.Core.tails_b64, FP.Core.qmin_b64, Bool.toNat_false, Nat.zero_mul, Nat.zero_add]
  omega
/-- the state of the halving loop: still the same end, m at least 1, and it falls -/
def lgI (x m : UInt64) (e : Nat) : Prop := 1023 * 2 ^ 52 ≤ m.toNat ∧ m.toNat + e * 2 ^ 52 < 1060 * 2 ^ 52 ∧ lgs (40 - e) m e = lgs 40 x 0
def lgOK (x : UInt64) : Prop := 1023 * 2 ^ 52 ≤ x.toNat ∧ x.toNat < 1060 * 2 ^ 52
theorem lgI_0 {x : UInt64} (h : lgOK x) : lgI x x 0 := ⟨h.1, by have := h.2; omega, rfl⟩
theorem lgI_e {x m : UInt64} {e : Nat} (h : lgI x m e) : e < 37 := by have h1 := h.1; have h2 := h.2.1; omega
theorem lgI_ge {x m : UInt64} {e : Nat} (h : lgI x m e) (hg : FP.dcmp m 4611686018427387904 = some .gt ∨ FP.dcmp m 4611686018427387904 = some .eq) : 1024 * 2 ^ 52 ≤ m.toNat := (ge2 (by have := h.2.1; omega)).mp hg
theorem lgI_s {x m : UInt64} {e : Nat} (h : lgI x m e) (hg : FP.dcmp m 4611686018427387904 = some .gt ∨ FP.dcmp m 4611686018427387904 = some .eq) : lgI x (FP.ddiv m 4611686018427387904) (e + 1) := by
  have h0 := lgI_ge h hg
  have he := lgI_e h
  have hb := half_bits h0 (by have := h.2.1; omega)
  refine ⟨by rw [hb]; omega, by rw [hb]; have := h.2.1; omega, ?_⟩
  rw [← h.2.2, show 40 - e = (40 - (e + 1)) + 1 by omega]
  exact (if_pos hg).symm
theorem lgI_x {x m : UInt64} {e : Nat} (h : lgI x m e) (hg : ¬ (FP.dcmp m 4611686018427387904 = some .gt ∨ FP.dcmp m 4611686018427387904 = some .eq)) : lgs 40 x 0 = (m, e) := by
  have he := lgI_e h
  rw [← h.2.2, show 40 - e = (39 - e) + 1 by omega]
  exact if_neg hg
theorem lgI_lt {x m : UInt64} {e : Nat} (h : lgI x m e) (hg : ¬ (FP.dcmp m 4611686018427387904 = some .gt ∨ FP.dcmp m 4611686018427387904 = some .eq)) : m.toNat < 1024 * 2 ^ 52 := by
  have := mt (ge2 (by have := h.2.1; omega)).mpr hg
  omega
/-- m in [1, 2) -/
def l12 (m : UInt64) : Prop := 1023 * 2 ^ 52 ≤ m.toNat ∧ m.toNat < 1024 * 2 ^ 52
theorem l12_db {m : UInt64} (h : l12 m) : db 1024 m := by unfold db; have := h.1; have := h.2; omega
