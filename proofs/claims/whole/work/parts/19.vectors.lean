/-! VECTORSCORER: pure words -/
def nrq (f cf : Nat → UInt32) (cz : Nat) : Nat → Nat := fun q => nrs (prJ f (q * 4) cf) (cz - 1)
theorem nst_nI {P : Nat → UInt32} {cz : Nat} (h : ¬ nst P cz < 0) : 0 < cz ∧ nst P cz = nI (nrs P (cz - 1)) := by
  cases cz with
  | zero => exact absurd (show (-1 : Int32) < 0 by decide) h
  | succ m => exact ⟨Nat.succ_pos _, rfl⟩
theorem nst_m1 {P : Nat → UInt32} {cz : Nat} (hz : cz ≤ 4) (h : nst P cz < 0) : cz = 0 := by
  cases cz with
  | zero => rfl
  | succ m => exact absurd h (nI_pos (by have := nrs_le P m; omega))
def waN (cz : Nat) (nr : Nat → Nat) : Nat → Nat → Bool
  | 0 => fun _ => false
  | q + 1 => if cz = 0 then waN cz nr q else va_up (waN cz nr q) (nr q) true
def caF (cz : Nat) (wa : Nat → Bool) (nr : Nat → Nat) : Nat → Bool
  | 0 => false
  | t + 1 => caF cz wa nr t || (decide (0 < cz) && wa (nr t))
theorem caF_yes {cz : Nat} {wa : Nat → Bool} {nr : Nat → Nat} : ∀ {n k : Nat}, k < n → 0 < cz → wa (nr k) = true → caF cz wa nr n = true
  | 0, _, h, _, _ => absurd h (Nat.not_lt_zero _)
  | n + 1, k, h, h0, e => by
    unfold caF
    by_cases hk : k = n
    · subst hk; simp [e, h0]
    · rw [caF_yes (show k < n by omega) h0 e]; rfl
def zrR (f : Nat → Bool) (n : Nat) : Nat → Bool := fun k => if k < n then false else f k
theorem zrR_0 (f : Nat → Bool) : zrR f 0 = f := by funext d; exact if_neg (Nat.not_lt_zero _)
theorem zrR_s (f : Nat → Bool) (d : Nat) : va_up (zrR f d) d false = zrR f (d + 1) := by
  funext j
  unfold va_up zrR
  by_cases e : j = d
  · subst e; rw [if_pos rfl, if_pos (Nat.lt_succ_self _)]
  · rw [if_neg e]
    by_cases h : j < d
    · rw [if_pos h, if_pos (by omega)]
    · rw [if_neg h, if_neg (by omega)]
/-- the marks behind 'prepare': of the row's four places -/
def waG (wa : Nat → Bool) (cz : Nat) (nr : Nat → Nat) (vz : Nat) : Nat → Bool := fun k => if k < 4 then waN cz nr vz k else wa k
theorem waG_0 (wa : Nat → Bool) (cz : Nat) (nr : Nat → Nat) : zrR wa 4 = waG wa cz nr 0 := rfl
theorem waG_y {wa : Nat → Bool} {cz : Nat} {nr : Nat → Nat} {q : Nat} (h : 0 < cz) (hn : nr q < 4) : va_up (waG wa cz nr q) (nr q) true = waG wa cz nr (q + 1) := by
  have e0 : waN cz nr (q + 1) = va_up (waN cz nr q) (nr q) true := if_neg (by omega)
  funext k
  show (if k = nr q then true else (if k < 4 then waN cz nr q k else wa k)) = (if k < 4 then waN cz nr (q + 1) k else wa k)
  rw [e0]
  by_cases e : k = nr q
  · rw [if_pos e, e, if_pos hn, va_up_self]
  · rw [if_neg e, va_up_ne _ _ e]
theorem waG_n {wa : Nat → Bool} {cz : Nat} {nr : Nat → Nat} {q : Nat} (h : cz = 0) : waG wa cz nr (q + 1) = waG wa cz nr q := by
  have e0 : waN cz nr (q + 1) = waN cz nr q := if_pos h
  unfold waG
  rw [e0]
theorem caF_no {cz : Nat} {wa : Nat → Bool} {nr : Nat → Nat} {t : Nat} (h : caF cz wa nr t = false) (h2 : cz = 0 ∨ wa (nr t) = false) : caF cz wa nr (t + 1) = false := by
  show (caF cz wa nr t || (decide (0 < cz) && wa (nr t))) = false
  rw [h]
  rcases h2 with h2 | h2
  · rw [decide_eq_false (show ¬ 0 < cz by omega)]; rfl
  · rw [h2]; simp
def gpF (P : Nat → UInt32) : Nat → UInt32
  | 0 => P 0
  | n + 1 => gtF (gpF P n) (P (n + 1))
def gpZ (P : Nat → UInt32) : Nat → UInt32
  | 0 => FP.fconst0
  | n + 1 => gpF P n
def scF (G : Nat → UInt32) : Nat → UInt32
  | 0 => FP.fconst0
  | q + 1 => FP.fadd (scF G q) (G q)
theorem gtF_fb {K : Nat} {x y : UInt32} (hx : fb K x) (hy : fb K y) (hK : K ≤ 250) : fb (K + 2) (gtF x y) := by
  unfold gtF
  split
  · exact hx.up (by omega)
  · split
    · exact hy.up (by omega)
    · split
      · exact hx.add hy (by omega)
      · exact hx.up (by omega)
theorem gpF_fb {P : Nat → UInt32} (h : ∀ j, fb 178 (P j)) : ∀ n, n ≤ 4 → fb (178 + 2 * n) (gpF P n)
  | 0, _ => h 0
  | n + 1, hn => (gtF_fb (gpF_fb h n (by omega)) ((h (n + 1)).up (by omega)) (by omega)).up (by omega)
theorem gpZ_fb {P : Nat → UInt32} (h : ∀ j, fb 178 (P j)) : ∀ n, n ≤ 4 → fb 188 (gpZ P n)
  | 0, _ => show fb 188 FP.fconst0 by unfold fb; decide
  | n + 1, hn => (gpF_fb h n (by omega)).up (by omega)
theorem scF_fb {G : Nat → UInt32} (h : ∀ q, fb 188 (G q)) : ∀ q, q ≤ 4 → fb (188 + 2 * q) (scF G q)
  | 0, _ => show fb 188 FP.fconst0 by unfold fb; decide
  | q + 1, hq => ((scF_fb h q (by omega)).add ((h q).up (by omega)) (by omega)).up (by omega)
/-- the greatest product of the query's vector q and a document's tokens -/
def gqF (vf tf : Nat → UInt32) (tz : Nat) : Nat → UInt32 := fun q => gpZ (prJ vf (q * 4) tf) tz
def vsF (vf tf : Nat → UInt32) (tz vz : Nat) : UInt64 := FP.f2d (scF (gqF vf tf tz) vz)
theorem gqF_fb {vf tf : Nat → UInt32} {tz : Nat} (hv : gdF vf) (ht : gdF tf) (hz : tz ≤ 4) (q : Nat) : fb 188 (gqF vf tf tz q) := gpZ_fb (fun j => prJ_fb hv ht _ j) tz hz
def mtF (near : Bool) (cz : Nat) (wa : Nat → Bool) (tf cf : Nat → UInt32) (tz vz : Nat) : Bool := if near = true then caF cz wa (nrq tf cf cz) tz else decide (0 < tz ∧ 0 < vz)

set_option maxHeartbeats 4000000 in
set_option maxRecDepth 100000 in
/-- VectorScorer.prepare -/
theorem c_X8_prepare (l : Launch) (Γ : Gm) (b M : Nat) (mem : Nat → va_E) {near nn : Bool} {nd cz vz : Nat} {wa : Nat → Bool} {cf vf : Nat → UInt32} (hM : 138 ≤ M) (fS : mem 91 = .inr (7, [.ref (b + 1), .ref (b + 78), .ref (b + 92), .int (bI near)])) (fSw : mem 92 = aB Γ 4 wa) (fC : mem 1 = .inr (0, [.ref (b + 2), .ref (b + 19), .ref (b + 20), .ref (b + 37), .ref (b + 38), .int (nI nd)])) (fZ : mem 38 = .inr (6, [.ref (b + 39), .int (nI 4), .int (nI cz)])) (fZf : mem 39 = aF Γ 16 cf) (fV : mem 78 = .inr (6, [.ref (b + 79), .int (nI 3), .int (nI vz)])) (fVf : mem 79 = aF Γ 12 vf) (hcz : cz ≤ 4) (hvz : vz ≤ 3) (hcf : gdF cf) (hvf : gdF vf) : Ct l yX8_prepare (.code yX8_prepare cX8_prepare 4 none) ({ frames := 2, cells := 0, slots := 0, locals := 51 } : Room) Γ b M [.ref (b + 91), .int (bI nn)] mem (fun u => u 91 = .inr (7, [.ref (b + 1), .ref (b + 78), .ref (b + 92), .int (bI nn)]) ∧ u 92 = aB Γ 4 (waG wa cz (nrq vf cf cz) vz) ∧ ∀ j, j ≠ 91 → j ≠ 92 → u j = mem j) none := by
  refine mm_enter (cc := cX8_prepare) (by decide) (Nat.le_of_ble_eq_true rfl) ?_
  intro p e s m args below meth c ls hx hb hml hown hr hlocks hname hE hh hl
  have hl : lv_has ls 4 [(0, .ref (b + 91)), (1, .int (bI nn))] := hl
  have hfr : ∀ j, j ≠ 91 → j ≠ 92 → mem j = mem j := fun j _ _ => rfl
  refine lv_aload_n hx hb dX8_prepare_0 rfl (lv_at hl 0 rfl) ?_
  refine lv_iload_n hx hb dX8_prepare_1 rfl (lv_at hl 1 rfl) ?_
  refine gp_X8_near (fs' := [.ref (b + 1), .ref (b + 78), .ref (b + 92), .int (bI nn)]) hx hb hE hown hh (by omega) fS (bI_nar _) (bI_fit _) (show 3 < 4 by decide) rfl dX8_prepare_2 (fun H locs mem1 f2 k3 hh => ?_)
  have hfr4 : ∀ j, j ≠ 91 → j ≠ 92 → mem1 j = mem j := fun j c0 c1 => (k3 j (by omega)).trans (hfr j c0 c1)
  have f5 : mem1 92 = aB Γ 4 wa := (k3 _ (by omega)).trans fSw
  have f6 : mem1 1 = .inr (0, [.ref (b + 2), .ref (b + 19), .ref (b + 20), .ref (b + 37), .ref (b + 38), .int (nI nd)]) := (k3 _ (by omega)).trans fC
  have f7 : mem1 38 = .inr (6, [.ref (b + 39), .int (nI 4), .int (nI cz)]) := (k3 _ (by omega)).trans fZ
  have f8 : mem1 39 = aF Γ 16 cf := (k3 _ (by omega)).trans fZf
  have f9 : mem1 78 = .inr (6, [.ref (b + 79), .int (nI 3), .int (nI vz)]) := (k3 _ (by omega)).trans fV
  have f10 : mem1 79 = aF Γ 12 vf := (k3 _ (by omega)).trans fVf
  refine lv_iconst (v := (nI 0)) hx hb dX8_prepare_5 (by decide) ?_
  refine lv_istore_n (lv' := [(2, .int (nI 0)), (0, .ref (b + 91)), (1, .int (bI nn))]) hx hb dX8_prepare_6 rfl hl (by decide) rfl (fun ls hl => ?_)
  have loop7 : ∀ (n9 : Nat) (k : Nat), (4 - k) < n9 → (k ≤ 4) → ∀ (H : Heap) (locs : List Loc) (mem2 : Nat → va_E), mem2 91 = .inr (7, [.ref (b + 1), .ref (b + 78), .ref (b + 92), .int (bI nn)]) → mem2 92 = aB Γ 4 (zrR wa k) → (∀ j, j ≠ 91 → j ≠ 92 → mem2 j = mem j) → GH Γ b M mem2 s H locs → ∀ (ls : Array Slot), lv_has ls 4 [(2, .int (nI k)), (0, .ref (b + 91)), (1, .int (bI nn))] → W p l e ({ frames := 2, cells := 0, slots := 0, locals := 51 } : Room) s m args below meth c H locs 0 0 (MQ below (QC Γ b M (fun u => u 91 = .inr (7, [.ref (b + 1), .ref (b + 78), .ref (b + 92), .int (bI nn)]) ∧ u 92 = aB Γ 4 (waG wa cz (nrq vf cf cz) vz) ∧ ∀ j, j ≠ 91 → j ≠ 92 → u j = mem j) none) args s 0 0 (fun q => b ≤ q)) (F0 m 7 ls []) := by
    intro n9
    induction n9 with
    | zero => intro k hn; exact absurd hn (Nat.not_lt_zero _)
    | succ n9 ih =>
      intro k hn hk H locs mem11 f13 f14 hfr12 hh ls hl
      have f15 : mem11 1 = .inr (0, [.ref (b + 2), .ref (b + 19), .ref (b + 20), .ref (b + 37), .ref (b + 38), .int (nI nd)]) := (hfr12 _ (by omega) (by omega)).trans fC
      have f16 : mem11 38 = .inr (6, [.ref (b + 39), .int (nI 4), .int (nI cz)]) := (hfr12 _ (by omega) (by omega)).trans fZ
      have f17 : mem11 39 = aF Γ 16 cf := (hfr12 _ (by omega) (by omega)).trans fZf
      have f18 : mem11 78 = .inr (6, [.ref (b + 79), .int (nI 3), .int (nI vz)]) := (hfr12 _ (by omega) (by omega)).trans fV
      have f19 : mem11 79 = aF Γ 12 vf := (hfr12 _ (by omega) (by omega)).trans fVf
      have ih20 := ih
      refine lv_iload_n hx hb dX8_prepare_7 rfl (lv_at hl 0 rfl) ?_
      refine lv_iconst (v := (nI 4)) hx hb dX8_prepare_8 (by decide) ?_
      refine nn_icmp_ge (tgt := 25) hx hb dX8_prepare_9 (by decide) (by omega) (by omega) (fun h21 => ?_) (fun h21 => ?_)
      ·
        obtain rfl : k = 4 := by omega
        refine lv_iconst (v := (nI 0)) hx hb dX8_prepare_25 (by decide) ?_
        refine lv_istore_n (lv' := [(2, .int (nI 0)), (0, .ref (b + 91)), (1, .int (bI nn))]) hx hb dX8_prepare_26 rfl hl (by decide) rfl (fun ls hl => ?_)
        have loop27 : ∀ (n9 : Nat) (q : Nat), (vz - q) < n9 → (q ≤ vz) → ∀ (H : Heap) (locs : List Loc) (mem2 : Nat → va_E), mem2 91 = .inr (7, [.ref (b + 1), .ref (b + 78), .ref (b + 92), .int (bI nn)]) → mem2 92 = aB Γ 4 (waG wa cz (nrq vf cf cz) q) → (∀ j, j ≠ 91 → j ≠ 92 → mem2 j = mem j) → GH Γ b M mem2 s H locs → ∀ (ls : Array Slot), lv_has ls 4 [(2, .int (nI q)), (0, .ref (b + 91)), (1, .int (bI nn))] → W p l e ({ frames := 2, cells := 0, slots := 0, locals := 51 } : Room) s m args below meth c H locs 0 0 (MQ below (QC Γ b M (fun u => u 91 = .inr (7, [.ref (b + 1), .ref (b + 78), .ref (b + 92), .int (bI nn)]) ∧ u 92 = aB Γ 4 (waG wa cz (nrq vf cf cz) vz) ∧ ∀ j, j ≠ 91 → j ≠ 92 → u j = mem j) none) args s 0 0 (fun q => b ≤ q)) (F0 m 27 ls []) := by
          intro n9
          induction n9 with
          | zero => intro q hn; exact absurd hn (Nat.not_lt_zero _)
          | succ n9 ih =>
            intro q hn hq H locs mem22 f24 f25 hfr23 hh ls hl
            have f26 : mem22 1 = .inr (0, [.ref (b + 2), .ref (b + 19), .ref (b + 20), .ref (b + 37), .ref (b + 38), .int (nI nd)]) := (hfr23 _ (by omega) (by omega)).trans fC
            have f27 : mem22 38 = .inr (6, [.ref (b + 39), .int (nI 4), .int (nI cz)]) := (hfr23 _ (by omega) (by omega)).trans fZ
            have f28 : mem22 39 = aF Γ 16 cf := (hfr23 _ (by omega) (by omega)).trans fZf
            have f29 : mem22 78 = .inr (6, [.ref (b + 79), .int (nI 3), .int (nI vz)]) := (hfr23 _ (by omega) (by omega)).trans fV
            have f30 : mem22 79 = aF Γ 12 vf := (hfr23 _ (by omega) (by omega)).trans fVf
            have ih31 := ih
            refine lv_iload_n hx hb dX8_prepare_27 rfl (lv_at hl 0 rfl) ?_
            refine lv_aload_n hx hb dX8_prepare_28 rfl (lv_at hl 1 rfl) ?_
            refine gf_X8_queries hx hb hE hown hh (by omega) f24 rfl dX8_prepare_29 ?_
            refine mm_V0r (As := []) (rest := [.int (nI q)]) hx hb hml hown hE hl.1 hh (kc_X8_27 hE.2.1 ⟨Nat.le_of_ble_eq_true rfl, Nat.le_of_ble_eq_true rfl⟩) (c_X7_size l Γ b M mem22 (a := 78) (lim := 3) (sz := vz) (by omega) f29) rfl (by omega) f29 rfl rfl (Nat.le_of_ble_eq_true rfl) dX8_prepare_32 rfl rfl (fun H locs hh => ?_)
            refine nn_icmp_ge (tgt := 71) hx hb dX8_prepare_35 (by decide) (by omega) (by omega) (fun h32 => ?_) (fun h32 => ?_)
            ·
              obtain rfl : q = vz := by omega
              exact mm_vret hx hb hr hlocks hE hh (⟨f24, f25, hfr23⟩) dX8_prepare_71
            ·
              refine lv_aload_n hx hb dX8_prepare_38 rfl (lv_at hl 1 rfl) ?_
              refine gf_X8_queries hx hb hE hown hh (by omega) f24 rfl dX8_prepare_39 ?_
              refine lv_aload_n hx hb dX8_prepare_42 rfl (lv_at hl 1 rfl) ?_
              refine gf_X8_collection hx hb hE hown hh (by omega) f24 rfl dX8_prepare_43 ?_
              refine mm_V0r (As := []) (rest := [.ref (b + 78)]) hx hb hml hown hE hl.1 hh (kc_X8_33 hE.2.1 ⟨Nat.le_of_ble_eq_true rfl, Nat.le_of_ble_eq_true rfl⟩) (c_X0_centroidRow l Γ b M mem22 (nd := nd) (by omega) f26) rfl (by omega) f26 rfl rfl (Nat.le_of_ble_eq_true rfl) dX8_prepare_46 rfl rfl (fun H locs hh => ?_)
              refine lv_iload_n hx hb dX8_prepare_49 rfl (lv_at hl 0 rfl) ?_
              refine mm_V0r (As := [.ref (b + 38), .int (nI q)]) (rest := []) hx hb hml hown hE hl.1 hh (kc_X8_39 hE.2.1 ⟨Nat.le_of_ble_eq_true rfl, Nat.le_of_ble_eq_true rfl⟩) (c_X7_nearestIn l Γ b M mem22 (a := 78) (lim := 3) (sz := vz) (a2 := 38) (lim2 := 4) (sz2 := cz) (L := 12) (L2 := 16) (f := vf) (g := cf) (i := q) (by omega) (by omega) f29 f30 f27 f28 (by omega) (by omega) (by omega) (by omega) (hvf) (hcf)) rfl (by omega) f29 rfl rfl (Nat.le_of_ble_eq_true rfl) dX8_prepare_50 rfl rfl (fun H locs hh => ?_)
              refine lv_istore_n (lv' := [(3, .int (nst (prJ vf (q * 4) cf) cz)), (2, .int (nI q)), (0, .ref (b + 91)), (1, .int (bI nn))]) hx hb dX8_prepare_53 rfl hl (by decide) rfl (fun ls hl => ?_)
              refine lv_iload_n hx hb dX8_prepare_54 rfl (lv_at hl 0 rfl) ?_
              refine lv_if_lt (tgt := 65) hx hb dX8_prepare_55 (by decide) (fun h33 => ?_) (fun h33 => ?_)
              ·
                have hz0 := nst_m1 hcz h33
                refine nn_iinc (x := q) (d := 1) (lv' := [(2, .int (nI (q + 1))), (3, .int (nst (prJ vf (q * 4) cf) cz)), (0, .ref (b + 91)), (1, .int (bI nn))]) hx hb dX8_prepare_65 hl (k := 1) rfl (by decide) (by decide) rfl (fun ls hl => ?_)
                refine lv_goto (tgt := 27) hx hb dX8_prepare_68 (by decide) ?_
                exact ih31 (q + 1) (by omega) (by omega) _ _ mem22 (f24) (by rw [waG_n hz0]; exact f25) hfr23 hh ls (lv_sub hl [0, 2, 3] rfl)
              ·
                have hnn := nst_nI h33
                have hnnl := nrs_le (prJ vf (q * 4) cf) (cz - 1)
                rw [hnn.2] at hl
                refine lv_aload_n hx hb dX8_prepare_58 rfl (lv_at hl 2 rfl) ?_
                refine gf_X8_wanted hx hb hE hown hh (by omega) f24 rfl dX8_prepare_59 ?_
                refine lv_iload_n hx hb dX8_prepare_62 rfl (lv_at hl 0 rfl) ?_
                refine lv_iconst (v := (nI 1)) hx hb dX8_prepare_63 (by decide) ?_
                refine mm_zast hx hb hE hh (by omega) f25 (by omega) (by decide) rfl dX8_prepare_64 (fun H locs mem34 f35 k36 hh => ?_)
                rw [show nI 1 = bI true from rfl] at f35
                rw [va_up_bI] at f35
                have hfr37 : ∀ j, j ≠ 91 → j ≠ 92 → mem34 j = mem j := fun j c0 c1 => (k36 j (by omega)).trans (hfr23 j c0 c1)
                have f38 : mem34 91 = .inr (7, [.ref (b + 1), .ref (b + 78), .ref (b + 92), .int (bI nn)]) := (k36 _ (by omega)).trans f24
                have f39 : mem34 1 = .inr (0, [.ref (b + 2), .ref (b + 19), .ref (b + 20), .ref (b + 37), .ref (b + 38), .int (nI nd)]) := (k36 _ (by omega)).trans f26
                have f40 : mem34 38 = .inr (6, [.ref (b + 39), .int (nI 4), .int (nI cz)]) := (k36 _ (by omega)).trans f27
                have f41 : mem34 39 = aF Γ 16 cf := (k36 _ (by omega)).trans f28
                have f42 : mem34 78 = .inr (6, [.ref (b + 79), .int (nI 3), .int (nI vz)]) := (k36 _ (by omega)).trans f29
                have f43 : mem34 79 = aF Γ 12 vf := (k36 _ (by omega)).trans f30
                refine nn_iinc (x := q) (d := 1) (lv' := [(2, .int (nI (q + 1))), (3, .int (nI (nrs (prJ vf (q * 4) cf) (cz - 1)))), (0, .ref (b + 91)), (1, .int (bI nn))]) hx hb dX8_prepare_65 hl (k := 1) rfl (by decide) (by decide) rfl (fun ls hl => ?_)
                refine lv_goto (tgt := 27) hx hb dX8_prepare_68 (by decide) ?_
                exact ih31 (q + 1) (by omega) (by omega) _ _ mem34 (f38) (by rw [← waG_y hnn.1 (show nrq vf cf cz q < 4 by show nrs (prJ vf (q * 4) cf) (cz - 1) < 4; omega)]; exact f35) hfr37 hh ls (lv_sub hl [0, 2, 3] rfl)
        exact loop27 ((vz - 0) + 1) 0 (by omega) (by omega) _ _ mem11 (f13) (by rw [← waG_0]; exact f14) hfr12 hh ls (lv_sub hl [0, 1, 2] rfl)
      ·
        refine lv_aload_n hx hb dX8_prepare_12 rfl (lv_at hl 1 rfl) ?_
        refine gf_X8_wanted hx hb hE hown hh (by omega) f13 rfl dX8_prepare_13 ?_
        refine lv_iload_n hx hb dX8_prepare_16 rfl (lv_at hl 0 rfl) ?_
        refine lv_iconst (v := (nI 0)) hx hb dX8_prepare_17 (by decide) ?_
        refine mm_zast hx hb hE hh (by omega) f14 (by omega) (by decide) rfl dX8_prepare_18 (fun H locs mem44 f45 k46 hh => ?_)
        rw [show nI 0 = bI false from rfl] at f45
        rw [va_up_bI] at f45
        have hfr47 : ∀ j, j ≠ 91 → j ≠ 92 → mem44 j = mem j := fun j c0 c1 => (k46 j (by omega)).trans (hfr12 j c0 c1)
        have f48 : mem44 91 = .inr (7, [.ref (b + 1), .ref (b + 78), .ref (b + 92), .int (bI nn)]) := (k46 _ (by omega)).trans f13
        have f49 : mem44 1 = .inr (0, [.ref (b + 2), .ref (b + 19), .ref (b + 20), .ref (b + 37), .ref (b + 38), .int (nI nd)]) := (k46 _ (by omega)).trans f15
        have f50 : mem44 38 = .inr (6, [.ref (b + 39), .int (nI 4), .int (nI cz)]) := (k46 _ (by omega)).trans f16
        have f51 : mem44 39 = aF Γ 16 cf := (k46 _ (by omega)).trans f17
        have f52 : mem44 78 = .inr (6, [.ref (b + 79), .int (nI 3), .int (nI vz)]) := (k46 _ (by omega)).trans f18
        have f53 : mem44 79 = aF Γ 12 vf := (k46 _ (by omega)).trans f19
        refine nn_iinc (x := k) (d := 1) (lv' := [(2, .int (nI (k + 1))), (0, .ref (b + 91)), (1, .int (bI nn))]) hx hb dX8_prepare_19 hl (k := 0) rfl (by decide) (by decide) rfl (fun ls hl => ?_)
        refine lv_goto (tgt := 7) hx hb dX8_prepare_22 (by decide) ?_
        exact ih20 (k + 1) (by omega) (by omega) _ _ mem44 (f48) (by rw [← zrR_s]; exact f45) hfr47 hh ls (lv_sub hl [0, 1, 2] rfl)
  exact loop7 ((4 - 0) + 1) 0 (by omega) (by omega) _ _ mem1 (f2) (by rw [zrR_0]; exact f5) hfr4 hh ls (lv_sub hl [0, 1, 2] rfl)
set_option maxHeartbeats 4000000 in
set_option maxRecDepth 100000 in
/-- VectorScorer.isCandidate -/
theorem c_X8_isCandidate (l : Launch) (Γ : Gm) (b M : Nat) (mem : Nat → va_E) {near : Bool} {nd cz a sz : Nat} {wa : Nat → Bool} {cf f : Nat → UInt32} (hM : 138 ≤ M) (fS : mem 91 = .inr (7, [.ref (b + 1), .ref (b + 78), .ref (b + 92), .int (bI near)])) (fSw : mem 92 = aB Γ 4 wa) (fC : mem 1 = .inr (0, [.ref (b + 2), .ref (b + 19), .ref (b + 20), .ref (b + 37), .ref (b + 38), .int (nI nd)])) (fZ : mem 38 = .inr (6, [.ref (b + 39), .int (nI 4), .int (nI cz)])) (fZf : mem 39 = aF Γ 16 cf) (hMa : a + 2 ≤ M) (fa : mem a = .inr (6, [.ref (b + (a + 1)), .int (nI 4), .int (nI sz)])) (fn : mem (a + 1) = aF Γ 16 f) (hcz : cz ≤ 4) (hsz : sz ≤ 4) (hcf : gdF cf) (hf : gdF f) : Ct l yX8_isCandidate (.code yX8_isCandidate cX8_isCandidate 4 (some .boolean)) ({ frames := 2, cells := 0, slots := 0, locals := 51 } : Room) Γ b M [.ref (b + 91), .ref (b + a)] mem (fun u => u = mem) (some (.int (bI (caF cz wa (nrq f cf cz) sz)))) := by
  refine mm_enter (cc := cX8_isCandidate) (by decide) (Nat.le_of_ble_eq_true rfl) ?_
  intro p e s m args below meth c ls hx hb hml hown hr hlocks hname hE hh hl
  have hl : lv_has ls 4 [(0, .ref (b + 91)), (1, .ref (b + a))] := hl
  refine lv_iconst (v := (nI 0)) hx hb dX8_isCandidate_0 (by decide) ?_
  refine lv_istore_n (lv' := [(2, .int (nI 0)), (0, .ref (b + 91)), (1, .ref (b + a))]) hx hb dX8_isCandidate_1 rfl hl (by decide) rfl (fun ls hl => ?_)
  have loop2 : ∀ (n9 : Nat) (t : Nat), (sz - t) < n9 → (t ≤ sz) → (caF cz wa (nrq f cf cz) t = false) → ∀ (H : Heap) (locs : List Loc), GH Γ b M mem s H locs → ∀ (ls : Array Slot), lv_has ls 4 [(2, .int (nI t)), (0, .ref (b + 91)), (1, .ref (b + a))] → W p l e ({ frames := 2, cells := 0, slots := 0, locals := 51 } : Room) s m args below meth c H locs 0 0 (MQ below (QC Γ b M (fun u => u = mem) (some (.int (bI (caF cz wa (nrq f cf cz) sz))))) args s 0 0 (fun q => b ≤ q)) (F0 m 2 ls []) := by
    intro n9
    induction n9 with
    | zero => intro t hn; exact absurd hn (Nat.not_lt_zero _)
    | succ n9 ih =>
      intro t hn ht hno H locs hh ls hl
      have ih1 := ih
      refine lv_iload_n hx hb dX8_isCandidate_2 rfl (lv_at hl 0 rfl) ?_
      refine lv_aload_n hx hb dX8_isCandidate_3 rfl (lv_at hl 2 rfl) ?_
      refine mm_V0r (As := []) (rest := [.int (nI t)]) hx hb hml hown hE hl.1 hh (kc_X8_27 hE.2.1 ⟨Nat.le_of_ble_eq_true rfl, Nat.le_of_ble_eq_true rfl⟩) (c_X7_size l Γ b M mem (a := a) (lim := 4) (sz := sz) (by omega) fa) rfl (by omega) fa rfl rfl (Nat.le_of_ble_eq_true rfl) dX8_isCandidate_4 rfl rfl (fun H locs hh => ?_)
      refine nn_icmp_ge (tgt := 44) hx hb dX8_isCandidate_7 (by decide) (by omega) (by omega) (fun h2 => ?_) (fun h2 => ?_)
      ·
        refine lv_iconst (v := (nI 0)) hx hb dX8_isCandidate_44 (by decide) ?_
        exact mm_zret hx hb hr hlocks hE hh (by rw [← show t = sz by omega, hno]; rfl) (rfl) rfl dX8_isCandidate_45
      ·
        refine lv_aload_n hx hb dX8_isCandidate_10 rfl (lv_at hl 2 rfl) ?_
        refine lv_aload_n hx hb dX8_isCandidate_11 rfl (lv_at hl 1 rfl) ?_
        refine gf_X8_collection hx hb hE hown hh (by omega) fS rfl dX8_isCandidate_12 ?_
        refine mm_V0r (As := []) (rest := [.ref (b + a)]) hx hb hml hown hE hl.1 hh (kc_X8_33 hE.2.1 ⟨Nat.le_of_ble_eq_true rfl, Nat.le_of_ble_eq_true rfl⟩) (c_X0_centroidRow l Γ b M mem (nd := nd) (by omega) fC) rfl (by omega) fC rfl rfl (Nat.le_of_ble_eq_true rfl) dX8_isCandidate_15 rfl rfl (fun H locs hh => ?_)
        refine lv_iload_n hx hb dX8_isCandidate_18 rfl (lv_at hl 0 rfl) ?_
        refine mm_V0r (As := [.ref (b + 38), .int (nI t)]) (rest := []) hx hb hml hown hE hl.1 hh (kc_X8_39 hE.2.1 ⟨Nat.le_of_ble_eq_true rfl, Nat.le_of_ble_eq_true rfl⟩) (c_X7_nearestIn l Γ b M mem (a := a) (lim := 4) (sz := sz) (a2 := 38) (lim2 := 4) (sz2 := cz) (L := 16) (L2 := 16) (f := f) (g := cf) (i := t) (by omega) (by omega) fa fn fZ fZf (by omega) (by omega) (by omega) (by omega) (hf) (hcf)) rfl (by omega) fa rfl rfl (Nat.le_of_ble_eq_true rfl) dX8_isCandidate_19 rfl rfl (fun H locs hh => ?_)
        refine lv_istore_n (lv' := [(3, .int (nst (prJ f (t * 4) cf) cz)), (2, .int (nI t)), (0, .ref (b + 91)), (1, .ref (b + a))]) hx hb dX8_isCandidate_22 rfl hl (by decide) rfl (fun ls hl => ?_)
        refine lv_iload_n hx hb dX8_isCandidate_23 rfl (lv_at hl 0 rfl) ?_
        refine lv_if_lt (tgt := 38) hx hb dX8_isCandidate_24 (by decide) (fun h3 => ?_) (fun h3 => ?_)
        ·
          have hz0 := nst_m1 hcz h3
          have hno2 := caF_no hno (Or.inl hz0)
          refine nn_iinc (x := t) (d := 1) (lv' := [(2, .int (nI (t + 1))), (3, .int (nst (prJ f (t * 4) cf) cz)), (0, .ref (b + 91)), (1, .ref (b + a))]) hx hb dX8_isCandidate_38 hl (k := 1) rfl (by decide) (by decide) rfl (fun ls hl => ?_)
          refine lv_goto (tgt := 2) hx hb dX8_isCandidate_41 (by decide) ?_
          exact ih1 (t + 1) (by omega) (by omega) (hno2) _ _ hh ls (lv_sub hl [0, 2, 3] rfl)
        ·
          have hnn := nst_nI h3
          have hnnl := nrs_le (prJ f (t * 4) cf) (cz - 1)
          rw [hnn.2] at hl
          refine lv_aload_n hx hb dX8_isCandidate_27 rfl (lv_at hl 2 rfl) ?_
          refine gf_X8_wanted hx hb hE hown hh (by omega) fS rfl dX8_isCandidate_28 ?_
          refine lv_iload_n hx hb dX8_isCandidate_31 rfl (lv_at hl 0 rfl) ?_
          refine mm_zald hx hb hE hh (by omega) fSw (by omega) (by decide) dX8_isCandidate_32 ?_
          refine nn_beq (tgt := 38) hx hb dX8_isCandidate_33 (by decide) (fun h4 => ?_) (fun h4 => ?_)
          ·
            have hno2 := caF_no hno (Or.inr h4)
            refine nn_iinc (x := t) (d := 1) (lv' := [(2, .int (nI (t + 1))), (3, .int (nI (nrs (prJ f (t * 4) cf) (cz - 1)))), (0, .ref (b + 91)), (1, .ref (b + a))]) hx hb dX8_isCandidate_38 hl (k := 1) rfl (by decide) (by decide) rfl (fun ls hl => ?_)
            refine lv_goto (tgt := 2) hx hb dX8_isCandidate_41 (by decide) ?_
            exact ih1 (t + 1) (by omega) (by omega) (hno2) _ _ hh ls (lv_sub hl [0, 2, 3] rfl)
          ·
            have hy := caF_yes (wa := wa) (nr := nrq f cf cz) (show t < sz by omega) hnn.1 h4
            refine lv_iconst (v := (nI 1)) hx hb dX8_isCandidate_36 (by decide) ?_
            exact mm_zret hx hb hr hlocks hE hh (by rw [hy]; rfl) (rfl) rfl dX8_isCandidate_37
  exact loop2 ((sz - 0) + 1) 0 (by omega) (by omega) (rfl) _ _ hh ls (lv_sub hl [0, 1, 2] rfl)
set_option maxHeartbeats 4000000 in
set_option maxRecDepth 100000 in
/-- VectorScorer.matches -/
theorem c_X8_matches (l : Launch) (Γ : Gm) (b M : Nat) (mem : Nat → va_E) {near : Bool} {nd cz vz d : Nat} {wa : Nat → Bool} {cf vf : Nat → UInt32} {tz : Nat → Nat} {tf : Nat → Nat → UInt32} (hM : 138 ≤ M) (fS : mem 91 = .inr (7, [.ref (b + 1), .ref (b + 78), .ref (b + 92), .int (bI near)])) (fSw : mem 92 = aB Γ 4 wa) (fC : mem 1 = .inr (0, [.ref (b + 2), .ref (b + 19), .ref (b + 20), .ref (b + 37), .ref (b + 38), .int (nI nd)])) (fTo : mem 37 = aR Γ 6 16 (fun i => some (b + (40 + 2 * i)))) (ftz : ∀ z9, z9 < 16 → mem (40 + 2 * z9) = .inr (6, [.ref (b + (40 + 2 * z9 + 1)), .int (nI 4), .int (nI (tz z9))])) (ftf : ∀ z9, z9 < 16 → mem (40 + 2 * z9 + 1) = aF Γ 16 (tf z9)) (fZ : mem 38 = .inr (6, [.ref (b + 39), .int (nI 4), .int (nI cz)])) (fZf : mem 39 = aF Γ 16 cf) (fV : mem 78 = .inr (6, [.ref (b + 79), .int (nI 3), .int (nI vz)])) (fVf : mem 79 = aF Γ 12 vf) (hcz : cz ≤ 4) (hvz : vz ≤ 3) (htz : ∀ d, tz d ≤ 4) (hcf : gdF cf) (hvf : gdF vf) (htf : ∀ d, gdF (tf d)) (hd : d < 16) : Ct l yX8_matches (.code yX8_matches cX8_matches 3 (some .boolean)) ({ frames := 3, cells := 0, slots := 0, locals := 74 } : Room) Γ b M [.ref (b + 91), .int (nI d)] mem (fun u => u = mem) (some (.int (bI (mtF near cz wa (tf d) cf (tz d) vz)))) := by
  refine mm_enter (cc := cX8_matches) (by decide) (Nat.le_of_ble_eq_true rfl) ?_
  intro p e s m args below meth c ls hx hb hml hown hr hlocks hname hE hh hl
  have hl : lv_has ls 3 [(0, .ref (b + 91)), (1, .int (nI d))] := hl
  have htd := htz d
  refine lv_aload_n hx hb dX8_matches_0 rfl (lv_at hl 0 rfl) ?_
  refine gf_X8_collection hx hb hE hown hh (by omega) fS rfl dX8_matches_1 ?_
  refine lv_iload_n hx hb dX8_matches_4 rfl (lv_at hl 1 rfl) ?_
  refine mm_V0r (As := [.int (nI d)]) (rest := []) hx hb hml hown hE hl.1 hh (kc_X8_43 hE.2.1 ⟨Nat.le_of_ble_eq_true rfl, Nat.le_of_ble_eq_true rfl⟩) (c_X0_tokensOf l Γ b M mem (nd := nd) (d := d) (by omega) fC fTo (by omega)) rfl (by omega) fC rfl rfl (Nat.le_of_ble_eq_true rfl) dX8_matches_5 rfl rfl (fun H locs hh => ?_)
  refine lv_astore_n (lv' := [(2, .ref (b + (40 + 2 * d))), (0, .ref (b + 91)), (1, .int (nI d))]) hx hb dX8_matches_8 rfl hl (by decide) rfl (fun ls hl => ?_)
  refine lv_aload_n hx hb dX8_matches_9 rfl (lv_at hl 1 rfl) ?_
  refine gf_X8_near hx hb hE hown hh (by omega) fS rfl dX8_matches_10 ?_
  refine nn_beq (tgt := 22) hx hb dX8_matches_13 (by decide) (fun h1 => ?_) (fun h1 => ?_)
  ·
    have hq : mtF near cz wa (tf d) cf (tz d) vz = decide (0 < tz d ∧ 0 < vz) := if_neg (by rw [h1]; decide)
    refine lv_aload_n hx hb dX8_matches_22 rfl (lv_at hl 0 rfl) ?_
    refine mm_V0r (As := []) (rest := []) hx hb hml hown hE hl.1 hh (kc_X8_27 hE.2.1 ⟨Nat.le_of_ble_eq_true rfl, Nat.le_of_ble_eq_true rfl⟩) (c_X7_size l Γ b M mem (a := 40 + 2 * d) (lim := 4) (sz := tz d) (by omega) (ftz d (by omega))) rfl (by omega) (ftz d (by omega)) rfl rfl (Nat.le_of_ble_eq_true rfl) dX8_matches_23 rfl rfl (fun H locs hh => ?_)
    refine nn_if_le (tgt := 43) hx hb dX8_matches_26 (by decide) (by omega) (fun h2 => ?_) (fun h2 => ?_)
    ·
      refine lv_iconst (v := (nI 0)) hx hb dX8_matches_43 (by decide) ?_
      exact mm_zret hx hb hr hlocks hE hh (by rw [hq]; simp_all [bI, nI]) (rfl) rfl dX8_matches_44
    ·
      refine lv_aload_n hx hb dX8_matches_29 rfl (lv_at hl 1 rfl) ?_
      refine gf_X8_queries hx hb hE hown hh (by omega) fS rfl dX8_matches_30 ?_
      refine mm_V0r (As := []) (rest := []) hx hb hml hown hE hl.1 hh (kc_X8_27 hE.2.1 ⟨Nat.le_of_ble_eq_true rfl, Nat.le_of_ble_eq_true rfl⟩) (c_X7_size l Γ b M mem (a := 78) (lim := 3) (sz := vz) (by omega) fV) rfl (by omega) fV rfl rfl (Nat.le_of_ble_eq_true rfl) dX8_matches_33 rfl rfl (fun H locs hh => ?_)
      refine nn_if_le (tgt := 43) hx hb dX8_matches_36 (by decide) (by omega) (fun h3 => ?_) (fun h3 => ?_)
      ·
        refine lv_iconst (v := (nI 0)) hx hb dX8_matches_43 (by decide) ?_
        exact mm_zret hx hb hr hlocks hE hh (by rw [hq]; simp_all [bI, nI]) (rfl) rfl dX8_matches_44
      ·
        refine lv_iconst (v := (nI 1)) hx hb dX8_matches_39 (by decide) ?_
        refine lv_goto (tgt := 44) hx hb dX8_matches_40 (by decide) ?_
        exact mm_zret hx hb hr hlocks hE hh (by rw [hq]; simp_all [bI, nI]) (rfl) rfl dX8_matches_44
  ·
    have hq : mtF near cz wa (tf d) cf (tz d) vz = caF cz wa (nrq (tf d) cf cz) (tz d) := if_pos h1
    refine lv_aload_n hx hb dX8_matches_16 rfl (lv_at hl 1 rfl) ?_
    refine lv_aload_n hx hb dX8_matches_17 rfl (lv_at hl 0 rfl) ?_
    refine mm_V0r (As := [.ref (b + (40 + 2 * d))]) (rest := []) hx hb hml hown hE hl.1 hh (kc_X8_47 hE.2.1 ⟨Nat.le_of_ble_eq_true rfl, Nat.le_of_ble_eq_true rfl⟩) (c_X8_isCandidate l Γ b M mem (near := near) (nd := nd) (cz := cz) (a := 40 + 2 * d) (sz := tz d) (wa := wa) (cf := cf) (f := tf d) (by omega) fS fSw fC fZ fZf (by omega) (ftz d (by omega)) (ftf d (by omega)) (by omega) (by omega) (hcf) (htf d)) rfl (by omega) fS rfl rfl (Nat.le_of_ble_eq_true rfl) dX8_matches_18 rfl rfl (fun H locs hh => ?_)
    exact mm_zret hx hb hr hlocks hE hh (by rw [hq]) (rfl) (bI_nar _) dX8_matches_21
set_option maxHeartbeats 4000000 in
set_option maxRecDepth 100000 in
/-- VectorScorer.greatestProduct -/
theorem c_X8_greatestProduct (l : Launch) (Γ : Gm) (b M : Nat) (mem : Nat → va_E) {near : Bool} {vz a sz i : Nat} {vf f : Nat → UInt32} (hM : 138 ≤ M) (fS : mem 91 = .inr (7, [.ref (b + 1), .ref (b + 78), .ref (b + 92), .int (bI near)])) (fV : mem 78 = .inr (6, [.ref (b + 79), .int (nI 3), .int (nI vz)])) (fVf : mem 79 = aF Γ 12 vf) (hMa : a + 2 ≤ M) (fa : mem a = .inr (6, [.ref (b + (a + 1)), .int (nI 4), .int (nI sz)])) (fn : mem (a + 1) = aF Γ 16 f) (hvz : vz ≤ 3) (hi : i < vz) (hsz : sz ≤ 4) (hvf : gdF vf) (hf : gdF f) : Ct l yX8_greatestProduct (.code yX8_greatestProduct cX8_greatestProduct 5 (some .float)) ({ frames := 1, cells := 0, slots := 0, locals := 25 } : Room) Γ b M [.ref (b + 91), .int (nI i), .ref (b + a)] mem (fun u => u = mem) (some (.float (gqF vf f sz i))) := by
  refine mm_enter (cc := cX8_greatestProduct) (by decide) (Nat.le_of_ble_eq_true rfl) ?_
  intro p e s m args below meth c ls hx hb hml hown hr hlocks hname hE hh hl
  have hl : lv_has ls 5 [(0, .ref (b + 91)), (1, .int (nI i)), (2, .ref (b + a))] := hl
  refine lv_aload_n hx hb dX8_greatestProduct_0 rfl (lv_at hl 2 rfl) ?_
  refine mm_V0r (As := []) (rest := []) hx hb hml hown hE hl.1 hh (kc_X8_27 hE.2.1 ⟨Nat.le_of_ble_eq_true rfl, Nat.le_of_ble_eq_true rfl⟩) (c_X7_size l Γ b M mem (a := a) (lim := 4) (sz := sz) (by omega) fa) rfl (by omega) fa rfl rfl (Nat.le_of_ble_eq_true rfl) dX8_greatestProduct_1 rfl rfl (fun H locs hh => ?_)
  refine nn_if_ne (tgt := 9) hx hb dX8_greatestProduct_4 (by decide) (by omega) (fun h1 => ?_) (fun h1 => ?_)
  ·
    refine lv_aload_n hx hb dX8_greatestProduct_9 rfl (lv_at hl 0 rfl) ?_
    refine gf_X8_queries hx hb hE hown hh (by omega) fS rfl dX8_greatestProduct_10 ?_
    refine lv_iload_n hx hb dX8_greatestProduct_13 rfl (lv_at hl 1 rfl) ?_
    refine lv_aload_n hx hb dX8_greatestProduct_14 rfl (lv_at hl 2 rfl) ?_
    refine lv_iconst (v := (nI 0)) hx hb dX8_greatestProduct_15 (by decide) ?_
    refine mm_V0r (As := [.int (nI i), .ref (b + a), .int (nI 0)]) (rest := []) hx hb hml hown hE hl.1 hh (kc_X8_55 hE.2.1 ⟨Nat.le_of_ble_eq_true rfl, Nat.le_of_ble_eq_true rfl⟩) (c_X7_product l Γ b M mem (a := 78) (lim := 3) (sz := vz) (a2 := a) (lim2 := 4) (sz2 := sz) (L := 12) (L2 := 16) (f := vf) (g := f) (i := i) (j := 0) (by omega) (by omega) fV fVf fa fn (by omega) (by omega) (by omega) (by omega) (hvf) (hf)) rfl (by omega) fV rfl rfl (Nat.le_of_ble_eq_true rfl) dX8_greatestProduct_16 rfl rfl (fun H locs hh => ?_)
    refine lv_fstore_n (lv' := [(3, .float (prJ vf (i * 4) f 0)), (0, .ref (b + 91)), (1, .int (nI i)), (2, .ref (b + a))]) hx hb dX8_greatestProduct_19 rfl hl (by decide) rfl (fun ls hl => ?_)
    refine lv_iconst (v := (nI 1)) hx hb dX8_greatestProduct_20 (by decide) ?_
    refine lv_istore (lv' := [(4, .int (nI 1)), (3, .float (prJ vf (i * 4) f 0)), (0, .ref (b + 91)), (1, .int (nI i)), (2, .ref (b + a))]) hx hb dX8_greatestProduct_21 hl (by decide) rfl (fun ls hl => ?_)
    have loop23 : ∀ (n9 : Nat) (t : Nat), (sz - t) < n9 → (t + 1 ≤ sz) → ∀ (H : Heap) (locs : List Loc), GH Γ b M mem s H locs → ∀ (ls : Array Slot), lv_has ls 5 [(4, .int (nI (t + 1))), (3, .float (gpF (prJ vf (i * 4) f) t)), (0, .ref (b + 91)), (1, .int (nI i)), (2, .ref (b + a))] → W p l e ({ frames := 1, cells := 0, slots := 0, locals := 25 } : Room) s m args below meth c H locs 0 0 (MQ below (QC Γ b M (fun u => u = mem) (some (.float (gqF vf f sz i)))) args s 0 0 (fun q => b ≤ q)) (F0 m 23 ls []) := by
      intro n9
      induction n9 with
      | zero => intro t hn; exact absurd hn (Nat.not_lt_zero _)
      | succ n9 ih =>
        intro t hn ht H locs hh ls hl
        have ih2 := ih
        refine lv_iload hx hb dX8_greatestProduct_23 (lv_at hl 0 rfl) ?_
        refine lv_aload_n hx hb dX8_greatestProduct_25 rfl (lv_at hl 4 rfl) ?_
        refine mm_V0r (As := []) (rest := [.int (nI (t + 1))]) hx hb hml hown hE hl.1 hh (kc_X8_27 hE.2.1 ⟨Nat.le_of_ble_eq_true rfl, Nat.le_of_ble_eq_true rfl⟩) (c_X7_size l Γ b M mem (a := a) (lim := 4) (sz := sz) (by omega) fa) rfl (by omega) fa rfl rfl (Nat.le_of_ble_eq_true rfl) dX8_greatestProduct_26 rfl rfl (fun H locs hh => ?_)
        refine nn_icmp_ge (tgt := 54) hx hb dX8_greatestProduct_29 (by decide) (by omega) (by omega) (fun h3 => ?_) (fun h3 => ?_)
        ·
          have hq : gqF vf f sz i = gpF (prJ vf (i * 4) f) t := by rw [show sz = t + 1 by omega]; rfl
          refine lv_fload_n hx hb dX8_greatestProduct_54 rfl (lv_at hl 1 rfl) ?_
          exact mm_fret hx hb hr hlocks hE hh (by rw [hq]) (rfl) dX8_greatestProduct_55
        ·
          refine lv_fload_n hx hb dX8_greatestProduct_32 rfl (lv_at hl 1 rfl) ?_
          refine lv_aload_n hx hb dX8_greatestProduct_33 rfl (lv_at hl 2 rfl) ?_
          refine gf_X8_queries hx hb hE hown hh (by omega) fS rfl dX8_greatestProduct_34 ?_
          refine lv_iload_n hx hb dX8_greatestProduct_37 rfl (lv_at hl 3 rfl) ?_
          refine lv_aload_n hx hb dX8_greatestProduct_38 rfl (lv_at hl 4 rfl) ?_
          refine lv_iload hx hb dX8_greatestProduct_39 (lv_at hl 0 rfl) ?_
          refine mm_V0r (As := [.int (nI i), .ref (b + a), .int (nI (t + 1))]) (rest := [.float (gpF (prJ vf (i * 4) f) t)]) hx hb hml hown hE hl.1 hh (kc_X8_55 hE.2.1 ⟨Nat.le_of_ble_eq_true rfl, Nat.le_of_ble_eq_true rfl⟩) (c_X7_product l Γ b M mem (a := 78) (lim := 3) (sz := vz) (a2 := a) (lim2 := 4) (sz2 := sz) (L := 12) (L2 := 16) (f := vf) (g := f) (i := i) (j := t + 1) (by omega) (by omega) fV fVf fa fn (by omega) (by omega) (by omega) (by omega) (hvf) (hf)) rfl (by omega) fV rfl rfl (Nat.le_of_ble_eq_true rfl) dX8_greatestProduct_41 rfl rfl (fun H locs hh => ?_)
          refine mm_SN0r (As := [.float (gpF (prJ vf (i * 4) f) t), .float (prJ vf (i * 4) f (t + 1))]) (rest := []) hx hb hml hown hE hl.1 hh (kc_X8_59 hE.2.1 hE.2.2.1 ⟨Nat.le_of_ble_eq_true rfl, Nat.le_of_ble_eq_true rfl⟩) (c_X9_greater l Γ b M mem (x := gpF (prJ vf (i * 4) f) t) (y := prJ vf (i * 4) f (t + 1)) ((gpF_fb (fun j => prJ_fb hvf hf _ j) t (by omega)).up (by omega)) ((prJ_fb hvf hf _ _).up (by decide))) rfl rfl (Nat.le_of_ble_eq_true rfl) dX8_greatestProduct_44 rfl rfl (fun H locs hh => ?_)
          refine lv_fstore_n (lv' := [(3, .float (gtF (gpF (prJ vf (i * 4) f) t) (prJ vf (i * 4) f (t + 1)))), (4, .int (nI (t + 1))), (0, .ref (b + 91)), (1, .int (nI i)), (2, .ref (b + a))]) hx hb dX8_greatestProduct_47 rfl hl (by decide) rfl (fun ls hl => ?_)
          refine nn_iinc (x := (t + 1)) (d := 1) (lv' := [(4, .int (nI (t + 1 + 1))), (3, .float (gtF (gpF (prJ vf (i * 4) f) t) (prJ vf (i * 4) f (t + 1)))), (0, .ref (b + 91)), (1, .int (nI i)), (2, .ref (b + a))]) hx hb dX8_greatestProduct_48 hl (k := 1) rfl (by decide) (by decide) rfl (fun ls hl => ?_)
          refine lv_goto (tgt := 23) hx hb dX8_greatestProduct_51 (by decide) ?_
          exact ih2 (t + 1) (by omega) (by omega) _ _ hh ls (lv_sub hl [0, 1, 2, 3, 4] rfl)
    exact loop23 ((sz - 0) + 1) 0 (by omega) (by omega) _ _ hh ls (lv_sub hl [0, 1, 2, 3, 4] rfl)
  ·
    have hq : gqF vf f sz i = FP.fconst0 := by rw [h1]; rfl
    refine lv_fconst0 hx hb dX8_greatestProduct_7 ?_
    exact mm_fret hx hb hr hlocks hE hh (by rw [hq]) (rfl) dX8_greatestProduct_8
set_option maxHeartbeats 4000000 in
set_option maxRecDepth 100000 in
/-- VectorScorer.scoreOf -/
theorem c_X8_scoreOf (l : Launch) (Γ : Gm) (b M : Nat) (mem : Nat → va_E) {near : Bool} {nd cz vz d : Nat} {wa : Nat → Bool} {cf vf : Nat → UInt32} {tz : Nat → Nat} {tf : Nat → Nat → UInt32} (hM : 138 ≤ M) (fS : mem 91 = .inr (7, [.ref (b + 1), .ref (b + 78), .ref (b + 92), .int (bI near)])) (fSw : mem 92 = aB Γ 4 wa) (fC : mem 1 = .inr (0, [.ref (b + 2), .ref (b + 19), .ref (b + 20), .ref (b + 37), .ref (b + 38), .int (nI nd)])) (fTo : mem 37 = aR Γ 6 16 (fun i => some (b + (40 + 2 * i)))) (ftz : ∀ z9, z9 < 16 → mem (40 + 2 * z9) = .inr (6, [.ref (b + (40 + 2 * z9 + 1)), .int (nI 4), .int (nI (tz z9))])) (ftf : ∀ z9, z9 < 16 → mem (40 + 2 * z9 + 1) = aF Γ 16 (tf z9)) (fZ : mem 38 = .inr (6, [.ref (b + 39), .int (nI 4), .int (nI cz)])) (fZf : mem 39 = aF Γ 16 cf) (fV : mem 78 = .inr (6, [.ref (b + 79), .int (nI 3), .int (nI vz)])) (fVf : mem 79 = aF Γ 12 vf) (hcz : cz ≤ 4) (hvz : vz ≤ 3) (htz : ∀ d, tz d ≤ 4) (hcf : gdF cf) (hvf : gdF vf) (htf : ∀ d, gdF (tf d)) (hd : d < 16) : Ct l yX8_scoreOf (.code yX8_scoreOf cX8_scoreOf 5 (some .double)) ({ frames := 2, cells := 0, slots := 0, locals := 49 } : Room) Γ b M [.ref (b + 91), .int (nI d)] mem (fun u => u = mem) (some (.double (vsF vf (tf d) (tz d) vz))) := by
  refine mm_enter (cc := cX8_scoreOf) (by decide) (Nat.le_of_ble_eq_true rfl) ?_
  intro p e s m args below meth c ls hx hb hml hown hr hlocks hname hE hh hl
  have hl : lv_has ls 5 [(0, .ref (b + 91)), (1, .int (nI d))] := hl
  have htd := htz d
  refine lv_aload_n hx hb dX8_scoreOf_0 rfl (lv_at hl 0 rfl) ?_
  refine gf_X8_collection hx hb hE hown hh (by omega) fS rfl dX8_scoreOf_1 ?_
  refine lv_iload_n hx hb dX8_scoreOf_4 rfl (lv_at hl 1 rfl) ?_
  refine mm_V0r (As := [.int (nI d)]) (rest := []) hx hb hml hown hE hl.1 hh (kc_X8_43 hE.2.1 ⟨Nat.le_of_ble_eq_true rfl, Nat.le_of_ble_eq_true rfl⟩) (c_X0_tokensOf l Γ b M mem (nd := nd) (d := d) (by omega) fC fTo (by omega)) rfl (by omega) fC rfl rfl (Nat.le_of_ble_eq_true rfl) dX8_scoreOf_5 rfl rfl (fun H locs hh => ?_)
  refine lv_astore_n (lv' := [(2, .ref (b + (40 + 2 * d))), (0, .ref (b + 91)), (1, .int (nI d))]) hx hb dX8_scoreOf_8 rfl hl (by decide) rfl (fun ls hl => ?_)
  refine lv_fconst0 hx hb dX8_scoreOf_9 ?_
  refine lv_fstore_n (lv' := [(3, .float FP.fconst0), (2, .ref (b + (40 + 2 * d))), (0, .ref (b + 91)), (1, .int (nI d))]) hx hb dX8_scoreOf_10 rfl hl (by decide) rfl (fun ls hl => ?_)
  refine lv_iconst (v := (nI 0)) hx hb dX8_scoreOf_11 (by decide) ?_
  refine lv_istore (lv' := [(4, .int (nI 0)), (3, .float FP.fconst0), (2, .ref (b + (40 + 2 * d))), (0, .ref (b + 91)), (1, .int (nI d))]) hx hb dX8_scoreOf_12 hl (by decide) rfl (fun ls hl => ?_)
  have loop14 : ∀ (n9 : Nat) (q : Nat), (vz - q) < n9 → (q ≤ vz) → ∀ (H : Heap) (locs : List Loc), GH Γ b M mem s H locs → ∀ (ls : Array Slot), lv_has ls 5 [(4, .int (nI q)), (3, .float (scF (gqF vf (tf d) (tz d)) q)), (0, .ref (b + 91)), (1, .int (nI d)), (2, .ref (b + (40 + 2 * d)))] → W p l e ({ frames := 2, cells := 0, slots := 0, locals := 49 } : Room) s m args below meth c H locs 0 0 (MQ below (QC Γ b M (fun u => u = mem) (some (.double (vsF vf (tf d) (tz d) vz)))) args s 0 0 (fun q => b ≤ q)) (F0 m 14 ls []) := by
    intro n9
    induction n9 with
    | zero => intro q hn; exact absurd hn (Nat.not_lt_zero _)
    | succ n9 ih =>
      intro q hn hq H locs hh ls hl
      have ih1 := ih
      refine lv_iload hx hb dX8_scoreOf_14 (lv_at hl 0 rfl) ?_
      refine lv_aload_n hx hb dX8_scoreOf_16 rfl (lv_at hl 2 rfl) ?_
      refine gf_X8_queries hx hb hE hown hh (by omega) fS rfl dX8_scoreOf_17 ?_
      refine mm_V0r (As := []) (rest := [.int (nI q)]) hx hb hml hown hE hl.1 hh (kc_X8_27 hE.2.1 ⟨Nat.le_of_ble_eq_true rfl, Nat.le_of_ble_eq_true rfl⟩) (c_X7_size l Γ b M mem (a := 78) (lim := 3) (sz := vz) (by omega) fV) rfl (by omega) fV rfl rfl (Nat.le_of_ble_eq_true rfl) dX8_scoreOf_20 rfl rfl (fun H locs hh => ?_)
      refine nn_icmp_ge (tgt := 42) hx hb dX8_scoreOf_23 (by decide) (by omega) (by omega) (fun h2 => ?_) (fun h2 => ?_)
      ·
        obtain rfl : q = vz := by omega
        refine lv_fload_n hx hb dX8_scoreOf_42 rfl (lv_at hl 1 rfl) ?_
        refine lv_f2d hx hb dX8_scoreOf_43 (f2d_n ((scF_fb (gqF_fb hvf (htf d) htd) q (by omega)).n (by omega))) ?_
        exact mm_dret hx hb hr hlocks hE hh (rfl) (rfl) dX8_scoreOf_44
      ·
        refine lv_fload_n hx hb dX8_scoreOf_26 rfl (lv_at hl 1 rfl) ?_
        refine lv_aload_n hx hb dX8_scoreOf_27 rfl (lv_at hl 2 rfl) ?_
        refine lv_iload hx hb dX8_scoreOf_28 (lv_at hl 0 rfl) ?_
        refine lv_aload_n hx hb dX8_scoreOf_30 rfl (lv_at hl 4 rfl) ?_
        refine mm_V0r (As := [.int (nI q), .ref (b + (40 + 2 * d))]) (rest := [.float (scF (gqF vf (tf d) (tz d)) q)]) hx hb hml hown hE hl.1 hh (kc_X8_51 hE.2.1 ⟨Nat.le_of_ble_eq_true rfl, Nat.le_of_ble_eq_true rfl⟩) (c_X8_greatestProduct l Γ b M mem (near := near) (vz := vz) (a := 40 + 2 * d) (sz := tz d) (i := q) (vf := vf) (f := tf d) (by omega) fS fV fVf (by omega) (ftz d (by omega)) (ftf d (by omega)) (by omega) (by omega) (by omega) (hvf) (htf d)) rfl (by omega) fS rfl rfl (Nat.le_of_ble_eq_true rfl) dX8_scoreOf_31 rfl rfl (fun H locs hh => ?_)
        refine lv_fadd hx hb dX8_scoreOf_34 ((scF_fb (gqF_fb hvf (htf d) htd) (q + 1) (by omega)).n (by omega)) ?_
        refine lv_fstore_n (lv' := [(3, .float (FP.fadd (scF (gqF vf (tf d) (tz d)) q) (gqF vf (tf d) (tz d) q))), (4, .int (nI q)), (0, .ref (b + 91)), (1, .int (nI d)), (2, .ref (b + (40 + 2 * d)))]) hx hb dX8_scoreOf_35 rfl hl (by decide) rfl (fun ls hl => ?_)
        refine nn_iinc (x := q) (d := 1) (lv' := [(4, .int (nI (q + 1))), (3, .float (FP.fadd (scF (gqF vf (tf d) (tz d)) q) (gqF vf (tf d) (tz d) q))), (0, .ref (b + 91)), (1, .int (nI d)), (2, .ref (b + (40 + 2 * d)))]) hx hb dX8_scoreOf_36 hl (k := 1) rfl (by decide) (by decide) rfl (fun ls hl => ?_)
        refine lv_goto (tgt := 14) hx hb dX8_scoreOf_39 (by decide) ?_
        exact ih1 (q + 1) (by omega) (by omega) _ _ hh ls (lv_sub hl [0, 1, 2, 3, 4] rfl)
  exact loop14 ((vz - 0) + 1) 0 (by omega) (by omega) _ _ hh ls (lv_sub hl [0, 1, 3, 4, 2] rfl)
