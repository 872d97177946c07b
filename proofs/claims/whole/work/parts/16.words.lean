/-! inverseFrequency, wordPart: pure words -/
def idfQ (n f : Nat) : UInt64 := FP.ddiv (FP.dadd (FP.i2d (nI (n - f))) 4602678819172646912) (FP.dadd (FP.i2d (nI f)) 4602678819172646912)
def idfA (n f : Nat) : UInt64 := FP.dadd FP.dconst1 (idfQ n f)
def idfF (n f : Nat) : UInt64 := lgF (idfA n f)
def idfC (n f : Nat) : Bool := decide ((FP.dadd (FP.i2d (nI (n - f))) 4602678819172646912).toNat % 2 ^ 63 < 2047 * 2 ^ 52 ∧ (FP.dadd (FP.i2d (nI f)) 4602678819172646912).toNat % 2 ^ 63 < 2047 * 2 ^ 52 ∧ (idfQ n f).toNat % 2 ^ 63 < 2047 * 2 ^ 52 ∧ (idfA n f).toNat % 2 ^ 63 < 2047 * 2 ^ 52 ∧ (1023 * 2 ^ 52 ≤ (idfA n f).toNat ∧ (idfA n f).toNat < 1060 * 2 ^ 52) ∧ (1017 * 2 ^ 52 ≤ (idfF n f).toNat ∧ (idfF n f).toNat < 1030 * 2 ^ 52))
theorem idf_all : (List.range 17).all (fun n => (List.range 17).all (fun f => !decide (f ≤ n) || idfC n f)) = true := by decide +kernel
theorem idf_ok {n f : Nat} (hn : n ≤ 16) (hf : f ≤ n) : idfC n f = true := by
  have h1 := List.all_eq_true.mp idf_all n (List.mem_range.mpr (by omega))
  have h2 := List.all_eq_true.mp h1 f (List.mem_range.mpr (by omega))
  simpa [hf] using h2
theorem idf_sp {n f : Nat} (hn : n ≤ 16) (hf : f ≤ n) : (FP.dadd (FP.i2d (nI (n - f))) 4602678819172646912).toNat % 2 ^ 63 < 2047 * 2 ^ 52 ∧ (FP.dadd (FP.i2d (nI f)) 4602678819172646912).toNat % 2 ^ 63 < 2047 * 2 ^ 52 ∧ (idfQ n f).toNat % 2 ^ 63 < 2047 * 2 ^ 52 ∧ (idfA n f).toNat % 2 ^ 63 < 2047 * 2 ^ 52 ∧ (1023 * 2 ^ 52 ≤ (idfA n f).toNat ∧ (idfA n f).toNat < 1060 * 2 ^ 52) ∧ (1017 * 2 ^ 52 ≤ (idfF n f).toNat ∧ (idfF n f).toNat < 1030 * 2 ^ 52) := of_decide_eq_true (idf_ok hn hf)
/-- a number of a known range above 0 -/
def dG (L K : Nat) (x : UInt64) : Prop := dp x ∧ dl L x ∧ db K x
theorem idf_G {n f : Nat} (hn : n ≤ 16) (hf : f ≤ n) : dG 1017 1030 (idfF n f) := by
  obtain ⟨-, -, -, -, -, h1, h2⟩ := idf_sp hn hf
  refine ⟨?_, ?_, ?_⟩
  · unfold dp; omega
  · unfold dl; omega
  · unfold db; omega
theorem dG.gt {L K : Nat} {x : UInt64} (h : dG L K x) (hL : 1 ≤ L) (hK : K ≤ 2047) : FP.dcmp x FP.dconst0 = some .gt := by
  obtain ⟨h1, h2, h3⟩ := h
  have hx := (h3.fin hK).ne_nan
  have hz : FP.Core.val64 FP.dconst0 ≠ .nan := by rw [FP.Core.ne_nan]; decide
  have h4 : 1 * 2 ^ 52 ≤ x.toNat % 2 ^ 63 := h2.up hL
  have e1 : x.toNat % 2 ^ 63 = x.toNat := Nat.mod_eq_of_lt h1
  rw [e1] at h4
  refine (FP.Core.mono_bits hx hz h1 (by decide)).2.2.mpr ?_
  show 0 < x.toNat
  omega
def wpF (idf : UInt64) (c len : Nat) (avg : UInt64) : UInt64 := FP.ddiv (FP.dmul idf (FP.dmul (FP.i2d (nI c)) 4612136378390124954)) (FP.dadd (FP.i2d (nI c)) (FP.dmul 4608083138725491507 (FP.dadd 4598175219545276416 (FP.dmul 4604930618986332160 (FP.ddiv (FP.i2d (nI len)) avg)))))
section WP
variable {idf avg : UInt64} {c len : Nat}
theorem wp_1 (hc : 0 < c) (hc2 : c ≤ 1000) : dG 1024 1059 (FP.dmul (FP.i2d (nI c)) 4612136378390124954) :=
  ⟨(dp_i2d (by omega)).mul ((db_i2d _).up (by decide)) (show dp 4612136378390124954 by unfold dp; decide) (show db 2047 4612136378390124954 by unfold db; decide),
   ((dl_nI (by omega) hc).mul ((db_i2d _).up (by decide)) (show dl 1024 4612136378390124954 by unfold dl; decide) (show db 2047 4612136378390124954 by unfold db; decide) (by decide) (by decide) (by decide) (by decide)).up (by decide),
   ((db_i2d _).mul (show db 1025 4612136378390124954 by unfold db; decide) (by decide) (by decide)).up (by decide)⟩
theorem wp_2 (hi : dG 1017 1030 idf) (hc : 0 < c) (hc2 : c ≤ 1000) : dG 1018 1067 (FP.dmul idf (FP.dmul (FP.i2d (nI c)) 4612136378390124954)) :=
  ⟨hi.1.mul (hi.2.2.up (by decide)) (wp_1 hc hc2).1 ((wp_1 hc hc2).2.2.up (by decide)),
   (hi.2.1.mul (hi.2.2.up (by decide)) (wp_1 hc hc2).2.1 ((wp_1 hc hc2).2.2.up (by decide)) (by decide) (by decide) (by decide) (by decide)).up (by decide),
   (hi.2.2.mul (wp_1 hc hc2).2.2 (by decide) (by decide)).up (by decide)⟩
theorem wp_3 (ha : dG 990 1090 avg) (hl : len < 2 ^ 31) : dp (FP.ddiv (FP.i2d (nI len)) avg) ∧ db 1090 (FP.ddiv (FP.i2d (nI len)) avg) :=
  ⟨(dp_i2d hl).div ((db_i2d _).up (by decide)) ha.1 (ha.2.2.up (by decide)) (ha.2.1.up (by decide)), ((db_i2d _).div ha.2.1 (ha.2.2.up (by decide)) (by decide) (by decide)).up (by decide)⟩
theorem wp_4 (ha : dG 990 1090 avg) (hl : len < 2 ^ 31) : dp (FP.dmul 4604930618986332160 (FP.ddiv (FP.i2d (nI len)) avg)) ∧ db 1091 (FP.dmul 4604930618986332160 (FP.ddiv (FP.i2d (nI len)) avg)) :=
  ⟨(show dp 4604930618986332160 by unfold dp; decide).mul (show db 2047 4604930618986332160 by unfold db; decide) (wp_3 ha hl).1 ((wp_3 ha hl).2.up (by decide)), ((show db 1023 4604930618986332160 by unfold db; decide).mul (wp_3 ha hl).2 (by decide) (by decide)).up (by decide)⟩
theorem wp_5 (ha : dG 990 1090 avg) (hl : len < 2 ^ 31) : dG 1021 1093 (FP.dadd 4598175219545276416 (FP.dmul 4604930618986332160 (FP.ddiv (FP.i2d (nI len)) avg))) :=
  have h := (show dp 4598175219545276416 by unfold dp; decide).add (show dl 1 4598175219545276416 by unfold dl; decide) (show db 2046 4598175219545276416 by unfold db; decide) (wp_4 ha hl).1 ((wp_4 ha hl).2.up (by decide))
  ⟨h.1, h.2 1021 (show dl 1021 4598175219545276416 by unfold dl; decide), ((show db 1091 4598175219545276416 by unfold db; decide).add (wp_4 ha hl).2 (by decide)).up (by decide)⟩
theorem wp_6 (ha : dG 990 1090 avg) (hl : len < 2 ^ 31) : dp (FP.dmul 4608083138725491507 (FP.dadd 4598175219545276416 (FP.dmul 4604930618986332160 (FP.ddiv (FP.i2d (nI len)) avg)))) ∧ db 1095 (FP.dmul 4608083138725491507 (FP.dadd 4598175219545276416 (FP.dmul 4604930618986332160 (FP.ddiv (FP.i2d (nI len)) avg)))) :=
  ⟨(show dp 4608083138725491507 by unfold dp; decide).mul (show db 2047 4608083138725491507 by unfold db; decide) (wp_5 ha hl).1 ((wp_5 ha hl).2.2.up (by decide)), ((show db 1024 4608083138725491507 by unfold db; decide).mul (wp_5 ha hl).2.2 (by decide) (by decide)).up (by decide)⟩
theorem wp_7 (ha : dG 990 1090 avg) (hl : len < 2 ^ 31) (hc : 0 < c) (hc2 : c ≤ 1000) : dG 1023 1097 (FP.dadd (FP.i2d (nI c)) (FP.dmul 4608083138725491507 (FP.dadd 4598175219545276416 (FP.dmul 4604930618986332160 (FP.ddiv (FP.i2d (nI len)) avg))))) :=
  have h := (dp_i2d (v := c) (by omega)).add ((dl_nI (by omega) hc).up (by decide)) ((db_i2d _).up (by decide)) (wp_6 ha hl).1 ((wp_6 ha hl).2.up (by decide))
  ⟨h.1, h.2 1023 (dl_nI (by omega) hc), (((db_i2d _).up (by decide)).add (wp_6 ha hl).2 (by decide)).up (by decide)⟩
theorem wp_G (hi : dG 1017 1030 idf) (ha : dG 990 1090 avg) (hl : len < 2 ^ 31) (hc : 0 < c) (hc2 : c ≤ 1000) : dG 944 1068 (wpF idf c len avg) :=
  ⟨(wp_2 hi hc hc2).1.div ((wp_2 hi hc hc2).2.2.up (by decide)) (wp_7 ha hl hc hc2).1 ((wp_7 ha hl hc hc2).2.2.up (by decide)) ((wp_7 ha hl hc hc2).2.1.up (by decide)),
   ((wp_2 hi hc hc2).2.1.div ((wp_2 hi hc hc2).2.2.up (by decide)) (wp_7 ha hl hc hc2).2.2 ((wp_7 ha hl hc hc2).2.1.up (by decide)) (by decide) (by decide) (by decide) (by decide)).up (by decide),
   ((wp_2 hi hc hc2).2.2.div (wp_7 ha hl hc hc2).2.1 ((wp_7 ha hl hc hc2).2.2.up (by decide)) (by decide) (by decide)).up (by decide)⟩
end WP
theorem dG.n {L K : Nat} {x : UInt64} (h : dG L K x) (hK : K ≤ 2047) : vf_n64 x := h.2.2.n hK
def wpC (idf : UInt64) (c len : Nat) (avg : UInt64) : UInt64 := if c = 0 then FP.dconst0 else wpF idf c len avg

set_option maxHeartbeats 400000 in
set_option maxRecDepth 100000 in
/-- inverseFrequency -/
theorem c_X9_inverseFrequency (l : Launch) (Γ : Gm) (b M : Nat) (mem : Nat → va_E) {n f : Nat} (hn : n ≤ 16) (hf : f ≤ n) : Ct l yX9_inverseFrequency (.code yX9_inverseFrequency cX9_inverseFrequency 2 (some .double)) ({ frames := 1, cells := 0, slots := 0, locals := 31 } : Room) Γ b M [.int (nI n), .int (nI f)] mem (fun u => u = mem) (some (.double (idfF n f))) := by
  refine mm_enter (cc := cX9_inverseFrequency) (by decide) (Nat.le_of_ble_eq_true rfl) ?_
  intro p e s m args below meth c ls hx hb hml hown hr hlocks hname hE hh hl
  have hl : lv_has ls 2 [(0, .int (nI n)), (1, .int (nI f))] := hl
  have hq := idf_sp hn hf
  refine lv_dconst1 hx hb dX9_inverseFrequency_0 ?_
  refine lv_iload_n hx hb dX9_inverseFrequency_1 rfl (lv_at hl 0 rfl) ?_
  refine lv_iload_n hx hb dX9_inverseFrequency_2 rfl (lv_at hl 1 rfl) ?_
  refine nn_isub hx hb (by omega) dX9_inverseFrequency_3 ?_
  refine lv_i2d hx hb dX9_inverseFrequency_4 ?_
  refine lv_ldc2d hx hb hown (wk_X9_361 hE.2.1 args) dX9_inverseFrequency_5 ?_
  refine lv_dadd hx hb dX9_inverseFrequency_8 (db.n (K := 2047) hq.1 (by decide)) ?_
  refine lv_iload_n hx hb dX9_inverseFrequency_9 rfl (lv_at hl 1 rfl) ?_
  refine lv_i2d hx hb dX9_inverseFrequency_10 ?_
  refine lv_ldc2d hx hb hown (wk_X9_361 hE.2.1 args) dX9_inverseFrequency_11 ?_
  refine lv_dadd hx hb dX9_inverseFrequency_14 (db.n (K := 2047) hq.2.1 (by decide)) ?_
  refine lv_ddiv hx hb dX9_inverseFrequency_15 (db.n (K := 2047) hq.2.2.1 (by decide)) ?_
  refine lv_dadd hx hb dX9_inverseFrequency_16 (db.n (K := 2047) hq.2.2.2.1 (by decide)) ?_
  refine mm_S0r (As := [.double (FP.dadd FP.dconst1 (FP.ddiv (FP.dadd (FP.i2d (nI (n - f))) 4602678819172646912) (FP.dadd (FP.i2d (nI f)) 4602678819172646912)))]) (rest := []) hx hb hml hown hE hl.1 hh (kc_X9_245 hE.2.1 ⟨Nat.le_of_ble_eq_true rfl, Nat.le_of_ble_eq_true rfl⟩) (c_X9_logarithm l Γ b M mem (x := FP.dadd FP.dconst1 (FP.ddiv (FP.dadd (FP.i2d (nI (n - f))) 4602678819172646912) (FP.dadd (FP.i2d (nI f)) 4602678819172646912))) (hq.2.2.2.2.1)) rfl rfl (Nat.le_of_ble_eq_true rfl) dX9_inverseFrequency_17 rfl rfl (fun H locs hh => ?_)
  exact mm_dret hx hb hr hlocks hE hh (rfl) (rfl) dX9_inverseFrequency_20
set_option maxHeartbeats 400000 in
set_option maxRecDepth 100000 in
/-- wordPart -/
theorem c_X9_wordPart (l : Launch) (Γ : Gm) (b M : Nat) (mem : Nat → va_E) {idf avg : UInt64} {k len : Nat} (hk : k ≤ 1000) (hln : len < 2 ^ 31) (hi : dG 1017 1030 idf) (ha : 0 < k → dG 990 1090 avg) : Ct l yX9_wordPart (.code yX9_wordPart cX9_wordPart 10 (some .double)) ({ frames := 0, cells := 0, slots := 0, locals := 0 } : Room) Γ b M [.double idf, .int (nI k), .int (nI len), .double avg] mem (fun u => u = mem) (some (.double (wpC idf k len avg))) := by
  refine mm_enter (cc := cX9_wordPart) (by decide) (Nat.le_of_ble_eq_true rfl) ?_
  intro p e s m args below meth c ls hx hb hml hown hr hlocks hname hE hh hl
  have hl : lv_has ls 10 [(0, .double idf), (2, .int (nI k)), (3, .int (nI len)), (4, .double avg)] := hl
  refine lv_iload_n hx hb dX9_wordPart_0 rfl (lv_at hl 1 rfl) ?_
  refine nn_if_le (tgt := 11) hx hb dX9_wordPart_1 (by decide) (by omega) (fun h1 => ?_) (fun h1 => ?_)
  ·
    have hr0 : wpC idf k len avg = FP.dconst0 := if_pos h1
    refine lv_dconst0 hx hb dX9_wordPart_11 ?_
    exact mm_dret hx hb hr hlocks hE hh (by rw [hr0]) (rfl) dX9_wordPart_12
  ·
    have ha := ha h1
    have hr1 : wpC idf k len avg = wpF idf k len avg := if_neg (by omega)
    refine lv_dload hx hb dX9_wordPart_4 (lv_at hl 3 rfl) ?_
    refine lv_dconst0 hx hb dX9_wordPart_6 ?_
    refine lv_dcmp hx hb dX9_wordPart_7 ?_
    refine nn_cl_gt (tgt := 13) hx hb dX9_wordPart_8 (by decide) (fun h2 => ?_) (fun h2 => ?_)
    ·
      refine lv_ldc2d hx hb hown (wk_X9_363 hE.2.1 args) dX9_wordPart_13 ?_
      refine lv_dstore (lv' := [(6, .double 4608083138725491507), (0, .double idf), (2, .int (nI k)), (3, .int (nI len)), (4, .double avg)]) hx hb dX9_wordPart_16 hl (by decide) rfl (fun ls hl => ?_)
      refine lv_ldc2d hx hb hown (wk_X9_365 hE.2.1 args) dX9_wordPart_18 ?_
      refine lv_dstore (lv' := [(8, .double 4604930618986332160), (6, .double 4608083138725491507), (0, .double idf), (2, .int (nI k)), (3, .int (nI len)), (4, .double avg)]) hx hb dX9_wordPart_21 hl (by decide) rfl (fun ls hl => ?_)
      refine lv_dload_n hx hb dX9_wordPart_23 rfl (lv_at hl 2 rfl) ?_
      refine lv_iload_n hx hb dX9_wordPart_24 rfl (lv_at hl 3 rfl) ?_
      refine lv_i2d hx hb dX9_wordPart_25 ?_
      refine lv_dload hx hb dX9_wordPart_26 (lv_at hl 1 rfl) ?_
      refine lv_dconst1 hx hb dX9_wordPart_28 ?_
      refine lv_dadd hx hb dX9_wordPart_29 (db.n (K := 1030) (by unfold db; decide +kernel) (by decide)) ?_
      have hv29 : FP.dadd 4608083138725491507 FP.dconst1 = 4612136378390124954 := by decide +kernel
      rw [hv29]
      refine lv_dmul hx hb dX9_wordPart_30 ((wp_1 (by omega) hk).n (by decide)) ?_
      refine lv_dmul hx hb dX9_wordPart_31 ((wp_2 hi (by omega) hk).n (by decide)) ?_
      refine lv_iload_n hx hb dX9_wordPart_32 rfl (lv_at hl 3 rfl) ?_
      refine lv_i2d hx hb dX9_wordPart_33 ?_
      refine lv_dload hx hb dX9_wordPart_34 (lv_at hl 1 rfl) ?_
      refine lv_dconst1 hx hb dX9_wordPart_36 ?_
      refine lv_dload hx hb dX9_wordPart_37 (lv_at hl 0 rfl) ?_
      refine lv_dsub hx hb dX9_wordPart_39 (db.n (K := 1030) (by unfold db; decide +kernel) (by decide)) ?_
      have hv39 : FP.dsub FP.dconst1 4604930618986332160 = 4598175219545276416 := by decide +kernel
      rw [hv39]
      refine lv_dload hx hb dX9_wordPart_40 (lv_at hl 0 rfl) ?_
      refine lv_iload_n hx hb dX9_wordPart_42 rfl (lv_at hl 4 rfl) ?_
      refine lv_i2d hx hb dX9_wordPart_43 ?_
      refine lv_dload hx hb dX9_wordPart_44 (lv_at hl 5 rfl) ?_
      refine lv_ddiv hx hb dX9_wordPart_46 ((wp_3 ha hln).2.n (by decide)) ?_
      refine lv_dmul hx hb dX9_wordPart_47 ((wp_4 ha hln).2.n (by decide)) ?_
      refine lv_dadd hx hb dX9_wordPart_48 ((wp_5 ha hln).n (by decide)) ?_
      refine lv_dmul hx hb dX9_wordPart_49 ((wp_6 ha hln).2.n (by decide)) ?_
      refine lv_dadd hx hb dX9_wordPart_50 ((wp_7 ha hln (by omega) hk).n (by decide)) ?_
      refine lv_ddiv hx hb dX9_wordPart_51 ((wp_G hi ha hln (by omega) hk).n (by decide)) ?_
      exact mm_dret hx hb hr hlocks hE hh (by rw [hr1]; rfl) (rfl) dX9_wordPart_52
    ·
      exact absurd (ha.gt (by decide) (by decide)) h2
