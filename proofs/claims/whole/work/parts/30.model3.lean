/-! whole numbers as doubles -/
theorem nI_64 {a : Nat} (h : a < 2 ^ 31) : (nI a).toInt64.toInt = (a : Int) := by rw [Int32.toInt_toInt64, nI_toInt h]
theorem sm_nI {a : Nat} (h : a < 2 ^ 31) : FP.Core.Small53 (nI a).toInt64 := by
  unfold FP.Core.Small53
  rw [nI_64 h]
  omega
theorem i2d_add {a b : Nat} (h : a + b < 2 ^ 31) : FP.dadd (FP.i2d (nI a)) (FP.i2d (nI b)) = FP.i2d (nI (a + b)) := by
  show FP.Core.dadd (FP.Core.i2d (nI a)) (FP.Core.i2d (nI b)) = FP.Core.i2d (nI (a + b))
  rw [FP.Core.i2d_l2d, FP.Core.i2d_l2d, FP.Core.i2d_l2d, FP.Core.dadd_l2d (sm_nI (by omega)) (sm_nI (by omega))]
  congr 1
  refine Int64.toInt_inj.mp ?_
  rw [FP.Core.int64_add (by rw [nI_64 (by omega), nI_64 (by omega)]; omega) (by rw [nI_64 (by omega), nI_64 (by omega)]; omega), nI_64 (by omega), nI_64 (by omega), nI_64 h]
  omega
theorem i2d_sub {a b : Nat} (ha : a < 2 ^ 31) (h : b ≤ a) : FP.dsub (FP.i2d (nI a)) (FP.i2d (nI b)) = FP.i2d (nI (a - b)) := by
  show FP.Core.dsub (FP.Core.i2d (nI a)) (FP.Core.i2d (nI b)) = FP.Core.i2d (nI (a - b))
  rw [FP.Core.i2d_l2d, FP.Core.i2d_l2d, FP.Core.i2d_l2d, FP.Core.dsub_l2d (sm_nI (by omega)) (sm_nI (by omega))]
  congr 1
  refine Int64.toInt_inj.mp ?_
  rw [FP.Core.int64_sub (by rw [nI_64 (by omega), nI_64 (by omega)]; omega) (by rw [nI_64 (by omega), nI_64 (by omega)]; omega), nI_64 (by omega), nI_64 (by omega), nI_64 (by omega)]
  omega
theorem i2d_0 : FP.i2d (nI 0) = FP.dconst0 := by decide +kernel
theorem i2d_1 : FP.i2d (nI 1) = FP.dconst1 := by decide +kernel
theorem i2d_n0 {c : Nat} (h : 0 < c) (h2 : c < 2 ^ 31) : ¬ FP.dcmp (FP.i2d (nI c)) FP.dconst0 = some .eq := by
  intro q
  have h3 : dG 1023 1056 (FP.i2d (nI c)) := ⟨dp_i2d h2, dl_nI h2 h, db_i2d _⟩
  rw [h3.gt (by decide) (by decide)] at q
  exact absurd q (by decide)
theorem dw_1 {cn : Nat → Nat → Nat} {t k : Nat} (hk : k < 16) (h : 0 < cn k t) : FP.dadd (FP.i2d (nI (dwN cn t k))) FP.dconst1 = FP.i2d (nI (dwN cn t (k + 1))) := by
  have h1 := dwN_le cn t k
  rw [← i2d_1, i2d_add (by omega)]
  congr 2
  exact (if_pos h).symm
theorem dw_0 {cn : Nat → Nat → Nat} {t k : Nat} (hk : k < 16) (h : ¬ 0 < cn k t) : FP.dadd (FP.i2d (nI (dwN cn t k))) FP.dconst0 = FP.i2d (nI (dwN cn t (k + 1))) := by
  have h1 := dwN_le cn t k
  rw [← i2d_0, i2d_add (by omega)]
  congr 2
  exact (if_neg h).symm

set_option maxHeartbeats 1000000 in
set_option maxRecDepth 100000 in
/-- reference: addsWord -/
theorem c_X10_addsWord (l : Launch) (Γ : Gm) (b M : Nat) (mem : Nat → va_E) {cd nd cz wz iz vz md wh sd sk ps fc : Nat} {d t : Nat} {cn : Nat → Nat → Nat} {ln : Nat → Nat}  (hM : 138 ≤ M) (fM : mem 115 = .inr (9, [.int (nI cd), .int (nI nd), .ref (b + 116), .ref (b + 117), .ref (b + 118), .ref (b + 119), .int (nI cz), .ref (b + 120), .int (nI wz), .int (nI iz), .int (nI vz), .ref (b + 121), .ref (b + 122), .ref (b + 123), .ref (b + 124), .ref (b + 125), .ref (b + 126), .ref (b + 127), .ref (b + 128), .ref (b + 129), .int (nI md), .ref (b + 130), .ref (b + 131), .int (nI wh), .ref (b + 132), .ref (b + 133), .int (nI sd), .int (nI sk), .int (nI ps), .int (nI fc), .ref (b + 134), .ref (b + 135)])) (g116 : mem 116 = aN Γ 192 (fl12 cn)) (hnd : nd ≤ 16) (hd : d < nd) (ht : t < 12) (hcn : ∀ d t, cn d t ≤ 1000) (hlc : ∀ d t, cn d t ≤ ln d) (hln : ∀ d, ln d ≤ 12000) (hlm : ∀ d, suN (cn d) 12 = ln d) : Ct l yX10_addsWord (.code yX10_addsWord cX10_addsWord 17 (some .double)) ({ frames := 1, cells := 0, slots := 0, locals := 31 } : Room) Γ b M [.ref (b + 115), .int (nI d), .int (nI t)] mem (fun u => u = mem) (some (.double (wpC (idfF nd (dwN cn t nd)) (cn d t) (ln d) (avF ln nd)))) := by
  refine mm_enter (cc := cX10_addsWord) (by decide) (Nat.le_of_ble_eq_true rfl) ?_
  intro p e s m args below meth c ls hx hb hml hown hr hlocks hname hE hh hl
  have hl : lv_has ls 17 [(0, .ref (b + 115)), (1, .int (nI d)), (2, .int (nI t))] := hl
  refine lv_aload_n hx hb dX10_addsWord_0 rfl (lv_at hl 0 rfl) ?_
  refine gf_X10_counts hx hb hE hown hh (by omega) fM rfl dX10_addsWord_1 ?_
  refine lv_bipush (v := (nI 12)) hx hb dX10_addsWord_4 (by decide) ?_
  refine lv_iload_n hx hb dX10_addsWord_6 rfl (lv_at hl 1 rfl) ?_
  refine nn_imul hx hb dX10_addsWord_7 ?_
  refine lv_iload_n hx hb dX10_addsWord_8 rfl (lv_at hl 2 rfl) ?_
  refine nn_iadd hx hb dX10_addsWord_9 ?_
  refine mm_iald hx hb hE hh (by omega) g116 (by omega) (by decide) dX10_addsWord_10 ?_
  have hv10 : (fl12 cn) ((12 * d) + t) = cn d t := fl12_at _ (by omega)
  rw [hv10]
  have hcd := hcn d t
  refine lv_i2d hx hb dX10_addsWord_11 ?_
  refine lv_dstore_n (lv' := [(3, .double (FP.i2d (nI (cn d t)))), (0, .ref (b + 115)), (1, .int (nI d)), (2, .int (nI t))]) hx hb dX10_addsWord_12 rfl hl (by decide) rfl (fun ls hl => ?_)
  refine lv_dload_n hx hb dX10_addsWord_13 rfl (lv_at hl 0 rfl) ?_
  refine lv_dconst0 hx hb dX10_addsWord_14 ?_
  refine lv_dcmp hx hb dX10_addsWord_15 ?_
  refine nn_cl_ne (tgt := 21) hx hb dX10_addsWord_16 (by decide) (fun h1 => ?_) (fun h1 => ?_)
  ·
    have hc0 : 0 < cn d t := Nat.pos_of_ne_zero (fun q => h1 (by rw [q]; decide +kernel))
    have hq := idf_sp hnd (dwN_le cn t nd)
    have hld := hlc d t
    have ha := av_G hnd hd (by omega) hln
    have hi := idf_G hnd (dwN_le cn t nd)
    have hl9 : ln d < 2 ^ 31 := by have := hln d; omega
    have hr1 : wpC (idfF nd (dwN cn t nd)) (cn d t) (ln d) (avF ln nd) = wpF (idfF nd (dwN cn t nd)) (cn d t) (ln d) (avF ln nd) := if_neg (by omega)
    refine lv_aload_n hx hb dX10_addsWord_21 rfl (lv_at hl 1 rfl) ?_
    refine gf_X10_documents hx hb hE hown hh (by omega) fM rfl dX10_addsWord_22 ?_
    refine lv_i2d hx hb dX10_addsWord_25 ?_
    refine lv_dstore (lv' := [(5, .double (FP.i2d (nI nd))), (3, .double (FP.i2d (nI (cn d t)))), (0, .ref (b + 115)), (1, .int (nI d)), (2, .int (nI t))]) hx hb dX10_addsWord_26 hl (by decide) rfl (fun ls hl => ?_)
    refine lv_dconst0 hx hb dX10_addsWord_28 ?_
    refine lv_dstore (lv' := [(7, .double FP.dconst0), (5, .double (FP.i2d (nI nd))), (3, .double (FP.i2d (nI (cn d t)))), (0, .ref (b + 115)), (1, .int (nI d)), (2, .int (nI t))]) hx hb dX10_addsWord_29 hl (by decide) rfl (fun ls hl => ?_)
    refine lv_dconst0 hx hb dX10_addsWord_31 ?_
    refine lv_dstore (lv' := [(9, .double FP.dconst0), (7, .double FP.dconst0), (5, .double (FP.i2d (nI nd))), (3, .double (FP.i2d (nI (cn d t)))), (0, .ref (b + 115)), (1, .int (nI d)), (2, .int (nI t))]) hx hb dX10_addsWord_32 hl (by decide) rfl (fun ls hl => ?_)
    refine lv_iconst (v := (nI 0)) hx hb dX10_addsWord_34 (by decide) ?_
    refine lv_istore (lv' := [(11, .int (nI 0)), (9, .double FP.dconst0), (7, .double FP.dconst0), (5, .double (FP.i2d (nI nd))), (3, .double (FP.i2d (nI (cn d t)))), (0, .ref (b + 115)), (1, .int (nI d)), (2, .int (nI t))]) hx hb dX10_addsWord_35 hl (by decide) rfl (fun ls hl => ?_)
    have loop37 : ∀ (n9 : Nat) (k : Nat), (nd - k) < n9 → (k ≤ nd) → ∀ (H : Heap) (locs : List Loc), GH Γ b M mem s H locs → ∀ (ls : Array Slot), lv_has ls 17 [(11, .int (nI k)), (9, .double (FP.i2d (nI (suN ln k)))), (7, .double (FP.i2d (nI (dwN cn t k)))), (5, .double (FP.i2d (nI nd))), (3, .double (FP.i2d (nI (cn d t)))), (0, .ref (b + 115)), (1, .int (nI d)), (2, .int (nI t))] → W p l e ({ frames := 1, cells := 0, slots := 0, locals := 31 } : Room) s m args below meth c H locs 0 0 (MQ below (QC Γ b M (fun u => u = mem) (some (.double (wpC (idfF nd (dwN cn t nd)) (cn d t) (ln d) (avF ln nd))))) args s 0 0 (fun q => b ≤ q)) (F0 m 37 ls []) := by
      intro n9
      induction n9 with
      | zero => intro k hn; exact absurd hn (Nat.not_lt_zero _)
      | succ n9 ih =>
        intro k hn hk H locs hh ls hl
        have ih2 := ih
        refine lv_iload hx hb dX10_addsWord_37 (lv_at hl 0 rfl) ?_
        refine lv_aload_n hx hb dX10_addsWord_39 rfl (lv_at hl 5 rfl) ?_
        refine gf_X10_documents hx hb hE hown hh (by omega) fM rfl dX10_addsWord_40 ?_
        refine nn_icmp_ge (tgt := 89) hx hb dX10_addsWord_43 (by decide) (by omega) (by omega) (fun h3 => ?_) (fun h3 => ?_)
        ·
          obtain rfl : nd = k := by omega
          refine lv_dload hx hb dX10_addsWord_89 (lv_at hl 1 rfl) ?_
          refine lv_dload hx hb dX10_addsWord_91 (lv_at hl 3 rfl) ?_
          refine lv_ddiv hx hb dX10_addsWord_93 (by rw [show FP.ddiv (FP.i2d (nI (suN ln nd))) (FP.i2d (nI nd)) = avF ln nd from (if_neg (by omega)).symm]; exact ha.n (by decide)) ?_
          have hv93 : FP.ddiv (FP.i2d (nI (suN ln nd))) (FP.i2d (nI nd)) = avF ln nd := (if_neg (by omega)).symm
          rw [hv93]
          refine lv_dstore (lv' := [(11, .double (avF ln nd)), (9, .double (FP.i2d (nI (suN ln nd)))), (7, .double (FP.i2d (nI (dwN cn t nd)))), (5, .double (FP.i2d (nI nd))), (3, .double (FP.i2d (nI (cn d t)))), (0, .ref (b + 115)), (1, .int (nI d)), (2, .int (nI t))]) hx hb dX10_addsWord_94 hl (by decide) rfl (fun ls hl => ?_)
          refine lv_aload_n hx hb dX10_addsWord_96 rfl (lv_at hl 5 rfl) ?_
          refine lv_iload_n hx hb dX10_addsWord_97 rfl (lv_at hl 6 rfl) ?_
          refine mm_V0r (As := [.int (nI d)]) (rest := []) hx hb hml hown hE hl.1 hh (kc_X10_134 hE.2.1 ⟨Nat.le_of_ble_eq_true rfl, Nat.le_of_ble_eq_true rfl⟩) (c_X10_lengthOf l Γ b M mem (cd := cd) (nd := nd) (cz := cz) (wz := wz) (iz := iz) (vz := vz) (md := md) (wh := wh) (sd := sd) (sk := sk) (ps := ps) (fc := fc) (d := d) (by omega) fM g116 (by omega)) rfl (by omega) fM rfl rfl (Nat.le_of_ble_eq_true rfl) dX10_addsWord_98 rfl rfl (fun H locs hh => ?_)
          rw [hlm d]
          refine lv_i2d hx hb dX10_addsWord_101 ?_
          refine lv_dstore (lv' := [(13, .double (FP.i2d (nI (ln d)))), (11, .double (avF ln nd)), (9, .double (FP.i2d (nI (suN ln nd)))), (7, .double (FP.i2d (nI (dwN cn t nd)))), (5, .double (FP.i2d (nI nd))), (3, .double (FP.i2d (nI (cn d t)))), (0, .ref (b + 115)), (1, .int (nI d)), (2, .int (nI t))]) hx hb dX10_addsWord_102 hl (by decide) rfl (fun ls hl => ?_)
          refine lv_dconst1 hx hb dX10_addsWord_104 ?_
          refine lv_dload hx hb dX10_addsWord_105 (lv_at hl 4 rfl) ?_
          refine lv_dload hx hb dX10_addsWord_107 (lv_at hl 3 rfl) ?_
          refine lv_dsub hx hb dX10_addsWord_109 (by rw [i2d_sub (by omega) (dwN_le cn t nd)]; exact (db_i2d _).n (by decide)) ?_
          have hv109 : FP.dsub (FP.i2d (nI nd)) (FP.i2d (nI (dwN cn t nd))) = FP.i2d (nI (nd - dwN cn t nd)) := i2d_sub (by omega) (dwN_le cn t nd)
          rw [hv109]
          refine lv_ldc2d hx hb hown (wk_X10_138 hE.2.1 args) dX10_addsWord_110 ?_
          refine lv_dadd hx hb dX10_addsWord_113 (db.n (K := 2047) hq.1 (by decide)) ?_
          refine lv_dload hx hb dX10_addsWord_114 (lv_at hl 3 rfl) ?_
          refine lv_ldc2d hx hb hown (wk_X10_138 hE.2.1 args) dX10_addsWord_116 ?_
          refine lv_dadd hx hb dX10_addsWord_119 (db.n (K := 2047) hq.2.1 (by decide)) ?_
          refine lv_ddiv hx hb dX10_addsWord_120 (db.n (K := 2047) hq.2.2.1 (by decide)) ?_
          refine lv_dadd hx hb dX10_addsWord_121 (db.n (K := 2047) hq.2.2.2.1 (by decide)) ?_
          refine mm_S0r (As := [.double (FP.dadd FP.dconst1 (FP.ddiv (FP.dadd (FP.i2d (nI (nd - dwN cn t nd))) 4602678819172646912) (FP.dadd (FP.i2d (nI (dwN cn t nd))) 4602678819172646912)))]) (rest := []) hx hb hml hown hE hl.1 hh (kc_X10_128 hE.2.1 ⟨Nat.le_of_ble_eq_true rfl, Nat.le_of_ble_eq_true rfl⟩) (c_X10_logOf l Γ b M mem (x := FP.dadd FP.dconst1 (FP.ddiv (FP.dadd (FP.i2d (nI (nd - dwN cn t nd))) 4602678819172646912) (FP.dadd (FP.i2d (nI (dwN cn t nd))) 4602678819172646912))) (hq.2.2.2.2.1)) rfl rfl (Nat.le_of_ble_eq_true rfl) dX10_addsWord_122 rfl rfl (fun H locs hh => ?_)
          refine lv_dstore (lv' := [(15, .double (lgF (FP.dadd FP.dconst1 (FP.ddiv (FP.dadd (FP.i2d (nI (nd - dwN cn t nd))) 4602678819172646912) (FP.dadd (FP.i2d (nI (dwN cn t nd))) 4602678819172646912))))), (13, .double (FP.i2d (nI (ln d)))), (11, .double (avF ln nd)), (9, .double (FP.i2d (nI (suN ln nd)))), (7, .double (FP.i2d (nI (dwN cn t nd)))), (5, .double (FP.i2d (nI nd))), (3, .double (FP.i2d (nI (cn d t)))), (0, .ref (b + 115)), (1, .int (nI d)), (2, .int (nI t))]) hx hb dX10_addsWord_125 hl (by decide) rfl (fun ls hl => ?_)
          refine lv_dload hx hb dX10_addsWord_127 (lv_at hl 0 rfl) ?_
          refine lv_dload_n hx hb dX10_addsWord_129 rfl (lv_at hl 6 rfl) ?_
          refine lv_ldc2d hx hb hown (wk_X10_140 hE.2.1 args) dX10_addsWord_130 ?_
          refine lv_dmul hx hb dX10_addsWord_133 ((wp_1 hc0 hcd).n (by decide)) ?_
          refine lv_dmul hx hb dX10_addsWord_134 ((wp_2 hi hc0 hcd).n (by decide)) ?_
          refine lv_dload_n hx hb dX10_addsWord_135 rfl (lv_at hl 6 rfl) ?_
          refine lv_ldc2d hx hb hown (wk_X10_142 hE.2.1 args) dX10_addsWord_136 ?_
          refine lv_ldc2d hx hb hown (wk_X10_144 hE.2.1 args) dX10_addsWord_139 ?_
          refine lv_ldc2d hx hb hown (wk_X10_146 hE.2.1 args) dX10_addsWord_142 ?_
          refine lv_dload hx hb dX10_addsWord_145 (lv_at hl 1 rfl) ?_
          refine lv_dload hx hb dX10_addsWord_147 (lv_at hl 2 rfl) ?_
          refine lv_ddiv hx hb dX10_addsWord_149 ((wp_3 ha hl9).2.n (by decide)) ?_
          refine lv_dmul hx hb dX10_addsWord_150 ((wp_4 ha hl9).2.n (by decide)) ?_
          refine lv_dadd hx hb dX10_addsWord_151 ((wp_5 ha hl9).n (by decide)) ?_
          refine lv_dmul hx hb dX10_addsWord_152 ((wp_6 ha hl9).2.n (by decide)) ?_
          refine lv_dadd hx hb dX10_addsWord_153 ((wp_7 ha hl9 hc0 hcd).n (by decide)) ?_
          refine lv_ddiv hx hb dX10_addsWord_154 ((wp_G hi ha hl9 hc0 hcd).n (by decide)) ?_
          exact mm_dret hx hb hr hlocks hE hh (by rw [hr1]; rfl) (rfl) dX10_addsWord_155
        ·
          refine lv_dload hx hb dX10_addsWord_46 (lv_at hl 2 rfl) ?_
          refine lv_aload_n hx hb dX10_addsWord_48 rfl (lv_at hl 5 rfl) ?_
          refine gf_X10_counts hx hb hE hown hh (by omega) fM rfl dX10_addsWord_49 ?_
          refine lv_bipush (v := (nI 12)) hx hb dX10_addsWord_52 (by decide) ?_
          refine lv_iload hx hb dX10_addsWord_54 (lv_at hl 0 rfl) ?_
          refine nn_imul hx hb dX10_addsWord_56 ?_
          refine lv_iload_n hx hb dX10_addsWord_57 rfl (lv_at hl 7 rfl) ?_
          refine nn_iadd hx hb dX10_addsWord_58 ?_
          refine mm_iald hx hb hE hh (by omega) g116 (by omega) (by decide) dX10_addsWord_59 ?_
          have hv59 : (fl12 cn) ((12 * k) + t) = cn k t := fl12_at _ (by omega)
          rw [hv59]
          have hck := hcn k t
          refine nn_if_le (tgt := 67) hx hb dX10_addsWord_60 (by decide) (by omega) (fun h4 => ?_) (fun h4 => ?_)
          ·
            have hd1 := dw_0 (cn := cn) (t := t) (show k < 16 by omega) (by omega)
            refine lv_dconst0 hx hb dX10_addsWord_67 ?_
            refine lv_dadd hx hb dX10_addsWord_68 (by rw [hd1]; exact (db_i2d _).n (by decide)) ?_
            have hv68 : FP.dadd (FP.i2d (nI (dwN cn t k))) FP.dconst0 = FP.i2d (nI (dwN cn t (k + 1))) := hd1
            rw [hv68]
            refine lv_dstore (lv' := [(7, .double (FP.i2d (nI (dwN cn t (k + 1))))), (11, .int (nI k)), (9, .double (FP.i2d (nI (suN ln k)))), (5, .double (FP.i2d (nI nd))), (3, .double (FP.i2d (nI (cn d t)))), (0, .ref (b + 115)), (1, .int (nI d)), (2, .int (nI t))]) hx hb dX10_addsWord_69 hl (by decide) rfl (fun ls hl => ?_)
            refine lv_dload hx hb dX10_addsWord_71 (lv_at hl 2 rfl) ?_
            refine lv_aload_n hx hb dX10_addsWord_73 rfl (lv_at hl 5 rfl) ?_
            refine lv_iload hx hb dX10_addsWord_74 (lv_at hl 1 rfl) ?_
            refine mm_V0r (As := [.int (nI k)]) (rest := [.double (FP.i2d (nI (suN ln k)))]) hx hb hml hown hE hl.1 hh (kc_X10_134 hE.2.1 ⟨Nat.le_of_ble_eq_true rfl, Nat.le_of_ble_eq_true rfl⟩) (c_X10_lengthOf l Γ b M mem (cd := cd) (nd := nd) (cz := cz) (wz := wz) (iz := iz) (vz := vz) (md := md) (wh := wh) (sd := sd) (sk := sk) (ps := ps) (fc := fc) (d := k) (by omega) fM g116 (by omega)) rfl (by omega) fM rfl rfl (Nat.le_of_ble_eq_true rfl) dX10_addsWord_76 rfl rfl (fun H locs hh => ?_)
            rw [hlm k]
            refine lv_i2d hx hb dX10_addsWord_79 ?_
            refine lv_dadd hx hb dX10_addsWord_80 (((db_i2d _).add (db_i2d _) (by decide)).n (by decide)) ?_
            have hv80 : FP.dadd (FP.i2d (nI (suN ln k))) (FP.i2d (nI (ln k))) = FP.i2d (nI (suN ln (k + 1))) := i2d_add (by have := suN_le hln k; have := hln k; omega)
            rw [hv80]
            refine lv_dstore (lv' := [(9, .double (FP.i2d (nI (suN ln (k + 1))))), (7, .double (FP.i2d (nI (dwN cn t (k + 1))))), (11, .int (nI k)), (5, .double (FP.i2d (nI nd))), (3, .double (FP.i2d (nI (cn d t)))), (0, .ref (b + 115)), (1, .int (nI d)), (2, .int (nI t))]) hx hb dX10_addsWord_81 hl (by decide) rfl (fun ls hl => ?_)
            refine nn_iinc (x := k) (d := 1) (lv' := [(11, .int (nI (k + 1))), (9, .double (FP.i2d (nI (suN ln (k + 1))))), (7, .double (FP.i2d (nI (dwN cn t (k + 1))))), (5, .double (FP.i2d (nI nd))), (3, .double (FP.i2d (nI (cn d t)))), (0, .ref (b + 115)), (1, .int (nI d)), (2, .int (nI t))]) hx hb dX10_addsWord_83 hl (k := 2) rfl (by decide) (by decide) rfl (fun ls hl => ?_)
            refine lv_goto (tgt := 37) hx hb dX10_addsWord_86 (by decide) ?_
            exact ih2 (k + 1) (by omega) (by omega) _ _ hh ls (lv_sub hl [0, 1, 2, 3, 4, 5, 6, 7] rfl)
          ·
            have hd1 := dw_1 (cn := cn) (t := t) (show k < 16 by omega) (by omega)
            refine lv_dconst1 hx hb dX10_addsWord_63 ?_
            refine lv_goto (tgt := 68) hx hb dX10_addsWord_64 (by decide) ?_
            refine lv_dadd hx hb dX10_addsWord_68 (by rw [hd1]; exact (db_i2d _).n (by decide)) ?_
            have hv68 : FP.dadd (FP.i2d (nI (dwN cn t k))) FP.dconst1 = FP.i2d (nI (dwN cn t (k + 1))) := hd1
            rw [hv68]
            refine lv_dstore (lv' := [(7, .double (FP.i2d (nI (dwN cn t (k + 1))))), (11, .int (nI k)), (9, .double (FP.i2d (nI (suN ln k)))), (5, .double (FP.i2d (nI nd))), (3, .double (FP.i2d (nI (cn d t)))), (0, .ref (b + 115)), (1, .int (nI d)), (2, .int (nI t))]) hx hb dX10_addsWord_69 hl (by decide) rfl (fun ls hl => ?_)
            refine lv_dload hx hb dX10_addsWord_71 (lv_at hl 2 rfl) ?_
            refine lv_aload_n hx hb dX10_addsWord_73 rfl (lv_at hl 5 rfl) ?_
            refine lv_iload hx hb dX10_addsWord_74 (lv_at hl 1 rfl) ?_
            refine mm_V0r (As := [.int (nI k)]) (rest := [.double (FP.i2d (nI (suN ln k)))]) hx hb hml hown hE hl.1 hh (kc_X10_134 hE.2.1 ⟨Nat.le_of_ble_eq_true rfl, Nat.le_of_ble_eq_true rfl⟩) (c_X10_lengthOf l Γ b M mem (cd := cd) (nd := nd) (cz := cz) (wz := wz) (iz := iz) (vz := vz) (md := md) (wh := wh) (sd := sd) (sk := sk) (ps := ps) (fc := fc) (d := k) (by omega) fM g116 (by omega)) rfl (by omega) fM rfl rfl (Nat.le_of_ble_eq_true rfl) dX10_addsWord_76 rfl rfl (fun H locs hh => ?_)
            rw [hlm k]
            refine lv_i2d hx hb dX10_addsWord_79 ?_
            refine lv_dadd hx hb dX10_addsWord_80 (((db_i2d _).add (db_i2d _) (by decide)).n (by decide)) ?_
            have hv80 : FP.dadd (FP.i2d (nI (suN ln k))) (FP.i2d (nI (ln k))) = FP.i2d (nI (suN ln (k + 1))) := i2d_add (by have := suN_le hln k; have := hln k; omega)
            rw [hv80]
            refine lv_dstore (lv' := [(9, .double (FP.i2d (nI (suN ln (k + 1))))), (7, .double (FP.i2d (nI (dwN cn t (k + 1))))), (11, .int (nI k)), (5, .double (FP.i2d (nI nd))), (3, .double (FP.i2d (nI (cn d t)))), (0, .ref (b + 115)), (1, .int (nI d)), (2, .int (nI t))]) hx hb dX10_addsWord_81 hl (by decide) rfl (fun ls hl => ?_)
            refine nn_iinc (x := k) (d := 1) (lv' := [(11, .int (nI (k + 1))), (9, .double (FP.i2d (nI (suN ln (k + 1))))), (7, .double (FP.i2d (nI (dwN cn t (k + 1))))), (5, .double (FP.i2d (nI nd))), (3, .double (FP.i2d (nI (cn d t)))), (0, .ref (b + 115)), (1, .int (nI d)), (2, .int (nI t))]) hx hb dX10_addsWord_83 hl (k := 2) rfl (by decide) (by decide) rfl (fun ls hl => ?_)
            refine lv_goto (tgt := 37) hx hb dX10_addsWord_86 (by decide) ?_
            exact ih2 (k + 1) (by omega) (by omega) _ _ hh ls (lv_sub hl [0, 1, 2, 3, 4, 5, 6, 7] rfl)
    exact loop37 ((nd - 0) + 1) 0 (by omega) (by omega) _ _ hh ls (lv_sub hl [0, 1, 2, 3, 4, 5, 6, 7] (by rw [show FP.i2d (nI (suN ln 0)) = FP.dconst0 from i2d_0, show FP.i2d (nI (dwN cn t 0)) = FP.dconst0 from i2d_0]; rfl))
  ·
    have hz : cn d t = 0 := Nat.eq_zero_of_not_pos (fun q => i2d_n0 q (by omega) (Classical.not_not.mp h1))
    have hr0 : wpC (idfF nd (dwN cn t nd)) (cn d t) (ln d) (avF ln nd) = FP.dconst0 := if_pos hz
    refine lv_dconst0 hx hb dX10_addsWord_19 ?_
    exact mm_dret hx hb hr hlocks hE hh (by rw [hr0]) (rfl) dX10_addsWord_20
