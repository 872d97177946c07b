theorem bf_lt {d d2 : Nat} {x y : UInt64} (h : FP.dcmp y x = some .lt) : isBf d x d2 y = true := decide_eq_true (Or.inl (by rw [show FP.dcmp x y = _ from FP.Core.dcmp_swap y x, show FP.Core.dcmp y x = _ from h]; rfl))
theorem bf_cases {d d2 : Nat} {x y : UInt64} (h1 : ¬ FP.dcmp y x = some .lt) : isBf d x d2 y = decide (FP.dcmp y x = some .eq ∧ d < d2) := by
  have e : FP.dcmp x y = (FP.dcmp y x).map Ordering.swap := FP.Core.dcmp_swap y x
  unfold isBf
  rw [e]
  cases h : FP.dcmp y x with
  | none => rfl
  | some o =>
    cases o with
    | lt => exact absurd h h1
    | eq => simp [Ordering.swap]
    | gt => simp [Ordering.swap]
theorem bf_ne {d d2 : Nat} {x y : UInt64} (h1 : ¬ FP.dcmp y x = some .lt) (h2 : ¬ FP.dcmp y x = some .eq) : isBf d x d2 y = false := by rw [bf_cases h1]; exact decide_eq_false (fun q => h2 q.1)
theorem bf_et {d d2 : Nat} {x y : UInt64} (h1 : ¬ FP.dcmp y x = some .lt) (h2 : FP.dcmp y x = some .eq) (hd : d < d2) : isBf d x d2 y = true := by rw [bf_cases h1]; exact decide_eq_true ⟨h2, hd⟩
theorem bf_ef {d d2 : Nat} {x y : UInt64} (h1 : ¬ FP.dcmp y x = some .lt) (hd : ¬ d < d2) : isBf d x d2 y = false := by rw [bf_cases h1]; exact decide_eq_false (fun q => hd q.2)
/-- the reference's way of putting a document into a row of at most 'most' -/
def en1 (most d : Nat) (x : UInt64) (T : RkT) : RkT := (insF T.1 (plc d x T.1 T.2.1 T.2.2) (T.2.2 + 1) d, insF T.2.1 (plc d x T.1 T.2.1 T.2.2) (T.2.2 + 1) x, if T.2.2 < most then T.2.2 + 1 else most)
theorem ins_fin {α : Type} (f : Nat → α) {q i qq n : Nat} (v : α) (hqq : qq = q) (hi : i = qq) : va_up (shf f i n) qq v = insF f q n v := by
  subst hqq
  subst hi
  rfl
theorem insF_all {α : Type} {P : α → Prop} {f : Nat → α} {q n : Nat} {v : α} (h : ∀ j, P (f j)) (hv : P v) : ∀ j, P (insF f q n v j) := by
  intro j
  unfold insF va_up shf
  show P (if j = q then v else if q < j ∧ j < n then f (j - 1) else f j)
  split
  · exact hv
  · split
    · exact h _
    · exact h _
theorem en1_ok {most d : Nat} {x : UInt64} {T : RkT} (h : tOK most T) (hd : d < 16) : tOK most (en1 most d x T) := by
  refine ⟨insF_all (P := fun z => z < 16) h.1 hd, ?_⟩
  show (if T.2.2 < most then T.2.2 + 1 else most) ≤ most
  split <;> omega

set_option maxHeartbeats 4000000 in
set_option maxRecDepth 100000 in
/-- reference: enter -/
theorem c_X10_enter (l : Launch) (Γ : Gm) (b M : Nat) (mem : Nat → va_E) {cd nd cz wz iz vz md wh sd sk ps fc : Nat} {mr : Nat → Nat} {mrs : Nat → UInt64} {d mo : Nat} {x : UInt64} (hM : 138 ≤ M) (fM : mem 115 = .inr (9, [.int (nI cd), .int (nI nd), .ref (b + 116), .ref (b + 117), .ref (b + 118), .ref (b + 119), .int (nI cz), .ref (b + 120), .int (nI wz), .int (nI iz), .int (nI vz), .ref (b + 121), .ref (b + 122), .ref (b + 123), .ref (b + 124), .ref (b + 125), .ref (b + 126), .ref (b + 127), .ref (b + 128), .ref (b + 129), .int (nI md), .ref (b + 130), .ref (b + 131), .int (nI wh), .ref (b + 132), .ref (b + 133), .int (nI sd), .int (nI sk), .int (nI ps), .int (nI fc), .ref (b + 134), .ref (b + 135)])) (g130 : mem 130 = aN Γ 21 mr) (g131 : mem 131 = aD Γ 21 mrs) (hok : tOK mo (mr, mrs, md)) (hmo : mo ≤ 20) (hd : d < 16) : Ct l yX10_enter (.code yX10_enter cX10_enter 7 none) ({ frames := 0, cells := 0, slots := 0, locals := 0 } : Room) Γ b M [.ref (b + 115), .int (nI d), .double x, .int (nI mo)] mem (fun u => u 115 = .inr (9, [.int (nI cd), .int (nI nd), .ref (b + 116), .ref (b + 117), .ref (b + 118), .ref (b + 119), .int (nI cz), .ref (b + 120), .int (nI wz), .int (nI iz), .int (nI vz), .ref (b + 121), .ref (b + 122), .ref (b + 123), .ref (b + 124), .ref (b + 125), .ref (b + 126), .ref (b + 127), .ref (b + 128), .ref (b + 129), .int (nI ((en1 mo d x (mr, mrs, md)).2.2)), .ref (b + 130), .ref (b + 131), .int (nI wh), .ref (b + 132), .ref (b + 133), .int (nI sd), .int (nI sk), .int (nI ps), .int (nI fc), .ref (b + 134), .ref (b + 135)]) ∧ u 130 = aN Γ 21 ((en1 mo d x (mr, mrs, md)).1) ∧ u 131 = aD Γ 21 ((en1 mo d x (mr, mrs, md)).2.1) ∧ ∀ j, j ≠ 115 → j ≠ 130 → j ≠ 131 → u j = mem j) none := by
  refine mm_enter (cc := cX10_enter) (by decide) (Nat.le_of_ble_eq_true rfl) ?_
  intro p e s m args below meth c ls hx hb hml hown hr hlocks hname hE hh hl
  have hl : lv_has ls 7 [(0, .ref (b + 115)), (1, .int (nI d)), (2, .double x), (4, .int (nI mo))] := hl
  have hfr : ∀ j, j ≠ 115 → j ≠ 130 → j ≠ 131 → mem j = mem j := fun j _ _ _ => rfl
  have hple := plc_le d x mr mrs md
  have hmr : ∀ j, mr j < 16 := hok.1
  have hmd : md ≤ mo := hok.2
  have loop58 : ∀ (k : Nat), (k = plc d x mr mrs md) → ∀ (H : Heap) (locs : List Loc), GH Γ b M mem s H locs → ∀ (ls : Array Slot), lv_has ls 7 [(5, .int (nI k)), (0, .ref (b + 115)), (1, .int (nI d)), (2, .double x), (4, .int (nI mo))] → W p l e ({ frames := 0, cells := 0, slots := 0, locals := 0 } : Room) s m args below meth c H locs 0 0 (MQ below (QC Γ b M (fun u => u 115 = .inr (9, [.int (nI cd), .int (nI nd), .ref (b + 116), .ref (b + 117), .ref (b + 118), .ref (b + 119), .int (nI cz), .ref (b + 120), .int (nI wz), .int (nI iz), .int (nI vz), .ref (b + 121), .ref (b + 122), .ref (b + 123), .ref (b + 124), .ref (b + 125), .ref (b + 126), .ref (b + 127), .ref (b + 128), .ref (b + 129), .int (nI ((en1 mo d x (mr, mrs, md)).2.2)), .ref (b + 130), .ref (b + 131), .int (nI wh), .ref (b + 132), .ref (b + 133), .int (nI sd), .int (nI sk), .int (nI ps), .int (nI fc), .ref (b + 134), .ref (b + 135)]) ∧ u 130 = aN Γ 21 ((en1 mo d x (mr, mrs, md)).1) ∧ u 131 = aD Γ 21 ((en1 mo d x (mr, mrs, md)).2.1) ∧ ∀ j, j ≠ 115 → j ≠ 130 → j ≠ 131 → u j = mem j) none) args s 0 0 (fun q => b ≤ q)) (F0 m 58 ls []) := by
    intro k hkq H locs hh ls hl
    refine lv_aload_n hx hb dX10_enter_58 rfl (lv_at hl 1 rfl) ?_
    refine gf_X10_made hx hb hE hown hh (by omega) fM rfl dX10_enter_59 ?_
    refine lv_istore (lv' := [(6, .int (nI md)), (5, .int (nI k)), (0, .ref (b + 115)), (1, .int (nI d)), (2, .double x), (4, .int (nI mo))]) hx hb dX10_enter_62 hl (by decide) rfl (fun ls hl => ?_)
    have loop64 : ∀ (n9 : Nat) (i qq : Nat), i < n9 → (qq = plc d x mr mrs md) → (i ≤ md) → (qq ≤ i) → ∀ (H : Heap) (locs : List Loc) (mem2 : Nat → va_E), mem2 115 = .inr (9, [.int (nI cd), .int (nI nd), .ref (b + 116), .ref (b + 117), .ref (b + 118), .ref (b + 119), .int (nI cz), .ref (b + 120), .int (nI wz), .int (nI iz), .int (nI vz), .ref (b + 121), .ref (b + 122), .ref (b + 123), .ref (b + 124), .ref (b + 125), .ref (b + 126), .ref (b + 127), .ref (b + 128), .ref (b + 129), .int (nI md), .ref (b + 130), .ref (b + 131), .int (nI wh), .ref (b + 132), .ref (b + 133), .int (nI sd), .int (nI sk), .int (nI ps), .int (nI fc), .ref (b + 134), .ref (b + 135)]) → mem2 130 = aN Γ 21 (shf mr i (md + 1)) → mem2 131 = aD Γ 21 (shf mrs i (md + 1)) → (∀ j, j ≠ 115 → j ≠ 130 → j ≠ 131 → mem2 j = mem j) → GH Γ b M mem2 s H locs → ∀ (ls : Array Slot), lv_has ls 7 [(6, .int (nI i)), (5, .int (nI qq)), (0, .ref (b + 115)), (1, .int (nI d)), (2, .double x), (4, .int (nI mo))] → W p l e ({ frames := 0, cells := 0, slots := 0, locals := 0 } : Room) s m args below meth c H locs 0 0 (MQ below (QC Γ b M (fun u => u 115 = .inr (9, [.int (nI cd), .int (nI nd), .ref (b + 116), .ref (b + 117), .ref (b + 118), .ref (b + 119), .int (nI cz), .ref (b + 120), .int (nI wz), .int (nI iz), .int (nI vz), .ref (b + 121), .ref (b + 122), .ref (b + 123), .ref (b + 124), .ref (b + 125), .ref (b + 126), .ref (b + 127), .ref (b + 128), .ref (b + 129), .int (nI ((en1 mo d x (mr, mrs, md)).2.2)), .ref (b + 130), .ref (b + 131), .int (nI wh), .ref (b + 132), .ref (b + 133), .int (nI sd), .int (nI sk), .int (nI ps), .int (nI fc), .ref (b + 134), .ref (b + 135)]) ∧ u 130 = aN Γ 21 ((en1 mo d x (mr, mrs, md)).1) ∧ u 131 = aD Γ 21 ((en1 mo d x (mr, mrs, md)).2.1) ∧ ∀ j, j ≠ 115 → j ≠ 130 → j ≠ 131 → u j = mem j) none) args s 0 0 (fun q => b ≤ q)) (F0 m 64 ls []) := by
      intro n9
      induction n9 with
      | zero => intro i qq hn; exact absurd hn (Nat.not_lt_zero _)
      | succ n9 ih =>
        intro i qq hn hqq hi hiq H locs mem1 f3 f4 f5 hfr2 hh ls hl
        have ih6 := ih
        refine lv_iload hx hb dX10_enter_64 (lv_at hl 0 rfl) ?_
        refine lv_iload hx hb dX10_enter_66 (lv_at hl 1 rfl) ?_
        refine nn_icmp_le (tgt := 109) hx hb dX10_enter_68 (by decide) (by omega) (by omega) (fun h7 => ?_) (fun h7 => ?_)
        ·
          have hiq2 : i = qq := by omega
          refine lv_aload_n hx hb dX10_enter_109 rfl (lv_at hl 2 rfl) ?_
          refine gf_X10_row hx hb hE hown hh (by omega) f3 rfl dX10_enter_110 ?_
          refine lv_iload hx hb dX10_enter_113 (lv_at hl 1 rfl) ?_
          refine lv_iload_n hx hb dX10_enter_115 rfl (lv_at hl 3 rfl) ?_
          refine mm_iast hx hb hE hh (by omega) f4 (by omega) (by decide) dX10_enter_116 (fun H locs mem8 f9 k10 hh => ?_)
          rw [va_up_nI] at f9
          have hfr11 : ∀ j, j ≠ 115 → j ≠ 130 → j ≠ 131 → mem8 j = mem j := fun j c0 c1 c2 => (k10 j (by omega)).trans (hfr2 j c0 c1 c2)
          have f12 : mem8 115 = .inr (9, [.int (nI cd), .int (nI nd), .ref (b + 116), .ref (b + 117), .ref (b + 118), .ref (b + 119), .int (nI cz), .ref (b + 120), .int (nI wz), .int (nI iz), .int (nI vz), .ref (b + 121), .ref (b + 122), .ref (b + 123), .ref (b + 124), .ref (b + 125), .ref (b + 126), .ref (b + 127), .ref (b + 128), .ref (b + 129), .int (nI md), .ref (b + 130), .ref (b + 131), .int (nI wh), .ref (b + 132), .ref (b + 133), .int (nI sd), .int (nI sk), .int (nI ps), .int (nI fc), .ref (b + 134), .ref (b + 135)]) := (k10 _ (by omega)).trans f3
          have f13 : mem8 131 = aD Γ 21 (shf mrs i (md + 1)) := (k10 _ (by omega)).trans f5
          refine lv_aload_n hx hb dX10_enter_117 rfl (lv_at hl 2 rfl) ?_
          refine gf_X10_rowScore hx hb hE hown hh (by omega) f12 rfl dX10_enter_118 ?_
          refine lv_iload hx hb dX10_enter_121 (lv_at hl 1 rfl) ?_
          refine lv_dload_n hx hb dX10_enter_123 rfl (lv_at hl 4 rfl) ?_
          refine mm_dast hx hb hE hh (by omega) f13 (by omega) (by decide) dX10_enter_124 (fun H locs mem14 f15 k16 hh => ?_)
          have hfr17 : ∀ j, j ≠ 115 → j ≠ 130 → j ≠ 131 → mem14 j = mem j := fun j c0 c1 c2 => (k16 j (by omega)).trans (hfr11 j c0 c1 c2)
          have f18 : mem14 115 = .inr (9, [.int (nI cd), .int (nI nd), .ref (b + 116), .ref (b + 117), .ref (b + 118), .ref (b + 119), .int (nI cz), .ref (b + 120), .int (nI wz), .int (nI iz), .int (nI vz), .ref (b + 121), .ref (b + 122), .ref (b + 123), .ref (b + 124), .ref (b + 125), .ref (b + 126), .ref (b + 127), .ref (b + 128), .ref (b + 129), .int (nI md), .ref (b + 130), .ref (b + 131), .int (nI wh), .ref (b + 132), .ref (b + 133), .int (nI sd), .int (nI sk), .int (nI ps), .int (nI fc), .ref (b + 134), .ref (b + 135)]) := (k16 _ (by omega)).trans f12
          have f19 : mem14 130 = aN Γ 21 (va_up (shf mr i (md + 1)) qq d) := (k16 _ (by omega)).trans f9
          refine lv_aload_n hx hb dX10_enter_125 rfl (lv_at hl 2 rfl) ?_
          refine lv_aload_n hx hb dX10_enter_126 rfl (lv_at hl 2 rfl) ?_
          refine gf_X10_made hx hb hE hown hh (by omega) f18 rfl dX10_enter_127 ?_
          refine lv_iload hx hb dX10_enter_130 (lv_at hl 5 rfl) ?_
          refine nn_icmp_ge (tgt := 144) hx hb dX10_enter_132 (by decide) (by omega) (by omega) (fun h20 => ?_) (fun h20 => ?_)
          ·
            have hme : (if md < mo then md + 1 else mo) = mo := if_neg (by omega)
            refine lv_iload hx hb dX10_enter_144 (lv_at hl 5 rfl) ?_
            refine gp_X10_made (fs' := [.int (nI cd), .int (nI nd), .ref (b + 116), .ref (b + 117), .ref (b + 118), .ref (b + 119), .int (nI cz), .ref (b + 120), .int (nI wz), .int (nI iz), .int (nI vz), .ref (b + 121), .ref (b + 122), .ref (b + 123), .ref (b + 124), .ref (b + 125), .ref (b + 126), .ref (b + 127), .ref (b + 128), .ref (b + 129), .int (nI mo), .ref (b + 130), .ref (b + 131), .int (nI wh), .ref (b + 132), .ref (b + 133), .int (nI sd), .int (nI sk), .int (nI ps), .int (nI fc), .ref (b + 134), .ref (b + 135)]) hx hb hE hown hh (by omega) f18 rfl rfl (show 20 < 32 by decide) rfl dX10_enter_146 (fun H locs mem21 f22 k23 hh => ?_)
            have hfr24 : ∀ j, j ≠ 115 → j ≠ 130 → j ≠ 131 → mem21 j = mem j := fun j c0 c1 c2 => (k23 j (by omega)).trans (hfr17 j c0 c1 c2)
            have f25 : mem21 130 = aN Γ 21 (va_up (shf mr i (md + 1)) qq d) := (k23 _ (by omega)).trans f19
            have f26 : mem21 131 = aD Γ 21 (va_up (shf mrs i (md + 1)) qq x) := (k23 _ (by omega)).trans f15
            exact mm_vret hx hb hr hlocks hE hh (⟨by rw [show (en1 mo d x (mr, mrs, md)).2.2 = _ from hme]; exact f22, by rw [show (en1 mo d x (mr, mrs, md)).1 = _ from (ins_fin mr d hqq hiq2).symm]; exact f25, by rw [show (en1 mo d x (mr, mrs, md)).2.1 = _ from (ins_fin mrs x hqq hiq2).symm]; exact f26, hfr24⟩) dX10_enter_149
          ·
            have hme : (if md < mo then md + 1 else mo) = md + 1 := if_pos (by omega)
            refine lv_aload_n hx hb dX10_enter_135 rfl (lv_at hl 2 rfl) ?_
            refine gf_X10_made hx hb hE hown hh (by omega) f18 rfl dX10_enter_136 ?_
            refine lv_iconst (v := (nI 1)) hx hb dX10_enter_139 (by decide) ?_
            refine nn_iadd hx hb dX10_enter_140 ?_
            refine lv_goto (tgt := 146) hx hb dX10_enter_141 (by decide) ?_
            refine gp_X10_made (fs' := [.int (nI cd), .int (nI nd), .ref (b + 116), .ref (b + 117), .ref (b + 118), .ref (b + 119), .int (nI cz), .ref (b + 120), .int (nI wz), .int (nI iz), .int (nI vz), .ref (b + 121), .ref (b + 122), .ref (b + 123), .ref (b + 124), .ref (b + 125), .ref (b + 126), .ref (b + 127), .ref (b + 128), .ref (b + 129), .int (nI (md + 1)), .ref (b + 130), .ref (b + 131), .int (nI wh), .ref (b + 132), .ref (b + 133), .int (nI sd), .int (nI sk), .int (nI ps), .int (nI fc), .ref (b + 134), .ref (b + 135)]) hx hb hE hown hh (by omega) f18 rfl rfl (show 20 < 32 by decide) rfl dX10_enter_146 (fun H locs mem27 f28 k29 hh => ?_)
            have hfr30 : ∀ j, j ≠ 115 → j ≠ 130 → j ≠ 131 → mem27 j = mem j := fun j c0 c1 c2 => (k29 j (by omega)).trans (hfr17 j c0 c1 c2)
            have f31 : mem27 130 = aN Γ 21 (va_up (shf mr i (md + 1)) qq d) := (k29 _ (by omega)).trans f19
            have f32 : mem27 131 = aD Γ 21 (va_up (shf mrs i (md + 1)) qq x) := (k29 _ (by omega)).trans f15
            exact mm_vret hx hb hr hlocks hE hh (⟨by rw [show (en1 mo d x (mr, mrs, md)).2.2 = _ from hme]; exact f28, by rw [show (en1 mo d x (mr, mrs, md)).1 = _ from (ins_fin mr d hqq hiq2).symm]; exact f31, by rw [show (en1 mo d x (mr, mrs, md)).2.1 = _ from (ins_fin mrs x hqq hiq2).symm]; exact f32, hfr30⟩) dX10_enter_149
        ·
          refine lv_aload_n hx hb dX10_enter_71 rfl (lv_at hl 2 rfl) ?_
          refine gf_X10_row hx hb hE hown hh (by omega) f3 rfl dX10_enter_72 ?_
          refine lv_iload hx hb dX10_enter_75 (lv_at hl 0 rfl) ?_
          refine lv_aload_n hx hb dX10_enter_77 rfl (lv_at hl 2 rfl) ?_
          refine gf_X10_row hx hb hE hown hh (by omega) f3 rfl dX10_enter_78 ?_
          refine lv_iload hx hb dX10_enter_81 (lv_at hl 0 rfl) ?_
          refine lv_iconst (v := (nI 1)) hx hb dX10_enter_83 (by decide) ?_
          refine nn_isub hx hb (by omega) dX10_enter_84 ?_
          refine mm_iald hx hb hE hh (by omega) f4 (by omega) (by decide) dX10_enter_85 ?_
          refine mm_iast hx hb hE hh (by omega) f4 (by omega) (by decide) dX10_enter_86 (fun H locs mem33 f34 k35 hh => ?_)
          rw [va_up_nI] at f34
          have hfr36 : ∀ j, j ≠ 115 → j ≠ 130 → j ≠ 131 → mem33 j = mem j := fun j c0 c1 c2 => (k35 j (by omega)).trans (hfr2 j c0 c1 c2)
          have f37 : mem33 115 = .inr (9, [.int (nI cd), .int (nI nd), .ref (b + 116), .ref (b + 117), .ref (b + 118), .ref (b + 119), .int (nI cz), .ref (b + 120), .int (nI wz), .int (nI iz), .int (nI vz), .ref (b + 121), .ref (b + 122), .ref (b + 123), .ref (b + 124), .ref (b + 125), .ref (b + 126), .ref (b + 127), .ref (b + 128), .ref (b + 129), .int (nI md), .ref (b + 130), .ref (b + 131), .int (nI wh), .ref (b + 132), .ref (b + 133), .int (nI sd), .int (nI sk), .int (nI ps), .int (nI fc), .ref (b + 134), .ref (b + 135)]) := (k35 _ (by omega)).trans f3
          have f38 : mem33 131 = aD Γ 21 (shf mrs i (md + 1)) := (k35 _ (by omega)).trans f5
          refine lv_aload_n hx hb dX10_enter_87 rfl (lv_at hl 2 rfl) ?_
          refine gf_X10_rowScore hx hb hE hown hh (by omega) f37 rfl dX10_enter_88 ?_
          refine lv_iload hx hb dX10_enter_91 (lv_at hl 0 rfl) ?_
          refine lv_aload_n hx hb dX10_enter_93 rfl (lv_at hl 2 rfl) ?_
          refine gf_X10_rowScore hx hb hE hown hh (by omega) f37 rfl dX10_enter_94 ?_
          refine lv_iload hx hb dX10_enter_97 (lv_at hl 0 rfl) ?_
          refine lv_iconst (v := (nI 1)) hx hb dX10_enter_99 (by decide) ?_
          refine nn_isub hx hb (by omega) dX10_enter_100 ?_
          refine mm_dald hx hb hE hh (by omega) f38 (by omega) (by decide) dX10_enter_101 ?_
          refine mm_dast hx hb hE hh (by omega) f38 (by omega) (by decide) dX10_enter_102 (fun H locs mem39 f40 k41 hh => ?_)
          have hfr42 : ∀ j, j ≠ 115 → j ≠ 130 → j ≠ 131 → mem39 j = mem j := fun j c0 c1 c2 => (k41 j (by omega)).trans (hfr36 j c0 c1 c2)
          have f43 : mem39 115 = .inr (9, [.int (nI cd), .int (nI nd), .ref (b + 116), .ref (b + 117), .ref (b + 118), .ref (b + 119), .int (nI cz), .ref (b + 120), .int (nI wz), .int (nI iz), .int (nI vz), .ref (b + 121), .ref (b + 122), .ref (b + 123), .ref (b + 124), .ref (b + 125), .ref (b + 126), .ref (b + 127), .ref (b + 128), .ref (b + 129), .int (nI md), .ref (b + 130), .ref (b + 131), .int (nI wh), .ref (b + 132), .ref (b + 133), .int (nI sd), .int (nI sk), .int (nI ps), .int (nI fc), .ref (b + 134), .ref (b + 135)]) := (k41 _ (by omega)).trans f37
          have f44 : mem39 130 = aN Γ 21 (va_up (shf mr i (md + 1)) i ((shf mr i (md + 1)) (i - 1))) := (k41 _ (by omega)).trans f34
          refine nn_idec (x := i) (lv' := [(6, .int (nI (i - 1))), (5, .int (nI qq)), (0, .ref (b + 115)), (1, .int (nI d)), (2, .double x), (4, .int (nI mo))]) hx hb dX10_enter_103 hl (k := 0) rfl (by omega) (by decide) rfl (fun ls hl => ?_)
          refine lv_goto (tgt := 64) hx hb dX10_enter_106 (by decide) ?_
          exact ih6 (i - 1) qq (by omega) (hqq) (by omega) (by omega) _ _ mem39 (f43) (by rw [← shf_s mr i (md + 1) (by omega) (by omega)]; exact f44) (by rw [← shf_s mrs i (md + 1) (by omega) (by omega)]; exact f40) hfr42 hh ls (lv_sub hl [0, 1, 2, 3, 4, 5] rfl)
    exact loop64 (md + 1) md k (by omega) (hkq) (by omega) (by omega) _ _ mem (fM) (by rw [shf_0 _ _ _ (by omega)]; exact g130) (by rw [shf_0 _ _ _ (by omega)]; exact g131) hfr hh ls (lv_sub hl [0, 1, 2, 3, 4, 5] rfl)
  refine lv_aload_n hx hb dX10_enter_0 rfl (lv_at hl 0 rfl) ?_
  refine gf_X10_made hx hb hE hown hh (by omega) fM rfl dX10_enter_1 ?_
  refine lv_istore (lv' := [(5, .int (nI md)), (0, .ref (b + 115)), (1, .int (nI d)), (2, .double x), (4, .int (nI mo))]) hx hb dX10_enter_4 hl (by decide) rfl (fun ls hl => ?_)
  have loop6 : ∀ (n9 : Nat) (k : Nat), k < n9 → (k ≤ md) → (plc d x mr mrs k = plc d x mr mrs md) → ∀ (H : Heap) (locs : List Loc), GH Γ b M mem s H locs → ∀ (ls : Array Slot), lv_has ls 7 [(5, .int (nI k)), (0, .ref (b + 115)), (1, .int (nI d)), (2, .double x), (4, .int (nI mo))] → W p l e ({ frames := 0, cells := 0, slots := 0, locals := 0 } : Room) s m args below meth c H locs 0 0 (MQ below (QC Γ b M (fun u => u 115 = .inr (9, [.int (nI cd), .int (nI nd), .ref (b + 116), .ref (b + 117), .ref (b + 118), .ref (b + 119), .int (nI cz), .ref (b + 120), .int (nI wz), .int (nI iz), .int (nI vz), .ref (b + 121), .ref (b + 122), .ref (b + 123), .ref (b + 124), .ref (b + 125), .ref (b + 126), .ref (b + 127), .ref (b + 128), .ref (b + 129), .int (nI ((en1 mo d x (mr, mrs, md)).2.2)), .ref (b + 130), .ref (b + 131), .int (nI wh), .ref (b + 132), .ref (b + 133), .int (nI sd), .int (nI sk), .int (nI ps), .int (nI fc), .ref (b + 134), .ref (b + 135)]) ∧ u 130 = aN Γ 21 ((en1 mo d x (mr, mrs, md)).1) ∧ u 131 = aD Γ 21 ((en1 mo d x (mr, mrs, md)).2.1) ∧ ∀ j, j ≠ 115 → j ≠ 130 → j ≠ 131 → u j = mem j) none) args s 0 0 (fun q => b ≤ q)) (F0 m 6 ls []) := by
    intro n9
    induction n9 with
    | zero => intro k hn; exact absurd hn (Nat.not_lt_zero _)
    | succ n9 ih =>
      intro k hn hk hp H locs hh ls hl
      have ih45 := ih
      refine lv_iload hx hb dX10_enter_6 (lv_at hl 0 rfl) ?_
      refine nn_if_le (tgt := 58) hx hb dX10_enter_8 (by decide) (by omega) (fun h46 => ?_) (fun h46 => ?_)
      ·
        have hkq := plc_0 hp h46
        exact loop58 k (hkq) _ _ hh ls (lv_sub hl [0, 1, 2, 3, 4] rfl)
      ·
        have hmk := hmr (k - 1)
        refine lv_aload_n hx hb dX10_enter_11 rfl (lv_at hl 1 rfl) ?_
        refine gf_X10_rowScore hx hb hE hown hh (by omega) fM rfl dX10_enter_12 ?_
        refine lv_iload hx hb dX10_enter_15 (lv_at hl 0 rfl) ?_
        refine lv_iconst (v := (nI 1)) hx hb dX10_enter_17 (by decide) ?_
        refine nn_isub hx hb (by omega) dX10_enter_18 ?_
        refine mm_dald hx hb hE hh (by omega) g131 (by omega) (by decide) dX10_enter_19 ?_
        refine lv_dload_n hx hb dX10_enter_20 rfl (lv_at hl 3 rfl) ?_
        refine lv_dcmp hx hb dX10_enter_21 ?_
        refine nn_cg_lt (tgt := 52) hx hb dX10_enter_22 (by decide) (fun h47 => ?_) (fun h47 => ?_)
        ·
          have hbf := plc_go hp (by omega) (bf_lt h47)
          refine nn_idec (x := k) (lv' := [(5, .int (nI (k - 1))), (0, .ref (b + 115)), (1, .int (nI d)), (2, .double x), (4, .int (nI mo))]) hx hb dX10_enter_52 hl (k := 0) rfl (by omega) (by decide) rfl (fun ls hl => ?_)
          refine lv_goto (tgt := 6) hx hb dX10_enter_55 (by decide) ?_
          exact ih45 (k - 1) (by omega) (by omega) (hbf) _ _ hh ls (lv_sub hl [0, 1, 2, 3, 4] rfl)
        ·
          have g1 := h47
          refine lv_aload_n hx hb dX10_enter_25 rfl (lv_at hl 1 rfl) ?_
          refine gf_X10_rowScore hx hb hE hown hh (by omega) fM rfl dX10_enter_26 ?_
          refine lv_iload hx hb dX10_enter_29 (lv_at hl 0 rfl) ?_
          refine lv_iconst (v := (nI 1)) hx hb dX10_enter_31 (by decide) ?_
          refine nn_isub hx hb (by omega) dX10_enter_32 ?_
          refine mm_dald hx hb hE hh (by omega) g131 (by omega) (by decide) dX10_enter_33 ?_
          refine lv_dload_n hx hb dX10_enter_34 rfl (lv_at hl 3 rfl) ?_
          refine lv_dcmp hx hb dX10_enter_35 ?_
          refine nn_cl_ne (tgt := 58) hx hb dX10_enter_36 (by decide) (fun h48 => ?_) (fun h48 => ?_)
          ·
            have hkq := plc_no hp (by omega) (bf_ne g1 h48)
            exact loop58 k (hkq) _ _ hh ls (lv_sub hl [0, 1, 2, 3, 4] rfl)
          ·
            have g2 := Classical.not_not.mp h48
            refine lv_aload_n hx hb dX10_enter_39 rfl (lv_at hl 1 rfl) ?_
            refine gf_X10_row hx hb hE hown hh (by omega) fM rfl dX10_enter_40 ?_
            refine lv_iload hx hb dX10_enter_43 (lv_at hl 0 rfl) ?_
            refine lv_iconst (v := (nI 1)) hx hb dX10_enter_45 (by decide) ?_
            refine nn_isub hx hb (by omega) dX10_enter_46 ?_
            refine mm_iald hx hb hE hh (by omega) g130 (by omega) (by decide) dX10_enter_47 ?_
            refine lv_iload_n hx hb dX10_enter_48 rfl (lv_at hl 2 rfl) ?_
            refine nn_icmp_le (tgt := 58) hx hb dX10_enter_49 (by decide) (by omega) (by omega) (fun h49 => ?_) (fun h49 => ?_)
            ·
              have hkq := plc_no hp (by omega) (bf_ef g1 (by omega))
              exact loop58 k (hkq) _ _ hh ls (lv_sub hl [0, 1, 2, 3, 4] rfl)
            ·
              have hbf := plc_go hp (by omega) (bf_et g1 g2 (by omega))
              refine nn_idec (x := k) (lv' := [(5, .int (nI (k - 1))), (0, .ref (b + 115)), (1, .int (nI d)), (2, .double x), (4, .int (nI mo))]) hx hb dX10_enter_52 hl (k := 0) rfl (by omega) (by decide) rfl (fun ls hl => ?_)
              refine lv_goto (tgt := 6) hx hb dX10_enter_55 (by decide) ?_
              exact ih45 (k - 1) (by omega) (by omega) (hbf) _ _ hh ls (lv_sub hl [0, 1, 2, 3, 4] rfl)
  exact loop6 (md + 1) md (by omega) (by omega) (rfl) _ _ hh ls (lv_sub hl [0, 1, 2, 3, 4] rfl)
set_option maxHeartbeats 4000000 in
set_option maxRecDepth 100000 in
/-- reference: isBeaten -/
theorem c_X10_isBeaten (l : Launch) (Γ : Gm) (b M : Nat) (mem : Nat → va_E) {cd nd cz wz iz vz md wh sd sk ps fc : Nat} {mr : Nat → Nat} {mrs : Nat → UInt64} {mo : Nat} {x : UInt64} (hM : 138 ≤ M) (fM : mem 115 = .inr (9, [.int (nI cd), .int (nI nd), .ref (b + 116), .ref (b + 117), .ref (b + 118), .ref (b + 119), .int (nI cz), .ref (b + 120), .int (nI wz), .int (nI iz), .int (nI vz), .ref (b + 121), .ref (b + 122), .ref (b + 123), .ref (b + 124), .ref (b + 125), .ref (b + 126), .ref (b + 127), .ref (b + 128), .ref (b + 129), .int (nI md), .ref (b + 130), .ref (b + 131), .int (nI wh), .ref (b + 132), .ref (b + 133), .int (nI sd), .int (nI sk), .int (nI ps), .int (nI fc), .ref (b + 134), .ref (b + 135)])) (g131 : mem 131 = aD Γ 21 mrs) (hmd : md ≤ mo) (hmo : mo ≤ 20) : Ct l yX10_isBeaten (.code yX10_isBeaten cX10_isBeaten 4 (some .boolean)) ({ frames := 0, cells := 0, slots := 0, locals := 0 } : Room) Γ b M [.ref (b + 115), .double x, .int (nI mo)] mem (fun u => u = mem) (some (.int (bI (shO mo md mrs x)))) := by
  refine mm_enter (cc := cX10_isBeaten) (by decide) (Nat.le_of_ble_eq_true rfl) ?_
  intro p e s m args below meth c ls hx hb hml hown hr hlocks hname hE hh hl
  have hl : lv_has ls 4 [(0, .ref (b + 115)), (1, .double x), (3, .int (nI mo))] := hl
  refine lv_aload_n hx hb dX10_isBeaten_0 rfl (lv_at hl 0 rfl) ?_
  refine gf_X10_made hx hb hE hown hh (by omega) fM rfl dX10_isBeaten_1 ?_
  refine lv_iload_n hx hb dX10_isBeaten_4 rfl (lv_at hl 2 rfl) ?_
  refine nn_icmp_ne (tgt := 29) hx hb dX10_isBeaten_5 (by decide) (by omega) (by omega) (fun h1 => ?_) (fun h1 => ?_)
  ·
    have hq : shO mo md mrs x = false := decide_eq_false (by omega)
    refine lv_iconst (v := (nI 0)) hx hb dX10_isBeaten_29 (by decide) ?_
    exact mm_zret hx hb hr hlocks hE hh (by rw [hq]; rfl) (rfl) rfl dX10_isBeaten_30
  ·
    have g1 := h1
    refine lv_iload_n hx hb dX10_isBeaten_8 rfl (lv_at hl 2 rfl) ?_
    refine nn_if_eq (tgt := 25) hx hb dX10_isBeaten_9 (by decide) (by omega) (fun h2 => ?_) (fun h2 => ?_)
    ·
      have hq : shO mo md mrs x = true := decide_eq_true ⟨by omega, Or.inl (by omega)⟩
      refine lv_iconst (v := (nI 1)) hx hb dX10_isBeaten_25 (by decide) ?_
      refine lv_goto (tgt := 30) hx hb dX10_isBeaten_26 (by decide) ?_
      exact mm_zret hx hb hr hlocks hE hh (by rw [hq]; rfl) (rfl) rfl dX10_isBeaten_30
    ·
      have g2 := h2
      refine lv_dload_n hx hb dX10_isBeaten_12 rfl (lv_at hl 1 rfl) ?_
      refine lv_aload_n hx hb dX10_isBeaten_13 rfl (lv_at hl 0 rfl) ?_
      refine gf_X10_rowScore hx hb hE hown hh (by omega) fM rfl dX10_isBeaten_14 ?_
      refine lv_iload_n hx hb dX10_isBeaten_17 rfl (lv_at hl 2 rfl) ?_
      refine lv_iconst (v := (nI 1)) hx hb dX10_isBeaten_18 (by decide) ?_
      refine nn_isub hx hb (by omega) dX10_isBeaten_19 ?_
      refine mm_dald hx hb hE hh (by omega) g131 (by omega) (by decide) dX10_isBeaten_20 ?_
      refine lv_dcmp hx hb dX10_isBeaten_21 ?_
      refine nn_cl_gt (tgt := 29) hx hb dX10_isBeaten_22 (by decide) (fun h3 => ?_) (fun h3 => ?_)
      ·
        have hq : shO mo md mrs x = false := decide_eq_false (fun z => z.2.elim (by omega) (fun z2 => z2 (by rw [g1]; exact h3)))
        refine lv_iconst (v := (nI 0)) hx hb dX10_isBeaten_29 (by decide) ?_
        exact mm_zret hx hb hr hlocks hE hh (by rw [hq]; rfl) (rfl) rfl dX10_isBeaten_30
      ·
        have hq : shO mo md mrs x = true := decide_eq_true ⟨by omega, Or.inr (by rw [g1]; exact h3)⟩
        refine lv_iconst (v := (nI 1)) hx hb dX10_isBeaten_25 (by decide) ?_
        refine lv_goto (tgt := 30) hx hb dX10_isBeaten_26 (by decide) ?_
        exact mm_zret hx hb hr hlocks hE hh (by rw [hq]; rfl) (rfl) rfl dX10_isBeaten_30
def mbF (c : Nat → Bool) (q : Nat → UInt64) (lo : Nat) : Nat → UInt64
  | 0 => FP.dconst0
  | n + 1 => if FP.dcmp (if c (lo + n) = true then q (lo + n) else FP.dconst0) (mbF c q lo n) = some .gt then (if c (lo + n) = true then q (lo + n) else FP.dconst0) else mbF c q lo n
def bnd (c : Nat → Nat → Bool) (q : Nat → Nat → UInt64) (nd blk : Nat) : Nat → UInt64 := fun k => mbF (fun d => c d k) (fun d => q d k) (4 * blk) (eB nd blk - 4 * blk)
theorem mbF_db {c : Nat → Bool} {q : Nat → UInt64} {lo : Nat} : ∀ n, (∀ d, lo ≤ d → d < lo + n → db 1090 (q d)) → db 1090 (mbF c q lo n)
  | 0, _ => db_0
  | n + 1, h => by
    have h1 := mbF_db (c := c) (q := q) (lo := lo) n (fun d a b => h d a (by omega))
    unfold mbF
    repeat' split
    all_goals first | exact h1 | exact db_0 | exact h _ (by omega) (by omega)
theorem nI_nm1 {d : Nat} (h : d < 2 ^ 31) : ¬ nI d = (-1) := by
  intro q
  have h1 := nI_toInt h
  rw [q] at h1
  have h2 : (-1 : Int32).toInt = -1 := by decide
  omega
theorem eB_4 {nd b : Nat} : eB nd b ≤ 4 * b + 4 := by have := eB_le4 nd b; omega
theorem eB_in {nd b x : Nat} (h1 : x < 4 * b + 4) (h2 : x < nd) : x < eB nd b := by unfold eB; omega
theorem eB_out {nd b x : Nat} (h : 4 * b + 4 ≤ x ∨ nd ≤ x) : eB nd b ≤ x := by unfold eB; omega

set_option maxHeartbeats 4000000 in
set_option maxRecDepth 100000 in
/-- reference: score, private 0 -/
theorem m_sc0 (l : Launch) (Γ : Gm) (b M : Nat) (mem : Nat → va_E) {cd nd cz wz iz vz md wh sd sk ps fc : Nat} {mr : Nat → Nat} {mrs : Nat → UInt64} {d mo : Nat} {cn : Nat → Nat → Nat} {ln wm : Nat → Nat}  (hM : 138 ≤ M) (fM : mem 115 = .inr (9, [.int (nI cd), .int (nI nd), .ref (b + 116), .ref (b + 117), .ref (b + 118), .ref (b + 119), .int (nI cz), .ref (b + 120), .int (nI wz), .int (nI iz), .int (nI vz), .ref (b + 121), .ref (b + 122), .ref (b + 123), .ref (b + 124), .ref (b + 125), .ref (b + 126), .ref (b + 127), .ref (b + 128), .ref (b + 129), .int (nI md), .ref (b + 130), .ref (b + 131), .int (nI wh), .ref (b + 132), .ref (b + 133), .int (nI sd), .int (nI sk), .int (nI ps), .int (nI fc), .ref (b + 134), .ref (b + 135)])) (g130 : mem 130 = aN Γ 21 mr) (g131 : mem 131 = aD Γ 21 mrs) (hok : tOK mo (mr, mrs, md)) (hmo : mo ≤ 20) (g116 : mem 116 = aN Γ 192 (fl12 cn)) (g121 : mem 121 = aN Γ 4 wm) (hnd : nd ≤ 16) (hcn : ∀ d t, cn d t ≤ 1000) (hlc : ∀ d t, cn d t ≤ ln d) (hln : ∀ d, ln d ≤ 12000) (hlm : ∀ d, suN (cn d) 12 = ln d) (hwm : ∀ i, wm i < 12) (hwz : wz ≤ 4) (hd : d < nd) : Ct l yX10_score (.code yX10_score cX10_score 4 none) ({ frames := 4, cells := 0, slots := 0, locals := 118 } : Room) Γ b M [.ref (b + 115), .int (nI 0), .int (nI d), .int (nI mo)] mem (fun u => u 115 = .inr (9, [.int (nI cd), .int (nI nd), .ref (b + 116), .ref (b + 117), .ref (b + 118), .ref (b + 119), .int (nI cz), .ref (b + 120), .int (nI wz), .int (nI iz), .int (nI vz), .ref (b + 121), .ref (b + 122), .ref (b + 123), .ref (b + 124), .ref (b + 125), .ref (b + 126), .ref (b + 127), .ref (b + 128), .ref (b + 129), .int (nI ((en1 mo d (suG ((inW cn wm) d) ((wQ cn ln wm nd) d) wz) (mr, mrs, md)).2.2)), .ref (b + 130), .ref (b + 131), .int (nI wh), .ref (b + 132), .ref (b + 133), .int (nI (sd + 1)), .int (nI sk), .int (nI ps), .int (nI fc), .ref (b + 134), .ref (b + 135)]) ∧ u 130 = aN Γ 21 ((en1 mo d (suG ((inW cn wm) d) ((wQ cn ln wm nd) d) wz) (mr, mrs, md)).1) ∧ u 131 = aD Γ 21 ((en1 mo d (suG ((inW cn wm) d) ((wQ cn ln wm nd) d) wz) (mr, mrs, md)).2.1) ∧ ∀ j, j ≠ 115 → j ≠ 130 → j ≠ 131 → u j = mem j) none := by
  refine mm_enter (cc := cX10_score) (by decide) (Nat.le_of_ble_eq_true rfl) ?_
  intro p e s m args below meth c ls hx hb hml hown hr hlocks hname hE hh hl
  have hl : lv_has ls 4 [(0, .ref (b + 115)), (1, .int (nI 0)), (2, .int (nI d)), (3, .int (nI mo))] := hl
  have hfr : ∀ j, j ≠ 115 → j ≠ 130 → j ≠ 131 → mem j = mem j := fun j _ _ _ => rfl
  refine lv_aload_n hx hb dX10_score_0 rfl (lv_at hl 0 rfl) ?_
  refine lv_dup hx hb dX10_score_1 rfl ?_
  refine gf_X10_scored hx hb hE hown hh (by omega) fM rfl dX10_score_2 ?_
  refine lv_iconst (v := (nI 1)) hx hb dX10_score_5 (by decide) ?_
  refine nn_iadd hx hb dX10_score_6 ?_
  refine gp_X10_scored (fs' := [.int (nI cd), .int (nI nd), .ref (b + 116), .ref (b + 117), .ref (b + 118), .ref (b + 119), .int (nI cz), .ref (b + 120), .int (nI wz), .int (nI iz), .int (nI vz), .ref (b + 121), .ref (b + 122), .ref (b + 123), .ref (b + 124), .ref (b + 125), .ref (b + 126), .ref (b + 127), .ref (b + 128), .ref (b + 129), .int (nI md), .ref (b + 130), .ref (b + 131), .int (nI wh), .ref (b + 132), .ref (b + 133), .int (nI (sd + 1)), .int (nI sk), .int (nI ps), .int (nI fc), .ref (b + 134), .ref (b + 135)]) hx hb hE hown hh (by omega) fM rfl rfl (show 26 < 32 by decide) rfl dX10_score_7 (fun H locs mem1 f2 k3 hh => ?_)
  have hfr4 : ∀ j, j ≠ 115 → j ≠ 130 → j ≠ 131 → mem1 j = mem j := fun j c0 c1 c2 => (k3 j (by omega)).trans (hfr j c0 c1 c2)
  have f5 : mem1 130 = aN Γ 21 mr := (k3 _ (by omega)).trans g130
  have f6 : mem1 131 = aD Γ 21 mrs := (k3 _ (by omega)).trans g131
  have f7 : mem1 116 = aN Γ 192 (fl12 cn) := (k3 _ (by omega)).trans g116
  have f8 : mem1 121 = aN Γ 4 wm := (k3 _ (by omega)).trans g121
  refine lv_aload_n hx hb dX10_score_10 rfl (lv_at hl 0 rfl) ?_
  refine lv_iload_n hx hb dX10_score_11 rfl (lv_at hl 2 rfl) ?_
  refine lv_aload_n hx hb dX10_score_12 rfl (lv_at hl 0 rfl) ?_
  refine lv_iload_n hx hb dX10_score_13 rfl (lv_at hl 1 rfl) ?_
  refine lv_iload_n hx hb dX10_score_14 rfl (lv_at hl 2 rfl) ?_
  refine mm_V0r (As := [.int (nI 0), .int (nI d)]) (rest := [.int (nI d), .ref (b + 115)]) hx hb hml hown hE hl.1 hh (kc_X10_183 hE.2.1 ⟨Nat.le_of_ble_eq_true rfl, Nat.le_of_ble_eq_true rfl⟩) (m_scoreOf0 l Γ b M mem1 (cd := cd) (nd := nd) (cz := cz) (wz := wz) (iz := iz) (vz := vz) (md := md) (wh := wh) (sd := sd + 1) (sk := sk) (ps := ps) (fc := fc) (d := d) (wm := wm) (by omega) f2 f7 f8 (by omega) (by omega) (hcn) (hlc) (hln) (hlm) (hwm) (by omega)) rfl (by omega) f2 rfl rfl (Nat.le_of_ble_eq_true rfl) dX10_score_15 rfl rfl (fun H locs hh => ?_)
  refine lv_iload_n hx hb dX10_score_18 rfl (lv_at hl 3 rfl) ?_
  refine mm_V0 (As := [.int (nI d), .double (suG (inW cn wm d) (wQ cn ln wm nd d) wz), .int (nI mo)]) (rest := []) hx hb hml hown hE hl.1 hh (kc_X10_186 hE.2.1 ⟨Nat.le_of_ble_eq_true rfl, Nat.le_of_ble_eq_true rfl⟩) (c_X10_enter l Γ b M mem1 (cd := cd) (nd := nd) (cz := cz) (wz := wz) (iz := iz) (vz := vz) (md := md) (wh := wh) (sd := sd + 1) (sk := sk) (ps := ps) (fc := fc) (mr := mr) (mrs := mrs) (d := d) (mo := mo) (x := (suG (inW cn wm d) (wQ cn ln wm nd d) wz)) (by omega) f2 f5 f6 (hok) (by omega) (by omega)) rfl (by omega) f2 rfl rfl (Nat.le_of_ble_eq_true rfl) dX10_score_19 rfl rfl (fun H locs mem9 hP10 hh => ?_)
  obtain ⟨f11, f12, f13, k14⟩ := hP10
  have hfr15 : ∀ j, j ≠ 115 → j ≠ 130 → j ≠ 131 → mem9 j = mem j := fun j c0 c1 c2 => (k14 j (by omega) (by omega) (by omega)).trans (hfr4 j c0 c1 c2)
  have f16 : mem9 116 = aN Γ 192 (fl12 cn) := (k14 _ (by omega) (by omega) (by omega)).trans f7
  have f17 : mem9 121 = aN Γ 4 wm := (k14 _ (by omega) (by omega) (by omega)).trans f8
  exact mm_vret hx hb hr hlocks hE hh (⟨f11, f12, f13, hfr15⟩) dX10_score_22
set_option maxHeartbeats 4000000 in
set_option maxRecDepth 100000 in
/-- reference: bound 0 -/
theorem m_bound0 (l : Launch) (Γ : Gm) (b M : Nat) (mem : Nat → va_E) {cd nd cz wz iz vz md wh sd sk ps fc : Nat} {bl k : Nat} {cn : Nat → Nat → Nat} {ln wm : Nat → Nat}  (hM : 138 ≤ M) (fM : mem 115 = .inr (9, [.int (nI cd), .int (nI nd), .ref (b + 116), .ref (b + 117), .ref (b + 118), .ref (b + 119), .int (nI cz), .ref (b + 120), .int (nI wz), .int (nI iz), .int (nI vz), .ref (b + 121), .ref (b + 122), .ref (b + 123), .ref (b + 124), .ref (b + 125), .ref (b + 126), .ref (b + 127), .ref (b + 128), .ref (b + 129), .int (nI md), .ref (b + 130), .ref (b + 131), .int (nI wh), .ref (b + 132), .ref (b + 133), .int (nI sd), .int (nI sk), .int (nI ps), .int (nI fc), .ref (b + 134), .ref (b + 135)])) (g116 : mem 116 = aN Γ 192 (fl12 cn)) (g121 : mem 121 = aN Γ 4 wm) (hnd : nd ≤ 16) (hcn : ∀ d t, cn d t ≤ 1000) (hlc : ∀ d t, cn d t ≤ ln d) (hln : ∀ d, ln d ≤ 12000) (hlm : ∀ d, suN (cn d) 12 = ln d) (hwm : ∀ i, wm i < 12) (hwz : wz ≤ 4) (hb4 : bl < 4) (hk : k < wz) : Ct l yX10_bound (.code yX10_bound cX10_bound 9 (some .double)) ({ frames := 3, cells := 0, slots := 0, locals := 90 } : Room) Γ b M [.ref (b + 115), .int (nI 0), .int (nI bl), .int (nI k)] mem (fun u => u = mem) (some (.double (bnd (inW cn wm) (wQ cn ln wm nd) nd bl k))) := by
  refine mm_enter (cc := cX10_bound) (by decide) (Nat.le_of_ble_eq_true rfl) ?_
  intro p e s m args below meth c ls hx hb hml hown hr hlocks hname hE hh hl
  have hl : lv_has ls 9 [(0, .ref (b + 115)), (1, .int (nI 0)), (2, .int (nI bl)), (3, .int (nI k))] := hl
  have he4 := eB_4 (nd := nd) (b := bl)
  have hen := eB_le nd bl
  refine lv_dconst0 hx hb dX10_bound_0 ?_
  refine lv_dstore (lv' := [(4, .double FP.dconst0), (0, .ref (b + 115)), (1, .int (nI 0)), (2, .int (nI bl)), (3, .int (nI k))]) hx hb dX10_bound_1 hl (by decide) rfl (fun ls hl => ?_)
  refine lv_iconst (v := (nI 4)) hx hb dX10_bound_3 (by decide) ?_
  refine lv_iload_n hx hb dX10_bound_4 rfl (lv_at hl 3 rfl) ?_
  refine nn_imul hx hb dX10_bound_5 ?_
  refine lv_istore (lv' := [(6, .int (nI (4 * bl))), (4, .double FP.dconst0), (0, .ref (b + 115)), (1, .int (nI 0)), (2, .int (nI bl)), (3, .int (nI k))]) hx hb dX10_bound_6 hl (by decide) rfl (fun ls hl => ?_)
  have loop8 : ∀ (n9 : Nat) (n : Nat), (20 - n) < n9 → (n ≤ eB nd bl - 4 * bl) → ∀ (H : Heap) (locs : List Loc), GH Γ b M mem s H locs → ∀ (ls : Array Slot), lv_has ls 9 [(6, .int (nI (4 * bl + n))), (4, .double (mbF (fun d8 => (inW cn wm) d8 k) (fun d8 => (wQ cn ln wm nd) d8 k) (4 * bl) n)), (0, .ref (b + 115)), (1, .int (nI 0)), (2, .int (nI bl)), (3, .int (nI k))] → W p l e ({ frames := 3, cells := 0, slots := 0, locals := 90 } : Room) s m args below meth c H locs 0 0 (MQ below (QC Γ b M (fun u => u = mem) (some (.double (bnd (inW cn wm) (wQ cn ln wm nd) nd bl k)))) args s 0 0 (fun q => b ≤ q)) (F0 m 8 ls []) := by
    intro n9
    induction n9 with
    | zero => intro n hn; exact absurd hn (Nat.not_lt_zero _)
    | succ n9 ih =>
      intro n hn hn0 H locs hh ls hl
      have ih1 := ih
      refine lv_iload hx hb dX10_bound_8 (lv_at hl 0 rfl) ?_
      refine lv_iconst (v := (nI 4)) hx hb dX10_bound_10 (by decide) ?_
      refine lv_iload_n hx hb dX10_bound_11 rfl (lv_at hl 4 rfl) ?_
      refine nn_imul hx hb dX10_bound_12 ?_
      refine lv_iconst (v := (nI 4)) hx hb dX10_bound_13 (by decide) ?_
      refine nn_iadd hx hb dX10_bound_14 ?_
      refine nn_icmp_ge (tgt := 75) hx hb dX10_bound_15 (by decide) (by omega) (by omega) (fun h2 => ?_) (fun h2 => ?_)
      ·
        have hq : n = eB nd bl - 4 * bl := by have := eB_out (nd := nd) (b := bl) (Or.inl h2); omega
        refine lv_dload hx hb dX10_bound_75 (lv_at hl 1 rfl) ?_
        exact mm_dret hx hb hr hlocks hE hh (by rw [hq]; rfl) (rfl) dX10_bound_77
      ·
        have g1 := h2
        refine lv_iload hx hb dX10_bound_18 (lv_at hl 0 rfl) ?_
        refine lv_aload_n hx hb dX10_bound_20 rfl (lv_at hl 2 rfl) ?_
        refine gf_X10_documents hx hb hE hown hh (by omega) fM rfl dX10_bound_21 ?_
        refine nn_icmp_ge (tgt := 75) hx hb dX10_bound_24 (by decide) (by omega) (by omega) (fun h3 => ?_) (fun h3 => ?_)
        ·
          have hq : n = eB nd bl - 4 * bl := by have := eB_out (nd := nd) (b := bl) (Or.inr h3); omega
          refine lv_dload hx hb dX10_bound_75 (lv_at hl 1 rfl) ?_
          exact mm_dret hx hb hr hlocks hE hh (by rw [hq]; rfl) (rfl) dX10_bound_77
        ·
          have g2 := h3
          refine lv_aload_n hx hb dX10_bound_27 rfl (lv_at hl 2 rfl) ?_
          refine lv_iload_n hx hb dX10_bound_28 rfl (lv_at hl 3 rfl) ?_
          refine lv_iload hx hb dX10_bound_29 (lv_at hl 0 rfl) ?_
          refine lv_iload_n hx hb dX10_bound_31 rfl (lv_at hl 5 rfl) ?_
          refine mm_V0r (As := [.int (nI 0), .int (nI (4 * bl + n)), .int (nI k)]) (rest := []) hx hb hml hown hE hl.1 hh (kc_X10_161 hE.2.1 ⟨Nat.le_of_ble_eq_true rfl, Nat.le_of_ble_eq_true rfl⟩) (m_isIn0 l Γ b M mem (cd := cd) (nd := nd) (cz := cz) (wz := wz) (iz := iz) (vz := vz) (md := md) (wh := wh) (sd := sd) (sk := sk) (ps := ps) (fc := fc) (d := 4 * bl + n) (k := k) (wm := wm) (by omega) fM g116 g121 (by omega) (by omega) (hcn) (hlc) (hln) (hlm) (hwm) (by omega) (by omega)) rfl (by omega) fM rfl rfl (Nat.le_of_ble_eq_true rfl) dX10_bound_32 rfl rfl (fun H locs hh => ?_)
          refine nn_beq (tgt := 49) hx hb dX10_bound_35 (by decide) (fun h4 => ?_) (fun h4 => ?_)
          ·
            have ha : (if (inW cn wm) (4 * bl + n) k = true then (wQ cn ln wm nd) (4 * bl + n) k else FP.dconst0) = FP.dconst0 := if_neg (by rw [h4]; decide)
            refine lv_dconst0 hx hb dX10_bound_49 ?_
            refine lv_dstore (lv' := [(7, .double FP.dconst0), (6, .int (nI (4 * bl + n))), (4, .double (mbF (fun d8 => (inW cn wm) d8 k) (fun d8 => (wQ cn ln wm nd) d8 k) (4 * bl) n)), (0, .ref (b + 115)), (1, .int (nI 0)), (2, .int (nI bl)), (3, .int (nI k))]) hx hb dX10_bound_50 hl (by decide) rfl (fun ls hl => ?_)
            refine lv_dload hx hb dX10_bound_52 (lv_at hl 0 rfl) ?_
            refine lv_dload hx hb dX10_bound_54 (lv_at hl 2 rfl) ?_
            refine lv_dcmp hx hb dX10_bound_56 ?_
            refine nn_cl_le (tgt := 65) hx hb dX10_bound_57 (by decide) (fun h5 => ?_) (fun h5 => ?_)
            ·
              have hn1 : (mbF (fun d8 => (inW cn wm) d8 k) (fun d8 => (wQ cn ln wm nd) d8 k) (4 * bl) (n + 1)) = (mbF (fun d8 => (inW cn wm) d8 k) (fun d8 => (wQ cn ln wm nd) d8 k) (4 * bl) n) := by show (if FP.dcmp (if (inW cn wm) (4 * bl + n) k = true then (wQ cn ln wm nd) (4 * bl + n) k else FP.dconst0) _ = some .gt then (if (inW cn wm) (4 * bl + n) k = true then (wQ cn ln wm nd) (4 * bl + n) k else FP.dconst0) else _) = _; rw [ha, if_neg h5]
              refine lv_dload hx hb dX10_bound_65 (lv_at hl 2 rfl) ?_
              refine lv_dstore (lv' := [(4, .double (mbF (fun d8 => (inW cn wm) d8 k) (fun d8 => (wQ cn ln wm nd) d8 k) (4 * bl) n)), (7, .double FP.dconst0), (6, .int (nI (4 * bl + n))), (0, .ref (b + 115)), (1, .int (nI 0)), (2, .int (nI bl)), (3, .int (nI k))]) hx hb dX10_bound_67 hl (by decide) rfl (fun ls hl => ?_)
              refine nn_iinc (x := (4 * bl + n)) (d := 1) (lv' := [(6, .int (nI ((4 * bl + n) + 1))), (4, .double (mbF (fun d8 => (inW cn wm) d8 k) (fun d8 => (wQ cn ln wm nd) d8 k) (4 * bl) n)), (7, .double FP.dconst0), (0, .ref (b + 115)), (1, .int (nI 0)), (2, .int (nI bl)), (3, .int (nI k))]) hx hb dX10_bound_69 hl (k := 2) rfl (by decide) (by decide) rfl (fun ls hl => ?_)
              refine lv_goto (tgt := 8) hx hb dX10_bound_72 (by decide) ?_
              exact ih1 (n + 1) (by omega) (by have := eB_in g1 g2; omega) _ _ hh ls (lv_sub hl [0, 1, 3, 4, 5, 6] (by rw [hn1]; rfl))
            ·
              have hn1 : (mbF (fun d8 => (inW cn wm) d8 k) (fun d8 => (wQ cn ln wm nd) d8 k) (4 * bl) (n + 1)) = FP.dconst0 := by show (if FP.dcmp (if (inW cn wm) (4 * bl + n) k = true then (wQ cn ln wm nd) (4 * bl + n) k else FP.dconst0) _ = some .gt then (if (inW cn wm) (4 * bl + n) k = true then (wQ cn ln wm nd) (4 * bl + n) k else FP.dconst0) else _) = _; rw [ha, if_pos (Classical.not_not.mp h5)]
              refine lv_dload hx hb dX10_bound_60 (lv_at hl 0 rfl) ?_
              refine lv_goto (tgt := 67) hx hb dX10_bound_62 (by decide) ?_
              refine lv_dstore (lv' := [(4, .double FP.dconst0), (7, .double FP.dconst0), (6, .int (nI (4 * bl + n))), (0, .ref (b + 115)), (1, .int (nI 0)), (2, .int (nI bl)), (3, .int (nI k))]) hx hb dX10_bound_67 hl (by decide) rfl (fun ls hl => ?_)
              refine nn_iinc (x := (4 * bl + n)) (d := 1) (lv' := [(6, .int (nI ((4 * bl + n) + 1))), (4, .double FP.dconst0), (7, .double FP.dconst0), (0, .ref (b + 115)), (1, .int (nI 0)), (2, .int (nI bl)), (3, .int (nI k))]) hx hb dX10_bound_69 hl (k := 2) rfl (by decide) (by decide) rfl (fun ls hl => ?_)
              refine lv_goto (tgt := 8) hx hb dX10_bound_72 (by decide) ?_
              exact ih1 (n + 1) (by omega) (by have := eB_in g1 g2; omega) _ _ hh ls (lv_sub hl [0, 1, 3, 4, 5, 6] (by rw [hn1]; rfl))
          ·
            have g3 := h4
            have ha : (if (inW cn wm) (4 * bl + n) k = true then (wQ cn ln wm nd) (4 * bl + n) k else FP.dconst0) = (wQ cn ln wm nd) (4 * bl + n) k := if_pos h4
            refine lv_aload_n hx hb dX10_bound_38 rfl (lv_at hl 2 rfl) ?_
            refine lv_iload_n hx hb dX10_bound_39 rfl (lv_at hl 3 rfl) ?_
            refine lv_iload hx hb dX10_bound_40 (lv_at hl 0 rfl) ?_
            refine lv_iload_n hx hb dX10_bound_42 rfl (lv_at hl 5 rfl) ?_
            refine mm_V0r (As := [.int (nI 0), .int (nI (4 * bl + n)), .int (nI k)]) (rest := []) hx hb hml hown hE hl.1 hh (kc_X10_165 hE.2.1 ⟨Nat.le_of_ble_eq_true rfl, Nat.le_of_ble_eq_true rfl⟩) (m_adds0 l Γ b M mem (cd := cd) (nd := nd) (cz := cz) (wz := wz) (iz := iz) (vz := vz) (md := md) (wh := wh) (sd := sd) (sk := sk) (ps := ps) (fc := fc) (d := 4 * bl + n) (k := k) (wm := wm) (by omega) fM g116 g121 (by omega) (by omega) (hcn) (hlc) (hln) (hlm) (hwm) (by omega) (by omega)) rfl (by omega) fM rfl rfl (Nat.le_of_ble_eq_true rfl) dX10_bound_43 rfl rfl (fun H locs hh => ?_)
            refine lv_goto (tgt := 50) hx hb dX10_bound_46 (by decide) ?_
            refine lv_dstore (lv' := [(7, .double (wQ cn ln wm nd (4 * bl + n) k)), (6, .int (nI (4 * bl + n))), (4, .double (mbF (fun d8 => (inW cn wm) d8 k) (fun d8 => (wQ cn ln wm nd) d8 k) (4 * bl) n)), (0, .ref (b + 115)), (1, .int (nI 0)), (2, .int (nI bl)), (3, .int (nI k))]) hx hb dX10_bound_50 hl (by decide) rfl (fun ls hl => ?_)
            refine lv_dload hx hb dX10_bound_52 (lv_at hl 0 rfl) ?_
            refine lv_dload hx hb dX10_bound_54 (lv_at hl 2 rfl) ?_
            refine lv_dcmp hx hb dX10_bound_56 ?_
            refine nn_cl_le (tgt := 65) hx hb dX10_bound_57 (by decide) (fun h6 => ?_) (fun h6 => ?_)
            ·
              have hn1 : (mbF (fun d8 => (inW cn wm) d8 k) (fun d8 => (wQ cn ln wm nd) d8 k) (4 * bl) (n + 1)) = (mbF (fun d8 => (inW cn wm) d8 k) (fun d8 => (wQ cn ln wm nd) d8 k) (4 * bl) n) := by show (if FP.dcmp (if (inW cn wm) (4 * bl + n) k = true then (wQ cn ln wm nd) (4 * bl + n) k else FP.dconst0) _ = some .gt then (if (inW cn wm) (4 * bl + n) k = true then (wQ cn ln wm nd) (4 * bl + n) k else FP.dconst0) else _) = _; rw [ha, if_neg h6]
              refine lv_dload hx hb dX10_bound_65 (lv_at hl 2 rfl) ?_
              refine lv_dstore (lv' := [(4, .double (mbF (fun d8 => (inW cn wm) d8 k) (fun d8 => (wQ cn ln wm nd) d8 k) (4 * bl) n)), (7, .double (wQ cn ln wm nd (4 * bl + n) k)), (6, .int (nI (4 * bl + n))), (0, .ref (b + 115)), (1, .int (nI 0)), (2, .int (nI bl)), (3, .int (nI k))]) hx hb dX10_bound_67 hl (by decide) rfl (fun ls hl => ?_)
              refine nn_iinc (x := (4 * bl + n)) (d := 1) (lv' := [(6, .int (nI ((4 * bl + n) + 1))), (4, .double (mbF (fun d8 => (inW cn wm) d8 k) (fun d8 => (wQ cn ln wm nd) d8 k) (4 * bl) n)), (7, .double (wQ cn ln wm nd (4 * bl + n) k)), (0, .ref (b + 115)), (1, .int (nI 0)), (2, .int (nI bl)), (3, .int (nI k))]) hx hb dX10_bound_69 hl (k := 2) rfl (by decide) (by decide) rfl (fun ls hl => ?_)
              refine lv_goto (tgt := 8) hx hb dX10_bound_72 (by decide) ?_
              exact ih1 (n + 1) (by omega) (by have := eB_in g1 g2; omega) _ _ hh ls (lv_sub hl [0, 1, 3, 4, 5, 6] (by rw [hn1]; rfl))
            ·
              have hn1 : (mbF (fun d8 => (inW cn wm) d8 k) (fun d8 => (wQ cn ln wm nd) d8 k) (4 * bl) (n + 1)) = wQ cn ln wm nd (4 * bl + n) k := by show (if FP.dcmp (if (inW cn wm) (4 * bl + n) k = true then (wQ cn ln wm nd) (4 * bl + n) k else FP.dconst0) _ = some .gt then (if (inW cn wm) (4 * bl + n) k = true then (wQ cn ln wm nd) (4 * bl + n) k else FP.dconst0) else _) = _; rw [ha, if_pos (Classical.not_not.mp h6)]
              refine lv_dload hx hb dX10_bound_60 (lv_at hl 0 rfl) ?_
              refine lv_goto (tgt := 67) hx hb dX10_bound_62 (by decide) ?_
              refine lv_dstore (lv' := [(4, .double (wQ cn ln wm nd (4 * bl + n) k)), (7, .double (wQ cn ln wm nd (4 * bl + n) k)), (6, .int (nI (4 * bl + n))), (0, .ref (b + 115)), (1, .int (nI 0)), (2, .int (nI bl)), (3, .int (nI k))]) hx hb dX10_bound_67 hl (by decide) rfl (fun ls hl => ?_)
              refine nn_iinc (x := (4 * bl + n)) (d := 1) (lv' := [(6, .int (nI ((4 * bl + n) + 1))), (4, .double (wQ cn ln wm nd (4 * bl + n) k)), (7, .double (wQ cn ln wm nd (4 * bl + n) k)), (0, .ref (b + 115)), (1, .int (nI 0)), (2, .int (nI bl)), (3, .int (nI k))]) hx hb dX10_bound_69 hl (k := 2) rfl (by decide) (by decide) rfl (fun ls hl => ?_)
              refine lv_goto (tgt := 8) hx hb dX10_bound_72 (by decide) ?_
              exact ih1 (n + 1) (by omega) (by have := eB_in g1 g2; omega) _ _ hh ls (lv_sub hl [0, 1, 3, 4, 5, 6] (by rw [hn1]; rfl))
  exact loop8 ((20 - 0) + 1) 0 (by omega) (by omega) _ _ hh ls (lv_sub hl [0, 1, 2, 3, 4, 5] rfl)
set_option maxHeartbeats 4000000 in
set_option maxRecDepth 100000 in
/-- reference: boundOf 0N -/
theorem m_boundOf0N (l : Launch) (Γ : Gm) (b M : Nat) (mem : Nat → va_E) {cd nd cz wz iz vz md wh sd sk ps fc : Nat} {bl : Nat} {cn : Nat → Nat → Nat} {ln wm : Nat → Nat}  (hM : 138 ≤ M) (fM : mem 115 = .inr (9, [.int (nI cd), .int (nI nd), .ref (b + 116), .ref (b + 117), .ref (b + 118), .ref (b + 119), .int (nI cz), .ref (b + 120), .int (nI wz), .int (nI iz), .int (nI vz), .ref (b + 121), .ref (b + 122), .ref (b + 123), .ref (b + 124), .ref (b + 125), .ref (b + 126), .ref (b + 127), .ref (b + 128), .ref (b + 129), .int (nI md), .ref (b + 130), .ref (b + 131), .int (nI wh), .ref (b + 132), .ref (b + 133), .int (nI sd), .int (nI sk), .int (nI ps), .int (nI fc), .ref (b + 134), .ref (b + 135)])) (g116 : mem 116 = aN Γ 192 (fl12 cn)) (g121 : mem 121 = aN Γ 4 wm) (hnd : nd ≤ 16) (hcn : ∀ d t, cn d t ≤ 1000) (hlc : ∀ d t, cn d t ≤ ln d) (hln : ∀ d, ln d ≤ 12000) (hlm : ∀ d, suN (cn d) 12 = ln d) (hwm : ∀ i, wm i < 12) (hwz : wz ≤ 4) (hb4 : bl < 4) : Ct l yX10_boundOf (.code yX10_boundOf cX10_boundOf 7 (some .double)) ({ frames := 4, cells := 0, slots := 0, locals := 118 } : Room) Γ b M [.ref (b + 115), .int (nI 0), .int (nI bl), .int (-1)] mem (fun u => u = mem) (some (.double (suG (fun _ => true) (bnd (inW cn wm) (wQ cn ln wm nd) nd bl) wz))) := by
  refine mm_enter (cc := cX10_boundOf) (by decide) (Nat.le_of_ble_eq_true rfl) ?_
  intro p e s m args below meth c ls hx hb hml hown hr hlocks hname hE hh hl
  have hl : lv_has ls 7 [(0, .ref (b + 115)), (1, .int (nI 0)), (2, .int (nI bl)), (3, .int (-1))] := hl
  have hen := eB_le nd bl
  refine lv_dconst0 hx hb dX10_boundOf_0 ?_
  refine lv_dstore (lv' := [(4, .double FP.dconst0), (0, .ref (b + 115)), (1, .int (nI 0)), (2, .int (nI bl)), (3, .int (-1))]) hx hb dX10_boundOf_1 hl (by decide) rfl (fun ls hl => ?_)
  refine lv_iconst (v := (nI 0)) hx hb dX10_boundOf_3 (by decide) ?_
  refine lv_istore (lv' := [(6, .int (nI 0)), (4, .double FP.dconst0), (0, .ref (b + 115)), (1, .int (nI 0)), (2, .int (nI bl)), (3, .int (-1))]) hx hb dX10_boundOf_4 hl (by decide) rfl (fun ls hl => ?_)
  have loop6 : ∀ (n9 : Nat) (k : Nat), (wz - k) < n9 → (k ≤ wz) → ∀ (H : Heap) (locs : List Loc), GH Γ b M mem s H locs → ∀ (ls : Array Slot), lv_has ls 7 [(6, .int (nI k)), (4, .double (suG (fun _ => true) (bnd (inW cn wm) (wQ cn ln wm nd) nd bl) k)), (0, .ref (b + 115)), (1, .int (nI 0)), (2, .int (nI bl)), (3, .int (-1))] → W p l e ({ frames := 4, cells := 0, slots := 0, locals := 118 } : Room) s m args below meth c H locs 0 0 (MQ below (QC Γ b M (fun u => u = mem) (some (.double (suG (fun _ => true) (bnd (inW cn wm) (wQ cn ln wm nd) nd bl) wz)))) args s 0 0 (fun q => b ≤ q)) (F0 m 6 ls []) := by
    intro n9
    induction n9 with
    | zero => intro k hn; exact absurd hn (Nat.not_lt_zero _)
    | succ n9 ih =>
      intro k hn hk H locs hh ls hl
      have ih1 := ih
      refine lv_iload hx hb dX10_boundOf_6 (lv_at hl 0 rfl) ?_
      refine lv_aload_n hx hb dX10_boundOf_8 rfl (lv_at hl 2 rfl) ?_
      refine lv_iload_n hx hb dX10_boundOf_9 rfl (lv_at hl 3 rfl) ?_
      refine mm_V0r (As := [.int (nI 0)]) (rest := [.int (nI k)]) hx hb hml hown hE hl.1 hh (kc_X10_158 hE.2.1 ⟨Nat.le_of_ble_eq_true rfl, Nat.le_of_ble_eq_true rfl⟩) (m_termsOf0 l Γ b M mem (cd := cd) (nd := nd) (cz := cz) (wz := wz) (iz := iz) (vz := vz) (md := md) (wh := wh) (sd := sd) (sk := sk) (ps := ps) (fc := fc) (by omega) fM) rfl (by omega) fM rfl rfl (Nat.le_of_ble_eq_true rfl) dX10_boundOf_10 rfl rfl (fun H locs hh => ?_)
      refine nn_icmp_ge (tgt := 56) hx hb dX10_boundOf_13 (by decide) (by omega) (by omega) (fun h2 => ?_) (fun h2 => ?_)
      ·
        obtain rfl : wz = k := by omega
        refine lv_dload hx hb dX10_boundOf_56 (lv_at hl 1 rfl) ?_
        exact mm_dret hx hb hr hlocks hE hh (rfl) (rfl) dX10_boundOf_58
      ·
        refine lv_iload_n hx hb dX10_boundOf_16 rfl (lv_at hl 5 rfl) ?_
        refine lv_iconst (v := (-1)) hx hb dX10_boundOf_17 (by decide) ?_
        refine lv_icmp_eq (tgt := 32) hx hb dX10_boundOf_18 (by decide) (fun h3 => ?_) (fun h3 => ?_)
        ·
          have hn1 : (suG (fun _ => true) (bnd (inW cn wm) (wQ cn ln wm nd) nd bl) (k + 1)) = FP.dadd (suG (fun _ => true) (bnd (inW cn wm) (wQ cn ln wm nd) nd bl) k) (bnd (inW cn wm) (wQ cn ln wm nd) nd bl k) := if_pos rfl
          refine lv_dload hx hb dX10_boundOf_32 (lv_at hl 1 rfl) ?_
          refine lv_aload_n hx hb dX10_boundOf_34 rfl (lv_at hl 2 rfl) ?_
          refine lv_iload_n hx hb dX10_boundOf_35 rfl (lv_at hl 3 rfl) ?_
          refine lv_iload_n hx hb dX10_boundOf_36 rfl (lv_at hl 4 rfl) ?_
          refine lv_iload hx hb dX10_boundOf_37 (lv_at hl 0 rfl) ?_
          refine mm_V0r (As := [.int (nI 0), .int (nI bl), .int (nI k)]) (rest := [.double (suG (fun _ => true) (bnd (inW cn wm) (wQ cn ln wm nd) nd bl) k)]) hx hb hml hown hE hl.1 hh (kc_X10_190 hE.2.1 ⟨Nat.le_of_ble_eq_true rfl, Nat.le_of_ble_eq_true rfl⟩) (m_bound0 l Γ b M mem (cd := cd) (nd := nd) (cz := cz) (wz := wz) (iz := iz) (vz := vz) (md := md) (wh := wh) (sd := sd) (sk := sk) (ps := ps) (fc := fc) (bl := bl) (k := k) (wm := wm) (by omega) fM g116 g121 (by omega) (hcn) (hlc) (hln) (hlm) (hwm) (by omega) (by omega) (by omega)) rfl (by omega) fM rfl rfl (Nat.le_of_ble_eq_true rfl) dX10_boundOf_39 rfl rfl (fun H locs hh => ?_)
          refine lv_dadd hx hb dX10_boundOf_42 ((hn1 ▸ (suG_db (c := (fun _ => true)) (q := bnd (inW cn wm) (wQ cn ln wm nd) nd bl) (K := 1090) (by decide) (by decide) (k + 1) (by omega) (fun i9 hi9 => mbF_db _ (fun d8 h8 h9 => wV_db hnd hcn hlc hln (show d8 < nd by omega)))).n (by omega))) ?_
          refine lv_goto (tgt := 48) hx hb dX10_boundOf_43 (by decide) ?_
          refine lv_dstore (lv' := [(4, .double (FP.dadd (suG (fun _ => true) (bnd (inW cn wm) (wQ cn ln wm nd) nd bl) k) (bnd (inW cn wm) (wQ cn ln wm nd) nd bl k))), (6, .int (nI k)), (0, .ref (b + 115)), (1, .int (nI 0)), (2, .int (nI bl)), (3, .int (-1))]) hx hb dX10_boundOf_48 hl (by decide) rfl (fun ls hl => ?_)
          refine nn_iinc (x := k) (d := 1) (lv' := [(6, .int (nI (k + 1))), (4, .double (FP.dadd (suG (fun _ => true) (bnd (inW cn wm) (wQ cn ln wm nd) nd bl) k) (bnd (inW cn wm) (wQ cn ln wm nd) nd bl k))), (0, .ref (b + 115)), (1, .int (nI 0)), (2, .int (nI bl)), (3, .int (-1))]) hx hb dX10_boundOf_50 hl (k := 1) rfl (by decide) (by decide) rfl (fun ls hl => ?_)
          refine lv_goto (tgt := 6) hx hb dX10_boundOf_53 (by decide) ?_
          exact ih1 (k + 1) (by omega) (by omega) _ _ hh ls (lv_sub hl [0, 1, 2, 3, 4, 5] (by rw [hn1]; rfl))
        ·
          exact absurd rfl h3
  exact loop6 ((wz - 0) + 1) 0 (by omega) (by omega) _ _ hh ls (lv_sub hl [0, 1, 2, 3, 4, 5] rfl)
set_option maxHeartbeats 4000000 in
set_option maxRecDepth 100000 in
/-- reference: boundOf 0D -/
theorem m_boundOf0D (l : Launch) (Γ : Gm) (b M : Nat) (mem : Nat → va_E) {cd nd cz wz iz vz md wh sd sk ps fc : Nat} {bl d : Nat} {cn : Nat → Nat → Nat} {ln wm : Nat → Nat}  (hM : 138 ≤ M) (fM : mem 115 = .inr (9, [.int (nI cd), .int (nI nd), .ref (b + 116), .ref (b + 117), .ref (b + 118), .ref (b + 119), .int (nI cz), .ref (b + 120), .int (nI wz), .int (nI iz), .int (nI vz), .ref (b + 121), .ref (b + 122), .ref (b + 123), .ref (b + 124), .ref (b + 125), .ref (b + 126), .ref (b + 127), .ref (b + 128), .ref (b + 129), .int (nI md), .ref (b + 130), .ref (b + 131), .int (nI wh), .ref (b + 132), .ref (b + 133), .int (nI sd), .int (nI sk), .int (nI ps), .int (nI fc), .ref (b + 134), .ref (b + 135)])) (g116 : mem 116 = aN Γ 192 (fl12 cn)) (g121 : mem 121 = aN Γ 4 wm) (hnd : nd ≤ 16) (hcn : ∀ d t, cn d t ≤ 1000) (hlc : ∀ d t, cn d t ≤ ln d) (hln : ∀ d, ln d ≤ 12000) (hlm : ∀ d, suN (cn d) 12 = ln d) (hwm : ∀ i, wm i < 12) (hwz : wz ≤ 4) (hb4 : bl < 4) (hd : d < nd) : Ct l yX10_boundOf (.code yX10_boundOf cX10_boundOf 7 (some .double)) ({ frames := 4, cells := 0, slots := 0, locals := 118 } : Room) Γ b M [.ref (b + 115), .int (nI 0), .int (nI bl), .int (nI d)] mem (fun u => u = mem) (some (.double (suG ((inW cn wm) d) (bnd (inW cn wm) (wQ cn ln wm nd) nd bl) wz))) := by
  refine mm_enter (cc := cX10_boundOf) (by decide) (Nat.le_of_ble_eq_true rfl) ?_
  intro p e s m args below meth c ls hx hb hml hown hr hlocks hname hE hh hl
  have hl : lv_has ls 7 [(0, .ref (b + 115)), (1, .int (nI 0)), (2, .int (nI bl)), (3, .int (nI d))] := hl
  have hen := eB_le nd bl
  refine lv_dconst0 hx hb dX10_boundOf_0 ?_
  refine lv_dstore (lv' := [(4, .double FP.dconst0), (0, .ref (b + 115)), (1, .int (nI 0)), (2, .int (nI bl)), (3, .int (nI d))]) hx hb dX10_boundOf_1 hl (by decide) rfl (fun ls hl => ?_)
  refine lv_iconst (v := (nI 0)) hx hb dX10_boundOf_3 (by decide) ?_
  refine lv_istore (lv' := [(6, .int (nI 0)), (4, .double FP.dconst0), (0, .ref (b + 115)), (1, .int (nI 0)), (2, .int (nI bl)), (3, .int (nI d))]) hx hb dX10_boundOf_4 hl (by decide) rfl (fun ls hl => ?_)
  have loop6 : ∀ (n9 : Nat) (k : Nat), (wz - k) < n9 → (k ≤ wz) → ∀ (H : Heap) (locs : List Loc), GH Γ b M mem s H locs → ∀ (ls : Array Slot), lv_has ls 7 [(6, .int (nI k)), (4, .double (suG ((inW cn wm) d) (bnd (inW cn wm) (wQ cn ln wm nd) nd bl) k)), (0, .ref (b + 115)), (1, .int (nI 0)), (2, .int (nI bl)), (3, .int (nI d))] → W p l e ({ frames := 4, cells := 0, slots := 0, locals := 118 } : Room) s m args below meth c H locs 0 0 (MQ below (QC Γ b M (fun u => u = mem) (some (.double (suG ((inW cn wm) d) (bnd (inW cn wm) (wQ cn ln wm nd) nd bl) wz)))) args s 0 0 (fun q => b ≤ q)) (F0 m 6 ls []) := by
    intro n9
    induction n9 with
    | zero => intro k hn; exact absurd hn (Nat.not_lt_zero _)
    | succ n9 ih =>
      intro k hn hk H locs hh ls hl
      have ih1 := ih
      refine lv_iload hx hb dX10_boundOf_6 (lv_at hl 0 rfl) ?_
      refine lv_aload_n hx hb dX10_boundOf_8 rfl (lv_at hl 2 rfl) ?_
      refine lv_iload_n hx hb dX10_boundOf_9 rfl (lv_at hl 3 rfl) ?_
      refine mm_V0r (As := [.int (nI 0)]) (rest := [.int (nI k)]) hx hb hml hown hE hl.1 hh (kc_X10_158 hE.2.1 ⟨Nat.le_of_ble_eq_true rfl, Nat.le_of_ble_eq_true rfl⟩) (m_termsOf0 l Γ b M mem (cd := cd) (nd := nd) (cz := cz) (wz := wz) (iz := iz) (vz := vz) (md := md) (wh := wh) (sd := sd) (sk := sk) (ps := ps) (fc := fc) (by omega) fM) rfl (by omega) fM rfl rfl (Nat.le_of_ble_eq_true rfl) dX10_boundOf_10 rfl rfl (fun H locs hh => ?_)
      refine nn_icmp_ge (tgt := 56) hx hb dX10_boundOf_13 (by decide) (by omega) (by omega) (fun h2 => ?_) (fun h2 => ?_)
      ·
        obtain rfl : wz = k := by omega
        refine lv_dload hx hb dX10_boundOf_56 (lv_at hl 1 rfl) ?_
        exact mm_dret hx hb hr hlocks hE hh (rfl) (rfl) dX10_boundOf_58
      ·
        refine lv_iload_n hx hb dX10_boundOf_16 rfl (lv_at hl 5 rfl) ?_
        refine lv_iconst (v := (-1)) hx hb dX10_boundOf_17 (by decide) ?_
        refine lv_icmp_eq (tgt := 32) hx hb dX10_boundOf_18 (by decide) (fun h3 => ?_) (fun h3 => ?_)
        ·
          exact absurd h3 (nI_nm1 (by omega))
        ·
          refine lv_aload_n hx hb dX10_boundOf_21 rfl (lv_at hl 2 rfl) ?_
          refine lv_iload_n hx hb dX10_boundOf_22 rfl (lv_at hl 3 rfl) ?_
          refine lv_iload_n hx hb dX10_boundOf_23 rfl (lv_at hl 5 rfl) ?_
          refine lv_iload hx hb dX10_boundOf_24 (lv_at hl 0 rfl) ?_
          refine mm_V0r (As := [.int (nI 0), .int (nI d), .int (nI k)]) (rest := []) hx hb hml hown hE hl.1 hh (kc_X10_161 hE.2.1 ⟨Nat.le_of_ble_eq_true rfl, Nat.le_of_ble_eq_true rfl⟩) (m_isIn0 l Γ b M mem (cd := cd) (nd := nd) (cz := cz) (wz := wz) (iz := iz) (vz := vz) (md := md) (wh := wh) (sd := sd) (sk := sk) (ps := ps) (fc := fc) (d := d) (k := k) (wm := wm) (by omega) fM g116 g121 (by omega) (by omega) (hcn) (hlc) (hln) (hlm) (hwm) (by omega) (by omega)) rfl (by omega) fM rfl rfl (Nat.le_of_ble_eq_true rfl) dX10_boundOf_26 rfl rfl (fun H locs hh => ?_)
          refine nn_beq (tgt := 46) hx hb dX10_boundOf_29 (by decide) (fun h4 => ?_) (fun h4 => ?_)
          ·
            have hn1 : (suG ((inW cn wm) d) (bnd (inW cn wm) (wQ cn ln wm nd) nd bl) (k + 1)) = (suG ((inW cn wm) d) (bnd (inW cn wm) (wQ cn ln wm nd) nd bl) k) := if_neg (by rw [h4]; decide)
            refine lv_dload hx hb dX10_boundOf_46 (lv_at hl 1 rfl) ?_
            refine lv_dstore (lv' := [(4, .double (suG ((inW cn wm) d) (bnd (inW cn wm) (wQ cn ln wm nd) nd bl) k)), (6, .int (nI k)), (0, .ref (b + 115)), (1, .int (nI 0)), (2, .int (nI bl)), (3, .int (nI d))]) hx hb dX10_boundOf_48 hl (by decide) rfl (fun ls hl => ?_)
            refine nn_iinc (x := k) (d := 1) (lv' := [(6, .int (nI (k + 1))), (4, .double (suG ((inW cn wm) d) (bnd (inW cn wm) (wQ cn ln wm nd) nd bl) k)), (0, .ref (b + 115)), (1, .int (nI 0)), (2, .int (nI bl)), (3, .int (nI d))]) hx hb dX10_boundOf_50 hl (k := 1) rfl (by decide) (by decide) rfl (fun ls hl => ?_)
            refine lv_goto (tgt := 6) hx hb dX10_boundOf_53 (by decide) ?_
            exact ih1 (k + 1) (by omega) (by omega) _ _ hh ls (lv_sub hl [0, 1, 2, 3, 4, 5] (by rw [hn1]; rfl))
          ·
            have hn1 : (suG ((inW cn wm) d) (bnd (inW cn wm) (wQ cn ln wm nd) nd bl) (k + 1)) = FP.dadd (suG ((inW cn wm) d) (bnd (inW cn wm) (wQ cn ln wm nd) nd bl) k) (bnd (inW cn wm) (wQ cn ln wm nd) nd bl k) := if_pos h4
            refine lv_dload hx hb dX10_boundOf_32 (lv_at hl 1 rfl) ?_
            refine lv_aload_n hx hb dX10_boundOf_34 rfl (lv_at hl 2 rfl) ?_
            refine lv_iload_n hx hb dX10_boundOf_35 rfl (lv_at hl 3 rfl) ?_
            refine lv_iload_n hx hb dX10_boundOf_36 rfl (lv_at hl 4 rfl) ?_
            refine lv_iload hx hb dX10_boundOf_37 (lv_at hl 0 rfl) ?_
            refine mm_V0r (As := [.int (nI 0), .int (nI bl), .int (nI k)]) (rest := [.double (suG ((inW cn wm) d) (bnd (inW cn wm) (wQ cn ln wm nd) nd bl) k)]) hx hb hml hown hE hl.1 hh (kc_X10_190 hE.2.1 ⟨Nat.le_of_ble_eq_true rfl, Nat.le_of_ble_eq_true rfl⟩) (m_bound0 l Γ b M mem (cd := cd) (nd := nd) (cz := cz) (wz := wz) (iz := iz) (vz := vz) (md := md) (wh := wh) (sd := sd) (sk := sk) (ps := ps) (fc := fc) (bl := bl) (k := k) (wm := wm) (by omega) fM g116 g121 (by omega) (hcn) (hlc) (hln) (hlm) (hwm) (by omega) (by omega) (by omega)) rfl (by omega) fM rfl rfl (Nat.le_of_ble_eq_true rfl) dX10_boundOf_39 rfl rfl (fun H locs hh => ?_)
            refine lv_dadd hx hb dX10_boundOf_42 ((hn1 ▸ (suG_db (c := ((inW cn wm) d)) (q := bnd (inW cn wm) (wQ cn ln wm nd) nd bl) (K := 1090) (by decide) (by decide) (k + 1) (by omega) (fun i9 hi9 => mbF_db _ (fun d8 h8 h9 => wV_db hnd hcn hlc hln (show d8 < nd by omega)))).n (by omega))) ?_
            refine lv_goto (tgt := 48) hx hb dX10_boundOf_43 (by decide) ?_
            refine lv_dstore (lv' := [(4, .double (FP.dadd (suG ((inW cn wm) d) (bnd (inW cn wm) (wQ cn ln wm nd) nd bl) k) (bnd (inW cn wm) (wQ cn ln wm nd) nd bl k))), (6, .int (nI k)), (0, .ref (b + 115)), (1, .int (nI 0)), (2, .int (nI bl)), (3, .int (nI d))]) hx hb dX10_boundOf_48 hl (by decide) rfl (fun ls hl => ?_)
            refine nn_iinc (x := k) (d := 1) (lv' := [(6, .int (nI (k + 1))), (4, .double (FP.dadd (suG ((inW cn wm) d) (bnd (inW cn wm) (wQ cn ln wm nd) nd bl) k) (bnd (inW cn wm) (wQ cn ln wm nd) nd bl k))), (0, .ref (b + 115)), (1, .int (nI 0)), (2, .int (nI bl)), (3, .int (nI d))]) hx hb dX10_boundOf_50 hl (k := 1) rfl (by decide) (by decide) rfl (fun ls hl => ?_)
            refine lv_goto (tgt := 6) hx hb dX10_boundOf_53 (by decide) ?_
            exact ih1 (k + 1) (by omega) (by omega) _ _ hh ls (lv_sub hl [0, 1, 2, 3, 4, 5] (by rw [hn1]; rfl))
  exact loop6 ((wz - 0) + 1) 0 (by omega) (by omega) _ _ hh ls (lv_sub hl [0, 1, 2, 3, 4, 5] rfl)
set_option maxHeartbeats 4000000 in
set_option maxRecDepth 100000 in
/-- reference: score, private 1 -/
theorem m_sc1 (l : Launch) (Γ : Gm) (b M : Nat) (mem : Nat → va_E) {cd nd cz wz iz vz md wh sd sk ps fc : Nat} {mr : Nat → Nat} {mrs : Nat → UInt64} {d mo : Nat} {wt : Nat → Nat → UInt32} {im iw : Nat → Nat}  (hM : 138 ≤ M) (fM : mem 115 = .inr (9, [.int (nI cd), .int (nI nd), .ref (b + 116), .ref (b + 117), .ref (b + 118), .ref (b + 119), .int (nI cz), .ref (b + 120), .int (nI wz), .int (nI iz), .int (nI vz), .ref (b + 121), .ref (b + 122), .ref (b + 123), .ref (b + 124), .ref (b + 125), .ref (b + 126), .ref (b + 127), .ref (b + 128), .ref (b + 129), .int (nI md), .ref (b + 130), .ref (b + 131), .int (nI wh), .ref (b + 132), .ref (b + 133), .int (nI sd), .int (nI sk), .int (nI ps), .int (nI fc), .ref (b + 134), .ref (b + 135)])) (g130 : mem 130 = aN Γ 21 mr) (g131 : mem 131 = aD Γ 21 mrs) (hok : tOK mo (mr, mrs, md)) (hmo : mo ≤ 20) (g117 : mem 117 = aF Γ 192 (fl12 wt)) (g122 : mem 122 = aN Γ 4 im) (g123 : mem 123 = aN Γ 4 iw) (hnd : nd ≤ 16) (hwt : ∀ d t, fb 148 (wt d t)) (him : ∀ i, im i < 12) (hiz : iz ≤ 4) (hiw : ∀ i, i < iz → 1 ≤ iw i ∧ iw i ≤ 100) (hd : d < nd) : Ct l yX10_score (.code yX10_score cX10_score 4 none) ({ frames := 3, cells := 0, slots := 0, locals := 76 } : Room) Γ b M [.ref (b + 115), .int (nI 1), .int (nI d), .int (nI mo)] mem (fun u => u 115 = .inr (9, [.int (nI cd), .int (nI nd), .ref (b + 116), .ref (b + 117), .ref (b + 118), .ref (b + 119), .int (nI cz), .ref (b + 120), .int (nI wz), .int (nI iz), .int (nI vz), .ref (b + 121), .ref (b + 122), .ref (b + 123), .ref (b + 124), .ref (b + 125), .ref (b + 126), .ref (b + 127), .ref (b + 128), .ref (b + 129), .int (nI ((en1 mo d (suG ((inI wt im nd) d) ((iQ wt im iw nd) d) iz) (mr, mrs, md)).2.2)), .ref (b + 130), .ref (b + 131), .int (nI wh), .ref (b + 132), .ref (b + 133), .int (nI (sd + 1)), .int (nI sk), .int (nI ps), .int (nI fc), .ref (b + 134), .ref (b + 135)]) ∧ u 130 = aN Γ 21 ((en1 mo d (suG ((inI wt im nd) d) ((iQ wt im iw nd) d) iz) (mr, mrs, md)).1) ∧ u 131 = aD Γ 21 ((en1 mo d (suG ((inI wt im nd) d) ((iQ wt im iw nd) d) iz) (mr, mrs, md)).2.1) ∧ ∀ j, j ≠ 115 → j ≠ 130 → j ≠ 131 → u j = mem j) none := by
  refine mm_enter (cc := cX10_score) (by decide) (Nat.le_of_ble_eq_true rfl) ?_
  intro p e s m args below meth c ls hx hb hml hown hr hlocks hname hE hh hl
  have hl : lv_has ls 4 [(0, .ref (b + 115)), (1, .int (nI 1)), (2, .int (nI d)), (3, .int (nI mo))] := hl
  have hfr : ∀ j, j ≠ 115 → j ≠ 130 → j ≠ 131 → mem j = mem j := fun j _ _ _ => rfl
  refine lv_aload_n hx hb dX10_score_0 rfl (lv_at hl 0 rfl) ?_
  refine lv_dup hx hb dX10_score_1 rfl ?_
  refine gf_X10_scored hx hb hE hown hh (by omega) fM rfl dX10_score_2 ?_
  refine lv_iconst (v := (nI 1)) hx hb dX10_score_5 (by decide) ?_
  refine nn_iadd hx hb dX10_score_6 ?_
  refine gp_X10_scored (fs' := [.int (nI cd), .int (nI nd), .ref (b + 116), .ref (b + 117), .ref (b + 118), .ref (b + 119), .int (nI cz), .ref (b + 120), .int (nI wz), .int (nI iz), .int (nI vz), .ref (b + 121), .ref (b + 122), .ref (b + 123), .ref (b + 124), .ref (b + 125), .ref (b + 126), .ref (b + 127), .ref (b + 128), .ref (b + 129), .int (nI md), .ref (b + 130), .ref (b + 131), .int (nI wh), .ref (b + 132), .ref (b + 133), .int (nI (sd + 1)), .int (nI sk), .int (nI ps), .int (nI fc), .ref (b + 134), .ref (b + 135)]) hx hb hE hown hh (by omega) fM rfl rfl (show 26 < 32 by decide) rfl dX10_score_7 (fun H locs mem1 f2 k3 hh => ?_)
  have hfr4 : ∀ j, j ≠ 115 → j ≠ 130 → j ≠ 131 → mem1 j = mem j := fun j c0 c1 c2 => (k3 j (by omega)).trans (hfr j c0 c1 c2)
  have f5 : mem1 130 = aN Γ 21 mr := (k3 _ (by omega)).trans g130
  have f6 : mem1 131 = aD Γ 21 mrs := (k3 _ (by omega)).trans g131
  have f7 : mem1 117 = aF Γ 192 (fl12 wt) := (k3 _ (by omega)).trans g117
  have f8 : mem1 122 = aN Γ 4 im := (k3 _ (by omega)).trans g122
  have f9 : mem1 123 = aN Γ 4 iw := (k3 _ (by omega)).trans g123
  refine lv_aload_n hx hb dX10_score_10 rfl (lv_at hl 0 rfl) ?_
  refine lv_iload_n hx hb dX10_score_11 rfl (lv_at hl 2 rfl) ?_
  refine lv_aload_n hx hb dX10_score_12 rfl (lv_at hl 0 rfl) ?_
  refine lv_iload_n hx hb dX10_score_13 rfl (lv_at hl 1 rfl) ?_
  refine lv_iload_n hx hb dX10_score_14 rfl (lv_at hl 2 rfl) ?_
  refine mm_V0r (As := [.int (nI 1), .int (nI d)]) (rest := [.int (nI d), .ref (b + 115)]) hx hb hml hown hE hl.1 hh (kc_X10_183 hE.2.1 ⟨Nat.le_of_ble_eq_true rfl, Nat.le_of_ble_eq_true rfl⟩) (m_scoreOf1 l Γ b M mem1 (cd := cd) (nd := nd) (cz := cz) (wz := wz) (iz := iz) (vz := vz) (md := md) (wh := wh) (sd := sd + 1) (sk := sk) (ps := ps) (fc := fc) (d := d) (im := im) (iw := iw) (by omega) f2 f7 f8 f9 (by omega) (by omega) (hwt) (him) (by omega) (hiw)) rfl (by omega) f2 rfl rfl (Nat.le_of_ble_eq_true rfl) dX10_score_15 rfl rfl (fun H locs hh => ?_)
  refine lv_iload_n hx hb dX10_score_18 rfl (lv_at hl 3 rfl) ?_
  refine mm_V0 (As := [.int (nI d), .double (suG (inI wt im nd d) (iQ wt im iw nd d) iz), .int (nI mo)]) (rest := []) hx hb hml hown hE hl.1 hh (kc_X10_186 hE.2.1 ⟨Nat.le_of_ble_eq_true rfl, Nat.le_of_ble_eq_true rfl⟩) (c_X10_enter l Γ b M mem1 (cd := cd) (nd := nd) (cz := cz) (wz := wz) (iz := iz) (vz := vz) (md := md) (wh := wh) (sd := sd + 1) (sk := sk) (ps := ps) (fc := fc) (mr := mr) (mrs := mrs) (d := d) (mo := mo) (x := (suG (inI wt im nd d) (iQ wt im iw nd d) iz)) (by omega) f2 f5 f6 (hok) (by omega) (by omega)) rfl (by omega) f2 rfl rfl (Nat.le_of_ble_eq_true rfl) dX10_score_19 rfl rfl (fun H locs mem10 hP11 hh => ?_)
  obtain ⟨f12, f13, f14, k15⟩ := hP11
  have hfr16 : ∀ j, j ≠ 115 → j ≠ 130 → j ≠ 131 → mem10 j = mem j := fun j c0 c1 c2 => (k15 j (by omega) (by omega) (by omega)).trans (hfr4 j c0 c1 c2)
  have f17 : mem10 117 = aF Γ 192 (fl12 wt) := (k15 _ (by omega) (by omega) (by omega)).trans f7
  have f18 : mem10 122 = aN Γ 4 im := (k15 _ (by omega) (by omega) (by omega)).trans f8
  have f19 : mem10 123 = aN Γ 4 iw := (k15 _ (by omega) (by omega) (by omega)).trans f9
  exact mm_vret hx hb hr hlocks hE hh (⟨f12, f13, f14, hfr16⟩) dX10_score_22
set_option maxHeartbeats 4000000 in
set_option maxRecDepth 100000 in
/-- reference: bound 1 -/
theorem m_bound1 (l : Launch) (Γ : Gm) (b M : Nat) (mem : Nat → va_E) {cd nd cz wz iz vz md wh sd sk ps fc : Nat} {bl k : Nat} {wt : Nat → Nat → UInt32} {im iw : Nat → Nat}  (hM : 138 ≤ M) (fM : mem 115 = .inr (9, [.int (nI cd), .int (nI nd), .ref (b + 116), .ref (b + 117), .ref (b + 118), .ref (b + 119), .int (nI cz), .ref (b + 120), .int (nI wz), .int (nI iz), .int (nI vz), .ref (b + 121), .ref (b + 122), .ref (b + 123), .ref (b + 124), .ref (b + 125), .ref (b + 126), .ref (b + 127), .ref (b + 128), .ref (b + 129), .int (nI md), .ref (b + 130), .ref (b + 131), .int (nI wh), .ref (b + 132), .ref (b + 133), .int (nI sd), .int (nI sk), .int (nI ps), .int (nI fc), .ref (b + 134), .ref (b + 135)])) (g117 : mem 117 = aF Γ 192 (fl12 wt)) (g122 : mem 122 = aN Γ 4 im) (g123 : mem 123 = aN Γ 4 iw) (hnd : nd ≤ 16) (hwt : ∀ d t, fb 148 (wt d t)) (him : ∀ i, im i < 12) (hiz : iz ≤ 4) (hiw : ∀ i, i < iz → 1 ≤ iw i ∧ iw i ≤ 100) (hb4 : bl < 4) (hk : k < iz) : Ct l yX10_bound (.code yX10_bound cX10_bound 9 (some .double)) ({ frames := 2, cells := 0, slots := 0, locals := 48 } : Room) Γ b M [.ref (b + 115), .int (nI 1), .int (nI bl), .int (nI k)] mem (fun u => u = mem) (some (.double (bnd (inI wt im nd) (iQ wt im iw nd) nd bl k))) := by
  refine mm_enter (cc := cX10_bound) (by decide) (Nat.le_of_ble_eq_true rfl) ?_
  intro p e s m args below meth c ls hx hb hml hown hr hlocks hname hE hh hl
  have hl : lv_has ls 9 [(0, .ref (b + 115)), (1, .int (nI 1)), (2, .int (nI bl)), (3, .int (nI k))] := hl
  have he4 := eB_4 (nd := nd) (b := bl)
  have hen := eB_le nd bl
  refine lv_dconst0 hx hb dX10_bound_0 ?_
  refine lv_dstore (lv' := [(4, .double FP.dconst0), (0, .ref (b + 115)), (1, .int (nI 1)), (2, .int (nI bl)), (3, .int (nI k))]) hx hb dX10_bound_1 hl (by decide) rfl (fun ls hl => ?_)
  refine lv_iconst (v := (nI 4)) hx hb dX10_bound_3 (by decide) ?_
  refine lv_iload_n hx hb dX10_bound_4 rfl (lv_at hl 3 rfl) ?_
  refine nn_imul hx hb dX10_bound_5 ?_
  refine lv_istore (lv' := [(6, .int (nI (4 * bl))), (4, .double FP.dconst0), (0, .ref (b + 115)), (1, .int (nI 1)), (2, .int (nI bl)), (3, .int (nI k))]) hx hb dX10_bound_6 hl (by decide) rfl (fun ls hl => ?_)
  have loop8 : ∀ (n9 : Nat) (n : Nat), (20 - n) < n9 → (n ≤ eB nd bl - 4 * bl) → ∀ (H : Heap) (locs : List Loc), GH Γ b M mem s H locs → ∀ (ls : Array Slot), lv_has ls 9 [(6, .int (nI (4 * bl + n))), (4, .double (mbF (fun d8 => (inI wt im nd) d8 k) (fun d8 => (iQ wt im iw nd) d8 k) (4 * bl) n)), (0, .ref (b + 115)), (1, .int (nI 1)), (2, .int (nI bl)), (3, .int (nI k))] → W p l e ({ frames := 2, cells := 0, slots := 0, locals := 48 } : Room) s m args below meth c H locs 0 0 (MQ below (QC Γ b M (fun u => u = mem) (some (.double (bnd (inI wt im nd) (iQ wt im iw nd) nd bl k)))) args s 0 0 (fun q => b ≤ q)) (F0 m 8 ls []) := by
    intro n9
    induction n9 with
    | zero => intro n hn; exact absurd hn (Nat.not_lt_zero _)
    | succ n9 ih =>
      intro n hn hn0 H locs hh ls hl
      have ih1 := ih
      refine lv_iload hx hb dX10_bound_8 (lv_at hl 0 rfl) ?_
      refine lv_iconst (v := (nI 4)) hx hb dX10_bound_10 (by decide) ?_
      refine lv_iload_n hx hb dX10_bound_11 rfl (lv_at hl 4 rfl) ?_
      refine nn_imul hx hb dX10_bound_12 ?_
      refine lv_iconst (v := (nI 4)) hx hb dX10_bound_13 (by decide) ?_
      refine nn_iadd hx hb dX10_bound_14 ?_
      refine nn_icmp_ge (tgt := 75) hx hb dX10_bound_15 (by decide) (by omega) (by omega) (fun h2 => ?_) (fun h2 => ?_)
      ·
        have hq : n = eB nd bl - 4 * bl := by have := eB_out (nd := nd) (b := bl) (Or.inl h2); omega
        refine lv_dload hx hb dX10_bound_75 (lv_at hl 1 rfl) ?_
        exact mm_dret hx hb hr hlocks hE hh (by rw [hq]; rfl) (rfl) dX10_bound_77
      ·
        have g1 := h2
        refine lv_iload hx hb dX10_bound_18 (lv_at hl 0 rfl) ?_
        refine lv_aload_n hx hb dX10_bound_20 rfl (lv_at hl 2 rfl) ?_
        refine gf_X10_documents hx hb hE hown hh (by omega) fM rfl dX10_bound_21 ?_
        refine nn_icmp_ge (tgt := 75) hx hb dX10_bound_24 (by decide) (by omega) (by omega) (fun h3 => ?_) (fun h3 => ?_)
        ·
          have hq : n = eB nd bl - 4 * bl := by have := eB_out (nd := nd) (b := bl) (Or.inr h3); omega
          refine lv_dload hx hb dX10_bound_75 (lv_at hl 1 rfl) ?_
          exact mm_dret hx hb hr hlocks hE hh (by rw [hq]; rfl) (rfl) dX10_bound_77
        ·
          have g2 := h3
          refine lv_aload_n hx hb dX10_bound_27 rfl (lv_at hl 2 rfl) ?_
          refine lv_iload_n hx hb dX10_bound_28 rfl (lv_at hl 3 rfl) ?_
          refine lv_iload hx hb dX10_bound_29 (lv_at hl 0 rfl) ?_
          refine lv_iload_n hx hb dX10_bound_31 rfl (lv_at hl 5 rfl) ?_
          refine mm_V0r (As := [.int (nI 1), .int (nI (4 * bl + n)), .int (nI k)]) (rest := []) hx hb hml hown hE hl.1 hh (kc_X10_161 hE.2.1 ⟨Nat.le_of_ble_eq_true rfl, Nat.le_of_ble_eq_true rfl⟩) (m_isIn1 l Γ b M mem (cd := cd) (nd := nd) (cz := cz) (wz := wz) (iz := iz) (vz := vz) (md := md) (wh := wh) (sd := sd) (sk := sk) (ps := ps) (fc := fc) (d := 4 * bl + n) (k := k) (im := im) (iw := iw) (by omega) fM g117 g122 g123 (by omega) (by omega) (hwt) (him) (by omega) (hiw) (by omega)) rfl (by omega) fM rfl rfl (Nat.le_of_ble_eq_true rfl) dX10_bound_32 rfl rfl (fun H locs hh => ?_)
          refine nn_beq (tgt := 49) hx hb dX10_bound_35 (by decide) (fun h4 => ?_) (fun h4 => ?_)
          ·
            have ha : (if (inI wt im nd) (4 * bl + n) k = true then (iQ wt im iw nd) (4 * bl + n) k else FP.dconst0) = FP.dconst0 := if_neg (by rw [h4]; decide)
            refine lv_dconst0 hx hb dX10_bound_49 ?_
            refine lv_dstore (lv' := [(7, .double FP.dconst0), (6, .int (nI (4 * bl + n))), (4, .double (mbF (fun d8 => (inI wt im nd) d8 k) (fun d8 => (iQ wt im iw nd) d8 k) (4 * bl) n)), (0, .ref (b + 115)), (1, .int (nI 1)), (2, .int (nI bl)), (3, .int (nI k))]) hx hb dX10_bound_50 hl (by decide) rfl (fun ls hl => ?_)
            refine lv_dload hx hb dX10_bound_52 (lv_at hl 0 rfl) ?_
            refine lv_dload hx hb dX10_bound_54 (lv_at hl 2 rfl) ?_
            refine lv_dcmp hx hb dX10_bound_56 ?_
            refine nn_cl_le (tgt := 65) hx hb dX10_bound_57 (by decide) (fun h5 => ?_) (fun h5 => ?_)
            ·
              have hn1 : (mbF (fun d8 => (inI wt im nd) d8 k) (fun d8 => (iQ wt im iw nd) d8 k) (4 * bl) (n + 1)) = (mbF (fun d8 => (inI wt im nd) d8 k) (fun d8 => (iQ wt im iw nd) d8 k) (4 * bl) n) := by show (if FP.dcmp (if (inI wt im nd) (4 * bl + n) k = true then (iQ wt im iw nd) (4 * bl + n) k else FP.dconst0) _ = some .gt then (if (inI wt im nd) (4 * bl + n) k = true then (iQ wt im iw nd) (4 * bl + n) k else FP.dconst0) else _) = _; rw [ha, if_neg h5]
              refine lv_dload hx hb dX10_bound_65 (lv_at hl 2 rfl) ?_
              refine lv_dstore (lv' := [(4, .double (mbF (fun d8 => (inI wt im nd) d8 k) (fun d8 => (iQ wt im iw nd) d8 k) (4 * bl) n)), (7, .double FP.dconst0), (6, .int (nI (4 * bl + n))), (0, .ref (b + 115)), (1, .int (nI 1)), (2, .int (nI bl)), (3, .int (nI k))]) hx hb dX10_bound_67 hl (by decide) rfl (fun ls hl => ?_)
              refine nn_iinc (x := (4 * bl + n)) (d := 1) (lv' := [(6, .int (nI ((4 * bl + n) + 1))), (4, .double (mbF (fun d8 => (inI wt im nd) d8 k) (fun d8 => (iQ wt im iw nd) d8 k) (4 * bl) n)), (7, .double FP.dconst0), (0, .ref (b + 115)), (1, .int (nI 1)), (2, .int (nI bl)), (3, .int (nI k))]) hx hb dX10_bound_69 hl (k := 2) rfl (by decide) (by decide) rfl (fun ls hl => ?_)
              refine lv_goto (tgt := 8) hx hb dX10_bound_72 (by decide) ?_
              exact ih1 (n + 1) (by omega) (by have := eB_in g1 g2; omega) _ _ hh ls (lv_sub hl [0, 1, 3, 4, 5, 6] (by rw [hn1]; rfl))
            ·
              have hn1 : (mbF (fun d8 => (inI wt im nd) d8 k) (fun d8 => (iQ wt im iw nd) d8 k) (4 * bl) (n + 1)) = FP.dconst0 := by show (if FP.dcmp (if (inI wt im nd) (4 * bl + n) k = true then (iQ wt im iw nd) (4 * bl + n) k else FP.dconst0) _ = some .gt then (if (inI wt im nd) (4 * bl + n) k = true then (iQ wt im iw nd) (4 * bl + n) k else FP.dconst0) else _) = _; rw [ha, if_pos (Classical.not_not.mp h5)]
              refine lv_dload hx hb dX10_bound_60 (lv_at hl 0 rfl) ?_
              refine lv_goto (tgt := 67) hx hb dX10_bound_62 (by decide) ?_
              refine lv_dstore (lv' := [(4, .double FP.dconst0), (7, .double FP.dconst0), (6, .int (nI (4 * bl + n))), (0, .ref (b + 115)), (1, .int (nI 1)), (2, .int (nI bl)), (3, .int (nI k))]) hx hb dX10_bound_67 hl (by decide) rfl (fun ls hl => ?_)
              refine nn_iinc (x := (4 * bl + n)) (d := 1) (lv' := [(6, .int (nI ((4 * bl + n) + 1))), (4, .double FP.dconst0), (7, .double FP.dconst0), (0, .ref (b + 115)), (1, .int (nI 1)), (2, .int (nI bl)), (3, .int (nI k))]) hx hb dX10_bound_69 hl (k := 2) rfl (by decide) (by decide) rfl (fun ls hl => ?_)
              refine lv_goto (tgt := 8) hx hb dX10_bound_72 (by decide) ?_
              exact ih1 (n + 1) (by omega) (by have := eB_in g1 g2; omega) _ _ hh ls (lv_sub hl [0, 1, 3, 4, 5, 6] (by rw [hn1]; rfl))
          ·
            have g3 := h4
            have ha : (if (inI wt im nd) (4 * bl + n) k = true then (iQ wt im iw nd) (4 * bl + n) k else FP.dconst0) = (iQ wt im iw nd) (4 * bl + n) k := if_pos h4
            refine lv_aload_n hx hb dX10_bound_38 rfl (lv_at hl 2 rfl) ?_
            refine lv_iload_n hx hb dX10_bound_39 rfl (lv_at hl 3 rfl) ?_
            refine lv_iload hx hb dX10_bound_40 (lv_at hl 0 rfl) ?_
            refine lv_iload_n hx hb dX10_bound_42 rfl (lv_at hl 5 rfl) ?_
            refine mm_V0r (As := [.int (nI 1), .int (nI (4 * bl + n)), .int (nI k)]) (rest := []) hx hb hml hown hE hl.1 hh (kc_X10_165 hE.2.1 ⟨Nat.le_of_ble_eq_true rfl, Nat.le_of_ble_eq_true rfl⟩) (m_adds1 l Γ b M mem (cd := cd) (nd := nd) (cz := cz) (wz := wz) (iz := iz) (vz := vz) (md := md) (wh := wh) (sd := sd) (sk := sk) (ps := ps) (fc := fc) (d := 4 * bl + n) (k := k) (im := im) (iw := iw) (by omega) fM g117 g122 g123 (by omega) (by omega) (hwt) (him) (by omega) (hiw) (by omega) (g3)) rfl (by omega) fM rfl rfl (Nat.le_of_ble_eq_true rfl) dX10_bound_43 rfl rfl (fun H locs hh => ?_)
            refine lv_goto (tgt := 50) hx hb dX10_bound_46 (by decide) ?_
            refine lv_dstore (lv' := [(7, .double (iQ wt im iw nd (4 * bl + n) k)), (6, .int (nI (4 * bl + n))), (4, .double (mbF (fun d8 => (inI wt im nd) d8 k) (fun d8 => (iQ wt im iw nd) d8 k) (4 * bl) n)), (0, .ref (b + 115)), (1, .int (nI 1)), (2, .int (nI bl)), (3, .int (nI k))]) hx hb dX10_bound_50 hl (by decide) rfl (fun ls hl => ?_)
            refine lv_dload hx hb dX10_bound_52 (lv_at hl 0 rfl) ?_
            refine lv_dload hx hb dX10_bound_54 (lv_at hl 2 rfl) ?_
            refine lv_dcmp hx hb dX10_bound_56 ?_
            refine nn_cl_le (tgt := 65) hx hb dX10_bound_57 (by decide) (fun h6 => ?_) (fun h6 => ?_)
            ·
              have hn1 : (mbF (fun d8 => (inI wt im nd) d8 k) (fun d8 => (iQ wt im iw nd) d8 k) (4 * bl) (n + 1)) = (mbF (fun d8 => (inI wt im nd) d8 k) (fun d8 => (iQ wt im iw nd) d8 k) (4 * bl) n) := by show (if FP.dcmp (if (inI wt im nd) (4 * bl + n) k = true then (iQ wt im iw nd) (4 * bl + n) k else FP.dconst0) _ = some .gt then (if (inI wt im nd) (4 * bl + n) k = true then (iQ wt im iw nd) (4 * bl + n) k else FP.dconst0) else _) = _; rw [ha, if_neg h6]
              refine lv_dload hx hb dX10_bound_65 (lv_at hl 2 rfl) ?_
              refine lv_dstore (lv' := [(4, .double (mbF (fun d8 => (inI wt im nd) d8 k) (fun d8 => (iQ wt im iw nd) d8 k) (4 * bl) n)), (7, .double (iQ wt im iw nd (4 * bl + n) k)), (6, .int (nI (4 * bl + n))), (0, .ref (b + 115)), (1, .int (nI 1)), (2, .int (nI bl)), (3, .int (nI k))]) hx hb dX10_bound_67 hl (by decide) rfl (fun ls hl => ?_)
              refine nn_iinc (x := (4 * bl + n)) (d := 1) (lv' := [(6, .int (nI ((4 * bl + n) + 1))), (4, .double (mbF (fun d8 => (inI wt im nd) d8 k) (fun d8 => (iQ wt im iw nd) d8 k) (4 * bl) n)), (7, .double (iQ wt im iw nd (4 * bl + n) k)), (0, .ref (b + 115)), (1, .int (nI 1)), (2, .int (nI bl)), (3, .int (nI k))]) hx hb dX10_bound_69 hl (k := 2) rfl (by decide) (by decide) rfl (fun ls hl => ?_)
              refine lv_goto (tgt := 8) hx hb dX10_bound_72 (by decide) ?_
              exact ih1 (n + 1) (by omega) (by have := eB_in g1 g2; omega) _ _ hh ls (lv_sub hl [0, 1, 3, 4, 5, 6] (by rw [hn1]; rfl))
            ·
              have hn1 : (mbF (fun d8 => (inI wt im nd) d8 k) (fun d8 => (iQ wt im iw nd) d8 k) (4 * bl) (n + 1)) = iQ wt im iw nd (4 * bl + n) k := by show (if FP.dcmp (if (inI wt im nd) (4 * bl + n) k = true then (iQ wt im iw nd) (4 * bl + n) k else FP.dconst0) _ = some .gt then (if (inI wt im nd) (4 * bl + n) k = true then (iQ wt im iw nd) (4 * bl + n) k else FP.dconst0) else _) = _; rw [ha, if_pos (Classical.not_not.mp h6)]
              refine lv_dload hx hb dX10_bound_60 (lv_at hl 0 rfl) ?_
              refine lv_goto (tgt := 67) hx hb dX10_bound_62 (by decide) ?_
              refine lv_dstore (lv' := [(4, .double (iQ wt im iw nd (4 * bl + n) k)), (7, .double (iQ wt im iw nd (4 * bl + n) k)), (6, .int (nI (4 * bl + n))), (0, .ref (b + 115)), (1, .int (nI 1)), (2, .int (nI bl)), (3, .int (nI k))]) hx hb dX10_bound_67 hl (by decide) rfl (fun ls hl => ?_)
              refine nn_iinc (x := (4 * bl + n)) (d := 1) (lv' := [(6, .int (nI ((4 * bl + n) + 1))), (4, .double (iQ wt im iw nd (4 * bl + n) k)), (7, .double (iQ wt im iw nd (4 * bl + n) k)), (0, .ref (b + 115)), (1, .int (nI 1)), (2, .int (nI bl)), (3, .int (nI k))]) hx hb dX10_bound_69 hl (k := 2) rfl (by decide) (by decide) rfl (fun ls hl => ?_)
              refine lv_goto (tgt := 8) hx hb dX10_bound_72 (by decide) ?_
              exact ih1 (n + 1) (by omega) (by have := eB_in g1 g2; omega) _ _ hh ls (lv_sub hl [0, 1, 3, 4, 5, 6] (by rw [hn1]; rfl))
  exact loop8 ((20 - 0) + 1) 0 (by omega) (by omega) _ _ hh ls (lv_sub hl [0, 1, 2, 3, 4, 5] rfl)
set_option maxHeartbeats 4000000 in
set_option maxRecDepth 100000 in
/-- reference: boundOf 1N -/
theorem m_boundOf1N (l : Launch) (Γ : Gm) (b M : Nat) (mem : Nat → va_E) {cd nd cz wz iz vz md wh sd sk ps fc : Nat} {bl : Nat} {wt : Nat → Nat → UInt32} {im iw : Nat → Nat}  (hM : 138 ≤ M) (fM : mem 115 = .inr (9, [.int (nI cd), .int (nI nd), .ref (b + 116), .ref (b + 117), .ref (b + 118), .ref (b + 119), .int (nI cz), .ref (b + 120), .int (nI wz), .int (nI iz), .int (nI vz), .ref (b + 121), .ref (b + 122), .ref (b + 123), .ref (b + 124), .ref (b + 125), .ref (b + 126), .ref (b + 127), .ref (b + 128), .ref (b + 129), .int (nI md), .ref (b + 130), .ref (b + 131), .int (nI wh), .ref (b + 132), .ref (b + 133), .int (nI sd), .int (nI sk), .int (nI ps), .int (nI fc), .ref (b + 134), .ref (b + 135)])) (g117 : mem 117 = aF Γ 192 (fl12 wt)) (g122 : mem 122 = aN Γ 4 im) (g123 : mem 123 = aN Γ 4 iw) (hnd : nd ≤ 16) (hwt : ∀ d t, fb 148 (wt d t)) (him : ∀ i, im i < 12) (hiz : iz ≤ 4) (hiw : ∀ i, i < iz → 1 ≤ iw i ∧ iw i ≤ 100) (hb4 : bl < 4) : Ct l yX10_boundOf (.code yX10_boundOf cX10_boundOf 7 (some .double)) ({ frames := 3, cells := 0, slots := 0, locals := 76 } : Room) Γ b M [.ref (b + 115), .int (nI 1), .int (nI bl), .int (-1)] mem (fun u => u = mem) (some (.double (suG (fun _ => true) (bnd (inI wt im nd) (iQ wt im iw nd) nd bl) iz))) := by
  refine mm_enter (cc := cX10_boundOf) (by decide) (Nat.le_of_ble_eq_true rfl) ?_
  intro p e s m args below meth c ls hx hb hml hown hr hlocks hname hE hh hl
  have hl : lv_has ls 7 [(0, .ref (b + 115)), (1, .int (nI 1)), (2, .int (nI bl)), (3, .int (-1))] := hl
  have hen := eB_le nd bl
  refine lv_dconst0 hx hb dX10_boundOf_0 ?_
  refine lv_dstore (lv' := [(4, .double FP.dconst0), (0, .ref (b + 115)), (1, .int (nI 1)), (2, .int (nI bl)), (3, .int (-1))]) hx hb dX10_boundOf_1 hl (by decide) rfl (fun ls hl => ?_)
  refine lv_iconst (v := (nI 0)) hx hb dX10_boundOf_3 (by decide) ?_
  refine lv_istore (lv' := [(6, .int (nI 0)), (4, .double FP.dconst0), (0, .ref (b + 115)), (1, .int (nI 1)), (2, .int (nI bl)), (3, .int (-1))]) hx hb dX10_boundOf_4 hl (by decide) rfl (fun ls hl => ?_)
  have loop6 : ∀ (n9 : Nat) (k : Nat), (iz - k) < n9 → (k ≤ iz) → ∀ (H : Heap) (locs : List Loc), GH Γ b M mem s H locs → ∀ (ls : Array Slot), lv_has ls 7 [(6, .int (nI k)), (4, .double (suG (fun _ => true) (bnd (inI wt im nd) (iQ wt im iw nd) nd bl) k)), (0, .ref (b + 115)), (1, .int (nI 1)), (2, .int (nI bl)), (3, .int (-1))] → W p l e ({ frames := 3, cells := 0, slots := 0, locals := 76 } : Room) s m args below meth c H locs 0 0 (MQ below (QC Γ b M (fun u => u = mem) (some (.double (suG (fun _ => true) (bnd (inI wt im nd) (iQ wt im iw nd) nd bl) iz)))) args s 0 0 (fun q => b ≤ q)) (F0 m 6 ls []) := by
    intro n9
    induction n9 with
    | zero => intro k hn; exact absurd hn (Nat.not_lt_zero _)
    | succ n9 ih =>
      intro k hn hk H locs hh ls hl
      have ih1 := ih
      refine lv_iload hx hb dX10_boundOf_6 (lv_at hl 0 rfl) ?_
      refine lv_aload_n hx hb dX10_boundOf_8 rfl (lv_at hl 2 rfl) ?_
      refine lv_iload_n hx hb dX10_boundOf_9 rfl (lv_at hl 3 rfl) ?_
      refine mm_V0r (As := [.int (nI 1)]) (rest := [.int (nI k)]) hx hb hml hown hE hl.1 hh (kc_X10_158 hE.2.1 ⟨Nat.le_of_ble_eq_true rfl, Nat.le_of_ble_eq_true rfl⟩) (m_termsOf1 l Γ b M mem (cd := cd) (nd := nd) (cz := cz) (wz := wz) (iz := iz) (vz := vz) (md := md) (wh := wh) (sd := sd) (sk := sk) (ps := ps) (fc := fc) (by omega) fM) rfl (by omega) fM rfl rfl (Nat.le_of_ble_eq_true rfl) dX10_boundOf_10 rfl rfl (fun H locs hh => ?_)
      refine nn_icmp_ge (tgt := 56) hx hb dX10_boundOf_13 (by decide) (by omega) (by omega) (fun h2 => ?_) (fun h2 => ?_)
      ·
        obtain rfl : iz = k := by omega
        refine lv_dload hx hb dX10_boundOf_56 (lv_at hl 1 rfl) ?_
        exact mm_dret hx hb hr hlocks hE hh (rfl) (rfl) dX10_boundOf_58
      ·
        refine lv_iload_n hx hb dX10_boundOf_16 rfl (lv_at hl 5 rfl) ?_
        refine lv_iconst (v := (-1)) hx hb dX10_boundOf_17 (by decide) ?_
        refine lv_icmp_eq (tgt := 32) hx hb dX10_boundOf_18 (by decide) (fun h3 => ?_) (fun h3 => ?_)
        ·
          have hn1 : (suG (fun _ => true) (bnd (inI wt im nd) (iQ wt im iw nd) nd bl) (k + 1)) = FP.dadd (suG (fun _ => true) (bnd (inI wt im nd) (iQ wt im iw nd) nd bl) k) (bnd (inI wt im nd) (iQ wt im iw nd) nd bl k) := if_pos rfl
          refine lv_dload hx hb dX10_boundOf_32 (lv_at hl 1 rfl) ?_
          refine lv_aload_n hx hb dX10_boundOf_34 rfl (lv_at hl 2 rfl) ?_
          refine lv_iload_n hx hb dX10_boundOf_35 rfl (lv_at hl 3 rfl) ?_
          refine lv_iload_n hx hb dX10_boundOf_36 rfl (lv_at hl 4 rfl) ?_
          refine lv_iload hx hb dX10_boundOf_37 (lv_at hl 0 rfl) ?_
          refine mm_V0r (As := [.int (nI 1), .int (nI bl), .int (nI k)]) (rest := [.double (suG (fun _ => true) (bnd (inI wt im nd) (iQ wt im iw nd) nd bl) k)]) hx hb hml hown hE hl.1 hh (kc_X10_190 hE.2.1 ⟨Nat.le_of_ble_eq_true rfl, Nat.le_of_ble_eq_true rfl⟩) (m_bound1 l Γ b M mem (cd := cd) (nd := nd) (cz := cz) (wz := wz) (iz := iz) (vz := vz) (md := md) (wh := wh) (sd := sd) (sk := sk) (ps := ps) (fc := fc) (bl := bl) (k := k) (im := im) (iw := iw) (by omega) fM g117 g122 g123 (by omega) (hwt) (him) (by omega) (hiw) (by omega) (by omega)) rfl (by omega) fM rfl rfl (Nat.le_of_ble_eq_true rfl) dX10_boundOf_39 rfl rfl (fun H locs hh => ?_)
          refine lv_dadd hx hb dX10_boundOf_42 ((hn1 ▸ (suG_db (c := (fun _ => true)) (q := bnd (inI wt im nd) (iQ wt im iw nd) nd bl) (K := 1090) (by decide) (by decide) (k + 1) (by omega) (fun i9 hi9 => mbF_db _ (fun d8 h8 h9 => iV_db))).n (by omega))) ?_
          refine lv_goto (tgt := 48) hx hb dX10_boundOf_43 (by decide) ?_
          refine lv_dstore (lv' := [(4, .double (FP.dadd (suG (fun _ => true) (bnd (inI wt im nd) (iQ wt im iw nd) nd bl) k) (bnd (inI wt im nd) (iQ wt im iw nd) nd bl k))), (6, .int (nI k)), (0, .ref (b + 115)), (1, .int (nI 1)), (2, .int (nI bl)), (3, .int (-1))]) hx hb dX10_boundOf_48 hl (by decide) rfl (fun ls hl => ?_)
          refine nn_iinc (x := k) (d := 1) (lv' := [(6, .int (nI (k + 1))), (4, .double (FP.dadd (suG (fun _ => true) (bnd (inI wt im nd) (iQ wt im iw nd) nd bl) k) (bnd (inI wt im nd) (iQ wt im iw nd) nd bl k))), (0, .ref (b + 115)), (1, .int (nI 1)), (2, .int (nI bl)), (3, .int (-1))]) hx hb dX10_boundOf_50 hl (k := 1) rfl (by decide) (by decide) rfl (fun ls hl => ?_)
          refine lv_goto (tgt := 6) hx hb dX10_boundOf_53 (by decide) ?_
          exact ih1 (k + 1) (by omega) (by omega) _ _ hh ls (lv_sub hl [0, 1, 2, 3, 4, 5] (by rw [hn1]; rfl))
        ·
          exact absurd rfl h3
  exact loop6 ((iz - 0) + 1) 0 (by omega) (by omega) _ _ hh ls (lv_sub hl [0, 1, 2, 3, 4, 5] rfl)
set_option maxHeartbeats 4000000 in
set_option maxRecDepth 100000 in
/-- reference: boundOf 1D -/
theorem m_boundOf1D (l : Launch) (Γ : Gm) (b M : Nat) (mem : Nat → va_E) {cd nd cz wz iz vz md wh sd sk ps fc : Nat} {bl d : Nat} {wt : Nat → Nat → UInt32} {im iw : Nat → Nat}  (hM : 138 ≤ M) (fM : mem 115 = .inr (9, [.int (nI cd), .int (nI nd), .ref (b + 116), .ref (b + 117), .ref (b + 118), .ref (b + 119), .int (nI cz), .ref (b + 120), .int (nI wz), .int (nI iz), .int (nI vz), .ref (b + 121), .ref (b + 122), .ref (b + 123), .ref (b + 124), .ref (b + 125), .ref (b + 126), .ref (b + 127), .ref (b + 128), .ref (b + 129), .int (nI md), .ref (b + 130), .ref (b + 131), .int (nI wh), .ref (b + 132), .ref (b + 133), .int (nI sd), .int (nI sk), .int (nI ps), .int (nI fc), .ref (b + 134), .ref (b + 135)])) (g117 : mem 117 = aF Γ 192 (fl12 wt)) (g122 : mem 122 = aN Γ 4 im) (g123 : mem 123 = aN Γ 4 iw) (hnd : nd ≤ 16) (hwt : ∀ d t, fb 148 (wt d t)) (him : ∀ i, im i < 12) (hiz : iz ≤ 4) (hiw : ∀ i, i < iz → 1 ≤ iw i ∧ iw i ≤ 100) (hb4 : bl < 4) (hd : d < nd) : Ct l yX10_boundOf (.code yX10_boundOf cX10_boundOf 7 (some .double)) ({ frames := 3, cells := 0, slots := 0, locals := 76 } : Room) Γ b M [.ref (b + 115), .int (nI 1), .int (nI bl), .int (nI d)] mem (fun u => u = mem) (some (.double (suG ((inI wt im nd) d) (bnd (inI wt im nd) (iQ wt im iw nd) nd bl) iz))) := by
  refine mm_enter (cc := cX10_boundOf) (by decide) (Nat.le_of_ble_eq_true rfl) ?_
  intro p e s m args below meth c ls hx hb hml hown hr hlocks hname hE hh hl
  have hl : lv_has ls 7 [(0, .ref (b + 115)), (1, .int (nI 1)), (2, .int (nI bl)), (3, .int (nI d))] := hl
  have hen := eB_le nd bl
  refine lv_dconst0 hx hb dX10_boundOf_0 ?_
  refine lv_dstore (lv' := [(4, .double FP.dconst0), (0, .ref (b + 115)), (1, .int (nI 1)), (2, .int (nI bl)), (3, .int (nI d))]) hx hb dX10_boundOf_1 hl (by decide) rfl (fun ls hl => ?_)
  refine lv_iconst (v := (nI 0)) hx hb dX10_boundOf_3 (by decide) ?_
  refine lv_istore (lv' := [(6, .int (nI 0)), (4, .double FP.dconst0), (0, .ref (b + 115)), (1, .int (nI 1)), (2, .int (nI bl)), (3, .int (nI d))]) hx hb dX10_boundOf_4 hl (by decide) rfl (fun ls hl => ?_)
  have loop6 : ∀ (n9 : Nat) (k : Nat), (iz - k) < n9 → (k ≤ iz) → ∀ (H : Heap) (locs : List Loc), GH Γ b M mem s H locs → ∀ (ls : Array Slot), lv_has ls 7 [(6, .int (nI k)), (4, .double (suG ((inI wt im nd) d) (bnd (inI wt im nd) (iQ wt im iw nd) nd bl) k)), (0, .ref (b + 115)), (1, .int (nI 1)), (2, .int (nI bl)), (3, .int (nI d))] → W p l e ({ frames := 3, cells := 0, slots := 0, locals := 76 } : Room) s m args below meth c H locs 0 0 (MQ below (QC Γ b M (fun u => u = mem) (some (.double (suG ((inI wt im nd) d) (bnd (inI wt im nd) (iQ wt im iw nd) nd bl) iz)))) args s 0 0 (fun q => b ≤ q)) (F0 m 6 ls []) := by
    intro n9
    induction n9 with
    | zero => intro k hn; exact absurd hn (Nat.not_lt_zero _)
    | succ n9 ih =>
      intro k hn hk H locs hh ls hl
      have ih1 := ih
      refine lv_iload hx hb dX10_boundOf_6 (lv_at hl 0 rfl) ?_
      refine lv_aload_n hx hb dX10_boundOf_8 rfl (lv_at hl 2 rfl) ?_
      refine lv_iload_n hx hb dX10_boundOf_9 rfl (lv_at hl 3 rfl) ?_
      refine mm_V0r (As := [.int (nI 1)]) (rest := [.int (nI k)]) hx hb hml hown hE hl.1 hh (kc_X10_158 hE.2.1 ⟨Nat.le_of_ble_eq_true rfl, Nat.le_of_ble_eq_true rfl⟩) (m_termsOf1 l Γ b M mem (cd := cd) (nd := nd) (cz := cz) (wz := wz) (iz := iz) (vz := vz) (md := md) (wh := wh) (sd := sd) (sk := sk) (ps := ps) (fc := fc) (by omega) fM) rfl (by omega) fM rfl rfl (Nat.le_of_ble_eq_true rfl) dX10_boundOf_10 rfl rfl (fun H locs hh => ?_)
      refine nn_icmp_ge (tgt := 56) hx hb dX10_boundOf_13 (by decide) (by omega) (by omega) (fun h2 => ?_) (fun h2 => ?_)
      ·
        obtain rfl : iz = k := by omega
        refine lv_dload hx hb dX10_boundOf_56 (lv_at hl 1 rfl) ?_
        exact mm_dret hx hb hr hlocks hE hh (rfl) (rfl) dX10_boundOf_58
      ·
        refine lv_iload_n hx hb dX10_boundOf_16 rfl (lv_at hl 5 rfl) ?_
        refine lv_iconst (v := (-1)) hx hb dX10_boundOf_17 (by decide) ?_
        refine lv_icmp_eq (tgt := 32) hx hb dX10_boundOf_18 (by decide) (fun h3 => ?_) (fun h3 => ?_)
        ·
          exact absurd h3 (nI_nm1 (by omega))
        ·
          refine lv_aload_n hx hb dX10_boundOf_21 rfl (lv_at hl 2 rfl) ?_
          refine lv_iload_n hx hb dX10_boundOf_22 rfl (lv_at hl 3 rfl) ?_
          refine lv_iload_n hx hb dX10_boundOf_23 rfl (lv_at hl 5 rfl) ?_
          refine lv_iload hx hb dX10_boundOf_24 (lv_at hl 0 rfl) ?_
          refine mm_V0r (As := [.int (nI 1), .int (nI d), .int (nI k)]) (rest := []) hx hb hml hown hE hl.1 hh (kc_X10_161 hE.2.1 ⟨Nat.le_of_ble_eq_true rfl, Nat.le_of_ble_eq_true rfl⟩) (m_isIn1 l Γ b M mem (cd := cd) (nd := nd) (cz := cz) (wz := wz) (iz := iz) (vz := vz) (md := md) (wh := wh) (sd := sd) (sk := sk) (ps := ps) (fc := fc) (d := d) (k := k) (im := im) (iw := iw) (by omega) fM g117 g122 g123 (by omega) (by omega) (hwt) (him) (by omega) (hiw) (by omega)) rfl (by omega) fM rfl rfl (Nat.le_of_ble_eq_true rfl) dX10_boundOf_26 rfl rfl (fun H locs hh => ?_)
          refine nn_beq (tgt := 46) hx hb dX10_boundOf_29 (by decide) (fun h4 => ?_) (fun h4 => ?_)
          ·
            have hn1 : (suG ((inI wt im nd) d) (bnd (inI wt im nd) (iQ wt im iw nd) nd bl) (k + 1)) = (suG ((inI wt im nd) d) (bnd (inI wt im nd) (iQ wt im iw nd) nd bl) k) := if_neg (by rw [h4]; decide)
            refine lv_dload hx hb dX10_boundOf_46 (lv_at hl 1 rfl) ?_
            refine lv_dstore (lv' := [(4, .double (suG ((inI wt im nd) d) (bnd (inI wt im nd) (iQ wt im iw nd) nd bl) k)), (6, .int (nI k)), (0, .ref (b + 115)), (1, .int (nI 1)), (2, .int (nI bl)), (3, .int (nI d))]) hx hb dX10_boundOf_48 hl (by decide) rfl (fun ls hl => ?_)
            refine nn_iinc (x := k) (d := 1) (lv' := [(6, .int (nI (k + 1))), (4, .double (suG ((inI wt im nd) d) (bnd (inI wt im nd) (iQ wt im iw nd) nd bl) k)), (0, .ref (b + 115)), (1, .int (nI 1)), (2, .int (nI bl)), (3, .int (nI d))]) hx hb dX10_boundOf_50 hl (k := 1) rfl (by decide) (by decide) rfl (fun ls hl => ?_)
            refine lv_goto (tgt := 6) hx hb dX10_boundOf_53 (by decide) ?_
            exact ih1 (k + 1) (by omega) (by omega) _ _ hh ls (lv_sub hl [0, 1, 2, 3, 4, 5] (by rw [hn1]; rfl))
          ·
            have hn1 : (suG ((inI wt im nd) d) (bnd (inI wt im nd) (iQ wt im iw nd) nd bl) (k + 1)) = FP.dadd (suG ((inI wt im nd) d) (bnd (inI wt im nd) (iQ wt im iw nd) nd bl) k) (bnd (inI wt im nd) (iQ wt im iw nd) nd bl k) := if_pos h4
            refine lv_dload hx hb dX10_boundOf_32 (lv_at hl 1 rfl) ?_
            refine lv_aload_n hx hb dX10_boundOf_34 rfl (lv_at hl 2 rfl) ?_
            refine lv_iload_n hx hb dX10_boundOf_35 rfl (lv_at hl 3 rfl) ?_
            refine lv_iload_n hx hb dX10_boundOf_36 rfl (lv_at hl 4 rfl) ?_
            refine lv_iload hx hb dX10_boundOf_37 (lv_at hl 0 rfl) ?_
            refine mm_V0r (As := [.int (nI 1), .int (nI bl), .int (nI k)]) (rest := [.double (suG ((inI wt im nd) d) (bnd (inI wt im nd) (iQ wt im iw nd) nd bl) k)]) hx hb hml hown hE hl.1 hh (kc_X10_190 hE.2.1 ⟨Nat.le_of_ble_eq_true rfl, Nat.le_of_ble_eq_true rfl⟩) (m_bound1 l Γ b M mem (cd := cd) (nd := nd) (cz := cz) (wz := wz) (iz := iz) (vz := vz) (md := md) (wh := wh) (sd := sd) (sk := sk) (ps := ps) (fc := fc) (bl := bl) (k := k) (im := im) (iw := iw) (by omega) fM g117 g122 g123 (by omega) (hwt) (him) (by omega) (hiw) (by omega) (by omega)) rfl (by omega) fM rfl rfl (Nat.le_of_ble_eq_true rfl) dX10_boundOf_39 rfl rfl (fun H locs hh => ?_)
            refine lv_dadd hx hb dX10_boundOf_42 ((hn1 ▸ (suG_db (c := ((inI wt im nd) d)) (q := bnd (inI wt im nd) (iQ wt im iw nd) nd bl) (K := 1090) (by decide) (by decide) (k + 1) (by omega) (fun i9 hi9 => mbF_db _ (fun d8 h8 h9 => iV_db))).n (by omega))) ?_
            refine lv_goto (tgt := 48) hx hb dX10_boundOf_43 (by decide) ?_
            refine lv_dstore (lv' := [(4, .double (FP.dadd (suG ((inI wt im nd) d) (bnd (inI wt im nd) (iQ wt im iw nd) nd bl) k) (bnd (inI wt im nd) (iQ wt im iw nd) nd bl k))), (6, .int (nI k)), (0, .ref (b + 115)), (1, .int (nI 1)), (2, .int (nI bl)), (3, .int (nI d))]) hx hb dX10_boundOf_48 hl (by decide) rfl (fun ls hl => ?_)
            refine nn_iinc (x := k) (d := 1) (lv' := [(6, .int (nI (k + 1))), (4, .double (FP.dadd (suG ((inI wt im nd) d) (bnd (inI wt im nd) (iQ wt im iw nd) nd bl) k) (bnd (inI wt im nd) (iQ wt im iw nd) nd bl k))), (0, .ref (b + 115)), (1, .int (nI 1)), (2, .int (nI bl)), (3, .int (nI d))]) hx hb dX10_boundOf_50 hl (k := 1) rfl (by decide) (by decide) rfl (fun ls hl => ?_)
            refine lv_goto (tgt := 6) hx hb dX10_boundOf_53 (by decide) ?_
            exact ih1 (k + 1) (by omega) (by omega) _ _ hh ls (lv_sub hl [0, 1, 2, 3, 4, 5] (by rw [hn1]; rfl))
  exact loop6 ((iz - 0) + 1) 0 (by omega) (by omega) _ _ hh ls (lv_sub hl [0, 1, 2, 3, 4, 5] rfl)
