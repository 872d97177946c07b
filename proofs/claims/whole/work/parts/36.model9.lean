/-- a list's length, or 0 where there is none -/
def mlE (mh : Nat → Bool) (ml : Nat → Nat) (v : Nat) : Nat := if mh v = true then ml v else 0
def rkN (f : Nat → Nat) (d : Nat) : Nat → Nat
  | 0 => 0
  | k + 1 => if f k = d then k else rkN f d k
theorem rk_y {f : Nat → Nat} {d : Nat} : ∀ n, n ≤ 20 → ¬ rkF f d n = (-1) → rkF f d n = nI (rkN f d n) ∧ rkN f d n < n ∧ f (rkN f d n) = d
  | 0, _, h => absurd rfl h
  | k + 1, hk, h => by
    unfold rkF at h ⊢
    unfold rkN
    by_cases e : f k = d
    · rw [if_pos e, if_pos e]; exact ⟨rfl, Nat.lt_succ_self k, e⟩
    · rw [if_neg e] at h ⊢
      rw [if_neg e]
      have h1 := rk_y k (by omega) h
      exact ⟨h1.1, by omega, h1.2.2⟩
def fvS (way : Nat) (mh : Nat → Bool) (ml : Nat → Nat) (mli : Nat → Nat) (msc : Nat → UInt64) (d : Nat) : Nat → UInt64 × Nat
  | 0 => (FP.dconst0, 0)
  | v + 1 => if rkF (lfN mli v) d (mlE mh ml v) = (-1) then fvS way mh ml mli msc d v else (FP.dadd (fvS way mh ml mli msc d v).1 (shF way (lfD msc v) (ml v) (rkN (lfN mli v) d (mlE mh ml v))), (fvS way mh ml mli msc d v).2 + 1)
/-- the reference's lists: their documents below 16, their scores in order -/
def mlOK (mh : Nat → Bool) (ml : Nat → Nat) (mli : Nat → Nat) (msc : Nat → UInt64) : Prop := ∀ v, v < 3 → mh v = true → scOK (lfD msc v) (ml v) ∧ ml v ≤ 20 ∧ ∀ k, k < ml v → mli (20 * v + k) < 16
theorem mlE_t {mh : Nat → Bool} {ml : Nat → Nat} {v : Nat} (h : 0 < mlE mh ml v) : mh v = true ∧ mlE mh ml v = ml v := by
  unfold mlE at h ⊢
  by_cases e : mh v = true
  · rw [if_pos e]; exact ⟨e, rfl⟩
  · rw [if_neg e] at h; omega
theorem mlE_le {mh : Nat → Bool} {ml : Nat → Nat} {mli : Nat → Nat} {msc : Nat → UInt64} (h : mlOK mh ml mli msc) {v : Nat} (hv : v < 3) : mlE mh ml v ≤ 20 := by
  unfold mlE
  split
  · rename_i e; exact (h v hv e).2.1
  · omega
theorem fvS_ok {way : Nat} {mh : Nat → Bool} {ml : Nat → Nat} {mli : Nat → Nat} {msc : Nat → UInt64} {d : Nat} (h : mlOK mh ml mli msc) : ∀ v, v ≤ 3 → nnP (fvS way mh ml mli msc d v).1 ∧ (fvS way mh ml mli msc d v).2 ≤ v
  | 0, _ => ⟨⟨by show dp FP.dconst0; unfold dp; decide, (show db 1030 FP.dconst0 by unfold db; decide).n (by decide)⟩, Nat.le_refl 0⟩
  | v + 1, hv => by
    have h1 := fvS_ok (way := way) (d := d) h v (by omega)
    unfold fvS
    split
    · exact ⟨h1.1, by omega⟩
    · rename_i hn
      have h2 := rk_y _ (mlE_le h (by omega)) hn
      have h3 := mlE_t (mh := mh) (ml := ml) (v := v) (by omega)
      have h4 := h v (by omega) h3.1
      exact ⟨h1.1.add (shF_n h4.1 (by rw [← h3.2]; exact h2.2.1) h4.2.1), by have := h1.2; show (fvS way mh ml mli msc d v).2 + 1 ≤ v + 1; omega⟩
def vwM (way : Nat) (S : UInt64 × Nat) : UInt64 := if way = 2 then FP.dmul S.1 (FP.i2d (nI S.2)) else S.1
def fuM (way : Nat) (mh : Nat → Bool) (ml : Nat → Nat) (mli : Nat → Nat) (msc : Nat → UInt64) (T : RkT) : Nat → RkT
  | 0 => T
  | d + 1 => if 0 < (fvS way mh ml mli msc d 3).2 then en1 20 d (vwM way (fvS way mh ml mli msc d 3)) (fuM way mh ml mli msc T d) else fuM way mh ml mli msc T d
theorem fuM_ok {way : Nat} {mh : Nat → Bool} {ml : Nat → Nat} {mli : Nat → Nat} {msc : Nat → UInt64} {T : RkT} (h : ∀ j, T.1 j < 16) (h0 : T.2.2 = 0) : ∀ d, d ≤ 16 → tOK 20 (fuM way mh ml mli msc T d) ∧ (fuM way mh ml mli msc T d).2.2 ≤ d
  | 0, _ => ⟨⟨h, by rw [show fuM way mh ml mli msc T 0 = T from rfl, h0]; omega⟩, by rw [show fuM way mh ml mli msc T 0 = T from rfl, h0]; omega⟩
  | d + 1, hd => by
    have h1 := fuM_ok (way := way) (mh := mh) (ml := ml) (mli := mli) (msc := msc) h h0 d (by omega)
    have h2 := h1.2
    unfold fuM
    split
    · refine ⟨en1_ok h1.1 (by omega), ?_⟩
      show (if (fuM way mh ml mli msc T d).2.2 < 20 then (fuM way mh ml mli msc T d).2.2 + 1 else 20) ≤ d + 1
      split <;> omega
    · exact ⟨h1.1, by omega⟩
def cpN (f g : Nat → Nat) (n : Nat) : Nat → Nat := fun j => if j < n then g j else f j
theorem cpN_0 (f g : Nat → Nat) : cpN f g 0 = f := by funext j; exact if_neg (Nat.not_lt_zero _)
theorem cpN_s (f g : Nat → Nat) (n : Nat) : va_up (cpN f g n) n (g n) = cpN f g (n + 1) := by
  funext j
  unfold va_up cpN
  by_cases e : j = n
  · subst e; rw [if_pos rfl, if_pos (Nat.lt_succ_self _)]
  · rw [if_neg e]
    by_cases h : j < n
    · rw [if_pos h, if_pos (by omega)]
    · rw [if_neg h, if_neg (by omega)]

set_option maxHeartbeats 4000000 in
set_option maxRecDepth 100000 in
/-- reference: rankOf, of any view -/
theorem m_rankOfG (l : Launch) (Γ : Gm) (b M : Nat) (mem : Nat → va_E) {cd nd cz wz iz vz md wh sd sk ps fc : Nat} {mh : Nat → Bool} {ml : Nat → Nat} {mli : Nat → Nat} {msc : Nat → UInt64} {v d : Nat}  (hM : 138 ≤ M) (fM : mem 115 = .inr (9, [.int (nI cd), .int (nI nd), .ref (b + 116), .ref (b + 117), .ref (b + 118), .ref (b + 119), .int (nI cz), .ref (b + 120), .int (nI wz), .int (nI iz), .int (nI vz), .ref (b + 121), .ref (b + 122), .ref (b + 123), .ref (b + 124), .ref (b + 125), .ref (b + 126), .ref (b + 127), .ref (b + 128), .ref (b + 129), .int (nI md), .ref (b + 130), .ref (b + 131), .int (nI wh), .ref (b + 132), .ref (b + 133), .int (nI sd), .int (nI sk), .int (nI ps), .int (nI fc), .ref (b + 134), .ref (b + 135)])) (g125 : mem 125 = aB Γ 3 mh) (g126 : mem 126 = aN Γ 3 ml) (g127 : mem 127 = aN Γ 60 mli) (hv : v < 3) (hlok : mlOK mh ml mli msc) (hd : d < 16) (hmlb : ml v < 2 ^ 31) : Ct l yX10_rankOf (.code yX10_rankOf cX10_rankOf 5 (some .int)) ({ frames := 0, cells := 0, slots := 0, locals := 0 } : Room) Γ b M [.ref (b + 115), .int (nI v), .int (nI d)] mem (fun u => u = mem) (some (.int (rkF (lfN mli v) d (mlE mh ml v)))) := by
  refine mm_enter (cc := cX10_rankOf) (by decide) (Nat.le_of_ble_eq_true rfl) ?_
  intro p e s m args below meth c ls hx hb hml hown hr hlocks hname hE hh hl
  have hl : lv_has ls 5 [(0, .ref (b + 115)), (1, .int (nI v)), (2, .int (nI d))] := hl
  refine lv_iconst (v := (-1)) hx hb dX10_rankOf_0 (by decide) ?_
  refine lv_istore_n (lv' := [(3, .int (-1)), (0, .ref (b + 115)), (1, .int (nI v)), (2, .int (nI d))]) hx hb dX10_rankOf_1 rfl hl (by decide) rfl (fun ls hl => ?_)
  refine lv_iconst (v := (nI 0)) hx hb dX10_rankOf_2 (by decide) ?_
  refine lv_istore (lv' := [(4, .int (nI 0)), (3, .int (-1)), (0, .ref (b + 115)), (1, .int (nI v)), (2, .int (nI d))]) hx hb dX10_rankOf_3 hl (by decide) rfl (fun ls hl => ?_)
  have loop5 : ∀ (n9 : Nat) (k : Nat), ((mlE mh ml v) - k) < n9 → (k ≤ (mlE mh ml v)) → ∀ (H : Heap) (locs : List Loc), GH Γ b M mem s H locs → ∀ (ls : Array Slot), lv_has ls 5 [(4, .int (nI k)), (3, .int (rkF (lfN mli v) d k)), (0, .ref (b + 115)), (1, .int (nI v)), (2, .int (nI d))] → W p l e ({ frames := 0, cells := 0, slots := 0, locals := 0 } : Room) s m args below meth c H locs 0 0 (MQ below (QC Γ b M (fun u => u = mem) (some (.int (rkF (lfN mli v) d (mlE mh ml v))))) args s 0 0 (fun q => b ≤ q)) (F0 m 5 ls []) := by
    intro n9
    induction n9 with
    | zero => intro k hn; exact absurd hn (Nat.not_lt_zero _)
    | succ n9 ih =>
      intro k hn hk H locs hh ls hl
      have hm20 := mlE_le hlok hv
      have ih1 := ih
      refine lv_aload_n hx hb dX10_rankOf_5 rfl (lv_at hl 2 rfl) ?_
      refine gf_X10_has hx hb hE hown hh (by omega) fM rfl dX10_rankOf_6 ?_
      refine lv_iload_n hx hb dX10_rankOf_9 rfl (lv_at hl 3 rfl) ?_
      refine mm_zald hx hb hE hh (by omega) g125 (by omega) (by decide) dX10_rankOf_10 ?_
      refine nn_beq (tgt := 54) hx hb dX10_rankOf_11 (by decide) (fun h2 => ?_) (fun h2 => ?_)
      ·
        have e9 : (mlE mh ml v) = 0 := if_neg (by rw [h2]; decide)
        have hke : k = (mlE mh ml v) := by omega
        refine lv_iload_n hx hb dX10_rankOf_54 rfl (lv_at hl 1 rfl) ?_
        exact mm_iret hx hb hr hlocks hE hh (by rw [hke]) (rfl) dX10_rankOf_55
      ·
        have g1 := h2
        have hml9 := (hlok v hv h2).2.1
        have hme : (mlE mh ml v) = ml v := if_pos h2
        refine lv_iload hx hb dX10_rankOf_14 (lv_at hl 0 rfl) ?_
        refine lv_aload_n hx hb dX10_rankOf_16 rfl (lv_at hl 2 rfl) ?_
        refine gf_X10_length hx hb hE hown hh (by omega) fM rfl dX10_rankOf_17 ?_
        refine lv_iload_n hx hb dX10_rankOf_20 rfl (lv_at hl 3 rfl) ?_
        refine mm_iald hx hb hE hh (by omega) g126 (by omega) (by decide) dX10_rankOf_21 ?_
        refine nn_icmp_ge (tgt := 54) hx hb dX10_rankOf_22 (by decide) (by omega) (by omega) (fun h3 => ?_) (fun h3 => ?_)
        ·
          have hke : k = (mlE mh ml v) := by omega
          refine lv_iload_n hx hb dX10_rankOf_54 rfl (lv_at hl 1 rfl) ?_
          exact mm_iret hx hb hr hlocks hE hh (by rw [hke]) (rfl) dX10_rankOf_55
        ·
          have hlk := (hlok v hv g1).2.2 k (by omega)
          refine lv_aload_n hx hb dX10_rankOf_25 rfl (lv_at hl 2 rfl) ?_
          refine gf_X10_list hx hb hE hown hh (by omega) fM rfl dX10_rankOf_26 ?_
          refine lv_bipush (v := (nI 20)) hx hb dX10_rankOf_29 (by decide) ?_
          refine lv_iload_n hx hb dX10_rankOf_31 rfl (lv_at hl 3 rfl) ?_
          refine nn_imul hx hb dX10_rankOf_32 ?_
          refine lv_iload hx hb dX10_rankOf_33 (lv_at hl 0 rfl) ?_
          refine nn_iadd hx hb dX10_rankOf_35 ?_
          refine mm_iald hx hb hE hh (by omega) g127 (by omega) (by decide) dX10_rankOf_36 ?_
          refine lv_iload_n hx hb dX10_rankOf_37 rfl (lv_at hl 4 rfl) ?_
          refine nn_icmp_ne (tgt := 46) hx hb dX10_rankOf_38 (by decide) (by omega) (by omega) (fun h4 => ?_) (fun h4 => ?_)
          ·
            have hq : (rkF (lfN mli v) d (k + 1)) = (rkF (lfN mli v) d k) := if_neg h4
            refine lv_iload_n hx hb dX10_rankOf_46 rfl (lv_at hl 1 rfl) ?_
            refine lv_istore_n (lv' := [(3, .int (rkF (lfN mli v) d k)), (4, .int (nI k)), (0, .ref (b + 115)), (1, .int (nI v)), (2, .int (nI d))]) hx hb dX10_rankOf_47 rfl hl (by decide) rfl (fun ls hl => ?_)
            refine nn_iinc (x := k) (d := 1) (lv' := [(4, .int (nI (k + 1))), (3, .int (rkF (lfN mli v) d k)), (0, .ref (b + 115)), (1, .int (nI v)), (2, .int (nI d))]) hx hb dX10_rankOf_48 hl (k := 1) rfl (by decide) (by decide) rfl (fun ls hl => ?_)
            refine lv_goto (tgt := 5) hx hb dX10_rankOf_51 (by decide) ?_
            exact ih1 (k + 1) (by omega) (by omega) _ _ hh ls (lv_sub hl [0, 1, 2, 3, 4] (by rw [hq]; rfl))
          ·
            have hq : (rkF (lfN mli v) d (k + 1)) = nI k := if_pos h4
            refine lv_iload hx hb dX10_rankOf_41 (lv_at hl 0 rfl) ?_
            refine lv_goto (tgt := 47) hx hb dX10_rankOf_43 (by decide) ?_
            refine lv_istore_n (lv' := [(3, .int (nI k)), (4, .int (nI k)), (0, .ref (b + 115)), (1, .int (nI v)), (2, .int (nI d))]) hx hb dX10_rankOf_47 rfl hl (by decide) rfl (fun ls hl => ?_)
            refine nn_iinc (x := k) (d := 1) (lv' := [(4, .int (nI (k + 1))), (3, .int (nI k)), (0, .ref (b + 115)), (1, .int (nI v)), (2, .int (nI d))]) hx hb dX10_rankOf_48 hl (k := 1) rfl (by decide) (by decide) rfl (fun ls hl => ?_)
            refine lv_goto (tgt := 5) hx hb dX10_rankOf_51 (by decide) ?_
            exact ih1 (k + 1) (by omega) (by omega) _ _ hh ls (lv_sub hl [0, 1, 2, 3, 4] (by rw [hq]; rfl))
  exact loop5 (((mlE mh ml v) - 0) + 1) 0 (by omega) (by omega) _ _ hh ls (lv_sub hl [0, 1, 2, 3, 4] rfl)
set_option maxHeartbeats 8000000 in
set_option maxRecDepth 100000 in
/-- reference: fuse 0 -/
theorem m_fuse0 (l : Launch) (Γ : Gm) (b M : Nat) (mem : Nat → va_E) {cd nd cz wz iz vz md wh sd sk ps fc : Nat} {mh : Nat → Bool} {ml mli : Nat → Nat} {msc : Nat → UInt64} {mr mf : Nat → Nat} {mrs mfs : Nat → UInt64}  (hM : 138 ≤ M) (fM : mem 115 = .inr (9, [.int (nI cd), .int (nI nd), .ref (b + 116), .ref (b + 117), .ref (b + 118), .ref (b + 119), .int (nI cz), .ref (b + 120), .int (nI wz), .int (nI iz), .int (nI vz), .ref (b + 121), .ref (b + 122), .ref (b + 123), .ref (b + 124), .ref (b + 125), .ref (b + 126), .ref (b + 127), .ref (b + 128), .ref (b + 129), .int (nI md), .ref (b + 130), .ref (b + 131), .int (nI wh), .ref (b + 132), .ref (b + 133), .int (nI sd), .int (nI sk), .int (nI ps), .int (nI fc), .ref (b + 134), .ref (b + 135)])) (g125 : mem 125 = aB Γ 3 mh) (g126 : mem 126 = aN Γ 3 ml) (g127 : mem 127 = aN Γ 60 mli) (g128 : mem 128 = aD Γ 60 msc) (g130 : mem 130 = aN Γ 21 mr) (g131 : mem 131 = aD Γ 21 mrs) (g134 : mem 134 = aN Γ 17 mf) (g135 : mem 135 = aD Γ 17 mfs) (hnd : nd ≤ 16) (hlok : mlOK mh ml mli msc) (hmr : ∀ j, mr j < 16) (han : (mh 0 || mh 1 || mh 2) = true) (hmlb : ∀ v, ml v < 2 ^ 31) : Ct l yX10_fuse (.code yX10_fuse cX10_fuse 8 (some .int)) ({ frames := 1, cells := 0, slots := 0, locals := 27 } : Room) Γ b M [.ref (b + 115), .int (nI 0)] mem (fun u => u 115 = .inr (9, [.int (nI 0), .int (nI nd), .ref (b + 116), .ref (b + 117), .ref (b + 118), .ref (b + 119), .int (nI cz), .ref (b + 120), .int (nI wz), .int (nI iz), .int (nI vz), .ref (b + 121), .ref (b + 122), .ref (b + 123), .ref (b + 124), .ref (b + 125), .ref (b + 126), .ref (b + 127), .ref (b + 128), .ref (b + 129), .int (nI ((fuM 0 mh ml mli msc (mr, mrs, 0) nd).2.2)), .ref (b + 130), .ref (b + 131), .int (nI wh), .ref (b + 132), .ref (b + 133), .int (nI sd), .int (nI sk), .int (nI ps), .int (nI ((fuM 0 mh ml mli msc (mr, mrs, 0) nd).2.2)), .ref (b + 134), .ref (b + 135)]) ∧ u 130 = aN Γ 21 ((fuM 0 mh ml mli msc (mr, mrs, 0) nd).1) ∧ u 131 = aD Γ 21 ((fuM 0 mh ml mli msc (mr, mrs, 0) nd).2.1) ∧ u 134 = aN Γ 17 (cpN mf (fuM 0 mh ml mli msc (mr, mrs, 0) nd).1 (fuM 0 mh ml mli msc (mr, mrs, 0) nd).2.2) ∧ u 135 = aD Γ 17 (fiR mfs (fuM 0 mh ml mli msc (mr, mrs, 0) nd).2.1 (fuM 0 mh ml mli msc (mr, mrs, 0) nd).2.2) ∧ ∀ j, j ≠ 115 → j ≠ 130 → j ≠ 131 → j ≠ 134 → j ≠ 135 → u j = mem j) (some (.int (nI ((fuM 0 mh ml mli msc (mr, mrs, 0) nd).2.2)))) := by
  refine mm_enter (cc := cX10_fuse) (by decide) (Nat.le_of_ble_eq_true rfl) ?_
  intro p e s m args below meth c ls hx hb hml hown hr hlocks hname hE hh hl
  have hl : lv_has ls 8 [(0, .ref (b + 115)), (1, .int (nI 0))] := hl
  have hfr : ∀ j, j ≠ 115 → j ≠ 130 → j ≠ 131 → j ≠ 134 → j ≠ 135 → mem j = mem j := fun j _ _ _ _ _ => rfl
  have loop44 : ∀ (u9 : Nat), ∀ (H : Heap) (locs : List Loc), GH Γ b M mem s H locs → ∀ (ls : Array Slot), lv_has ls 8 [(0, .ref (b + 115)), (1, .int (nI 0))] → W p l e ({ frames := 1, cells := 0, slots := 0, locals := 27 } : Room) s m args below meth c H locs 0 0 (MQ below (QC Γ b M (fun u => u 115 = .inr (9, [.int (nI 0), .int (nI nd), .ref (b + 116), .ref (b + 117), .ref (b + 118), .ref (b + 119), .int (nI cz), .ref (b + 120), .int (nI wz), .int (nI iz), .int (nI vz), .ref (b + 121), .ref (b + 122), .ref (b + 123), .ref (b + 124), .ref (b + 125), .ref (b + 126), .ref (b + 127), .ref (b + 128), .ref (b + 129), .int (nI ((fuM 0 mh ml mli msc (mr, mrs, 0) nd).2.2)), .ref (b + 130), .ref (b + 131), .int (nI wh), .ref (b + 132), .ref (b + 133), .int (nI sd), .int (nI sk), .int (nI ps), .int (nI ((fuM 0 mh ml mli msc (mr, mrs, 0) nd).2.2)), .ref (b + 134), .ref (b + 135)]) ∧ u 130 = aN Γ 21 ((fuM 0 mh ml mli msc (mr, mrs, 0) nd).1) ∧ u 131 = aD Γ 21 ((fuM 0 mh ml mli msc (mr, mrs, 0) nd).2.1) ∧ u 134 = aN Γ 17 (cpN mf (fuM 0 mh ml mli msc (mr, mrs, 0) nd).1 (fuM 0 mh ml mli msc (mr, mrs, 0) nd).2.2) ∧ u 135 = aD Γ 17 (fiR mfs (fuM 0 mh ml mli msc (mr, mrs, 0) nd).2.1 (fuM 0 mh ml mli msc (mr, mrs, 0) nd).2.2) ∧ ∀ j, j ≠ 115 → j ≠ 130 → j ≠ 131 → j ≠ 134 → j ≠ 135 → u j = mem j) (some (.int (nI ((fuM 0 mh ml mli msc (mr, mrs, 0) nd).2.2))))) args s 0 0 (fun q => b ≤ q)) (F0 m 44 ls [.ref (b + 115)]) := by
    intro u9  H locs hh ls hl
    refine lv_iconst (v := (nI 0)) hx hb dX10_fuse_44 (by decide) ?_
    refine gp_X10_code (fs' := [.int (nI 0), .int (nI nd), .ref (b + 116), .ref (b + 117), .ref (b + 118), .ref (b + 119), .int (nI cz), .ref (b + 120), .int (nI wz), .int (nI iz), .int (nI vz), .ref (b + 121), .ref (b + 122), .ref (b + 123), .ref (b + 124), .ref (b + 125), .ref (b + 126), .ref (b + 127), .ref (b + 128), .ref (b + 129), .int (nI md), .ref (b + 130), .ref (b + 131), .int (nI wh), .ref (b + 132), .ref (b + 133), .int (nI sd), .int (nI sk), .int (nI ps), .int (nI fc), .ref (b + 134), .ref (b + 135)]) hx hb hE hown hh (by omega) fM rfl rfl (show 0 < 32 by decide) rfl dX10_fuse_45 (fun H locs mem1 f2 k3 hh => ?_)
    have hfr4 : ∀ j, j ≠ 115 → j ≠ 130 → j ≠ 131 → j ≠ 134 → j ≠ 135 → mem1 j = mem j := fun j c0 c1 c2 c3 c4 => (k3 j (by omega)).trans (hfr j c0 c1 c2 c3 c4)
    have f5 : mem1 125 = aB Γ 3 mh := (k3 _ (by omega)).trans g125
    have f6 : mem1 126 = aN Γ 3 ml := (k3 _ (by omega)).trans g126
    have f7 : mem1 127 = aN Γ 60 mli := (k3 _ (by omega)).trans g127
    have f8 : mem1 128 = aD Γ 60 msc := (k3 _ (by omega)).trans g128
    have f9 : mem1 130 = aN Γ 21 mr := (k3 _ (by omega)).trans g130
    have f10 : mem1 131 = aD Γ 21 mrs := (k3 _ (by omega)).trans g131
    have f11 : mem1 134 = aN Γ 17 mf := (k3 _ (by omega)).trans g134
    have f12 : mem1 135 = aD Γ 17 mfs := (k3 _ (by omega)).trans g135
    refine lv_aload_n hx hb dX10_fuse_48 rfl (lv_at hl 0 rfl) ?_
    refine gf_X10_code hx hb hE hown hh (by omega) f2 rfl dX10_fuse_49 ?_
    refine nn_if_le (tgt := 57) hx hb dX10_fuse_52 (by decide) (by omega) (fun h13 => ?_) (fun h13 => ?_)
    ·
      refine lv_aload_n hx hb dX10_fuse_57 rfl (lv_at hl 0 rfl) ?_
      refine lv_iconst (v := (nI 0)) hx hb dX10_fuse_58 (by decide) ?_
      refine gp_X10_made (fs' := [.int (nI 0), .int (nI nd), .ref (b + 116), .ref (b + 117), .ref (b + 118), .ref (b + 119), .int (nI cz), .ref (b + 120), .int (nI wz), .int (nI iz), .int (nI vz), .ref (b + 121), .ref (b + 122), .ref (b + 123), .ref (b + 124), .ref (b + 125), .ref (b + 126), .ref (b + 127), .ref (b + 128), .ref (b + 129), .int (nI 0), .ref (b + 130), .ref (b + 131), .int (nI wh), .ref (b + 132), .ref (b + 133), .int (nI sd), .int (nI sk), .int (nI ps), .int (nI fc), .ref (b + 134), .ref (b + 135)]) hx hb hE hown hh (by omega) f2 rfl rfl (show 20 < 32 by decide) rfl dX10_fuse_59 (fun H locs mem14 f15 k16 hh => ?_)
      have hfr17 : ∀ j, j ≠ 115 → j ≠ 130 → j ≠ 131 → j ≠ 134 → j ≠ 135 → mem14 j = mem j := fun j c0 c1 c2 c3 c4 => (k16 j (by omega)).trans (hfr4 j c0 c1 c2 c3 c4)
      have f18 : mem14 125 = aB Γ 3 mh := (k16 _ (by omega)).trans f5
      have f19 : mem14 126 = aN Γ 3 ml := (k16 _ (by omega)).trans f6
      have f20 : mem14 127 = aN Γ 60 mli := (k16 _ (by omega)).trans f7
      have f21 : mem14 128 = aD Γ 60 msc := (k16 _ (by omega)).trans f8
      have f22 : mem14 130 = aN Γ 21 mr := (k16 _ (by omega)).trans f9
      have f23 : mem14 131 = aD Γ 21 mrs := (k16 _ (by omega)).trans f10
      have f24 : mem14 134 = aN Γ 17 mf := (k16 _ (by omega)).trans f11
      have f25 : mem14 135 = aD Γ 17 mfs := (k16 _ (by omega)).trans f12
      refine lv_iconst (v := (nI 0)) hx hb dX10_fuse_62 (by decide) ?_
      refine lv_istore_n (lv' := [(2, .int (nI 0)), (0, .ref (b + 115)), (1, .int (nI 0))]) hx hb dX10_fuse_63 rfl hl (by decide) rfl (fun ls hl => ?_)
      have loop64 : ∀ (n9 : Nat) (d : Nat), (nd - d) < n9 → (d ≤ nd) → ∀ (H : Heap) (locs : List Loc) (mem2 : Nat → va_E), mem2 115 = .inr (9, [.int (nI 0), .int (nI nd), .ref (b + 116), .ref (b + 117), .ref (b + 118), .ref (b + 119), .int (nI cz), .ref (b + 120), .int (nI wz), .int (nI iz), .int (nI vz), .ref (b + 121), .ref (b + 122), .ref (b + 123), .ref (b + 124), .ref (b + 125), .ref (b + 126), .ref (b + 127), .ref (b + 128), .ref (b + 129), .int (nI ((fuM 0 mh ml mli msc (mr, mrs, 0) d).2.2)), .ref (b + 130), .ref (b + 131), .int (nI wh), .ref (b + 132), .ref (b + 133), .int (nI sd), .int (nI sk), .int (nI ps), .int (nI fc), .ref (b + 134), .ref (b + 135)]) → mem2 130 = aN Γ 21 ((fuM 0 mh ml mli msc (mr, mrs, 0) d).1) → mem2 131 = aD Γ 21 ((fuM 0 mh ml mli msc (mr, mrs, 0) d).2.1) → mem2 134 = aN Γ 17 mf → mem2 135 = aD Γ 17 mfs → (∀ j, j ≠ 115 → j ≠ 130 → j ≠ 131 → j ≠ 134 → j ≠ 135 → mem2 j = mem j) → GH Γ b M mem2 s H locs → ∀ (ls : Array Slot), lv_has ls 8 [(2, .int (nI d)), (0, .ref (b + 115)), (1, .int (nI 0))] → W p l e ({ frames := 1, cells := 0, slots := 0, locals := 27 } : Room) s m args below meth c H locs 0 0 (MQ below (QC Γ b M (fun u => u 115 = .inr (9, [.int (nI 0), .int (nI nd), .ref (b + 116), .ref (b + 117), .ref (b + 118), .ref (b + 119), .int (nI cz), .ref (b + 120), .int (nI wz), .int (nI iz), .int (nI vz), .ref (b + 121), .ref (b + 122), .ref (b + 123), .ref (b + 124), .ref (b + 125), .ref (b + 126), .ref (b + 127), .ref (b + 128), .ref (b + 129), .int (nI ((fuM 0 mh ml mli msc (mr, mrs, 0) nd).2.2)), .ref (b + 130), .ref (b + 131), .int (nI wh), .ref (b + 132), .ref (b + 133), .int (nI sd), .int (nI sk), .int (nI ps), .int (nI ((fuM 0 mh ml mli msc (mr, mrs, 0) nd).2.2)), .ref (b + 134), .ref (b + 135)]) ∧ u 130 = aN Γ 21 ((fuM 0 mh ml mli msc (mr, mrs, 0) nd).1) ∧ u 131 = aD Γ 21 ((fuM 0 mh ml mli msc (mr, mrs, 0) nd).2.1) ∧ u 134 = aN Γ 17 (cpN mf (fuM 0 mh ml mli msc (mr, mrs, 0) nd).1 (fuM 0 mh ml mli msc (mr, mrs, 0) nd).2.2) ∧ u 135 = aD Γ 17 (fiR mfs (fuM 0 mh ml mli msc (mr, mrs, 0) nd).2.1 (fuM 0 mh ml mli msc (mr, mrs, 0) nd).2.2) ∧ ∀ j, j ≠ 115 → j ≠ 130 → j ≠ 131 → j ≠ 134 → j ≠ 135 → u j = mem j) (some (.int (nI ((fuM 0 mh ml mli msc (mr, mrs, 0) nd).2.2))))) args s 0 0 (fun q => b ≤ q)) (F0 m 64 ls []) := by
        intro n9
        induction n9 with
        | zero => intro d hn; exact absurd hn (Nat.not_lt_zero _)
        | succ n9 ih =>
          intro d hn hd H locs mem26 f28 f29 f30 f31 f32 hfr27 hh ls hl
          have f33 : mem26 125 = aB Γ 3 mh := (hfr27 _ (by omega) (by omega) (by omega) (by omega) (by omega)).trans g125
          have f34 : mem26 126 = aN Γ 3 ml := (hfr27 _ (by omega) (by omega) (by omega) (by omega) (by omega)).trans g126
          have f35 : mem26 127 = aN Γ 60 mli := (hfr27 _ (by omega) (by omega) (by omega) (by omega) (by omega)).trans g127
          have f36 : mem26 128 = aD Γ 60 msc := (hfr27 _ (by omega) (by omega) (by omega) (by omega) (by omega)).trans g128
          have ho := fuM_ok (way := 0) (mh := mh) (ml := ml) (mli := mli) (msc := msc) (T := (mr, mrs, 0)) hmr rfl d (by omega)
          have ho2 := ho.2
          have ih37 := ih
          refine lv_iload_n hx hb dX10_fuse_64 rfl (lv_at hl 0 rfl) ?_
          refine lv_aload_n hx hb dX10_fuse_65 rfl (lv_at hl 1 rfl) ?_
          refine gf_X10_documents hx hb hE hown hh (by omega) f28 rfl dX10_fuse_66 ?_
          refine nn_icmp_ge (tgt := 157) hx hb dX10_fuse_69 (by decide) (by omega) (by omega) (fun h38 => ?_) (fun h38 => ?_)
          ·
            obtain rfl : nd = d := by omega
            refine lv_aload_n hx hb dX10_fuse_157 rfl (lv_at hl 1 rfl) ?_
            refine lv_aload_n hx hb dX10_fuse_158 rfl (lv_at hl 1 rfl) ?_
            refine gf_X10_made hx hb hE hown hh (by omega) f28 rfl dX10_fuse_159 ?_
            refine gp_X10_fusedCount (fs' := [.int (nI 0), .int (nI nd), .ref (b + 116), .ref (b + 117), .ref (b + 118), .ref (b + 119), .int (nI cz), .ref (b + 120), .int (nI wz), .int (nI iz), .int (nI vz), .ref (b + 121), .ref (b + 122), .ref (b + 123), .ref (b + 124), .ref (b + 125), .ref (b + 126), .ref (b + 127), .ref (b + 128), .ref (b + 129), .int (nI ((fuM 0 mh ml mli msc (mr, mrs, 0) nd).2.2)), .ref (b + 130), .ref (b + 131), .int (nI wh), .ref (b + 132), .ref (b + 133), .int (nI sd), .int (nI sk), .int (nI ps), .int (nI ((fuM 0 mh ml mli msc (mr, mrs, 0) nd).2.2)), .ref (b + 134), .ref (b + 135)]) hx hb hE hown hh (by omega) f28 rfl rfl (show 29 < 32 by decide) rfl dX10_fuse_162 (fun H locs mem39 f40 k41 hh => ?_)
            have hfr42 : ∀ j, j ≠ 115 → j ≠ 130 → j ≠ 131 → j ≠ 134 → j ≠ 135 → mem39 j = mem j := fun j c0 c1 c2 c3 c4 => (k41 j (by omega)).trans (hfr27 j c0 c1 c2 c3 c4)
            have f43 : mem39 130 = aN Γ 21 ((fuM 0 mh ml mli msc (mr, mrs, 0) nd).1) := (k41 _ (by omega)).trans f29
            have f44 : mem39 131 = aD Γ 21 ((fuM 0 mh ml mli msc (mr, mrs, 0) nd).2.1) := (k41 _ (by omega)).trans f30
            have f45 : mem39 134 = aN Γ 17 mf := (k41 _ (by omega)).trans f31
            have f46 : mem39 135 = aD Γ 17 mfs := (k41 _ (by omega)).trans f32
            have f47 : mem39 125 = aB Γ 3 mh := (k41 _ (by omega)).trans f33
            have f48 : mem39 126 = aN Γ 3 ml := (k41 _ (by omega)).trans f34
            have f49 : mem39 127 = aN Γ 60 mli := (k41 _ (by omega)).trans f35
            have f50 : mem39 128 = aD Γ 60 msc := (k41 _ (by omega)).trans f36
            refine lv_iconst (v := (nI 0)) hx hb dX10_fuse_165 (by decide) ?_
            refine lv_istore_n (lv' := [(2, .int (nI 0)), (0, .ref (b + 115)), (1, .int (nI 0))]) hx hb dX10_fuse_166 rfl hl (by decide) rfl (fun ls hl => ?_)
            have loop167 : ∀ (n9 : Nat) (k : Nat), ((fuM 0 mh ml mli msc (mr, mrs, 0) nd).2.2 - k) < n9 → (k ≤ (fuM 0 mh ml mli msc (mr, mrs, 0) nd).2.2) → ∀ (H : Heap) (locs : List Loc) (mem2 : Nat → va_E), mem2 115 = .inr (9, [.int (nI 0), .int (nI nd), .ref (b + 116), .ref (b + 117), .ref (b + 118), .ref (b + 119), .int (nI cz), .ref (b + 120), .int (nI wz), .int (nI iz), .int (nI vz), .ref (b + 121), .ref (b + 122), .ref (b + 123), .ref (b + 124), .ref (b + 125), .ref (b + 126), .ref (b + 127), .ref (b + 128), .ref (b + 129), .int (nI ((fuM 0 mh ml mli msc (mr, mrs, 0) nd).2.2)), .ref (b + 130), .ref (b + 131), .int (nI wh), .ref (b + 132), .ref (b + 133), .int (nI sd), .int (nI sk), .int (nI ps), .int (nI ((fuM 0 mh ml mli msc (mr, mrs, 0) nd).2.2)), .ref (b + 134), .ref (b + 135)]) → mem2 130 = aN Γ 21 ((fuM 0 mh ml mli msc (mr, mrs, 0) nd).1) → mem2 131 = aD Γ 21 ((fuM 0 mh ml mli msc (mr, mrs, 0) nd).2.1) → mem2 134 = aN Γ 17 (cpN mf (fuM 0 mh ml mli msc (mr, mrs, 0) nd).1 k) → mem2 135 = aD Γ 17 (fiR mfs (fuM 0 mh ml mli msc (mr, mrs, 0) nd).2.1 k) → (∀ j, j ≠ 115 → j ≠ 130 → j ≠ 131 → j ≠ 134 → j ≠ 135 → mem2 j = mem j) → GH Γ b M mem2 s H locs → ∀ (ls : Array Slot), lv_has ls 8 [(2, .int (nI k)), (0, .ref (b + 115)), (1, .int (nI 0))] → W p l e ({ frames := 1, cells := 0, slots := 0, locals := 27 } : Room) s m args below meth c H locs 0 0 (MQ below (QC Γ b M (fun u => u 115 = .inr (9, [.int (nI 0), .int (nI nd), .ref (b + 116), .ref (b + 117), .ref (b + 118), .ref (b + 119), .int (nI cz), .ref (b + 120), .int (nI wz), .int (nI iz), .int (nI vz), .ref (b + 121), .ref (b + 122), .ref (b + 123), .ref (b + 124), .ref (b + 125), .ref (b + 126), .ref (b + 127), .ref (b + 128), .ref (b + 129), .int (nI ((fuM 0 mh ml mli msc (mr, mrs, 0) nd).2.2)), .ref (b + 130), .ref (b + 131), .int (nI wh), .ref (b + 132), .ref (b + 133), .int (nI sd), .int (nI sk), .int (nI ps), .int (nI ((fuM 0 mh ml mli msc (mr, mrs, 0) nd).2.2)), .ref (b + 134), .ref (b + 135)]) ∧ u 130 = aN Γ 21 ((fuM 0 mh ml mli msc (mr, mrs, 0) nd).1) ∧ u 131 = aD Γ 21 ((fuM 0 mh ml mli msc (mr, mrs, 0) nd).2.1) ∧ u 134 = aN Γ 17 (cpN mf (fuM 0 mh ml mli msc (mr, mrs, 0) nd).1 (fuM 0 mh ml mli msc (mr, mrs, 0) nd).2.2) ∧ u 135 = aD Γ 17 (fiR mfs (fuM 0 mh ml mli msc (mr, mrs, 0) nd).2.1 (fuM 0 mh ml mli msc (mr, mrs, 0) nd).2.2) ∧ ∀ j, j ≠ 115 → j ≠ 130 → j ≠ 131 → j ≠ 134 → j ≠ 135 → u j = mem j) (some (.int (nI ((fuM 0 mh ml mli msc (mr, mrs, 0) nd).2.2))))) args s 0 0 (fun q => b ≤ q)) (F0 m 167 ls []) := by
              intro n9
              induction n9 with
              | zero => intro k hn; exact absurd hn (Nat.not_lt_zero _)
              | succ n9 ih =>
                intro k hn hk H locs mem51 f53 f54 f55 f56 f57 hfr52 hh ls hl
                have f58 : mem51 125 = aB Γ 3 mh := (hfr52 _ (by omega) (by omega) (by omega) (by omega) (by omega)).trans g125
                have f59 : mem51 126 = aN Γ 3 ml := (hfr52 _ (by omega) (by omega) (by omega) (by omega) (by omega)).trans g126
                have f60 : mem51 127 = aN Γ 60 mli := (hfr52 _ (by omega) (by omega) (by omega) (by omega) (by omega)).trans g127
                have f61 : mem51 128 = aD Γ 60 msc := (hfr52 _ (by omega) (by omega) (by omega) (by omega) (by omega)).trans g128
                have ih62 := ih
                refine lv_iload_n hx hb dX10_fuse_167 rfl (lv_at hl 0 rfl) ?_
                refine lv_aload_n hx hb dX10_fuse_168 rfl (lv_at hl 1 rfl) ?_
                refine gf_X10_made hx hb hE hown hh (by omega) f53 rfl dX10_fuse_169 ?_
                refine nn_icmp_ge (tgt := 205) hx hb dX10_fuse_172 (by decide) (by omega) (by omega) (fun h63 => ?_) (fun h63 => ?_)
                ·
                  have hke : k = (fuM 0 mh ml mli msc (mr, mrs, 0) nd).2.2 := by omega
                  refine lv_aload_n hx hb dX10_fuse_205 rfl (lv_at hl 1 rfl) ?_
                  refine gf_X10_made hx hb hE hown hh (by omega) f53 rfl dX10_fuse_206 ?_
                  exact mm_iret hx hb hr hlocks hE hh (rfl) (by rw [← hke]; exact ⟨by rw [hke]; exact f53, f54, f55, f56, f57, hfr52⟩) dX10_fuse_209
                ·
                  refine lv_aload_n hx hb dX10_fuse_175 rfl (lv_at hl 1 rfl) ?_
                  refine gf_X10_fusedRow hx hb hE hown hh (by omega) f53 rfl dX10_fuse_176 ?_
                  refine lv_iload_n hx hb dX10_fuse_179 rfl (lv_at hl 0 rfl) ?_
                  refine lv_aload_n hx hb dX10_fuse_180 rfl (lv_at hl 1 rfl) ?_
                  refine gf_X10_row hx hb hE hown hh (by omega) f53 rfl dX10_fuse_181 ?_
                  refine lv_iload_n hx hb dX10_fuse_184 rfl (lv_at hl 0 rfl) ?_
                  refine mm_iald hx hb hE hh (by omega) f54 (by omega) (by decide) dX10_fuse_185 ?_
                  refine mm_iast hx hb hE hh (by omega) f56 (by omega) (by decide) dX10_fuse_186 (fun H locs mem64 f65 k66 hh => ?_)
                  rw [va_up_nI] at f65
                  have hfr67 : ∀ j, j ≠ 115 → j ≠ 130 → j ≠ 131 → j ≠ 134 → j ≠ 135 → mem64 j = mem j := fun j c0 c1 c2 c3 c4 => (k66 j (by omega)).trans (hfr52 j c0 c1 c2 c3 c4)
                  have f68 : mem64 115 = .inr (9, [.int (nI 0), .int (nI nd), .ref (b + 116), .ref (b + 117), .ref (b + 118), .ref (b + 119), .int (nI cz), .ref (b + 120), .int (nI wz), .int (nI iz), .int (nI vz), .ref (b + 121), .ref (b + 122), .ref (b + 123), .ref (b + 124), .ref (b + 125), .ref (b + 126), .ref (b + 127), .ref (b + 128), .ref (b + 129), .int (nI ((fuM 0 mh ml mli msc (mr, mrs, 0) nd).2.2)), .ref (b + 130), .ref (b + 131), .int (nI wh), .ref (b + 132), .ref (b + 133), .int (nI sd), .int (nI sk), .int (nI ps), .int (nI ((fuM 0 mh ml mli msc (mr, mrs, 0) nd).2.2)), .ref (b + 134), .ref (b + 135)]) := (k66 _ (by omega)).trans f53
                  have f69 : mem64 130 = aN Γ 21 ((fuM 0 mh ml mli msc (mr, mrs, 0) nd).1) := (k66 _ (by omega)).trans f54
                  have f70 : mem64 131 = aD Γ 21 ((fuM 0 mh ml mli msc (mr, mrs, 0) nd).2.1) := (k66 _ (by omega)).trans f55
                  have f71 : mem64 135 = aD Γ 17 (fiR mfs (fuM 0 mh ml mli msc (mr, mrs, 0) nd).2.1 k) := (k66 _ (by omega)).trans f57
                  have f72 : mem64 125 = aB Γ 3 mh := (k66 _ (by omega)).trans f58
                  have f73 : mem64 126 = aN Γ 3 ml := (k66 _ (by omega)).trans f59
                  have f74 : mem64 127 = aN Γ 60 mli := (k66 _ (by omega)).trans f60
                  have f75 : mem64 128 = aD Γ 60 msc := (k66 _ (by omega)).trans f61
                  refine lv_aload_n hx hb dX10_fuse_187 rfl (lv_at hl 1 rfl) ?_
                  refine gf_X10_fusedScore hx hb hE hown hh (by omega) f68 rfl dX10_fuse_188 ?_
                  refine lv_iload_n hx hb dX10_fuse_191 rfl (lv_at hl 0 rfl) ?_
                  refine lv_aload_n hx hb dX10_fuse_192 rfl (lv_at hl 1 rfl) ?_
                  refine gf_X10_rowScore hx hb hE hown hh (by omega) f68 rfl dX10_fuse_193 ?_
                  refine lv_iload_n hx hb dX10_fuse_196 rfl (lv_at hl 0 rfl) ?_
                  refine mm_dald hx hb hE hh (by omega) f70 (by omega) (by decide) dX10_fuse_197 ?_
                  refine mm_dast hx hb hE hh (by omega) f71 (by omega) (by decide) dX10_fuse_198 (fun H locs mem76 f77 k78 hh => ?_)
                  have hfr79 : ∀ j, j ≠ 115 → j ≠ 130 → j ≠ 131 → j ≠ 134 → j ≠ 135 → mem76 j = mem j := fun j c0 c1 c2 c3 c4 => (k78 j (by omega)).trans (hfr67 j c0 c1 c2 c3 c4)
                  have f80 : mem76 115 = .inr (9, [.int (nI 0), .int (nI nd), .ref (b + 116), .ref (b + 117), .ref (b + 118), .ref (b + 119), .int (nI cz), .ref (b + 120), .int (nI wz), .int (nI iz), .int (nI vz), .ref (b + 121), .ref (b + 122), .ref (b + 123), .ref (b + 124), .ref (b + 125), .ref (b + 126), .ref (b + 127), .ref (b + 128), .ref (b + 129), .int (nI ((fuM 0 mh ml mli msc (mr, mrs, 0) nd).2.2)), .ref (b + 130), .ref (b + 131), .int (nI wh), .ref (b + 132), .ref (b + 133), .int (nI sd), .int (nI sk), .int (nI ps), .int (nI ((fuM 0 mh ml mli msc (mr, mrs, 0) nd).2.2)), .ref (b + 134), .ref (b + 135)]) := (k78 _ (by omega)).trans f68
                  have f81 : mem76 130 = aN Γ 21 ((fuM 0 mh ml mli msc (mr, mrs, 0) nd).1) := (k78 _ (by omega)).trans f69
                  have f82 : mem76 131 = aD Γ 21 ((fuM 0 mh ml mli msc (mr, mrs, 0) nd).2.1) := (k78 _ (by omega)).trans f70
                  have f83 : mem76 134 = aN Γ 17 (va_up (cpN mf (fuM 0 mh ml mli msc (mr, mrs, 0) nd).1 k) k (((fuM 0 mh ml mli msc (mr, mrs, 0) nd).1) k)) := (k78 _ (by omega)).trans f65
                  have f84 : mem76 125 = aB Γ 3 mh := (k78 _ (by omega)).trans f72
                  have f85 : mem76 126 = aN Γ 3 ml := (k78 _ (by omega)).trans f73
                  have f86 : mem76 127 = aN Γ 60 mli := (k78 _ (by omega)).trans f74
                  have f87 : mem76 128 = aD Γ 60 msc := (k78 _ (by omega)).trans f75
                  refine nn_iinc (x := k) (d := 1) (lv' := [(2, .int (nI (k + 1))), (0, .ref (b + 115)), (1, .int (nI 0))]) hx hb dX10_fuse_199 hl (k := 0) rfl (by decide) (by decide) rfl (fun ls hl => ?_)
                  refine lv_goto (tgt := 167) hx hb dX10_fuse_202 (by decide) ?_
                  exact ih62 (k + 1) (by omega) (by omega) _ _ mem76 (f80) (f81) (f82) (by rw [← cpN_s]; exact f83) (by rw [← fiR_s]; exact f77) hfr79 hh ls (lv_sub hl [0, 1, 2] rfl)
            exact loop167 (((fuM 0 mh ml mli msc (mr, mrs, 0) nd).2.2 - 0) + 1) 0 (by omega) (by omega) _ _ mem39 (f40) (f43) (f44) (by rw [cpN_0]; exact f45) (by rw [fiR_0]; exact f46) hfr42 hh ls (lv_sub hl [0, 1, 2] rfl)
          ·
            refine lv_dconst0 hx hb dX10_fuse_72 ?_
            refine lv_dstore_n (lv' := [(3, .double FP.dconst0), (2, .int (nI d)), (0, .ref (b + 115)), (1, .int (nI 0))]) hx hb dX10_fuse_73 rfl hl (by decide) rfl (fun ls hl => ?_)
            refine lv_iconst (v := (nI 0)) hx hb dX10_fuse_74 (by decide) ?_
            refine lv_istore (lv' := [(5, .int (nI 0)), (3, .double FP.dconst0), (2, .int (nI d)), (0, .ref (b + 115)), (1, .int (nI 0))]) hx hb dX10_fuse_75 hl (by decide) rfl (fun ls hl => ?_)
            refine lv_iconst (v := (nI 0)) hx hb dX10_fuse_77 (by decide) ?_
            refine lv_istore (lv' := [(6, .int (nI 0)), (5, .int (nI 0)), (3, .double FP.dconst0), (2, .int (nI d)), (0, .ref (b + 115)), (1, .int (nI 0))]) hx hb dX10_fuse_78 hl (by decide) rfl (fun ls hl => ?_)
            have loop80 : ∀ (n9 : Nat) (v : Nat), (3 - v) < n9 → (v ≤ 3) → ∀ (H : Heap) (locs : List Loc), GH Γ b M mem26 s H locs → ∀ (ls : Array Slot), lv_has ls 8 [(6, .int (nI v)), (5, .int (nI ((fvS 0 mh ml mli msc d v).2))), (3, .double ((fvS 0 mh ml mli msc d v).1)), (2, .int (nI d)), (0, .ref (b + 115)), (1, .int (nI 0))] → W p l e ({ frames := 1, cells := 0, slots := 0, locals := 27 } : Room) s m args below meth c H locs 0 0 (MQ below (QC Γ b M (fun u => u 115 = .inr (9, [.int (nI 0), .int (nI nd), .ref (b + 116), .ref (b + 117), .ref (b + 118), .ref (b + 119), .int (nI cz), .ref (b + 120), .int (nI wz), .int (nI iz), .int (nI vz), .ref (b + 121), .ref (b + 122), .ref (b + 123), .ref (b + 124), .ref (b + 125), .ref (b + 126), .ref (b + 127), .ref (b + 128), .ref (b + 129), .int (nI ((fuM 0 mh ml mli msc (mr, mrs, 0) nd).2.2)), .ref (b + 130), .ref (b + 131), .int (nI wh), .ref (b + 132), .ref (b + 133), .int (nI sd), .int (nI sk), .int (nI ps), .int (nI ((fuM 0 mh ml mli msc (mr, mrs, 0) nd).2.2)), .ref (b + 134), .ref (b + 135)]) ∧ u 130 = aN Γ 21 ((fuM 0 mh ml mli msc (mr, mrs, 0) nd).1) ∧ u 131 = aD Γ 21 ((fuM 0 mh ml mli msc (mr, mrs, 0) nd).2.1) ∧ u 134 = aN Γ 17 (cpN mf (fuM 0 mh ml mli msc (mr, mrs, 0) nd).1 (fuM 0 mh ml mli msc (mr, mrs, 0) nd).2.2) ∧ u 135 = aD Γ 17 (fiR mfs (fuM 0 mh ml mli msc (mr, mrs, 0) nd).2.1 (fuM 0 mh ml mli msc (mr, mrs, 0) nd).2.2) ∧ ∀ j, j ≠ 115 → j ≠ 130 → j ≠ 131 → j ≠ 134 → j ≠ 135 → u j = mem j) (some (.int (nI ((fuM 0 mh ml mli msc (mr, mrs, 0) nd).2.2))))) args s 0 0 (fun q => b ≤ q)) (F0 m 80 ls []) := by
              intro n9
              induction n9 with
              | zero => intro v hn; exact absurd hn (Nat.not_lt_zero _)
              | succ n9 ih =>
                intro v hn hv H locs hh ls hl
                have hvo := fvS_ok (way := 0) (d := d) hlok v hv
                have hvo2 := hvo.2
                have ih88 := ih
                refine lv_iload hx hb dX10_fuse_80 (lv_at hl 0 rfl) ?_
                refine lv_iconst (v := (nI 3)) hx hb dX10_fuse_82 (by decide) ?_
                refine nn_icmp_ge (tgt := 125) hx hb dX10_fuse_83 (by decide) (by omega) (by omega) (fun h89 => ?_) (fun h89 => ?_)
                ·
                  obtain rfl : v = 3 := by omega
                  refine lv_iload hx hb dX10_fuse_125 (lv_at hl 1 rfl) ?_
                  refine nn_if_le (tgt := 151) hx hb dX10_fuse_127 (by decide) (by omega) (fun h90 => ?_) (fun h90 => ?_)
                  ·
                    have hn2 : (fuM 0 mh ml mli msc (mr, mrs, 0) (d + 1)) = (fuM 0 mh ml mli msc (mr, mrs, 0) d) := if_neg (by omega)
                    refine nn_iinc (x := d) (d := 1) (lv' := [(2, .int (nI (d + 1))), (6, .int (nI 3)), (5, .int (nI ((fvS 0 mh ml mli msc d 3).2))), (3, .double ((fvS 0 mh ml mli msc d 3).1)), (0, .ref (b + 115)), (1, .int (nI 0))]) hx hb dX10_fuse_151 hl (k := 3) rfl (by decide) (by decide) rfl (fun ls hl => ?_)
                    refine lv_goto (tgt := 64) hx hb dX10_fuse_154 (by decide) ?_
                    exact ih37 (d + 1) (by omega) (by omega) _ _ mem26 (by rw [hn2]; exact f28) (by rw [hn2]; exact f29) (by rw [hn2]; exact f30) (f31) (f32) hfr27 hh ls (lv_sub hl [0, 4, 5] rfl)
                  ·
                    have hn2 : (fuM 0 mh ml mli msc (mr, mrs, 0) (d + 1)) = en1 20 d (vwM 0 (fvS 0 mh ml mli msc d 3)) (fuM 0 mh ml mli msc (mr, mrs, 0) d) := if_pos h90
                    refine lv_aload_n hx hb dX10_fuse_130 rfl (lv_at hl 4 rfl) ?_
                    refine lv_iload_n hx hb dX10_fuse_131 rfl (lv_at hl 3 rfl) ?_
                    refine lv_iload_n hx hb dX10_fuse_132 rfl (lv_at hl 5 rfl) ?_
                    refine lv_iconst (v := (nI 2)) hx hb dX10_fuse_133 (by decide) ?_
                    refine nn_icmp_ne (tgt := 145) hx hb dX10_fuse_134 (by decide) (by omega) (by omega) (fun h91 => ?_) (fun h91 => ?_)
                    ·
                      have hvw : vwM 0 (fvS 0 mh ml mli msc d 3) = (fvS 0 mh ml mli msc d 3).1 := if_neg h91
                      refine lv_dload_n hx hb dX10_fuse_145 rfl (lv_at hl 2 rfl) ?_
                      rw [← hvw]
                      refine lv_bipush (v := (nI 20)) hx hb dX10_fuse_146 (by decide) ?_
                      refine mm_V0 (As := [.int (nI d), .double (vwM 0 (fvS 0 mh ml mli msc d 3)), .int (nI 20)]) (rest := []) hx hb hml hown hE hl.1 hh (kc_X10_186 hE.2.1 ⟨Nat.le_of_ble_eq_true rfl, Nat.le_of_ble_eq_true rfl⟩) (c_X10_enter l Γ b M mem26 (cd := 0) (nd := nd) (cz := cz) (wz := wz) (iz := iz) (vz := vz) (md := (fuM 0 mh ml mli msc (mr, mrs, 0) d).2.2) (wh := wh) (sd := sd) (sk := sk) (ps := ps) (fc := fc) (mr := (fuM 0 mh ml mli msc (mr, mrs, 0) d).1) (mrs := (fuM 0 mh ml mli msc (mr, mrs, 0) d).2.1) (d := d) (mo := 20) (x := vwM 0 (fvS 0 mh ml mli msc d 3)) (by omega) f28 f29 f30 (ho.1) (by omega) (by omega)) rfl (by omega) f28 rfl rfl (Nat.le_of_ble_eq_true rfl) dX10_fuse_148 rfl rfl (fun H locs mem92 hP93 hh => ?_)
                      obtain ⟨f94, f95, f96, k97⟩ := hP93
                      have hfr98 : ∀ j, j ≠ 115 → j ≠ 130 → j ≠ 131 → j ≠ 134 → j ≠ 135 → mem92 j = mem j := fun j c0 c1 c2 c3 c4 => (k97 j (by omega) (by omega) (by omega)).trans (hfr27 j c0 c1 c2 c3 c4)
                      have f99 : mem92 134 = aN Γ 17 mf := (k97 _ (by omega) (by omega) (by omega)).trans f31
                      have f100 : mem92 135 = aD Γ 17 mfs := (k97 _ (by omega) (by omega) (by omega)).trans f32
                      have f101 : mem92 125 = aB Γ 3 mh := (k97 _ (by omega) (by omega) (by omega)).trans f33
                      have f102 : mem92 126 = aN Γ 3 ml := (k97 _ (by omega) (by omega) (by omega)).trans f34
                      have f103 : mem92 127 = aN Γ 60 mli := (k97 _ (by omega) (by omega) (by omega)).trans f35
                      have f104 : mem92 128 = aD Γ 60 msc := (k97 _ (by omega) (by omega) (by omega)).trans f36
                      refine nn_iinc (x := d) (d := 1) (lv' := [(2, .int (nI (d + 1))), (6, .int (nI 3)), (5, .int (nI ((fvS 0 mh ml mli msc d 3).2))), (3, .double ((fvS 0 mh ml mli msc d 3).1)), (0, .ref (b + 115)), (1, .int (nI 0))]) hx hb dX10_fuse_151 hl (k := 3) rfl (by decide) (by decide) rfl (fun ls hl => ?_)
                      refine lv_goto (tgt := 64) hx hb dX10_fuse_154 (by decide) ?_
                      exact ih37 (d + 1) (by omega) (by omega) _ _ mem92 (by rw [hn2]; exact f94) (by rw [hn2]; exact f95) (by rw [hn2]; exact f96) (f99) (f100) hfr98 hh ls (lv_sub hl [0, 4, 5] rfl)
                    ·
                      have hvw : vwM 0 (fvS 0 mh ml mli msc d 3) = FP.dmul (fvS 0 mh ml mli msc d 3).1 (FP.i2d (nI (fvS 0 mh ml mli msc d 3).2)) := if_pos h91
                      refine lv_dload_n hx hb dX10_fuse_137 rfl (lv_at hl 2 rfl) ?_
                      refine lv_iload hx hb dX10_fuse_138 (lv_at hl 1 rfl) ?_
                      refine lv_i2d hx hb dX10_fuse_140 ?_
                      refine lv_dmul hx hb dX10_fuse_141 ((hvo.1.mulI (by omega) (by omega)).2) ?_
                      refine lv_goto (tgt := 146) hx hb dX10_fuse_142 (by decide) ?_
                      rw [← hvw]
                      refine lv_bipush (v := (nI 20)) hx hb dX10_fuse_146 (by decide) ?_
                      refine mm_V0 (As := [.int (nI d), .double (vwM 0 (fvS 0 mh ml mli msc d 3)), .int (nI 20)]) (rest := []) hx hb hml hown hE hl.1 hh (kc_X10_186 hE.2.1 ⟨Nat.le_of_ble_eq_true rfl, Nat.le_of_ble_eq_true rfl⟩) (c_X10_enter l Γ b M mem26 (cd := 0) (nd := nd) (cz := cz) (wz := wz) (iz := iz) (vz := vz) (md := (fuM 0 mh ml mli msc (mr, mrs, 0) d).2.2) (wh := wh) (sd := sd) (sk := sk) (ps := ps) (fc := fc) (mr := (fuM 0 mh ml mli msc (mr, mrs, 0) d).1) (mrs := (fuM 0 mh ml mli msc (mr, mrs, 0) d).2.1) (d := d) (mo := 20) (x := vwM 0 (fvS 0 mh ml mli msc d 3)) (by omega) f28 f29 f30 (ho.1) (by omega) (by omega)) rfl (by omega) f28 rfl rfl (Nat.le_of_ble_eq_true rfl) dX10_fuse_148 rfl rfl (fun H locs mem105 hP106 hh => ?_)
                      obtain ⟨f107, f108, f109, k110⟩ := hP106
                      have hfr111 : ∀ j, j ≠ 115 → j ≠ 130 → j ≠ 131 → j ≠ 134 → j ≠ 135 → mem105 j = mem j := fun j c0 c1 c2 c3 c4 => (k110 j (by omega) (by omega) (by omega)).trans (hfr27 j c0 c1 c2 c3 c4)
                      have f112 : mem105 134 = aN Γ 17 mf := (k110 _ (by omega) (by omega) (by omega)).trans f31
                      have f113 : mem105 135 = aD Γ 17 mfs := (k110 _ (by omega) (by omega) (by omega)).trans f32
                      have f114 : mem105 125 = aB Γ 3 mh := (k110 _ (by omega) (by omega) (by omega)).trans f33
                      have f115 : mem105 126 = aN Γ 3 ml := (k110 _ (by omega) (by omega) (by omega)).trans f34
                      have f116 : mem105 127 = aN Γ 60 mli := (k110 _ (by omega) (by omega) (by omega)).trans f35
                      have f117 : mem105 128 = aD Γ 60 msc := (k110 _ (by omega) (by omega) (by omega)).trans f36
                      refine nn_iinc (x := d) (d := 1) (lv' := [(2, .int (nI (d + 1))), (6, .int (nI 3)), (5, .int (nI ((fvS 0 mh ml mli msc d 3).2))), (3, .double ((fvS 0 mh ml mli msc d 3).1)), (0, .ref (b + 115)), (1, .int (nI 0))]) hx hb dX10_fuse_151 hl (k := 3) rfl (by decide) (by decide) rfl (fun ls hl => ?_)
                      refine lv_goto (tgt := 64) hx hb dX10_fuse_154 (by decide) ?_
                      exact ih37 (d + 1) (by omega) (by omega) _ _ mem105 (by rw [hn2]; exact f107) (by rw [hn2]; exact f108) (by rw [hn2]; exact f109) (f112) (f113) hfr111 hh ls (lv_sub hl [0, 4, 5] rfl)
                ·
                  have hm20 := mlE_le hlok (show v < 3 by omega)
                  refine lv_aload_n hx hb dX10_fuse_86 rfl (lv_at hl 4 rfl) ?_
                  refine lv_iload hx hb dX10_fuse_87 (lv_at hl 0 rfl) ?_
                  refine lv_iload_n hx hb dX10_fuse_89 rfl (lv_at hl 3 rfl) ?_
                  refine mm_V0r (As := [.int (nI v), .int (nI d)]) (rest := []) hx hb hml hown hE hl.1 hh (kc_X10_236 hE.2.1 ⟨Nat.le_of_ble_eq_true rfl, Nat.le_of_ble_eq_true rfl⟩) (m_rankOfG l Γ b M mem26 (cd := 0) (nd := nd) (cz := cz) (wz := wz) (iz := iz) (vz := vz) (md := (fuM 0 mh ml mli msc (mr, mrs, 0) d).2.2) (wh := wh) (sd := sd) (sk := sk) (ps := ps) (fc := fc) (mh := mh) (ml := ml) (mli := mli) (v := v) (d := d) (by omega) f28 f33 f34 f35 (by omega) (hlok) (by omega) (hmlb v)) rfl (by omega) f28 rfl rfl (Nat.le_of_ble_eq_true rfl) dX10_fuse_90 rfl rfl (fun H locs hh => ?_)
                  refine lv_istore (lv' := [(7, .int (rkF (lfN mli v) d (mlE mh ml v))), (6, .int (nI v)), (5, .int (nI ((fvS 0 mh ml mli msc d v).2))), (3, .double ((fvS 0 mh ml mli msc d v).1)), (2, .int (nI d)), (0, .ref (b + 115)), (1, .int (nI 0))]) hx hb dX10_fuse_93 hl (by decide) rfl (fun ls hl => ?_)
                  refine lv_iload hx hb dX10_fuse_95 (lv_at hl 0 rfl) ?_
                  refine lv_iconst (v := (-1)) hx hb dX10_fuse_97 (by decide) ?_
                  refine lv_icmp_ne (tgt := 104) hx hb dX10_fuse_98 (by decide) (fun h118 => ?_) (fun h118 => ?_)
                  ·
                    have g7 := rk_y _ hm20 h118
                    have g8 := mlE_t (mh := mh) (ml := ml) (v := v) (by omega)
                    have g9 := hlok v (by omega) g8.1
                    have g10 : rkN (lfN mli v) d (mlE mh ml v) < ml v := by have := g7.2.1; omega
                    rw [g7.1] at hl
                    have hn1 : (fvS 0 mh ml mli msc d (v + 1)) = (FP.dadd (fvS 0 mh ml mli msc d v).1 (shF 0 (lfD msc v) (ml v) (rkN (lfN mli v) d (mlE mh ml v))), (fvS 0 mh ml mli msc d v).2 + 1) := if_neg h118
                    refine lv_dload_n hx hb dX10_fuse_104 rfl (lv_at hl 3 rfl) ?_
                    refine lv_aload_n hx hb dX10_fuse_105 rfl (lv_at hl 5 rfl) ?_
                    refine lv_iload_n hx hb dX10_fuse_106 rfl (lv_at hl 6 rfl) ?_
                    refine lv_iload hx hb dX10_fuse_107 (lv_at hl 1 rfl) ?_
                    refine lv_iload hx hb dX10_fuse_109 (lv_at hl 0 rfl) ?_
                    refine mm_V0r (As := [.int (nI 0), .int (nI v), .int (nI (rkN (lfN mli v) d (mlE mh ml v)))]) (rest := [.double ((fvS 0 mh ml mli msc d v).1)]) hx hb hml hown hE hl.1 hh (kc_X10_239 hE.2.1 ⟨Nat.le_of_ble_eq_true rfl, Nat.le_of_ble_eq_true rfl⟩) (m_share0 l Γ b M mem26 (cd := 0) (nd := nd) (cz := cz) (wz := wz) (iz := iz) (vz := vz) (md := (fuM 0 mh ml mli msc (mr, mrs, 0) d).2.2) (wh := wh) (sd := sd) (sk := sk) (ps := ps) (fc := fc) (ml := ml) (msc := msc) (v := v) (a := rkN (lfN mli v) d (mlE mh ml v)) (by omega) f28 f34 f36 (by omega) (by omega) (by omega) (g9.1)) rfl (by omega) f28 rfl rfl (Nat.le_of_ble_eq_true rfl) dX10_fuse_111 rfl rfl (fun H locs hh => ?_)
                    refine lv_dadd hx hb dX10_fuse_114 ((hvo.1.add (shF_n g9.1 g10 g9.2.1)).2) ?_
                    refine lv_dstore_n (lv' := [(3, .double (FP.dadd ((fvS 0 mh ml mli msc d v).1) (shF 0 (lfD msc v) (ml v) (rkN (lfN mli v) d (mlE mh ml v))))), (7, .int (nI (rkN (lfN mli v) d (mlE mh ml v)))), (6, .int (nI v)), (5, .int (nI ((fvS 0 mh ml mli msc d v).2))), (2, .int (nI d)), (0, .ref (b + 115)), (1, .int (nI 0))]) hx hb dX10_fuse_115 rfl hl (by decide) rfl (fun ls hl => ?_)
                    refine nn_iinc (x := ((fvS 0 mh ml mli msc d v).2)) (d := 1) (lv' := [(5, .int (nI (((fvS 0 mh ml mli msc d v).2) + 1))), (3, .double (FP.dadd ((fvS 0 mh ml mli msc d v).1) (shF 0 (lfD msc v) (ml v) (rkN (lfN mli v) d (mlE mh ml v))))), (7, .int (nI (rkN (lfN mli v) d (mlE mh ml v)))), (6, .int (nI v)), (2, .int (nI d)), (0, .ref (b + 115)), (1, .int (nI 0))]) hx hb dX10_fuse_116 hl (k := 3) rfl (by decide) (by decide) rfl (fun ls hl => ?_)
                    refine nn_iinc (x := v) (d := 1) (lv' := [(6, .int (nI (v + 1))), (5, .int (nI (((fvS 0 mh ml mli msc d v).2) + 1))), (3, .double (FP.dadd ((fvS 0 mh ml mli msc d v).1) (shF 0 (lfD msc v) (ml v) (rkN (lfN mli v) d (mlE mh ml v))))), (7, .int (nI (rkN (lfN mli v) d (mlE mh ml v)))), (2, .int (nI d)), (0, .ref (b + 115)), (1, .int (nI 0))]) hx hb dX10_fuse_119 hl (k := 3) rfl (by decide) (by decide) rfl (fun ls hl => ?_)
                    refine lv_goto (tgt := 80) hx hb dX10_fuse_122 (by decide) ?_
                    exact ih88 (v + 1) (by omega) (by omega) _ _ hh ls (lv_sub hl [0, 1, 2, 4, 5, 6] (by rw [hn1]; rfl))
                  ·
                    have hn1 : (fvS 0 mh ml mli msc d (v + 1)) = (fvS 0 mh ml mli msc d v) := if_pos h118
                    refine lv_goto (tgt := 119) hx hb dX10_fuse_101 (by decide) ?_
                    refine nn_iinc (x := v) (d := 1) (lv' := [(6, .int (nI (v + 1))), (7, .int (rkF (lfN mli v) d (mlE mh ml v))), (5, .int (nI ((fvS 0 mh ml mli msc d v).2))), (3, .double ((fvS 0 mh ml mli msc d v).1)), (2, .int (nI d)), (0, .ref (b + 115)), (1, .int (nI 0))]) hx hb dX10_fuse_119 hl (k := 1) rfl (by decide) (by decide) rfl (fun ls hl => ?_)
                    refine lv_goto (tgt := 80) hx hb dX10_fuse_122 (by decide) ?_
                    exact ih88 (v + 1) (by omega) (by omega) _ _ hh ls (lv_sub hl [0, 2, 3, 4, 5, 6] (by rw [hn1]; rfl))
            exact loop80 ((3 - 0) + 1) 0 (by omega) (by omega) _ _ hh ls (lv_sub hl [0, 1, 2, 3, 4, 5] rfl)
      exact loop64 ((nd - 0) + 1) 0 (by omega) (by omega) _ _ mem14 (f15) (f22) (f23) (f24) (f25) hfr17 hh ls (lv_sub hl [0, 1, 2] rfl)
    ·
      exact absurd h13 (by decide)
  refine lv_aload_n hx hb dX10_fuse_0 rfl (lv_at hl 0 rfl) ?_
  refine lv_iload_n hx hb dX10_fuse_1 rfl (lv_at hl 1 rfl) ?_
  refine lv_iconst (v := (nI 3)) hx hb dX10_fuse_2 (by decide) ?_
  refine mm_S0r (As := [.int (nI 0), .int (nI 3)]) (rest := [.ref (b + 115)]) hx hb hml hown hE hl.1 hh (kc_X10_92 hE.2.1 ⟨Nat.le_of_ble_eq_true rfl, Nat.le_of_ble_eq_true rfl⟩) (c_X10_outside l Γ b M mem (v := (nI 0)) (n := 3)) rfl rfl (Nat.le_of_ble_eq_true rfl) dX10_fuse_3 rfl rfl (fun H locs hh => ?_)
  refine nn_beq (tgt := 13) hx hb dX10_fuse_6 (by decide) (fun h119 => ?_) (fun h119 => ?_)
  ·
    refine lv_aload_n hx hb dX10_fuse_13 rfl (lv_at hl 0 rfl) ?_
    refine gf_X10_has hx hb hE hown hh (by omega) fM rfl dX10_fuse_14 ?_
    refine lv_iconst (v := (nI 0)) hx hb dX10_fuse_17 (by decide) ?_
    refine mm_zald hx hb hE hh (by omega) g125 (by omega) (by decide) dX10_fuse_18 ?_
    refine nn_bne (tgt := 44) hx hb dX10_fuse_19 (by decide) (fun h120 => ?_) (fun h120 => ?_)
    ·
      exact loop44 0 _ _ hh ls (lv_sub hl [0, 1] rfl)
    ·
      have g1 := h120
      refine lv_aload_n hx hb dX10_fuse_22 rfl (lv_at hl 0 rfl) ?_
      refine gf_X10_has hx hb hE hown hh (by omega) fM rfl dX10_fuse_23 ?_
      refine lv_iconst (v := (nI 1)) hx hb dX10_fuse_26 (by decide) ?_
      refine mm_zald hx hb hE hh (by omega) g125 (by omega) (by decide) dX10_fuse_27 ?_
      refine nn_bne (tgt := 44) hx hb dX10_fuse_28 (by decide) (fun h121 => ?_) (fun h121 => ?_)
      ·
        exact loop44 0 _ _ hh ls (lv_sub hl [0, 1] rfl)
      ·
        have g2 := h121
        refine lv_aload_n hx hb dX10_fuse_31 rfl (lv_at hl 0 rfl) ?_
        refine gf_X10_has hx hb hE hown hh (by omega) fM rfl dX10_fuse_32 ?_
        refine lv_iconst (v := (nI 2)) hx hb dX10_fuse_35 (by decide) ?_
        refine mm_zald hx hb hE hh (by omega) g125 (by omega) (by decide) dX10_fuse_36 ?_
        refine nn_bne (tgt := 44) hx hb dX10_fuse_37 (by decide) (fun h122 => ?_) (fun h122 => ?_)
        ·
          exact loop44 0 _ _ hh ls (lv_sub hl [0, 1] rfl)
        ·
          exact absurd han (by rw [g1, g2, h122]; decide)
  ·
    exact (nt_tf h119 (inR_y (show 0 < 3 by omega) (by decide))).elim
set_option maxHeartbeats 8000000 in
set_option maxRecDepth 100000 in
/-- reference: fuse  -/
theorem m_fuse (l : Launch) (Γ : Gm) (b M : Nat) (mem : Nat → va_E) {cd nd cz wz iz vz md wh sd sk ps fc : Nat} {mh : Nat → Bool} {ml mli : Nat → Nat} {msc : Nat → UInt64} {mr mf : Nat → Nat} {mrs mfs : Nat → UInt64} {way : Nat}  (hM : 138 ≤ M) (fM : mem 115 = .inr (9, [.int (nI cd), .int (nI nd), .ref (b + 116), .ref (b + 117), .ref (b + 118), .ref (b + 119), .int (nI cz), .ref (b + 120), .int (nI wz), .int (nI iz), .int (nI vz), .ref (b + 121), .ref (b + 122), .ref (b + 123), .ref (b + 124), .ref (b + 125), .ref (b + 126), .ref (b + 127), .ref (b + 128), .ref (b + 129), .int (nI md), .ref (b + 130), .ref (b + 131), .int (nI wh), .ref (b + 132), .ref (b + 133), .int (nI sd), .int (nI sk), .int (nI ps), .int (nI fc), .ref (b + 134), .ref (b + 135)])) (g125 : mem 125 = aB Γ 3 mh) (g126 : mem 126 = aN Γ 3 ml) (g127 : mem 127 = aN Γ 60 mli) (g128 : mem 128 = aD Γ 60 msc) (g130 : mem 130 = aN Γ 21 mr) (g131 : mem 131 = aD Γ 21 mrs) (g134 : mem 134 = aN Γ 17 mf) (g135 : mem 135 = aD Γ 17 mfs) (hnd : nd ≤ 16) (hlok : mlOK mh ml mli msc) (hmr : ∀ j, mr j < 16) (han : (mh 0 || mh 1 || mh 2) = true) (hmlb : ∀ v, ml v < 2 ^ 31) (hw : 0 < way ∧ way < 3) : Ct l yX10_fuse (.code yX10_fuse cX10_fuse 8 (some .int)) ({ frames := 1, cells := 0, slots := 0, locals := 27 } : Room) Γ b M [.ref (b + 115), .int (nI way)] mem (fun u => u 115 = .inr (9, [.int (nI 0), .int (nI nd), .ref (b + 116), .ref (b + 117), .ref (b + 118), .ref (b + 119), .int (nI cz), .ref (b + 120), .int (nI wz), .int (nI iz), .int (nI vz), .ref (b + 121), .ref (b + 122), .ref (b + 123), .ref (b + 124), .ref (b + 125), .ref (b + 126), .ref (b + 127), .ref (b + 128), .ref (b + 129), .int (nI ((fuM way mh ml mli msc (mr, mrs, 0) nd).2.2)), .ref (b + 130), .ref (b + 131), .int (nI wh), .ref (b + 132), .ref (b + 133), .int (nI sd), .int (nI sk), .int (nI ps), .int (nI ((fuM way mh ml mli msc (mr, mrs, 0) nd).2.2)), .ref (b + 134), .ref (b + 135)]) ∧ u 130 = aN Γ 21 ((fuM way mh ml mli msc (mr, mrs, 0) nd).1) ∧ u 131 = aD Γ 21 ((fuM way mh ml mli msc (mr, mrs, 0) nd).2.1) ∧ u 134 = aN Γ 17 (cpN mf (fuM way mh ml mli msc (mr, mrs, 0) nd).1 (fuM way mh ml mli msc (mr, mrs, 0) nd).2.2) ∧ u 135 = aD Γ 17 (fiR mfs (fuM way mh ml mli msc (mr, mrs, 0) nd).2.1 (fuM way mh ml mli msc (mr, mrs, 0) nd).2.2) ∧ ∀ j, j ≠ 115 → j ≠ 130 → j ≠ 131 → j ≠ 134 → j ≠ 135 → u j = mem j) (some (.int (nI ((fuM way mh ml mli msc (mr, mrs, 0) nd).2.2)))) := by
  refine mm_enter (cc := cX10_fuse) (by decide) (Nat.le_of_ble_eq_true rfl) ?_
  intro p e s m args below meth c ls hx hb hml hown hr hlocks hname hE hh hl
  have hl : lv_has ls 8 [(0, .ref (b + 115)), (1, .int (nI way))] := hl
  have hfr : ∀ j, j ≠ 115 → j ≠ 130 → j ≠ 131 → j ≠ 134 → j ≠ 135 → mem j = mem j := fun j _ _ _ _ _ => rfl
  have loop44 : ∀ (u9 : Nat), ∀ (H : Heap) (locs : List Loc), GH Γ b M mem s H locs → ∀ (ls : Array Slot), lv_has ls 8 [(0, .ref (b + 115)), (1, .int (nI way))] → W p l e ({ frames := 1, cells := 0, slots := 0, locals := 27 } : Room) s m args below meth c H locs 0 0 (MQ below (QC Γ b M (fun u => u 115 = .inr (9, [.int (nI 0), .int (nI nd), .ref (b + 116), .ref (b + 117), .ref (b + 118), .ref (b + 119), .int (nI cz), .ref (b + 120), .int (nI wz), .int (nI iz), .int (nI vz), .ref (b + 121), .ref (b + 122), .ref (b + 123), .ref (b + 124), .ref (b + 125), .ref (b + 126), .ref (b + 127), .ref (b + 128), .ref (b + 129), .int (nI ((fuM way mh ml mli msc (mr, mrs, 0) nd).2.2)), .ref (b + 130), .ref (b + 131), .int (nI wh), .ref (b + 132), .ref (b + 133), .int (nI sd), .int (nI sk), .int (nI ps), .int (nI ((fuM way mh ml mli msc (mr, mrs, 0) nd).2.2)), .ref (b + 134), .ref (b + 135)]) ∧ u 130 = aN Γ 21 ((fuM way mh ml mli msc (mr, mrs, 0) nd).1) ∧ u 131 = aD Γ 21 ((fuM way mh ml mli msc (mr, mrs, 0) nd).2.1) ∧ u 134 = aN Γ 17 (cpN mf (fuM way mh ml mli msc (mr, mrs, 0) nd).1 (fuM way mh ml mli msc (mr, mrs, 0) nd).2.2) ∧ u 135 = aD Γ 17 (fiR mfs (fuM way mh ml mli msc (mr, mrs, 0) nd).2.1 (fuM way mh ml mli msc (mr, mrs, 0) nd).2.2) ∧ ∀ j, j ≠ 115 → j ≠ 130 → j ≠ 131 → j ≠ 134 → j ≠ 135 → u j = mem j) (some (.int (nI ((fuM way mh ml mli msc (mr, mrs, 0) nd).2.2))))) args s 0 0 (fun q => b ≤ q)) (F0 m 44 ls [.ref (b + 115)]) := by
    intro u9  H locs hh ls hl
    refine lv_iconst (v := (nI 0)) hx hb dX10_fuse_44 (by decide) ?_
    refine gp_X10_code (fs' := [.int (nI 0), .int (nI nd), .ref (b + 116), .ref (b + 117), .ref (b + 118), .ref (b + 119), .int (nI cz), .ref (b + 120), .int (nI wz), .int (nI iz), .int (nI vz), .ref (b + 121), .ref (b + 122), .ref (b + 123), .ref (b + 124), .ref (b + 125), .ref (b + 126), .ref (b + 127), .ref (b + 128), .ref (b + 129), .int (nI md), .ref (b + 130), .ref (b + 131), .int (nI wh), .ref (b + 132), .ref (b + 133), .int (nI sd), .int (nI sk), .int (nI ps), .int (nI fc), .ref (b + 134), .ref (b + 135)]) hx hb hE hown hh (by omega) fM rfl rfl (show 0 < 32 by decide) rfl dX10_fuse_45 (fun H locs mem1 f2 k3 hh => ?_)
    have hfr4 : ∀ j, j ≠ 115 → j ≠ 130 → j ≠ 131 → j ≠ 134 → j ≠ 135 → mem1 j = mem j := fun j c0 c1 c2 c3 c4 => (k3 j (by omega)).trans (hfr j c0 c1 c2 c3 c4)
    have f5 : mem1 125 = aB Γ 3 mh := (k3 _ (by omega)).trans g125
    have f6 : mem1 126 = aN Γ 3 ml := (k3 _ (by omega)).trans g126
    have f7 : mem1 127 = aN Γ 60 mli := (k3 _ (by omega)).trans g127
    have f8 : mem1 128 = aD Γ 60 msc := (k3 _ (by omega)).trans g128
    have f9 : mem1 130 = aN Γ 21 mr := (k3 _ (by omega)).trans g130
    have f10 : mem1 131 = aD Γ 21 mrs := (k3 _ (by omega)).trans g131
    have f11 : mem1 134 = aN Γ 17 mf := (k3 _ (by omega)).trans g134
    have f12 : mem1 135 = aD Γ 17 mfs := (k3 _ (by omega)).trans g135
    refine lv_aload_n hx hb dX10_fuse_48 rfl (lv_at hl 0 rfl) ?_
    refine gf_X10_code hx hb hE hown hh (by omega) f2 rfl dX10_fuse_49 ?_
    refine nn_if_le (tgt := 57) hx hb dX10_fuse_52 (by decide) (by omega) (fun h13 => ?_) (fun h13 => ?_)
    ·
      refine lv_aload_n hx hb dX10_fuse_57 rfl (lv_at hl 0 rfl) ?_
      refine lv_iconst (v := (nI 0)) hx hb dX10_fuse_58 (by decide) ?_
      refine gp_X10_made (fs' := [.int (nI 0), .int (nI nd), .ref (b + 116), .ref (b + 117), .ref (b + 118), .ref (b + 119), .int (nI cz), .ref (b + 120), .int (nI wz), .int (nI iz), .int (nI vz), .ref (b + 121), .ref (b + 122), .ref (b + 123), .ref (b + 124), .ref (b + 125), .ref (b + 126), .ref (b + 127), .ref (b + 128), .ref (b + 129), .int (nI 0), .ref (b + 130), .ref (b + 131), .int (nI wh), .ref (b + 132), .ref (b + 133), .int (nI sd), .int (nI sk), .int (nI ps), .int (nI fc), .ref (b + 134), .ref (b + 135)]) hx hb hE hown hh (by omega) f2 rfl rfl (show 20 < 32 by decide) rfl dX10_fuse_59 (fun H locs mem14 f15 k16 hh => ?_)
      have hfr17 : ∀ j, j ≠ 115 → j ≠ 130 → j ≠ 131 → j ≠ 134 → j ≠ 135 → mem14 j = mem j := fun j c0 c1 c2 c3 c4 => (k16 j (by omega)).trans (hfr4 j c0 c1 c2 c3 c4)
      have f18 : mem14 125 = aB Γ 3 mh := (k16 _ (by omega)).trans f5
      have f19 : mem14 126 = aN Γ 3 ml := (k16 _ (by omega)).trans f6
      have f20 : mem14 127 = aN Γ 60 mli := (k16 _ (by omega)).trans f7
      have f21 : mem14 128 = aD Γ 60 msc := (k16 _ (by omega)).trans f8
      have f22 : mem14 130 = aN Γ 21 mr := (k16 _ (by omega)).trans f9
      have f23 : mem14 131 = aD Γ 21 mrs := (k16 _ (by omega)).trans f10
      have f24 : mem14 134 = aN Γ 17 mf := (k16 _ (by omega)).trans f11
      have f25 : mem14 135 = aD Γ 17 mfs := (k16 _ (by omega)).trans f12
      refine lv_iconst (v := (nI 0)) hx hb dX10_fuse_62 (by decide) ?_
      refine lv_istore_n (lv' := [(2, .int (nI 0)), (0, .ref (b + 115)), (1, .int (nI way))]) hx hb dX10_fuse_63 rfl hl (by decide) rfl (fun ls hl => ?_)
      have loop64 : ∀ (n9 : Nat) (d : Nat), (nd - d) < n9 → (d ≤ nd) → ∀ (H : Heap) (locs : List Loc) (mem2 : Nat → va_E), mem2 115 = .inr (9, [.int (nI 0), .int (nI nd), .ref (b + 116), .ref (b + 117), .ref (b + 118), .ref (b + 119), .int (nI cz), .ref (b + 120), .int (nI wz), .int (nI iz), .int (nI vz), .ref (b + 121), .ref (b + 122), .ref (b + 123), .ref (b + 124), .ref (b + 125), .ref (b + 126), .ref (b + 127), .ref (b + 128), .ref (b + 129), .int (nI ((fuM way mh ml mli msc (mr, mrs, 0) d).2.2)), .ref (b + 130), .ref (b + 131), .int (nI wh), .ref (b + 132), .ref (b + 133), .int (nI sd), .int (nI sk), .int (nI ps), .int (nI fc), .ref (b + 134), .ref (b + 135)]) → mem2 130 = aN Γ 21 ((fuM way mh ml mli msc (mr, mrs, 0) d).1) → mem2 131 = aD Γ 21 ((fuM way mh ml mli msc (mr, mrs, 0) d).2.1) → mem2 134 = aN Γ 17 mf → mem2 135 = aD Γ 17 mfs → (∀ j, j ≠ 115 → j ≠ 130 → j ≠ 131 → j ≠ 134 → j ≠ 135 → mem2 j = mem j) → GH Γ b M mem2 s H locs → ∀ (ls : Array Slot), lv_has ls 8 [(2, .int (nI d)), (0, .ref (b + 115)), (1, .int (nI way))] → W p l e ({ frames := 1, cells := 0, slots := 0, locals := 27 } : Room) s m args below meth c H locs 0 0 (MQ below (QC Γ b M (fun u => u 115 = .inr (9, [.int (nI 0), .int (nI nd), .ref (b + 116), .ref (b + 117), .ref (b + 118), .ref (b + 119), .int (nI cz), .ref (b + 120), .int (nI wz), .int (nI iz), .int (nI vz), .ref (b + 121), .ref (b + 122), .ref (b + 123), .ref (b + 124), .ref (b + 125), .ref (b + 126), .ref (b + 127), .ref (b + 128), .ref (b + 129), .int (nI ((fuM way mh ml mli msc (mr, mrs, 0) nd).2.2)), .ref (b + 130), .ref (b + 131), .int (nI wh), .ref (b + 132), .ref (b + 133), .int (nI sd), .int (nI sk), .int (nI ps), .int (nI ((fuM way mh ml mli msc (mr, mrs, 0) nd).2.2)), .ref (b + 134), .ref (b + 135)]) ∧ u 130 = aN Γ 21 ((fuM way mh ml mli msc (mr, mrs, 0) nd).1) ∧ u 131 = aD Γ 21 ((fuM way mh ml mli msc (mr, mrs, 0) nd).2.1) ∧ u 134 = aN Γ 17 (cpN mf (fuM way mh ml mli msc (mr, mrs, 0) nd).1 (fuM way mh ml mli msc (mr, mrs, 0) nd).2.2) ∧ u 135 = aD Γ 17 (fiR mfs (fuM way mh ml mli msc (mr, mrs, 0) nd).2.1 (fuM way mh ml mli msc (mr, mrs, 0) nd).2.2) ∧ ∀ j, j ≠ 115 → j ≠ 130 → j ≠ 131 → j ≠ 134 → j ≠ 135 → u j = mem j) (some (.int (nI ((fuM way mh ml mli msc (mr, mrs, 0) nd).2.2))))) args s 0 0 (fun q => b ≤ q)) (F0 m 64 ls []) := by
        intro n9
        induction n9 with
        | zero => intro d hn; exact absurd hn (Nat.not_lt_zero _)
        | succ n9 ih =>
          intro d hn hd H locs mem26 f28 f29 f30 f31 f32 hfr27 hh ls hl
          have f33 : mem26 125 = aB Γ 3 mh := (hfr27 _ (by omega) (by omega) (by omega) (by omega) (by omega)).trans g125
          have f34 : mem26 126 = aN Γ 3 ml := (hfr27 _ (by omega) (by omega) (by omega) (by omega) (by omega)).trans g126
          have f35 : mem26 127 = aN Γ 60 mli := (hfr27 _ (by omega) (by omega) (by omega) (by omega) (by omega)).trans g127
          have f36 : mem26 128 = aD Γ 60 msc := (hfr27 _ (by omega) (by omega) (by omega) (by omega) (by omega)).trans g128
          have ho := fuM_ok (way := way) (mh := mh) (ml := ml) (mli := mli) (msc := msc) (T := (mr, mrs, 0)) hmr rfl d (by omega)
          have ho2 := ho.2
          have ih37 := ih
          refine lv_iload_n hx hb dX10_fuse_64 rfl (lv_at hl 0 rfl) ?_
          refine lv_aload_n hx hb dX10_fuse_65 rfl (lv_at hl 1 rfl) ?_
          refine gf_X10_documents hx hb hE hown hh (by omega) f28 rfl dX10_fuse_66 ?_
          refine nn_icmp_ge (tgt := 157) hx hb dX10_fuse_69 (by decide) (by omega) (by omega) (fun h38 => ?_) (fun h38 => ?_)
          ·
            obtain rfl : nd = d := by omega
            refine lv_aload_n hx hb dX10_fuse_157 rfl (lv_at hl 1 rfl) ?_
            refine lv_aload_n hx hb dX10_fuse_158 rfl (lv_at hl 1 rfl) ?_
            refine gf_X10_made hx hb hE hown hh (by omega) f28 rfl dX10_fuse_159 ?_
            refine gp_X10_fusedCount (fs' := [.int (nI 0), .int (nI nd), .ref (b + 116), .ref (b + 117), .ref (b + 118), .ref (b + 119), .int (nI cz), .ref (b + 120), .int (nI wz), .int (nI iz), .int (nI vz), .ref (b + 121), .ref (b + 122), .ref (b + 123), .ref (b + 124), .ref (b + 125), .ref (b + 126), .ref (b + 127), .ref (b + 128), .ref (b + 129), .int (nI ((fuM way mh ml mli msc (mr, mrs, 0) nd).2.2)), .ref (b + 130), .ref (b + 131), .int (nI wh), .ref (b + 132), .ref (b + 133), .int (nI sd), .int (nI sk), .int (nI ps), .int (nI ((fuM way mh ml mli msc (mr, mrs, 0) nd).2.2)), .ref (b + 134), .ref (b + 135)]) hx hb hE hown hh (by omega) f28 rfl rfl (show 29 < 32 by decide) rfl dX10_fuse_162 (fun H locs mem39 f40 k41 hh => ?_)
            have hfr42 : ∀ j, j ≠ 115 → j ≠ 130 → j ≠ 131 → j ≠ 134 → j ≠ 135 → mem39 j = mem j := fun j c0 c1 c2 c3 c4 => (k41 j (by omega)).trans (hfr27 j c0 c1 c2 c3 c4)
            have f43 : mem39 130 = aN Γ 21 ((fuM way mh ml mli msc (mr, mrs, 0) nd).1) := (k41 _ (by omega)).trans f29
            have f44 : mem39 131 = aD Γ 21 ((fuM way mh ml mli msc (mr, mrs, 0) nd).2.1) := (k41 _ (by omega)).trans f30
            have f45 : mem39 134 = aN Γ 17 mf := (k41 _ (by omega)).trans f31
            have f46 : mem39 135 = aD Γ 17 mfs := (k41 _ (by omega)).trans f32
            have f47 : mem39 125 = aB Γ 3 mh := (k41 _ (by omega)).trans f33
            have f48 : mem39 126 = aN Γ 3 ml := (k41 _ (by omega)).trans f34
            have f49 : mem39 127 = aN Γ 60 mli := (k41 _ (by omega)).trans f35
            have f50 : mem39 128 = aD Γ 60 msc := (k41 _ (by omega)).trans f36
            refine lv_iconst (v := (nI 0)) hx hb dX10_fuse_165 (by decide) ?_
            refine lv_istore_n (lv' := [(2, .int (nI 0)), (0, .ref (b + 115)), (1, .int (nI way))]) hx hb dX10_fuse_166 rfl hl (by decide) rfl (fun ls hl => ?_)
            have loop167 : ∀ (n9 : Nat) (k : Nat), ((fuM way mh ml mli msc (mr, mrs, 0) nd).2.2 - k) < n9 → (k ≤ (fuM way mh ml mli msc (mr, mrs, 0) nd).2.2) → ∀ (H : Heap) (locs : List Loc) (mem2 : Nat → va_E), mem2 115 = .inr (9, [.int (nI 0), .int (nI nd), .ref (b + 116), .ref (b + 117), .ref (b + 118), .ref (b + 119), .int (nI cz), .ref (b + 120), .int (nI wz), .int (nI iz), .int (nI vz), .ref (b + 121), .ref (b + 122), .ref (b + 123), .ref (b + 124), .ref (b + 125), .ref (b + 126), .ref (b + 127), .ref (b + 128), .ref (b + 129), .int (nI ((fuM way mh ml mli msc (mr, mrs, 0) nd).2.2)), .ref (b + 130), .ref (b + 131), .int (nI wh), .ref (b + 132), .ref (b + 133), .int (nI sd), .int (nI sk), .int (nI ps), .int (nI ((fuM way mh ml mli msc (mr, mrs, 0) nd).2.2)), .ref (b + 134), .ref (b + 135)]) → mem2 130 = aN Γ 21 ((fuM way mh ml mli msc (mr, mrs, 0) nd).1) → mem2 131 = aD Γ 21 ((fuM way mh ml mli msc (mr, mrs, 0) nd).2.1) → mem2 134 = aN Γ 17 (cpN mf (fuM way mh ml mli msc (mr, mrs, 0) nd).1 k) → mem2 135 = aD Γ 17 (fiR mfs (fuM way mh ml mli msc (mr, mrs, 0) nd).2.1 k) → (∀ j, j ≠ 115 → j ≠ 130 → j ≠ 131 → j ≠ 134 → j ≠ 135 → mem2 j = mem j) → GH Γ b M mem2 s H locs → ∀ (ls : Array Slot), lv_has ls 8 [(2, .int (nI k)), (0, .ref (b + 115)), (1, .int (nI way))] → W p l e ({ frames := 1, cells := 0, slots := 0, locals := 27 } : Room) s m args below meth c H locs 0 0 (MQ below (QC Γ b M (fun u => u 115 = .inr (9, [.int (nI 0), .int (nI nd), .ref (b + 116), .ref (b + 117), .ref (b + 118), .ref (b + 119), .int (nI cz), .ref (b + 120), .int (nI wz), .int (nI iz), .int (nI vz), .ref (b + 121), .ref (b + 122), .ref (b + 123), .ref (b + 124), .ref (b + 125), .ref (b + 126), .ref (b + 127), .ref (b + 128), .ref (b + 129), .int (nI ((fuM way mh ml mli msc (mr, mrs, 0) nd).2.2)), .ref (b + 130), .ref (b + 131), .int (nI wh), .ref (b + 132), .ref (b + 133), .int (nI sd), .int (nI sk), .int (nI ps), .int (nI ((fuM way mh ml mli msc (mr, mrs, 0) nd).2.2)), .ref (b + 134), .ref (b + 135)]) ∧ u 130 = aN Γ 21 ((fuM way mh ml mli msc (mr, mrs, 0) nd).1) ∧ u 131 = aD Γ 21 ((fuM way mh ml mli msc (mr, mrs, 0) nd).2.1) ∧ u 134 = aN Γ 17 (cpN mf (fuM way mh ml mli msc (mr, mrs, 0) nd).1 (fuM way mh ml mli msc (mr, mrs, 0) nd).2.2) ∧ u 135 = aD Γ 17 (fiR mfs (fuM way mh ml mli msc (mr, mrs, 0) nd).2.1 (fuM way mh ml mli msc (mr, mrs, 0) nd).2.2) ∧ ∀ j, j ≠ 115 → j ≠ 130 → j ≠ 131 → j ≠ 134 → j ≠ 135 → u j = mem j) (some (.int (nI ((fuM way mh ml mli msc (mr, mrs, 0) nd).2.2))))) args s 0 0 (fun q => b ≤ q)) (F0 m 167 ls []) := by
              intro n9
              induction n9 with
              | zero => intro k hn; exact absurd hn (Nat.not_lt_zero _)
              | succ n9 ih =>
                intro k hn hk H locs mem51 f53 f54 f55 f56 f57 hfr52 hh ls hl
                have f58 : mem51 125 = aB Γ 3 mh := (hfr52 _ (by omega) (by omega) (by omega) (by omega) (by omega)).trans g125
                have f59 : mem51 126 = aN Γ 3 ml := (hfr52 _ (by omega) (by omega) (by omega) (by omega) (by omega)).trans g126
                have f60 : mem51 127 = aN Γ 60 mli := (hfr52 _ (by omega) (by omega) (by omega) (by omega) (by omega)).trans g127
                have f61 : mem51 128 = aD Γ 60 msc := (hfr52 _ (by omega) (by omega) (by omega) (by omega) (by omega)).trans g128
                have ih62 := ih
                refine lv_iload_n hx hb dX10_fuse_167 rfl (lv_at hl 0 rfl) ?_
                refine lv_aload_n hx hb dX10_fuse_168 rfl (lv_at hl 1 rfl) ?_
                refine gf_X10_made hx hb hE hown hh (by omega) f53 rfl dX10_fuse_169 ?_
                refine nn_icmp_ge (tgt := 205) hx hb dX10_fuse_172 (by decide) (by omega) (by omega) (fun h63 => ?_) (fun h63 => ?_)
                ·
                  have hke : k = (fuM way mh ml mli msc (mr, mrs, 0) nd).2.2 := by omega
                  refine lv_aload_n hx hb dX10_fuse_205 rfl (lv_at hl 1 rfl) ?_
                  refine gf_X10_made hx hb hE hown hh (by omega) f53 rfl dX10_fuse_206 ?_
                  exact mm_iret hx hb hr hlocks hE hh (rfl) (by rw [← hke]; exact ⟨by rw [hke]; exact f53, f54, f55, f56, f57, hfr52⟩) dX10_fuse_209
                ·
                  refine lv_aload_n hx hb dX10_fuse_175 rfl (lv_at hl 1 rfl) ?_
                  refine gf_X10_fusedRow hx hb hE hown hh (by omega) f53 rfl dX10_fuse_176 ?_
                  refine lv_iload_n hx hb dX10_fuse_179 rfl (lv_at hl 0 rfl) ?_
                  refine lv_aload_n hx hb dX10_fuse_180 rfl (lv_at hl 1 rfl) ?_
                  refine gf_X10_row hx hb hE hown hh (by omega) f53 rfl dX10_fuse_181 ?_
                  refine lv_iload_n hx hb dX10_fuse_184 rfl (lv_at hl 0 rfl) ?_
                  refine mm_iald hx hb hE hh (by omega) f54 (by omega) (by decide) dX10_fuse_185 ?_
                  refine mm_iast hx hb hE hh (by omega) f56 (by omega) (by decide) dX10_fuse_186 (fun H locs mem64 f65 k66 hh => ?_)
                  rw [va_up_nI] at f65
                  have hfr67 : ∀ j, j ≠ 115 → j ≠ 130 → j ≠ 131 → j ≠ 134 → j ≠ 135 → mem64 j = mem j := fun j c0 c1 c2 c3 c4 => (k66 j (by omega)).trans (hfr52 j c0 c1 c2 c3 c4)
                  have f68 : mem64 115 = .inr (9, [.int (nI 0), .int (nI nd), .ref (b + 116), .ref (b + 117), .ref (b + 118), .ref (b + 119), .int (nI cz), .ref (b + 120), .int (nI wz), .int (nI iz), .int (nI vz), .ref (b + 121), .ref (b + 122), .ref (b + 123), .ref (b + 124), .ref (b + 125), .ref (b + 126), .ref (b + 127), .ref (b + 128), .ref (b + 129), .int (nI ((fuM way mh ml mli msc (mr, mrs, 0) nd).2.2)), .ref (b + 130), .ref (b + 131), .int (nI wh), .ref (b + 132), .ref (b + 133), .int (nI sd), .int (nI sk), .int (nI ps), .int (nI ((fuM way mh ml mli msc (mr, mrs, 0) nd).2.2)), .ref (b + 134), .ref (b + 135)]) := (k66 _ (by omega)).trans f53
                  have f69 : mem64 130 = aN Γ 21 ((fuM way mh ml mli msc (mr, mrs, 0) nd).1) := (k66 _ (by omega)).trans f54
                  have f70 : mem64 131 = aD Γ 21 ((fuM way mh ml mli msc (mr, mrs, 0) nd).2.1) := (k66 _ (by omega)).trans f55
                  have f71 : mem64 135 = aD Γ 17 (fiR mfs (fuM way mh ml mli msc (mr, mrs, 0) nd).2.1 k) := (k66 _ (by omega)).trans f57
                  have f72 : mem64 125 = aB Γ 3 mh := (k66 _ (by omega)).trans f58
                  have f73 : mem64 126 = aN Γ 3 ml := (k66 _ (by omega)).trans f59
                  have f74 : mem64 127 = aN Γ 60 mli := (k66 _ (by omega)).trans f60
                  have f75 : mem64 128 = aD Γ 60 msc := (k66 _ (by omega)).trans f61
                  refine lv_aload_n hx hb dX10_fuse_187 rfl (lv_at hl 1 rfl) ?_
                  refine gf_X10_fusedScore hx hb hE hown hh (by omega) f68 rfl dX10_fuse_188 ?_
                  refine lv_iload_n hx hb dX10_fuse_191 rfl (lv_at hl 0 rfl) ?_
                  refine lv_aload_n hx hb dX10_fuse_192 rfl (lv_at hl 1 rfl) ?_
                  refine gf_X10_rowScore hx hb hE hown hh (by omega) f68 rfl dX10_fuse_193 ?_
                  refine lv_iload_n hx hb dX10_fuse_196 rfl (lv_at hl 0 rfl) ?_
                  refine mm_dald hx hb hE hh (by omega) f70 (by omega) (by decide) dX10_fuse_197 ?_
                  refine mm_dast hx hb hE hh (by omega) f71 (by omega) (by decide) dX10_fuse_198 (fun H locs mem76 f77 k78 hh => ?_)
                  have hfr79 : ∀ j, j ≠ 115 → j ≠ 130 → j ≠ 131 → j ≠ 134 → j ≠ 135 → mem76 j = mem j := fun j c0 c1 c2 c3 c4 => (k78 j (by omega)).trans (hfr67 j c0 c1 c2 c3 c4)
                  have f80 : mem76 115 = .inr (9, [.int (nI 0), .int (nI nd), .ref (b + 116), .ref (b + 117), .ref (b + 118), .ref (b + 119), .int (nI cz), .ref (b + 120), .int (nI wz), .int (nI iz), .int (nI vz), .ref (b + 121), .ref (b + 122), .ref (b + 123), .ref (b + 124), .ref (b + 125), .ref (b + 126), .ref (b + 127), .ref (b + 128), .ref (b + 129), .int (nI ((fuM way mh ml mli msc (mr, mrs, 0) nd).2.2)), .ref (b + 130), .ref (b + 131), .int (nI wh), .ref (b + 132), .ref (b + 133), .int (nI sd), .int (nI sk), .int (nI ps), .int (nI ((fuM way mh ml mli msc (mr, mrs, 0) nd).2.2)), .ref (b + 134), .ref (b + 135)]) := (k78 _ (by omega)).trans f68
                  have f81 : mem76 130 = aN Γ 21 ((fuM way mh ml mli msc (mr, mrs, 0) nd).1) := (k78 _ (by omega)).trans f69
                  have f82 : mem76 131 = aD Γ 21 ((fuM way mh ml mli msc (mr, mrs, 0) nd).2.1) := (k78 _ (by omega)).trans f70
                  have f83 : mem76 134 = aN Γ 17 (va_up (cpN mf (fuM way mh ml mli msc (mr, mrs, 0) nd).1 k) k (((fuM way mh ml mli msc (mr, mrs, 0) nd).1) k)) := (k78 _ (by omega)).trans f65
                  have f84 : mem76 125 = aB Γ 3 mh := (k78 _ (by omega)).trans f72
                  have f85 : mem76 126 = aN Γ 3 ml := (k78 _ (by omega)).trans f73
                  have f86 : mem76 127 = aN Γ 60 mli := (k78 _ (by omega)).trans f74
                  have f87 : mem76 128 = aD Γ 60 msc := (k78 _ (by omega)).trans f75
                  refine nn_iinc (x := k) (d := 1) (lv' := [(2, .int (nI (k + 1))), (0, .ref (b + 115)), (1, .int (nI way))]) hx hb dX10_fuse_199 hl (k := 0) rfl (by decide) (by decide) rfl (fun ls hl => ?_)
                  refine lv_goto (tgt := 167) hx hb dX10_fuse_202 (by decide) ?_
                  exact ih62 (k + 1) (by omega) (by omega) _ _ mem76 (f80) (f81) (f82) (by rw [← cpN_s]; exact f83) (by rw [← fiR_s]; exact f77) hfr79 hh ls (lv_sub hl [0, 1, 2] rfl)
            exact loop167 (((fuM way mh ml mli msc (mr, mrs, 0) nd).2.2 - 0) + 1) 0 (by omega) (by omega) _ _ mem39 (f40) (f43) (f44) (by rw [cpN_0]; exact f45) (by rw [fiR_0]; exact f46) hfr42 hh ls (lv_sub hl [0, 1, 2] rfl)
          ·
            refine lv_dconst0 hx hb dX10_fuse_72 ?_
            refine lv_dstore_n (lv' := [(3, .double FP.dconst0), (2, .int (nI d)), (0, .ref (b + 115)), (1, .int (nI way))]) hx hb dX10_fuse_73 rfl hl (by decide) rfl (fun ls hl => ?_)
            refine lv_iconst (v := (nI 0)) hx hb dX10_fuse_74 (by decide) ?_
            refine lv_istore (lv' := [(5, .int (nI 0)), (3, .double FP.dconst0), (2, .int (nI d)), (0, .ref (b + 115)), (1, .int (nI way))]) hx hb dX10_fuse_75 hl (by decide) rfl (fun ls hl => ?_)
            refine lv_iconst (v := (nI 0)) hx hb dX10_fuse_77 (by decide) ?_
            refine lv_istore (lv' := [(6, .int (nI 0)), (5, .int (nI 0)), (3, .double FP.dconst0), (2, .int (nI d)), (0, .ref (b + 115)), (1, .int (nI way))]) hx hb dX10_fuse_78 hl (by decide) rfl (fun ls hl => ?_)
            have loop80 : ∀ (n9 : Nat) (v : Nat), (3 - v) < n9 → (v ≤ 3) → ∀ (H : Heap) (locs : List Loc), GH Γ b M mem26 s H locs → ∀ (ls : Array Slot), lv_has ls 8 [(6, .int (nI v)), (5, .int (nI ((fvS way mh ml mli msc d v).2))), (3, .double ((fvS way mh ml mli msc d v).1)), (2, .int (nI d)), (0, .ref (b + 115)), (1, .int (nI way))] → W p l e ({ frames := 1, cells := 0, slots := 0, locals := 27 } : Room) s m args below meth c H locs 0 0 (MQ below (QC Γ b M (fun u => u 115 = .inr (9, [.int (nI 0), .int (nI nd), .ref (b + 116), .ref (b + 117), .ref (b + 118), .ref (b + 119), .int (nI cz), .ref (b + 120), .int (nI wz), .int (nI iz), .int (nI vz), .ref (b + 121), .ref (b + 122), .ref (b + 123), .ref (b + 124), .ref (b + 125), .ref (b + 126), .ref (b + 127), .ref (b + 128), .ref (b + 129), .int (nI ((fuM way mh ml mli msc (mr, mrs, 0) nd).2.2)), .ref (b + 130), .ref (b + 131), .int (nI wh), .ref (b + 132), .ref (b + 133), .int (nI sd), .int (nI sk), .int (nI ps), .int (nI ((fuM way mh ml mli msc (mr, mrs, 0) nd).2.2)), .ref (b + 134), .ref (b + 135)]) ∧ u 130 = aN Γ 21 ((fuM way mh ml mli msc (mr, mrs, 0) nd).1) ∧ u 131 = aD Γ 21 ((fuM way mh ml mli msc (mr, mrs, 0) nd).2.1) ∧ u 134 = aN Γ 17 (cpN mf (fuM way mh ml mli msc (mr, mrs, 0) nd).1 (fuM way mh ml mli msc (mr, mrs, 0) nd).2.2) ∧ u 135 = aD Γ 17 (fiR mfs (fuM way mh ml mli msc (mr, mrs, 0) nd).2.1 (fuM way mh ml mli msc (mr, mrs, 0) nd).2.2) ∧ ∀ j, j ≠ 115 → j ≠ 130 → j ≠ 131 → j ≠ 134 → j ≠ 135 → u j = mem j) (some (.int (nI ((fuM way mh ml mli msc (mr, mrs, 0) nd).2.2))))) args s 0 0 (fun q => b ≤ q)) (F0 m 80 ls []) := by
              intro n9
              induction n9 with
              | zero => intro v hn; exact absurd hn (Nat.not_lt_zero _)
              | succ n9 ih =>
                intro v hn hv H locs hh ls hl
                have hvo := fvS_ok (way := way) (d := d) hlok v hv
                have hvo2 := hvo.2
                have ih88 := ih
                refine lv_iload hx hb dX10_fuse_80 (lv_at hl 0 rfl) ?_
                refine lv_iconst (v := (nI 3)) hx hb dX10_fuse_82 (by decide) ?_
                refine nn_icmp_ge (tgt := 125) hx hb dX10_fuse_83 (by decide) (by omega) (by omega) (fun h89 => ?_) (fun h89 => ?_)
                ·
                  obtain rfl : v = 3 := by omega
                  refine lv_iload hx hb dX10_fuse_125 (lv_at hl 1 rfl) ?_
                  refine nn_if_le (tgt := 151) hx hb dX10_fuse_127 (by decide) (by omega) (fun h90 => ?_) (fun h90 => ?_)
                  ·
                    have hn2 : (fuM way mh ml mli msc (mr, mrs, 0) (d + 1)) = (fuM way mh ml mli msc (mr, mrs, 0) d) := if_neg (by omega)
                    refine nn_iinc (x := d) (d := 1) (lv' := [(2, .int (nI (d + 1))), (6, .int (nI 3)), (5, .int (nI ((fvS way mh ml mli msc d 3).2))), (3, .double ((fvS way mh ml mli msc d 3).1)), (0, .ref (b + 115)), (1, .int (nI way))]) hx hb dX10_fuse_151 hl (k := 3) rfl (by decide) (by decide) rfl (fun ls hl => ?_)
                    refine lv_goto (tgt := 64) hx hb dX10_fuse_154 (by decide) ?_
                    exact ih37 (d + 1) (by omega) (by omega) _ _ mem26 (by rw [hn2]; exact f28) (by rw [hn2]; exact f29) (by rw [hn2]; exact f30) (f31) (f32) hfr27 hh ls (lv_sub hl [0, 4, 5] rfl)
                  ·
                    have hn2 : (fuM way mh ml mli msc (mr, mrs, 0) (d + 1)) = en1 20 d (vwM way (fvS way mh ml mli msc d 3)) (fuM way mh ml mli msc (mr, mrs, 0) d) := if_pos h90
                    refine lv_aload_n hx hb dX10_fuse_130 rfl (lv_at hl 4 rfl) ?_
                    refine lv_iload_n hx hb dX10_fuse_131 rfl (lv_at hl 3 rfl) ?_
                    refine lv_iload_n hx hb dX10_fuse_132 rfl (lv_at hl 5 rfl) ?_
                    refine lv_iconst (v := (nI 2)) hx hb dX10_fuse_133 (by decide) ?_
                    refine nn_icmp_ne (tgt := 145) hx hb dX10_fuse_134 (by decide) (by omega) (by omega) (fun h91 => ?_) (fun h91 => ?_)
                    ·
                      have hvw : vwM way (fvS way mh ml mli msc d 3) = (fvS way mh ml mli msc d 3).1 := if_neg h91
                      refine lv_dload_n hx hb dX10_fuse_145 rfl (lv_at hl 2 rfl) ?_
                      rw [← hvw]
                      refine lv_bipush (v := (nI 20)) hx hb dX10_fuse_146 (by decide) ?_
                      refine mm_V0 (As := [.int (nI d), .double (vwM way (fvS way mh ml mli msc d 3)), .int (nI 20)]) (rest := []) hx hb hml hown hE hl.1 hh (kc_X10_186 hE.2.1 ⟨Nat.le_of_ble_eq_true rfl, Nat.le_of_ble_eq_true rfl⟩) (c_X10_enter l Γ b M mem26 (cd := 0) (nd := nd) (cz := cz) (wz := wz) (iz := iz) (vz := vz) (md := (fuM way mh ml mli msc (mr, mrs, 0) d).2.2) (wh := wh) (sd := sd) (sk := sk) (ps := ps) (fc := fc) (mr := (fuM way mh ml mli msc (mr, mrs, 0) d).1) (mrs := (fuM way mh ml mli msc (mr, mrs, 0) d).2.1) (d := d) (mo := 20) (x := vwM way (fvS way mh ml mli msc d 3)) (by omega) f28 f29 f30 (ho.1) (by omega) (by omega)) rfl (by omega) f28 rfl rfl (Nat.le_of_ble_eq_true rfl) dX10_fuse_148 rfl rfl (fun H locs mem92 hP93 hh => ?_)
                      obtain ⟨f94, f95, f96, k97⟩ := hP93
                      have hfr98 : ∀ j, j ≠ 115 → j ≠ 130 → j ≠ 131 → j ≠ 134 → j ≠ 135 → mem92 j = mem j := fun j c0 c1 c2 c3 c4 => (k97 j (by omega) (by omega) (by omega)).trans (hfr27 j c0 c1 c2 c3 c4)
                      have f99 : mem92 134 = aN Γ 17 mf := (k97 _ (by omega) (by omega) (by omega)).trans f31
                      have f100 : mem92 135 = aD Γ 17 mfs := (k97 _ (by omega) (by omega) (by omega)).trans f32
                      have f101 : mem92 125 = aB Γ 3 mh := (k97 _ (by omega) (by omega) (by omega)).trans f33
                      have f102 : mem92 126 = aN Γ 3 ml := (k97 _ (by omega) (by omega) (by omega)).trans f34
                      have f103 : mem92 127 = aN Γ 60 mli := (k97 _ (by omega) (by omega) (by omega)).trans f35
                      have f104 : mem92 128 = aD Γ 60 msc := (k97 _ (by omega) (by omega) (by omega)).trans f36
                      refine nn_iinc (x := d) (d := 1) (lv' := [(2, .int (nI (d + 1))), (6, .int (nI 3)), (5, .int (nI ((fvS way mh ml mli msc d 3).2))), (3, .double ((fvS way mh ml mli msc d 3).1)), (0, .ref (b + 115)), (1, .int (nI way))]) hx hb dX10_fuse_151 hl (k := 3) rfl (by decide) (by decide) rfl (fun ls hl => ?_)
                      refine lv_goto (tgt := 64) hx hb dX10_fuse_154 (by decide) ?_
                      exact ih37 (d + 1) (by omega) (by omega) _ _ mem92 (by rw [hn2]; exact f94) (by rw [hn2]; exact f95) (by rw [hn2]; exact f96) (f99) (f100) hfr98 hh ls (lv_sub hl [0, 4, 5] rfl)
                    ·
                      have hvw : vwM way (fvS way mh ml mli msc d 3) = FP.dmul (fvS way mh ml mli msc d 3).1 (FP.i2d (nI (fvS way mh ml mli msc d 3).2)) := if_pos h91
                      refine lv_dload_n hx hb dX10_fuse_137 rfl (lv_at hl 2 rfl) ?_
                      refine lv_iload hx hb dX10_fuse_138 (lv_at hl 1 rfl) ?_
                      refine lv_i2d hx hb dX10_fuse_140 ?_
                      refine lv_dmul hx hb dX10_fuse_141 ((hvo.1.mulI (by omega) (by omega)).2) ?_
                      refine lv_goto (tgt := 146) hx hb dX10_fuse_142 (by decide) ?_
                      rw [← hvw]
                      refine lv_bipush (v := (nI 20)) hx hb dX10_fuse_146 (by decide) ?_
                      refine mm_V0 (As := [.int (nI d), .double (vwM way (fvS way mh ml mli msc d 3)), .int (nI 20)]) (rest := []) hx hb hml hown hE hl.1 hh (kc_X10_186 hE.2.1 ⟨Nat.le_of_ble_eq_true rfl, Nat.le_of_ble_eq_true rfl⟩) (c_X10_enter l Γ b M mem26 (cd := 0) (nd := nd) (cz := cz) (wz := wz) (iz := iz) (vz := vz) (md := (fuM way mh ml mli msc (mr, mrs, 0) d).2.2) (wh := wh) (sd := sd) (sk := sk) (ps := ps) (fc := fc) (mr := (fuM way mh ml mli msc (mr, mrs, 0) d).1) (mrs := (fuM way mh ml mli msc (mr, mrs, 0) d).2.1) (d := d) (mo := 20) (x := vwM way (fvS way mh ml mli msc d 3)) (by omega) f28 f29 f30 (ho.1) (by omega) (by omega)) rfl (by omega) f28 rfl rfl (Nat.le_of_ble_eq_true rfl) dX10_fuse_148 rfl rfl (fun H locs mem105 hP106 hh => ?_)
                      obtain ⟨f107, f108, f109, k110⟩ := hP106
                      have hfr111 : ∀ j, j ≠ 115 → j ≠ 130 → j ≠ 131 → j ≠ 134 → j ≠ 135 → mem105 j = mem j := fun j c0 c1 c2 c3 c4 => (k110 j (by omega) (by omega) (by omega)).trans (hfr27 j c0 c1 c2 c3 c4)
                      have f112 : mem105 134 = aN Γ 17 mf := (k110 _ (by omega) (by omega) (by omega)).trans f31
                      have f113 : mem105 135 = aD Γ 17 mfs := (k110 _ (by omega) (by omega) (by omega)).trans f32
                      have f114 : mem105 125 = aB Γ 3 mh := (k110 _ (by omega) (by omega) (by omega)).trans f33
                      have f115 : mem105 126 = aN Γ 3 ml := (k110 _ (by omega) (by omega) (by omega)).trans f34
                      have f116 : mem105 127 = aN Γ 60 mli := (k110 _ (by omega) (by omega) (by omega)).trans f35
                      have f117 : mem105 128 = aD Γ 60 msc := (k110 _ (by omega) (by omega) (by omega)).trans f36
                      refine nn_iinc (x := d) (d := 1) (lv' := [(2, .int (nI (d + 1))), (6, .int (nI 3)), (5, .int (nI ((fvS way mh ml mli msc d 3).2))), (3, .double ((fvS way mh ml mli msc d 3).1)), (0, .ref (b + 115)), (1, .int (nI way))]) hx hb dX10_fuse_151 hl (k := 3) rfl (by decide) (by decide) rfl (fun ls hl => ?_)
                      refine lv_goto (tgt := 64) hx hb dX10_fuse_154 (by decide) ?_
                      exact ih37 (d + 1) (by omega) (by omega) _ _ mem105 (by rw [hn2]; exact f107) (by rw [hn2]; exact f108) (by rw [hn2]; exact f109) (f112) (f113) hfr111 hh ls (lv_sub hl [0, 4, 5] rfl)
                ·
                  have hm20 := mlE_le hlok (show v < 3 by omega)
                  refine lv_aload_n hx hb dX10_fuse_86 rfl (lv_at hl 4 rfl) ?_
                  refine lv_iload hx hb dX10_fuse_87 (lv_at hl 0 rfl) ?_
                  refine lv_iload_n hx hb dX10_fuse_89 rfl (lv_at hl 3 rfl) ?_
                  refine mm_V0r (As := [.int (nI v), .int (nI d)]) (rest := []) hx hb hml hown hE hl.1 hh (kc_X10_236 hE.2.1 ⟨Nat.le_of_ble_eq_true rfl, Nat.le_of_ble_eq_true rfl⟩) (m_rankOfG l Γ b M mem26 (cd := 0) (nd := nd) (cz := cz) (wz := wz) (iz := iz) (vz := vz) (md := (fuM way mh ml mli msc (mr, mrs, 0) d).2.2) (wh := wh) (sd := sd) (sk := sk) (ps := ps) (fc := fc) (mh := mh) (ml := ml) (mli := mli) (v := v) (d := d) (by omega) f28 f33 f34 f35 (by omega) (hlok) (by omega) (hmlb v)) rfl (by omega) f28 rfl rfl (Nat.le_of_ble_eq_true rfl) dX10_fuse_90 rfl rfl (fun H locs hh => ?_)
                  refine lv_istore (lv' := [(7, .int (rkF (lfN mli v) d (mlE mh ml v))), (6, .int (nI v)), (5, .int (nI ((fvS way mh ml mli msc d v).2))), (3, .double ((fvS way mh ml mli msc d v).1)), (2, .int (nI d)), (0, .ref (b + 115)), (1, .int (nI way))]) hx hb dX10_fuse_93 hl (by decide) rfl (fun ls hl => ?_)
                  refine lv_iload hx hb dX10_fuse_95 (lv_at hl 0 rfl) ?_
                  refine lv_iconst (v := (-1)) hx hb dX10_fuse_97 (by decide) ?_
                  refine lv_icmp_ne (tgt := 104) hx hb dX10_fuse_98 (by decide) (fun h118 => ?_) (fun h118 => ?_)
                  ·
                    have g7 := rk_y _ hm20 h118
                    have g8 := mlE_t (mh := mh) (ml := ml) (v := v) (by omega)
                    have g9 := hlok v (by omega) g8.1
                    have g10 : rkN (lfN mli v) d (mlE mh ml v) < ml v := by have := g7.2.1; omega
                    rw [g7.1] at hl
                    have hn1 : (fvS way mh ml mli msc d (v + 1)) = (FP.dadd (fvS way mh ml mli msc d v).1 (shF way (lfD msc v) (ml v) (rkN (lfN mli v) d (mlE mh ml v))), (fvS way mh ml mli msc d v).2 + 1) := if_neg h118
                    refine lv_dload_n hx hb dX10_fuse_104 rfl (lv_at hl 3 rfl) ?_
                    refine lv_aload_n hx hb dX10_fuse_105 rfl (lv_at hl 5 rfl) ?_
                    refine lv_iload_n hx hb dX10_fuse_106 rfl (lv_at hl 6 rfl) ?_
                    refine lv_iload hx hb dX10_fuse_107 (lv_at hl 1 rfl) ?_
                    refine lv_iload hx hb dX10_fuse_109 (lv_at hl 0 rfl) ?_
                    refine mm_V0r (As := [.int (nI way), .int (nI v), .int (nI (rkN (lfN mli v) d (mlE mh ml v)))]) (rest := [.double ((fvS way mh ml mli msc d v).1)]) hx hb hml hown hE hl.1 hh (kc_X10_239 hE.2.1 ⟨Nat.le_of_ble_eq_true rfl, Nat.le_of_ble_eq_true rfl⟩) (m_share l Γ b M mem26 (cd := 0) (nd := nd) (cz := cz) (wz := wz) (iz := iz) (vz := vz) (md := (fuM way mh ml mli msc (mr, mrs, 0) d).2.2) (wh := wh) (sd := sd) (sk := sk) (ps := ps) (fc := fc) (ml := ml) (msc := msc) (v := v) (a := rkN (lfN mli v) d (mlE mh ml v)) (way := way) (by omega) f28 f34 f36 (by omega) (by omega) (by omega) (g9.1) (by omega)) rfl (by omega) f28 rfl rfl (Nat.le_of_ble_eq_true rfl) dX10_fuse_111 rfl rfl (fun H locs hh => ?_)
                    refine lv_dadd hx hb dX10_fuse_114 ((hvo.1.add (shF_n g9.1 g10 g9.2.1)).2) ?_
                    refine lv_dstore_n (lv' := [(3, .double (FP.dadd ((fvS way mh ml mli msc d v).1) (shF way (lfD msc v) (ml v) (rkN (lfN mli v) d (mlE mh ml v))))), (7, .int (nI (rkN (lfN mli v) d (mlE mh ml v)))), (6, .int (nI v)), (5, .int (nI ((fvS way mh ml mli msc d v).2))), (2, .int (nI d)), (0, .ref (b + 115)), (1, .int (nI way))]) hx hb dX10_fuse_115 rfl hl (by decide) rfl (fun ls hl => ?_)
                    refine nn_iinc (x := ((fvS way mh ml mli msc d v).2)) (d := 1) (lv' := [(5, .int (nI (((fvS way mh ml mli msc d v).2) + 1))), (3, .double (FP.dadd ((fvS way mh ml mli msc d v).1) (shF way (lfD msc v) (ml v) (rkN (lfN mli v) d (mlE mh ml v))))), (7, .int (nI (rkN (lfN mli v) d (mlE mh ml v)))), (6, .int (nI v)), (2, .int (nI d)), (0, .ref (b + 115)), (1, .int (nI way))]) hx hb dX10_fuse_116 hl (k := 3) rfl (by decide) (by decide) rfl (fun ls hl => ?_)
                    refine nn_iinc (x := v) (d := 1) (lv' := [(6, .int (nI (v + 1))), (5, .int (nI (((fvS way mh ml mli msc d v).2) + 1))), (3, .double (FP.dadd ((fvS way mh ml mli msc d v).1) (shF way (lfD msc v) (ml v) (rkN (lfN mli v) d (mlE mh ml v))))), (7, .int (nI (rkN (lfN mli v) d (mlE mh ml v)))), (2, .int (nI d)), (0, .ref (b + 115)), (1, .int (nI way))]) hx hb dX10_fuse_119 hl (k := 3) rfl (by decide) (by decide) rfl (fun ls hl => ?_)
                    refine lv_goto (tgt := 80) hx hb dX10_fuse_122 (by decide) ?_
                    exact ih88 (v + 1) (by omega) (by omega) _ _ hh ls (lv_sub hl [0, 1, 2, 4, 5, 6] (by rw [hn1]; rfl))
                  ·
                    have hn1 : (fvS way mh ml mli msc d (v + 1)) = (fvS way mh ml mli msc d v) := if_pos h118
                    refine lv_goto (tgt := 119) hx hb dX10_fuse_101 (by decide) ?_
                    refine nn_iinc (x := v) (d := 1) (lv' := [(6, .int (nI (v + 1))), (7, .int (rkF (lfN mli v) d (mlE mh ml v))), (5, .int (nI ((fvS way mh ml mli msc d v).2))), (3, .double ((fvS way mh ml mli msc d v).1)), (2, .int (nI d)), (0, .ref (b + 115)), (1, .int (nI way))]) hx hb dX10_fuse_119 hl (k := 1) rfl (by decide) (by decide) rfl (fun ls hl => ?_)
                    refine lv_goto (tgt := 80) hx hb dX10_fuse_122 (by decide) ?_
                    exact ih88 (v + 1) (by omega) (by omega) _ _ hh ls (lv_sub hl [0, 2, 3, 4, 5, 6] (by rw [hn1]; rfl))
            exact loop80 ((3 - 0) + 1) 0 (by omega) (by omega) _ _ hh ls (lv_sub hl [0, 1, 2, 3, 4, 5] rfl)
      exact loop64 ((nd - 0) + 1) 0 (by omega) (by omega) _ _ mem14 (f15) (f22) (f23) (f24) (f25) hfr17 hh ls (lv_sub hl [0, 1, 2] rfl)
    ·
      exact absurd h13 (by decide)
  refine lv_aload_n hx hb dX10_fuse_0 rfl (lv_at hl 0 rfl) ?_
  refine lv_iload_n hx hb dX10_fuse_1 rfl (lv_at hl 1 rfl) ?_
  refine lv_iconst (v := (nI 3)) hx hb dX10_fuse_2 (by decide) ?_
  refine mm_S0r (As := [.int (nI way), .int (nI 3)]) (rest := [.ref (b + 115)]) hx hb hml hown hE hl.1 hh (kc_X10_92 hE.2.1 ⟨Nat.le_of_ble_eq_true rfl, Nat.le_of_ble_eq_true rfl⟩) (c_X10_outside l Γ b M mem (v := (nI way)) (n := 3)) rfl rfl (Nat.le_of_ble_eq_true rfl) dX10_fuse_3 rfl rfl (fun H locs hh => ?_)
  refine nn_beq (tgt := 13) hx hb dX10_fuse_6 (by decide) (fun h119 => ?_) (fun h119 => ?_)
  ·
    refine lv_aload_n hx hb dX10_fuse_13 rfl (lv_at hl 0 rfl) ?_
    refine gf_X10_has hx hb hE hown hh (by omega) fM rfl dX10_fuse_14 ?_
    refine lv_iconst (v := (nI 0)) hx hb dX10_fuse_17 (by decide) ?_
    refine mm_zald hx hb hE hh (by omega) g125 (by omega) (by decide) dX10_fuse_18 ?_
    refine nn_bne (tgt := 44) hx hb dX10_fuse_19 (by decide) (fun h120 => ?_) (fun h120 => ?_)
    ·
      exact loop44 0 _ _ hh ls (lv_sub hl [0, 1] rfl)
    ·
      have g1 := h120
      refine lv_aload_n hx hb dX10_fuse_22 rfl (lv_at hl 0 rfl) ?_
      refine gf_X10_has hx hb hE hown hh (by omega) fM rfl dX10_fuse_23 ?_
      refine lv_iconst (v := (nI 1)) hx hb dX10_fuse_26 (by decide) ?_
      refine mm_zald hx hb hE hh (by omega) g125 (by omega) (by decide) dX10_fuse_27 ?_
      refine nn_bne (tgt := 44) hx hb dX10_fuse_28 (by decide) (fun h121 => ?_) (fun h121 => ?_)
      ·
        exact loop44 0 _ _ hh ls (lv_sub hl [0, 1] rfl)
      ·
        have g2 := h121
        refine lv_aload_n hx hb dX10_fuse_31 rfl (lv_at hl 0 rfl) ?_
        refine gf_X10_has hx hb hE hown hh (by omega) fM rfl dX10_fuse_32 ?_
        refine lv_iconst (v := (nI 2)) hx hb dX10_fuse_35 (by decide) ?_
        refine mm_zald hx hb hE hh (by omega) g125 (by omega) (by decide) dX10_fuse_36 ?_
        refine nn_bne (tgt := 44) hx hb dX10_fuse_37 (by decide) (fun h122 => ?_) (fun h122 => ?_)
        ·
          exact loop44 0 _ _ hh ls (lv_sub hl [0, 1] rfl)
        ·
          exact absurd han (by rw [g1, g2, h122]; decide)
  ·
    exact (nt_tf h119 (inR_y (show way < 3 by omega) (by decide))).elim
set_option maxHeartbeats 4000000 in
set_option maxRecDepth 100000 in
/-- reference: fuse, 1 -/
theorem m_fuse_1 (l : Launch) (Γ : Gm) (b M : Nat) (mem : Nat → va_E) {cd nd cz wz iz vz md wh sd sk ps fc : Nat} {w : Int32}  (hM : 138 ≤ M) (fM : mem 115 = .inr (9, [.int (nI cd), .int (nI nd), .ref (b + 116), .ref (b + 117), .ref (b + 118), .ref (b + 119), .int (nI cz), .ref (b + 120), .int (nI wz), .int (nI iz), .int (nI vz), .ref (b + 121), .ref (b + 122), .ref (b + 123), .ref (b + 124), .ref (b + 125), .ref (b + 126), .ref (b + 127), .ref (b + 128), .ref (b + 129), .int (nI md), .ref (b + 130), .ref (b + 131), .int (nI wh), .ref (b + 132), .ref (b + 133), .int (nI sd), .int (nI sk), .int (nI ps), .int (nI fc), .ref (b + 134), .ref (b + 135)])) (hwn : inR w 3 = false) : Ct l yX10_fuse (.code yX10_fuse cX10_fuse 8 (some .int)) ({ frames := 1, cells := 0, slots := 0, locals := 21 } : Room) Γ b M [.ref (b + 115), .int w] mem (fun u => u 115 = .inr (9, [.int (nI 1), .int (nI nd), .ref (b + 116), .ref (b + 117), .ref (b + 118), .ref (b + 119), .int (nI cz), .ref (b + 120), .int (nI wz), .int (nI iz), .int (nI vz), .ref (b + 121), .ref (b + 122), .ref (b + 123), .ref (b + 124), .ref (b + 125), .ref (b + 126), .ref (b + 127), .ref (b + 128), .ref (b + 129), .int (nI md), .ref (b + 130), .ref (b + 131), .int (nI wh), .ref (b + 132), .ref (b + 133), .int (nI sd), .int (nI sk), .int (nI ps), .int (nI fc), .ref (b + 134), .ref (b + 135)]) ∧ ∀ j, j ≠ 115 → u j = mem j) (some (.int (nI 0))) := by
  refine mm_enter (cc := cX10_fuse) (by decide) (Nat.le_of_ble_eq_true rfl) ?_
  intro p e s m args below meth c ls hx hb hml hown hr hlocks hname hE hh hl
  have hl : lv_has ls 8 [(0, .ref (b + 115)), (1, .int w)] := hl
  have hfr : ∀ j, j ≠ 115 → mem j = mem j := fun j _ => rfl
  refine lv_aload_n hx hb dX10_fuse_0 rfl (lv_at hl 0 rfl) ?_
  refine lv_iload_n hx hb dX10_fuse_1 rfl (lv_at hl 1 rfl) ?_
  refine lv_iconst (v := (nI 3)) hx hb dX10_fuse_2 (by decide) ?_
  refine mm_S0r (As := [.int w, .int (nI 3)]) (rest := [.ref (b + 115)]) hx hb hml hown hE hl.1 hh (kc_X10_92 hE.2.1 ⟨Nat.le_of_ble_eq_true rfl, Nat.le_of_ble_eq_true rfl⟩) (c_X10_outside l Γ b M mem (v := w) (n := 3)) rfl rfl (Nat.le_of_ble_eq_true rfl) dX10_fuse_3 rfl rfl (fun H locs hh => ?_)
  refine nn_beq (tgt := 13) hx hb dX10_fuse_6 (by decide) (fun h1 => ?_) (fun h1 => ?_)
  ·
    exact (no_tf (nf_ff h1) hwn).elim
  ·
    refine lv_iconst (v := (nI 1)) hx hb dX10_fuse_9 (by decide) ?_
    refine lv_goto (tgt := 45) hx hb dX10_fuse_10 (by decide) ?_
    refine gp_X10_code (fs' := [.int (nI 1), .int (nI nd), .ref (b + 116), .ref (b + 117), .ref (b + 118), .ref (b + 119), .int (nI cz), .ref (b + 120), .int (nI wz), .int (nI iz), .int (nI vz), .ref (b + 121), .ref (b + 122), .ref (b + 123), .ref (b + 124), .ref (b + 125), .ref (b + 126), .ref (b + 127), .ref (b + 128), .ref (b + 129), .int (nI md), .ref (b + 130), .ref (b + 131), .int (nI wh), .ref (b + 132), .ref (b + 133), .int (nI sd), .int (nI sk), .int (nI ps), .int (nI fc), .ref (b + 134), .ref (b + 135)]) hx hb hE hown hh (by omega) fM rfl rfl (show 0 < 32 by decide) rfl dX10_fuse_45 (fun H locs mem2 f3 k4 hh => ?_)
    have hfr5 : ∀ j, j ≠ 115 → mem2 j = mem j := fun j c0 => (k4 j (by omega)).trans (hfr j c0)
    refine lv_aload_n hx hb dX10_fuse_48 rfl (lv_at hl 0 rfl) ?_
    refine gf_X10_code hx hb hE hown hh (by omega) f3 rfl dX10_fuse_49 ?_
    refine nn_if_le (tgt := 57) hx hb dX10_fuse_52 (by decide) (by omega) (fun h6 => ?_) (fun h6 => ?_)
    ·
      exact absurd h6 (by decide)
    ·
      refine lv_iconst (v := (nI 0)) hx hb dX10_fuse_55 (by decide) ?_
      exact mm_iret hx hb hr hlocks hE hh (rfl) (⟨f3, hfr5⟩) dX10_fuse_56
set_option maxHeartbeats 4000000 in
set_option maxRecDepth 100000 in
/-- reference: fuse, 2 -/
theorem m_fuse_2 (l : Launch) (Γ : Gm) (b M : Nat) (mem : Nat → va_E) {cd nd cz wz iz vz md wh sd sk ps fc : Nat} {mh : Nat → Bool} {way : Nat}  (hM : 138 ≤ M) (fM : mem 115 = .inr (9, [.int (nI cd), .int (nI nd), .ref (b + 116), .ref (b + 117), .ref (b + 118), .ref (b + 119), .int (nI cz), .ref (b + 120), .int (nI wz), .int (nI iz), .int (nI vz), .ref (b + 121), .ref (b + 122), .ref (b + 123), .ref (b + 124), .ref (b + 125), .ref (b + 126), .ref (b + 127), .ref (b + 128), .ref (b + 129), .int (nI md), .ref (b + 130), .ref (b + 131), .int (nI wh), .ref (b + 132), .ref (b + 133), .int (nI sd), .int (nI sk), .int (nI ps), .int (nI fc), .ref (b + 134), .ref (b + 135)])) (g125 : mem 125 = aB Γ 3 mh) (hw : way < 3) (hn3 : mh 0 = false ∧ mh 1 = false ∧ mh 2 = false) : Ct l yX10_fuse (.code yX10_fuse cX10_fuse 8 (some .int)) ({ frames := 1, cells := 0, slots := 0, locals := 21 } : Room) Γ b M [.ref (b + 115), .int (nI way)] mem (fun u => u 115 = .inr (9, [.int (nI 2), .int (nI nd), .ref (b + 116), .ref (b + 117), .ref (b + 118), .ref (b + 119), .int (nI cz), .ref (b + 120), .int (nI wz), .int (nI iz), .int (nI vz), .ref (b + 121), .ref (b + 122), .ref (b + 123), .ref (b + 124), .ref (b + 125), .ref (b + 126), .ref (b + 127), .ref (b + 128), .ref (b + 129), .int (nI md), .ref (b + 130), .ref (b + 131), .int (nI wh), .ref (b + 132), .ref (b + 133), .int (nI sd), .int (nI sk), .int (nI ps), .int (nI fc), .ref (b + 134), .ref (b + 135)]) ∧ ∀ j, j ≠ 115 → u j = mem j) (some (.int (nI 0))) := by
  refine mm_enter (cc := cX10_fuse) (by decide) (Nat.le_of_ble_eq_true rfl) ?_
  intro p e s m args below meth c ls hx hb hml hown hr hlocks hname hE hh hl
  have hl : lv_has ls 8 [(0, .ref (b + 115)), (1, .int (nI way))] := hl
  have hfr : ∀ j, j ≠ 115 → mem j = mem j := fun j _ => rfl
  refine lv_aload_n hx hb dX10_fuse_0 rfl (lv_at hl 0 rfl) ?_
  refine lv_iload_n hx hb dX10_fuse_1 rfl (lv_at hl 1 rfl) ?_
  refine lv_iconst (v := (nI 3)) hx hb dX10_fuse_2 (by decide) ?_
  refine mm_S0r (As := [.int (nI way), .int (nI 3)]) (rest := [.ref (b + 115)]) hx hb hml hown hE hl.1 hh (kc_X10_92 hE.2.1 ⟨Nat.le_of_ble_eq_true rfl, Nat.le_of_ble_eq_true rfl⟩) (c_X10_outside l Γ b M mem (v := (nI way)) (n := 3)) rfl rfl (Nat.le_of_ble_eq_true rfl) dX10_fuse_3 rfl rfl (fun H locs hh => ?_)
  refine nn_beq (tgt := 13) hx hb dX10_fuse_6 (by decide) (fun h1 => ?_) (fun h1 => ?_)
  ·
    refine lv_aload_n hx hb dX10_fuse_13 rfl (lv_at hl 0 rfl) ?_
    refine gf_X10_has hx hb hE hown hh (by omega) fM rfl dX10_fuse_14 ?_
    refine lv_iconst (v := (nI 0)) hx hb dX10_fuse_17 (by decide) ?_
    refine mm_zald hx hb hE hh (by omega) g125 (by omega) (by decide) dX10_fuse_18 ?_
    refine nn_bne (tgt := 44) hx hb dX10_fuse_19 (by decide) (fun h2 => ?_) (fun h2 => ?_)
    ·
      exact (no_tf h2 hn3.1).elim
    ·
      refine lv_aload_n hx hb dX10_fuse_22 rfl (lv_at hl 0 rfl) ?_
      refine gf_X10_has hx hb hE hown hh (by omega) fM rfl dX10_fuse_23 ?_
      refine lv_iconst (v := (nI 1)) hx hb dX10_fuse_26 (by decide) ?_
      refine mm_zald hx hb hE hh (by omega) g125 (by omega) (by decide) dX10_fuse_27 ?_
      refine nn_bne (tgt := 44) hx hb dX10_fuse_28 (by decide) (fun h3 => ?_) (fun h3 => ?_)
      ·
        exact (no_tf h3 hn3.2.1).elim
      ·
        refine lv_aload_n hx hb dX10_fuse_31 rfl (lv_at hl 0 rfl) ?_
        refine gf_X10_has hx hb hE hown hh (by omega) fM rfl dX10_fuse_32 ?_
        refine lv_iconst (v := (nI 2)) hx hb dX10_fuse_35 (by decide) ?_
        refine mm_zald hx hb hE hh (by omega) g125 (by omega) (by decide) dX10_fuse_36 ?_
        refine nn_bne (tgt := 44) hx hb dX10_fuse_37 (by decide) (fun h4 => ?_) (fun h4 => ?_)
        ·
          exact (no_tf h4 hn3.2.2).elim
        ·
          refine lv_iconst (v := (nI 2)) hx hb dX10_fuse_40 (by decide) ?_
          refine lv_goto (tgt := 45) hx hb dX10_fuse_41 (by decide) ?_
          refine gp_X10_code (fs' := [.int (nI 2), .int (nI nd), .ref (b + 116), .ref (b + 117), .ref (b + 118), .ref (b + 119), .int (nI cz), .ref (b + 120), .int (nI wz), .int (nI iz), .int (nI vz), .ref (b + 121), .ref (b + 122), .ref (b + 123), .ref (b + 124), .ref (b + 125), .ref (b + 126), .ref (b + 127), .ref (b + 128), .ref (b + 129), .int (nI md), .ref (b + 130), .ref (b + 131), .int (nI wh), .ref (b + 132), .ref (b + 133), .int (nI sd), .int (nI sk), .int (nI ps), .int (nI fc), .ref (b + 134), .ref (b + 135)]) hx hb hE hown hh (by omega) fM rfl rfl (show 0 < 32 by decide) rfl dX10_fuse_45 (fun H locs mem5 f6 k7 hh => ?_)
          have hfr8 : ∀ j, j ≠ 115 → mem5 j = mem j := fun j c0 => (k7 j (by omega)).trans (hfr j c0)
          have f9 : mem5 125 = aB Γ 3 mh := (k7 _ (by omega)).trans g125
          refine lv_aload_n hx hb dX10_fuse_48 rfl (lv_at hl 0 rfl) ?_
          refine gf_X10_code hx hb hE hown hh (by omega) f6 rfl dX10_fuse_49 ?_
          refine nn_if_le (tgt := 57) hx hb dX10_fuse_52 (by decide) (by omega) (fun h10 => ?_) (fun h10 => ?_)
          ·
            exact absurd h10 (by decide)
          ·
            refine lv_iconst (v := (nI 0)) hx hb dX10_fuse_55 (by decide) ?_
            exact mm_iret hx hb hr hlocks hE hh (rfl) (⟨f6, hfr8⟩) dX10_fuse_56
  ·
    exact (nt_tf h1 (inR_y hw (by decide))).elim
