/-! RANKING: the pure words -/
def isBf (d : Nat) (x : UInt64) (d2 : Nat) (x2 : UInt64) : Bool := decide (FP.dcmp x x2 = some .gt ∨ (FP.dcmp x x2 = some .eq ∧ d < d2))
def plc (d : Nat) (x : UInt64) (dc : Nat → Nat) (sc : Nat → UInt64) : Nat → Nat
  | 0 => 0
  | k + 1 => if isBf d x (dc k) (sc k) = true then plc d x dc sc k else k + 1
theorem plc_le (d : Nat) (x : UInt64) (dc : Nat → Nat) (sc : Nat → UInt64) : ∀ k, plc d x dc sc k ≤ k
  | 0 => Nat.le_refl 0
  | k + 1 => by
    unfold plc
    split
    · exact Nat.le_succ_of_le (plc_le d x dc sc k)
    · exact Nat.le_refl _
def shf {α : Type} (f : Nat → α) (i n : Nat) : Nat → α := fun j => if i < j ∧ j < n then f (j - 1) else f j
theorem shf_0 {α : Type} (f : Nat → α) (i n : Nat) (h : n ≤ i + 1) : shf f i n = f := by
  funext j
  unfold shf
  rw [if_neg (by omega)]
theorem shf_s {α : Type} (f : Nat → α) (i n : Nat) (h0 : 1 ≤ i) (h : i < n) : va_up (shf f i n) i (shf f i n (i - 1)) = shf f (i - 1) n := by
  funext j
  unfold va_up shf
  by_cases e : j = i
  · subst e
    rw [if_pos rfl, if_neg (by omega), if_pos (by omega)]
  · rw [if_neg e]
    by_cases e2 : i < j ∧ j < n
    · rw [if_pos e2, if_pos (by omega)]
    · rw [if_neg e2, if_neg (by omega)]
def insF {α : Type} (f : Nat → α) (q n : Nat) (v : α) : Nat → α := va_up (shf f q n) q v
def offN (lim sz q : Nat) : Nat := if q < lim then (if sz < lim then sz + 1 else sz) else sz
theorem offN_ge {lim sz q : Nat} (h : lim ≤ q) : offN lim sz q = sz := if_neg (by omega)
def offF {α : Type} (f : Nat → α) (lim sz q : Nat) (v : α) : Nat → α := if q < lim then insF f q (offN lim sz q) v else f
theorem offF_ge {α : Type} (f : Nat → α) {lim sz q : Nat} (v : α) (h : lim ≤ q) : offF f lim sz q v = f := if_neg (by omega)
theorem off_fin {α : Type} (f : Nat → α) {lim sz q i qq nn : Nat} (v : α) (hqq : qq = q) (hq : qq < lim) (hnn : nn = offN lim sz qq) (hi : i = qq) : va_up (shf f i nn) qq v = offF f lim sz q v := by
  subst hqq
  subst hi
  subst hnn
  exact (if_pos hq).symm
theorem plc_0 {d : Nat} {x : UInt64} {dc : Nat → Nat} {sc : Nat → UInt64} {k q : Nat} (h : plc d x dc sc k = q) (h0 : k = 0) : k = q := by
  subst h0
  exact h
theorem plc_no {d : Nat} {x : UInt64} {dc : Nat → Nat} {sc : Nat → UInt64} {k q : Nat} (h : plc d x dc sc k = q) (h0 : 0 < k) (hb : isBf d x (dc (k - 1)) (sc (k - 1)) = false) : k = q := by
  obtain ⟨z, rfl⟩ : ∃ z, k = z + 1 := ⟨k - 1, by omega⟩
  rw [← h]
  exact (if_neg (by rw [Nat.add_sub_cancel] at hb; rw [hb]; decide)).symm
theorem plc_go {d : Nat} {x : UInt64} {dc : Nat → Nat} {sc : Nat → UInt64} {k q : Nat} (h : plc d x dc sc k = q) (h0 : 0 < k) (hb : isBf d x (dc (k - 1)) (sc (k - 1)) = true) : plc d x dc sc (k - 1) = q := by
  obtain ⟨z, rfl⟩ : ∃ z, k = z + 1 := ⟨k - 1, by omega⟩
  rw [← h]
  rw [Nat.add_sub_cancel] at hb ⊢
  exact (if_pos hb).symm

set_option maxHeartbeats 4000000 in
set_option maxRecDepth 100000 in
/-- Ranking.start -/
theorem c_X4_start (l : Launch) (Γ : Gm) (b M : Nat) (mem : Nat → va_E) {a lim sz : Nat} {k : Nat} (hM : a + 3 ≤ M) (fa : mem a = .inr (4, [.ref (b + (a + 1)), .ref (b + (a + 2)), .int (nI lim), .int (nI sz)])) (hk : k < 2 ^ 31) : Ct l yX4_start (.code yX4_start cX4_start 2 none) ({ frames := 1, cells := 0, slots := 0, locals := 14 } : Room) Γ b M [.ref (b + a), .int (nI k)] mem (fun u => u a = .inr (4, [.ref (b + (a + 1)), .ref (b + (a + 2)), .int (nI (min k 20)), .int (nI 0)]) ∧ ∀ j, j ≠ a → u j = mem j) none := by
  refine mm_enter (cc := cX4_start) (by decide) (Nat.le_of_ble_eq_true rfl) ?_
  intro p e s m args below meth c ls hx hb hml hown hr hlocks hname hE hh hl
  have hl : lv_has ls 2 [(0, .ref (b + a)), (1, .int (nI k))] := hl
  have hfr : ∀ j, j ≠ a → mem j = mem j := fun j _ => rfl
  refine lv_aload_n hx hb dX4_start_0 rfl (lv_at hl 0 rfl) ?_
  refine lv_iload_n hx hb dX4_start_1 rfl (lv_at hl 1 rfl) ?_
  refine lv_bipush (v := (nI 20)) hx hb dX4_start_2 (by decide) ?_
  refine nn_mmin hx hb hml hl.1 hown hE.2.1 (wl_X4_19 hE.2.1 args) (Nat.le_of_ble_eq_true rfl) (Nat.le_of_ble_eq_true rfl) (by omega) (by omega) dX4_start_4 ?_
  refine gp_X4_limit (fs' := [.ref (b + (a + 1)), .ref (b + (a + 2)), .int (nI (min k 20)), .int (nI sz)]) hx hb hE hown hh (by omega) fa rfl rfl (show 2 < 4 by decide) rfl dX4_start_7 (fun H locs mem1 f2 k3 hh => ?_)
  have hfr4 : ∀ j, j ≠ a → mem1 j = mem j := fun j c0 => (k3 j (by omega)).trans (hfr j c0)
  refine lv_aload_n hx hb dX4_start_10 rfl (lv_at hl 0 rfl) ?_
  refine lv_iconst (v := (nI 0)) hx hb dX4_start_11 (by decide) ?_
  refine gp_X4_size (fs' := [.ref (b + (a + 1)), .ref (b + (a + 2)), .int (nI (min k 20)), .int (nI 0)]) hx hb hE hown hh (by omega) f2 rfl rfl (show 3 < 4 by decide) rfl dX4_start_12 (fun H locs mem5 f6 k7 hh => ?_)
  have hfr8 : ∀ j, j ≠ a → mem5 j = mem j := fun j c0 => (k7 j (by omega)).trans (hfr4 j c0)
  exact mm_vret hx hb hr hlocks hE hh (⟨f6, hfr8⟩) dX4_start_15
set_option maxHeartbeats 4000000 in
set_option maxRecDepth 100000 in
/-- Ranking.size -/
theorem c_X4_size (l : Launch) (Γ : Gm) (b M : Nat) (mem : Nat → va_E) {a lim sz : Nat} (hM : a + 3 ≤ M) (fa : mem a = .inr (4, [.ref (b + (a + 1)), .ref (b + (a + 2)), .int (nI lim), .int (nI sz)])) : Ct l yX4_size (.code yX4_size cX4_size 1 (some .int)) ({ frames := 0, cells := 0, slots := 0, locals := 0 } : Room) Γ b M [.ref (b + a)] mem (fun u => u = mem) (some (.int (nI sz))) := by
  refine mm_enter (cc := cX4_size) (by decide) (Nat.le_of_ble_eq_true rfl) ?_
  intro p e s m args below meth c ls hx hb hml hown hr hlocks hname hE hh hl
  have hl : lv_has ls 1 [(0, .ref (b + a))] := hl
  refine lv_aload_n hx hb dX4_size_0 rfl (lv_at hl 0 rfl) ?_
  refine gf_X4_size hx hb hE hown hh (by omega) fa rfl dX4_size_1 ?_
  exact mm_iret hx hb hr hlocks hE hh (rfl) (rfl) dX4_size_4
set_option maxHeartbeats 4000000 in
set_option maxRecDepth 100000 in
/-- Ranking.holdsPlace -/
theorem c_X4_holdsPlace (l : Launch) (Γ : Gm) (b M : Nat) (mem : Nat → va_E) {a lim sz : Nat} {i : Int32} (hM : a + 3 ≤ M) (fa : mem a = .inr (4, [.ref (b + (a + 1)), .ref (b + (a + 2)), .int (nI lim), .int (nI sz)])) : Ct l yX4_holdsPlace (.code yX4_holdsPlace cX4_holdsPlace 2 (some .boolean)) ({ frames := 0, cells := 0, slots := 0, locals := 0 } : Room) Γ b M [.ref (b + a), .int i] mem (fun u => u = mem) (some (.int (bI (decide (¬ i < 0 ∧ ¬ nI sz ≤ i))))) := by
  refine mm_enter (cc := cX4_holdsPlace) (by decide) (Nat.le_of_ble_eq_true rfl) ?_
  intro p e s m args below meth c ls hx hb hml hown hr hlocks hname hE hh hl
  have hl : lv_has ls 2 [(0, .ref (b + a)), (1, .int i)] := hl
  refine lv_iload_n hx hb dX4_holdsPlace_0 rfl (lv_at hl 1 rfl) ?_
  refine lv_if_lt (tgt := 16) hx hb dX4_holdsPlace_1 (by decide) (fun h1 => ?_) (fun h1 => ?_)
  ·
    refine lv_iconst (v := (nI 0)) hx hb dX4_holdsPlace_16 (by decide) ?_
    exact mm_zret hx hb hr hlocks hE hh (by simp_all [bI, nI]) (rfl) rfl dX4_holdsPlace_17
  ·
    refine lv_iload_n hx hb dX4_holdsPlace_4 rfl (lv_at hl 1 rfl) ?_
    refine lv_aload_n hx hb dX4_holdsPlace_5 rfl (lv_at hl 0 rfl) ?_
    refine gf_X4_size hx hb hE hown hh (by omega) fa rfl dX4_holdsPlace_6 ?_
    refine lv_icmp_ge (tgt := 16) hx hb dX4_holdsPlace_9 (by decide) (fun h2 => ?_) (fun h2 => ?_)
    ·
      refine lv_iconst (v := (nI 0)) hx hb dX4_holdsPlace_16 (by decide) ?_
      exact mm_zret hx hb hr hlocks hE hh (by simp_all [bI, nI]) (rfl) rfl dX4_holdsPlace_17
    ·
      refine lv_iconst (v := (nI 1)) hx hb dX4_holdsPlace_12 (by decide) ?_
      refine lv_goto (tgt := 17) hx hb dX4_holdsPlace_13 (by decide) ?_
      exact mm_zret hx hb hr hlocks hE hh (by simp_all [bI, nI]) (rfl) rfl dX4_holdsPlace_17
set_option maxHeartbeats 4000000 in
set_option maxRecDepth 100000 in
/-- Ranking.documentAt -/
theorem c_X4_documentAt (l : Launch) (Γ : Gm) (b M : Nat) (mem : Nat → va_E) {a lim sz i : Nat} {dc : Nat → Nat} (hM : a + 3 ≤ M) (fa : mem a = .inr (4, [.ref (b + (a + 1)), .ref (b + (a + 2)), .int (nI lim), .int (nI sz)])) (fd : mem (a + 1) = aN Γ 20 dc) (hi : i < 20) : Ct l yX4_documentAt (.code yX4_documentAt cX4_documentAt 2 (some .int)) ({ frames := 0, cells := 0, slots := 0, locals := 0 } : Room) Γ b M [.ref (b + a), .int (nI i)] mem (fun u => u = mem) (some (.int (nI (dc i)))) := by
  refine mm_enter (cc := cX4_documentAt) (by decide) (Nat.le_of_ble_eq_true rfl) ?_
  intro p e s m args below meth c ls hx hb hml hown hr hlocks hname hE hh hl
  have hl : lv_has ls 2 [(0, .ref (b + a)), (1, .int (nI i))] := hl
  refine lv_aload_n hx hb dX4_documentAt_0 rfl (lv_at hl 0 rfl) ?_
  refine gf_X4_documents hx hb hE hown hh (by omega) fa rfl dX4_documentAt_1 ?_
  refine lv_iload_n hx hb dX4_documentAt_4 rfl (lv_at hl 1 rfl) ?_
  refine mm_iald hx hb hE hh (by omega) fd (by omega) (by decide) dX4_documentAt_5 ?_
  exact mm_iret hx hb hr hlocks hE hh (rfl) (rfl) dX4_documentAt_6
set_option maxHeartbeats 4000000 in
set_option maxRecDepth 100000 in
/-- Ranking.scoreAt -/
theorem c_X4_scoreAt (l : Launch) (Γ : Gm) (b M : Nat) (mem : Nat → va_E) {a lim sz i : Nat} {sc : Nat → UInt64} (hM : a + 3 ≤ M) (fa : mem a = .inr (4, [.ref (b + (a + 1)), .ref (b + (a + 2)), .int (nI lim), .int (nI sz)])) (fs : mem (a + 2) = aD Γ 20 sc) (hi : i < 20) : Ct l yX4_scoreAt (.code yX4_scoreAt cX4_scoreAt 2 (some .double)) ({ frames := 0, cells := 0, slots := 0, locals := 0 } : Room) Γ b M [.ref (b + a), .int (nI i)] mem (fun u => u = mem) (some (.double (sc i))) := by
  refine mm_enter (cc := cX4_scoreAt) (by decide) (Nat.le_of_ble_eq_true rfl) ?_
  intro p e s m args below meth c ls hx hb hml hown hr hlocks hname hE hh hl
  have hl : lv_has ls 2 [(0, .ref (b + a)), (1, .int (nI i))] := hl
  refine lv_aload_n hx hb dX4_scoreAt_0 rfl (lv_at hl 0 rfl) ?_
  refine gf_X4_scores hx hb hE hown hh (by omega) fa rfl dX4_scoreAt_1 ?_
  refine lv_iload_n hx hb dX4_scoreAt_4 rfl (lv_at hl 1 rfl) ?_
  refine mm_dald hx hb hE hh (by omega) fs (by omega) (by decide) dX4_scoreAt_5 ?_
  exact mm_dret hx hb hr hlocks hE hh (rfl) (rfl) dX4_scoreAt_6
set_option maxHeartbeats 4000000 in
set_option maxRecDepth 100000 in
/-- Ranking.isBefore -/
theorem c_X4_isBefore (l : Launch) (Γ : Gm) (b M : Nat) (mem : Nat → va_E) {a lim sz k : Nat} {d : Nat} {x : UInt64} {dc : Nat → Nat} {sc : Nat → UInt64} (hM : a + 3 ≤ M) (fa : mem a = .inr (4, [.ref (b + (a + 1)), .ref (b + (a + 2)), .int (nI lim), .int (nI sz)])) (fd : mem (a + 1) = aN Γ 20 dc) (fs : mem (a + 2) = aD Γ 20 sc) (hk : k < 20) (hd : d < 16) (hdc : ∀ j, dc j < 16) : Ct l yX4_isBefore (.code yX4_isBefore cX4_isBefore 5 (some .boolean)) ({ frames := 0, cells := 0, slots := 0, locals := 0 } : Room) Γ b M [.ref (b + a), .int (nI d), .double x, .int (nI k)] mem (fun u => u = mem) (some (.int (bI (isBf d x (dc k) (sc k))))) := by
  refine mm_enter (cc := cX4_isBefore) (by decide) (Nat.le_of_ble_eq_true rfl) ?_
  intro p e s m args below meth c ls hx hb hml hown hr hlocks hname hE hh hl
  have hl : lv_has ls 5 [(0, .ref (b + a)), (1, .int (nI d)), (2, .double x), (4, .int (nI k))] := hl
  have hdk := hdc k
  refine lv_dload_n hx hb dX4_isBefore_0 rfl (lv_at hl 2 rfl) ?_
  refine lv_aload_n hx hb dX4_isBefore_1 rfl (lv_at hl 0 rfl) ?_
  refine gf_X4_scores hx hb hE hown hh (by omega) fa rfl dX4_isBefore_2 ?_
  refine lv_iload hx hb dX4_isBefore_5 (lv_at hl 3 rfl) ?_
  refine mm_dald hx hb hE hh (by omega) fs (by omega) (by decide) dX4_isBefore_7 ?_
  refine lv_dcmp hx hb dX4_isBefore_8 ?_
  refine nn_cl_gt (tgt := 35) hx hb dX4_isBefore_9 (by decide) (fun h1 => ?_) (fun h1 => ?_)
  ·
    refine lv_iconst (v := (nI 1)) hx hb dX4_isBefore_35 (by decide) ?_
    refine lv_goto (tgt := 40) hx hb dX4_isBefore_36 (by decide) ?_
    exact mm_zret hx hb hr hlocks hE hh (by simp_all [bI, nI, isBf]; try omega) (rfl) rfl dX4_isBefore_40
  ·
    refine lv_dload_n hx hb dX4_isBefore_12 rfl (lv_at hl 2 rfl) ?_
    refine lv_aload_n hx hb dX4_isBefore_13 rfl (lv_at hl 0 rfl) ?_
    refine gf_X4_scores hx hb hE hown hh (by omega) fa rfl dX4_isBefore_14 ?_
    refine lv_iload hx hb dX4_isBefore_17 (lv_at hl 3 rfl) ?_
    refine mm_dald hx hb hE hh (by omega) fs (by omega) (by decide) dX4_isBefore_19 ?_
    refine lv_dcmp hx hb dX4_isBefore_20 ?_
    refine nn_cl_ne (tgt := 39) hx hb dX4_isBefore_21 (by decide) (fun h2 => ?_) (fun h2 => ?_)
    ·
      refine lv_iconst (v := (nI 0)) hx hb dX4_isBefore_39 (by decide) ?_
      exact mm_zret hx hb hr hlocks hE hh (by simp_all [bI, nI, isBf]; try omega) (rfl) rfl dX4_isBefore_40
    ·
      refine lv_iload_n hx hb dX4_isBefore_24 rfl (lv_at hl 1 rfl) ?_
      refine lv_aload_n hx hb dX4_isBefore_25 rfl (lv_at hl 0 rfl) ?_
      refine gf_X4_documents hx hb hE hown hh (by omega) fa rfl dX4_isBefore_26 ?_
      refine lv_iload hx hb dX4_isBefore_29 (lv_at hl 3 rfl) ?_
      refine mm_iald hx hb hE hh (by omega) fd (by omega) (by decide) dX4_isBefore_31 ?_
      refine nn_icmp_ge (tgt := 39) hx hb dX4_isBefore_32 (by decide) (by omega) (by omega) (fun h3 => ?_) (fun h3 => ?_)
      ·
        refine lv_iconst (v := (nI 0)) hx hb dX4_isBefore_39 (by decide) ?_
        exact mm_zret hx hb hr hlocks hE hh (by simp_all [bI, nI, isBf]; try omega) (rfl) rfl dX4_isBefore_40
      ·
        refine lv_iconst (v := (nI 1)) hx hb dX4_isBefore_35 (by decide) ?_
        refine lv_goto (tgt := 40) hx hb dX4_isBefore_36 (by decide) ?_
        exact mm_zret hx hb hr hlocks hE hh (by simp_all [bI, nI, isBf]; try omega) (rfl) rfl dX4_isBefore_40
set_option maxHeartbeats 4000000 in
set_option maxRecDepth 100000 in
/-- Ranking.offer -/
theorem c_X4_offer (l : Launch) (Γ : Gm) (b M : Nat) (mem : Nat → va_E) {a lim sz : Nat} {d : Nat} {x : UInt64} {dc : Nat → Nat} {sc : Nat → UInt64} (hM : a + 3 ≤ M) (fa : mem a = .inr (4, [.ref (b + (a + 1)), .ref (b + (a + 2)), .int (nI lim), .int (nI sz)])) (fd : mem (a + 1) = aN Γ 20 dc) (fs : mem (a + 2) = aD Γ 20 sc) (hsz : sz ≤ lim) (hlim : lim ≤ 20) (hd : d < 16) (hdc : ∀ j, dc j < 16) : Ct l yX4_offer (.code yX4_offer cX4_offer 6 none) ({ frames := 1, cells := 0, slots := 0, locals := 24 } : Room) Γ b M [.ref (b + a), .int (nI d), .double x] mem (fun u => u a = .inr (4, [.ref (b + (a + 1)), .ref (b + (a + 2)), .int (nI lim), .int (nI (offN lim sz (plc d x dc sc sz)))]) ∧ u (a + 1) = aN Γ 20 (offF dc lim sz (plc d x dc sc sz) d) ∧ u (a + 2) = aD Γ 20 (offF sc lim sz (plc d x dc sc sz) x) ∧ ∀ j, j ≠ a → j ≠ (a + 1) → j ≠ (a + 2) → u j = mem j) none := by
  refine mm_enter (cc := cX4_offer) (by decide) (Nat.le_of_ble_eq_true rfl) ?_
  intro p e s m args below meth c ls hx hb hml hown hr hlocks hname hE hh hl
  have hl : lv_has ls 6 [(0, .ref (b + a)), (1, .int (nI d)), (2, .double x)] := hl
  have hfr : ∀ j, j ≠ a → j ≠ (a + 1) → j ≠ (a + 2) → mem j = mem j := fun j _ _ _ => rfl
  have hple := plc_le d x dc sc sz
  have loop30 : ∀ (k : Nat), (k = plc d x dc sc sz) → ∀ (H : Heap) (locs : List Loc), GH Γ b M mem s H locs → ∀ (ls : Array Slot), lv_has ls 6 [(4, .int (nI k)), (0, .ref (b + a)), (1, .int (nI d)), (2, .double x)] → W p l e ({ frames := 1, cells := 0, slots := 0, locals := 24 } : Room) s m args below meth c H locs 0 0 (MQ below (QC Γ b M (fun u => u a = .inr (4, [.ref (b + (a + 1)), .ref (b + (a + 2)), .int (nI lim), .int (nI (offN lim sz (plc d x dc sc sz)))]) ∧ u (a + 1) = aN Γ 20 (offF dc lim sz (plc d x dc sc sz) d) ∧ u (a + 2) = aD Γ 20 (offF sc lim sz (plc d x dc sc sz) x) ∧ ∀ j, j ≠ a → j ≠ (a + 1) → j ≠ (a + 2) → u j = mem j) none) args s 0 0 (fun q => b ≤ q)) (F0 m 30 ls []) := by
    intro k hkq H locs hh ls hl
    refine lv_iload hx hb dX4_offer_30 (lv_at hl 0 rfl) ?_
    refine lv_aload_n hx hb dX4_offer_32 rfl (lv_at hl 1 rfl) ?_
    refine gf_X4_limit hx hb hE hown hh (by omega) fa rfl dX4_offer_33 ?_
    refine nn_icmp_lt (tgt := 40) hx hb dX4_offer_36 (by decide) (by omega) (by omega) (fun h1 => ?_) (fun h1 => ?_)
    ·
      have loop69 : ∀ (n9 : Nat) (i nn qq : Nat), i < n9 → (qq = plc d x dc sc sz) → (qq < lim) → (nn = offN lim sz qq) → (i < nn) → (qq ≤ i) → (nn ≤ 20) → ∀ (H : Heap) (locs : List Loc) (mem2 : Nat → va_E), mem2 a = .inr (4, [.ref (b + (a + 1)), .ref (b + (a + 2)), .int (nI lim), .int (nI nn)]) → mem2 (a + 1) = aN Γ 20 (shf dc i nn) → mem2 (a + 2) = aD Γ 20 (shf sc i nn) → (∀ j, j ≠ a → j ≠ (a + 1) → j ≠ (a + 2) → mem2 j = mem j) → GH Γ b M mem2 s H locs → ∀ (ls : Array Slot), lv_has ls 6 [(5, .int (nI i)), (4, .int (nI qq)), (0, .ref (b + a)), (1, .int (nI d)), (2, .double x)] → W p l e ({ frames := 1, cells := 0, slots := 0, locals := 24 } : Room) s m args below meth c H locs 0 0 (MQ below (QC Γ b M (fun u => u a = .inr (4, [.ref (b + (a + 1)), .ref (b + (a + 2)), .int (nI lim), .int (nI (offN lim sz (plc d x dc sc sz)))]) ∧ u (a + 1) = aN Γ 20 (offF dc lim sz (plc d x dc sc sz) d) ∧ u (a + 2) = aD Γ 20 (offF sc lim sz (plc d x dc sc sz) x) ∧ ∀ j, j ≠ a → j ≠ (a + 1) → j ≠ (a + 2) → u j = mem j) none) args s 0 0 (fun q => b ≤ q)) (F0 m 69 ls []) := by
        intro n9
        induction n9 with
        | zero => intro i nn qq hn; exact absurd hn (Nat.not_lt_zero _)
        | succ n9 ih =>
          intro i nn qq hn hqq hq hnn hi hiq hn20 H locs mem2 f4 f5 f6 hfr3 hh ls hl
          have ih7 := ih
          refine lv_iload hx hb dX4_offer_69 (lv_at hl 0 rfl) ?_
          refine lv_iload hx hb dX4_offer_71 (lv_at hl 1 rfl) ?_
          refine nn_icmp_le (tgt := 114) hx hb dX4_offer_73 (by decide) (by omega) (by omega) (fun h8 => ?_) (fun h8 => ?_)
          ·
            have hiq2 : i = qq := by omega
            refine lv_aload_n hx hb dX4_offer_114 rfl (lv_at hl 2 rfl) ?_
            refine gf_X4_documents hx hb hE hown hh (by omega) f4 rfl dX4_offer_115 ?_
            refine lv_iload hx hb dX4_offer_118 (lv_at hl 1 rfl) ?_
            refine lv_iload_n hx hb dX4_offer_120 rfl (lv_at hl 3 rfl) ?_
            refine mm_iast hx hb hE hh (by omega) f5 (by omega) (by decide) dX4_offer_121 (fun H locs mem9 f10 k11 hh => ?_)
            rw [va_up_nI] at f10
            have hfr12 : ∀ j, j ≠ a → j ≠ (a + 1) → j ≠ (a + 2) → mem9 j = mem j := fun j c0 c1 c2 => (k11 j (by omega)).trans (hfr3 j c0 c1 c2)
            have f13 : mem9 a = .inr (4, [.ref (b + (a + 1)), .ref (b + (a + 2)), .int (nI lim), .int (nI nn)]) := (k11 _ (by omega)).trans f4
            have f14 : mem9 (a + 2) = aD Γ 20 (shf sc i nn) := (k11 _ (by omega)).trans f6
            refine lv_aload_n hx hb dX4_offer_122 rfl (lv_at hl 2 rfl) ?_
            refine gf_X4_scores hx hb hE hown hh (by omega) f13 rfl dX4_offer_123 ?_
            refine lv_iload hx hb dX4_offer_126 (lv_at hl 1 rfl) ?_
            refine lv_dload_n hx hb dX4_offer_128 rfl (lv_at hl 4 rfl) ?_
            refine mm_dast hx hb hE hh (by omega) f14 (by omega) (by decide) dX4_offer_129 (fun H locs mem15 f16 k17 hh => ?_)
            have hfr18 : ∀ j, j ≠ a → j ≠ (a + 1) → j ≠ (a + 2) → mem15 j = mem j := fun j c0 c1 c2 => (k17 j (by omega)).trans (hfr12 j c0 c1 c2)
            have f19 : mem15 a = .inr (4, [.ref (b + (a + 1)), .ref (b + (a + 2)), .int (nI lim), .int (nI nn)]) := (k17 _ (by omega)).trans f13
            have f20 : mem15 (a + 1) = aN Γ 20 (va_up (shf dc i nn) qq d) := (k17 _ (by omega)).trans f10
            exact mm_vret hx hb hr hlocks hE hh (⟨by rw [← hqq, ← hnn]; exact f19, by rw [← off_fin dc d hqq hq hnn hiq2]; exact f20, by rw [← off_fin sc x hqq hq hnn hiq2]; exact f16, hfr18⟩) dX4_offer_130
          ·
            refine lv_aload_n hx hb dX4_offer_76 rfl (lv_at hl 2 rfl) ?_
            refine gf_X4_documents hx hb hE hown hh (by omega) f4 rfl dX4_offer_77 ?_
            refine lv_iload hx hb dX4_offer_80 (lv_at hl 0 rfl) ?_
            refine lv_aload_n hx hb dX4_offer_82 rfl (lv_at hl 2 rfl) ?_
            refine gf_X4_documents hx hb hE hown hh (by omega) f4 rfl dX4_offer_83 ?_
            refine lv_iload hx hb dX4_offer_86 (lv_at hl 0 rfl) ?_
            refine lv_iconst (v := (nI 1)) hx hb dX4_offer_88 (by decide) ?_
            refine nn_isub hx hb (by omega) dX4_offer_89 ?_
            refine mm_iald hx hb hE hh (by omega) f5 (by omega) (by decide) dX4_offer_90 ?_
            refine mm_iast hx hb hE hh (by omega) f5 (by omega) (by decide) dX4_offer_91 (fun H locs mem21 f22 k23 hh => ?_)
            rw [va_up_nI] at f22
            have hfr24 : ∀ j, j ≠ a → j ≠ (a + 1) → j ≠ (a + 2) → mem21 j = mem j := fun j c0 c1 c2 => (k23 j (by omega)).trans (hfr3 j c0 c1 c2)
            have f25 : mem21 a = .inr (4, [.ref (b + (a + 1)), .ref (b + (a + 2)), .int (nI lim), .int (nI nn)]) := (k23 _ (by omega)).trans f4
            have f26 : mem21 (a + 2) = aD Γ 20 (shf sc i nn) := (k23 _ (by omega)).trans f6
            refine lv_aload_n hx hb dX4_offer_92 rfl (lv_at hl 2 rfl) ?_
            refine gf_X4_scores hx hb hE hown hh (by omega) f25 rfl dX4_offer_93 ?_
            refine lv_iload hx hb dX4_offer_96 (lv_at hl 0 rfl) ?_
            refine lv_aload_n hx hb dX4_offer_98 rfl (lv_at hl 2 rfl) ?_
            refine gf_X4_scores hx hb hE hown hh (by omega) f25 rfl dX4_offer_99 ?_
            refine lv_iload hx hb dX4_offer_102 (lv_at hl 0 rfl) ?_
            refine lv_iconst (v := (nI 1)) hx hb dX4_offer_104 (by decide) ?_
            refine nn_isub hx hb (by omega) dX4_offer_105 ?_
            refine mm_dald hx hb hE hh (by omega) f26 (by omega) (by decide) dX4_offer_106 ?_
            refine mm_dast hx hb hE hh (by omega) f26 (by omega) (by decide) dX4_offer_107 (fun H locs mem27 f28 k29 hh => ?_)
            have hfr30 : ∀ j, j ≠ a → j ≠ (a + 1) → j ≠ (a + 2) → mem27 j = mem j := fun j c0 c1 c2 => (k29 j (by omega)).trans (hfr24 j c0 c1 c2)
            have f31 : mem27 a = .inr (4, [.ref (b + (a + 1)), .ref (b + (a + 2)), .int (nI lim), .int (nI nn)]) := (k29 _ (by omega)).trans f25
            have f32 : mem27 (a + 1) = aN Γ 20 (va_up (shf dc i nn) i ((shf dc i nn) (i - 1))) := (k29 _ (by omega)).trans f22
            refine nn_idec (x := i) (lv' := [(5, .int (nI (i - 1))), (4, .int (nI qq)), (0, .ref (b + a)), (1, .int (nI d)), (2, .double x)]) hx hb dX4_offer_108 hl (k := 0) rfl (by omega) (by decide) rfl (fun ls hl => ?_)
            refine lv_goto (tgt := 69) hx hb dX4_offer_111 (by decide) ?_
            exact ih7 (i - 1) nn qq (by omega) (hqq) (by omega) (hnn) (by omega) (by omega) (by omega) _ _ mem27 (f31) (by rw [← shf_s dc i nn (by omega) (by omega)]; exact f32) (by rw [← shf_s sc i nn (by omega) (by omega)]; exact f28) hfr30 hh ls (lv_sub hl [0, 1, 2, 3, 4] rfl)
      refine lv_aload_n hx hb dX4_offer_40 rfl (lv_at hl 1 rfl) ?_
      refine gf_X4_size hx hb hE hown hh (by omega) fa rfl dX4_offer_41 ?_
      refine lv_aload_n hx hb dX4_offer_44 rfl (lv_at hl 1 rfl) ?_
      refine gf_X4_limit hx hb hE hown hh (by omega) fa rfl dX4_offer_45 ?_
      refine nn_icmp_ge (tgt := 61) hx hb dX4_offer_48 (by decide) (by omega) (by omega) (fun h33 => ?_) (fun h33 => ?_)
      ·
        refine lv_aload_n hx hb dX4_offer_61 rfl (lv_at hl 1 rfl) ?_
        refine gf_X4_size hx hb hE hown hh (by omega) fa rfl dX4_offer_62 ?_
        refine lv_iconst (v := (nI 1)) hx hb dX4_offer_65 (by decide) ?_
        refine nn_isub hx hb (by omega) dX4_offer_66 ?_
        refine lv_istore (lv' := [(5, .int (nI (sz - 1))), (4, .int (nI k)), (0, .ref (b + a)), (1, .int (nI d)), (2, .double x)]) hx hb dX4_offer_67 hl (by decide) rfl (fun ls hl => ?_)
        exact loop69 ((sz - 1) + 1) (sz - 1) sz k (by omega) (hkq) (by omega) (by unfold offN; rw [if_pos (by omega)]; split <;> omega) (by omega) (by omega) (by omega) _ _ mem (fa) (by rw [shf_0 _ _ _ (by omega)]; exact fd) (by rw [shf_0 _ _ _ (by omega)]; exact fs) hfr hh ls (lv_sub hl [0, 1, 2, 3, 4] rfl)
      ·
        refine lv_aload_n hx hb dX4_offer_51 rfl (lv_at hl 1 rfl) ?_
        refine lv_dup hx hb dX4_offer_52 rfl ?_
        refine gf_X4_size hx hb hE hown hh (by omega) fa rfl dX4_offer_53 ?_
        refine lv_iconst (v := (nI 1)) hx hb dX4_offer_56 (by decide) ?_
        refine nn_iadd hx hb dX4_offer_57 ?_
        refine gp_X4_size (fs' := [.ref (b + (a + 1)), .ref (b + (a + 2)), .int (nI lim), .int (nI (sz + 1))]) hx hb hE hown hh (by omega) fa rfl rfl (show 3 < 4 by decide) rfl dX4_offer_58 (fun H locs mem34 f35 k36 hh => ?_)
        have hfr37 : ∀ j, j ≠ a → j ≠ (a + 1) → j ≠ (a + 2) → mem34 j = mem j := fun j c0 c1 c2 => (k36 j (by omega)).trans (hfr j c0 c1 c2)
        have f38 : mem34 (a + 1) = aN Γ 20 dc := (k36 _ (by omega)).trans fd
        have f39 : mem34 (a + 2) = aD Γ 20 sc := (k36 _ (by omega)).trans fs
        refine lv_aload_n hx hb dX4_offer_61 rfl (lv_at hl 1 rfl) ?_
        refine gf_X4_size hx hb hE hown hh (by omega) f35 rfl dX4_offer_62 ?_
        refine lv_iconst (v := (nI 1)) hx hb dX4_offer_65 (by decide) ?_
        refine nn_isub hx hb (by omega) dX4_offer_66 ?_
        refine lv_istore (lv' := [(5, .int (nI ((sz + 1) - 1))), (4, .int (nI k)), (0, .ref (b + a)), (1, .int (nI d)), (2, .double x)]) hx hb dX4_offer_67 hl (by decide) rfl (fun ls hl => ?_)
        exact loop69 (((sz + 1) - 1) + 1) ((sz + 1) - 1) (sz + 1) k (by omega) (hkq) (by omega) (by unfold offN; rw [if_pos (by omega)]; split <;> omega) (by omega) (by omega) (by omega) _ _ mem34 (f35) (by rw [shf_0 _ _ _ (by omega)]; exact f38) (by rw [shf_0 _ _ _ (by omega)]; exact f39) hfr37 hh ls (lv_sub hl [0, 1, 2, 3, 4] rfl)
    ·
      exact mm_vret hx hb hr hlocks hE hh (⟨by rw [offN_ge (by omega)]; exact fa, by rw [offF_ge _ _ (by omega)]; exact fd, by rw [offF_ge _ _ (by omega)]; exact fs, hfr⟩) dX4_offer_39
  refine lv_aload_n hx hb dX4_offer_0 rfl (lv_at hl 0 rfl) ?_
  refine gf_X4_size hx hb hE hown hh (by omega) fa rfl dX4_offer_1 ?_
  refine lv_istore (lv' := [(4, .int (nI sz)), (0, .ref (b + a)), (1, .int (nI d)), (2, .double x)]) hx hb dX4_offer_4 hl (by decide) rfl (fun ls hl => ?_)
  have loop6 : ∀ (n9 : Nat) (k : Nat), k < n9 → (k ≤ sz) → (plc d x dc sc k = plc d x dc sc sz) → ∀ (H : Heap) (locs : List Loc), GH Γ b M mem s H locs → ∀ (ls : Array Slot), lv_has ls 6 [(4, .int (nI k)), (0, .ref (b + a)), (1, .int (nI d)), (2, .double x)] → W p l e ({ frames := 1, cells := 0, slots := 0, locals := 24 } : Room) s m args below meth c H locs 0 0 (MQ below (QC Γ b M (fun u => u a = .inr (4, [.ref (b + (a + 1)), .ref (b + (a + 2)), .int (nI lim), .int (nI (offN lim sz (plc d x dc sc sz)))]) ∧ u (a + 1) = aN Γ 20 (offF dc lim sz (plc d x dc sc sz) d) ∧ u (a + 2) = aD Γ 20 (offF sc lim sz (plc d x dc sc sz) x) ∧ ∀ j, j ≠ a → j ≠ (a + 1) → j ≠ (a + 2) → u j = mem j) none) args s 0 0 (fun q => b ≤ q)) (F0 m 6 ls []) := by
    intro n9
    induction n9 with
    | zero => intro k hn; exact absurd hn (Nat.not_lt_zero _)
    | succ n9 ih =>
      intro k hn hk hp H locs hh ls hl
      have ih40 := ih
      refine lv_iload hx hb dX4_offer_6 (lv_at hl 0 rfl) ?_
      refine nn_if_le (tgt := 30) hx hb dX4_offer_8 (by decide) (by omega) (fun h41 => ?_) (fun h41 => ?_)
      ·
        have hkq := plc_0 hp h41
        exact loop30 k (hkq) _ _ hh ls (lv_sub hl [0, 1, 2, 3] rfl)
      ·
        refine lv_aload_n hx hb dX4_offer_11 rfl (lv_at hl 1 rfl) ?_
        refine lv_iload_n hx hb dX4_offer_12 rfl (lv_at hl 2 rfl) ?_
        refine lv_dload_n hx hb dX4_offer_13 rfl (lv_at hl 3 rfl) ?_
        refine lv_iload hx hb dX4_offer_14 (lv_at hl 0 rfl) ?_
        refine lv_iconst (v := (nI 1)) hx hb dX4_offer_16 (by decide) ?_
        refine nn_isub hx hb (by omega) dX4_offer_17 ?_
        refine mm_V0r (As := [.int (nI d), .double x, .int (nI (k - 1))]) (rest := []) hx hb hml hown hE hl.1 hh (kc_X4_32 hE.2.1 ⟨Nat.le_of_ble_eq_true rfl, Nat.le_of_ble_eq_true rfl⟩) (c_X4_isBefore l Γ b M mem (a := a) (lim := lim) (sz := sz) (k := k - 1) (d := d) (x := x) (dc := dc) (sc := sc) (by omega) fa fd fs (by omega) (by omega) (hdc)) rfl (by omega) fa rfl rfl (Nat.le_of_ble_eq_true rfl) dX4_offer_18 rfl rfl (fun H locs hh => ?_)
        refine nn_beq (tgt := 30) hx hb dX4_offer_21 (by decide) (fun h42 => ?_) (fun h42 => ?_)
        ·
          have hkq := plc_no hp (by omega) h42
          exact loop30 k (hkq) _ _ hh ls (lv_sub hl [0, 1, 2, 3] rfl)
        ·
          have hbf := plc_go hp (by omega) h42
          refine nn_idec (x := k) (lv' := [(4, .int (nI (k - 1))), (0, .ref (b + a)), (1, .int (nI d)), (2, .double x)]) hx hb dX4_offer_24 hl (k := 0) rfl (by omega) (by decide) rfl (fun ls hl => ?_)
          refine lv_goto (tgt := 6) hx hb dX4_offer_27 (by decide) ?_
          exact ih40 (k - 1) (by omega) (by omega) (hbf) _ _ hh ls (lv_sub hl [0, 1, 2, 3] rfl)
  exact loop6 (sz + 1) sz (by omega) (by omega) (rfl) _ _ hh ls (lv_sub hl [0, 1, 2, 3] rfl)
