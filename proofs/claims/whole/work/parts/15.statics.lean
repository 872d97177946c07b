/-! HYBRIDSEARCH's static helpers: pure words -/
def inR (t : Int32) (n : Nat) : Bool := decide (¬ t < 0 ∧ ¬ nI n ≤ t)
theorem inR_of {t : Int32} {n : Nat} (hn : n < 2 ^ 31) (h : inR t n = true) : ∃ j : Nat, j < n ∧ t = nI j := by
  unfold inR at h
  obtain ⟨h1, h2⟩ := of_decide_eq_true h
  rcases pk_ix t hn with h3 | h3 | h3
  · exact absurd h3 h1
  · exact absurd h3 h2
  · exact h3
theorem inR_nI {j n : Nat} (hj : j < 2 ^ 31) (hn : n < 2 ^ 31) : inR (nI j) n = decide (j < n) := by
  unfold inR
  have e0 : ¬ nI j < 0 := nI_pos hj
  have e1 : (nI n ≤ nI j) ↔ n ≤ j := nI_leI hn hj
  simp only [e0, e1, not_false_eq_true, true_and, Nat.not_le]
def okF (x : UInt32) : Bool := decide ((FP.fcmp x 3380609024 = some .gt ∨ FP.fcmp x 3380609024 = some .eq) ∧ (FP.fcmp x 1233125376 = some .lt ∨ FP.fcmp x 1233125376 = some .eq))
def mkHow (view how : Int32) : Bool := decide (how = 0 ∨ how = (if view = 2 then 2 else 1))
def gtF (a b : UInt32) : UInt32 := if FP.fcmp a b = some .gt then a else if FP.fcmp b a = some .gt then b else if FP.fcmp a FP.fconst0 = some .eq then FP.fadd a b else a
theorem lg_b0 {m : UInt64} (h : l12 m) : db 1026 (FP.dsub m FP.dconst1) := ((l12_db h).sub (show db 1024 FP.dconst1 by unfold db; decide) (by decide)).up (by decide)
theorem lg_b1 {m : UInt64} (h : l12 m) : db 1026 (FP.dadd m FP.dconst1) := ((l12_db h).add (show db 1024 FP.dconst1 by unfold db; decide) (by decide)).up (by decide)
theorem lg_b2 {m : UInt64} (h : l12 m) : dl 1023 (FP.dadd m FP.dconst1) := by
  have hm : dp m := by unfold dp; have := h.2; omega
  have h1 : dl 1023 m := by unfold dl; have := h.1; have := h.2; omega
  exact (hm.add (h1.up (by decide)) ((l12_db h).up (by decide)) (show dp FP.dconst1 by unfold dp; decide) (show db 2046 FP.dconst1 by unfold db; decide)).2 1023 h1
theorem lg_bR {m : UInt64} (h : l12 m) : db 1027 (lgR m) := ((lg_b0 h).div (lg_b2 h) ((lg_b1 h).up (by decide)) (by decide) (by decide)).up (by decide)
theorem lg_bs {s : UInt64} (h : db 1027 s) : db 1032 (FP.dmul s s) := (h.mul h (by decide) (by decide)).up (by decide)
theorem lg_bp {s : UInt64} (h : db 1027 s) : ∀ i, i ≤ 10 → db (1027 + 10 * i) (lgp s i)
  | 0, _ => h
  | i + 1, hi => ((lg_bp h i (by omega)).mul (lg_bs h) (by omega) (by decide)).up (by omega)
theorem lg_bq {s : UInt64} (h : db 1027 s) (i : Nat) (hi : i ≤ 10) : db (1028 + 10 * i) (FP.ddiv (lgp s i) (FP.i2d (nI (2 * i + 1)))) := ((lg_bp h i hi).div (dl_nI (by omega) (by omega)) ((db_i2d _).up (by decide)) (by omega) (by decide)).up (by omega)
theorem lg_bu {s : UInt64} (h : db 1027 s) : ∀ i, i ≤ 10 → db (1030 + 12 * i) (lgu s i)
  | 0, _ => show db 1030 FP.dconst0 by unfold db; decide
  | i + 1, hi => ((lg_bu h i (by omega)).add ((lg_bq h i (by omega)).up (by omega)) (by omega)).up (by omega)
theorem lg_b2u {s : UInt64} (h : db 1027 s) : db 1153 (FP.dmul 4611686018427387904 (lgu s 10)) := ((show db 1025 4611686018427387904 by unfold db; decide).mul (lg_bu h 10 (by decide)) (by decide) (by decide)).up (by decide)
theorem lg_be (e : Nat) : db 1153 (FP.dmul (FP.i2d (nI e)) 4604418534313441775) := ((db_i2d _).mul (show db 1023 4604418534313441775 by unfold db; decide) (by decide) (by decide)).up (by decide)
theorem lg_bF {s : UInt64} (h : db 1027 s) (e : Nat) : db 1155 (FP.dadd (FP.dmul 4611686018427387904 (lgu s 10)) (FP.dmul (FP.i2d (nI e)) 4604418534313441775)) := ((lg_b2u h).add (lg_be e) (by decide)).up (by decide)

theorem hp_inR (i : Int32) (n : Nat) : decide (¬ i < 0 ∧ ¬ nI n ≤ i) = inR i n := rfl
set_option maxHeartbeats 4000000 in
set_option maxRecDepth 100000 in
/-- isTerm -/
theorem c_X9_isTerm (l : Launch) (Γ : Gm) (b M : Nat) (mem : Nat → va_E) {t : Int32}  : Ct l yX9_isTerm (.code yX9_isTerm cX9_isTerm 1 (some .boolean)) ({ frames := 0, cells := 0, slots := 0, locals := 0 } : Room) Γ b M [.int t] mem (fun u => u = mem) (some (.int (bI (inR t 12)))) := by
  refine mm_enter (cc := cX9_isTerm) (by decide) (Nat.le_of_ble_eq_true rfl) ?_
  intro p e s m args below meth c ls hx hb hml hown hr hlocks hname hE hh hl
  have hl : lv_has ls 1 [(0, .int t)] := hl
  refine lv_iload_n hx hb dX9_isTerm_0 rfl (lv_at hl 0 rfl) ?_
  refine lv_if_lt (tgt := 14) hx hb dX9_isTerm_1 (by decide) (fun h1 => ?_) (fun h1 => ?_)
  ·
    refine lv_iconst (v := (nI 0)) hx hb dX9_isTerm_14 (by decide) ?_
    exact mm_zret hx hb hr hlocks hE hh (by simp_all [bI, nI, inR]) (rfl) rfl dX9_isTerm_15
  ·
    refine lv_iload_n hx hb dX9_isTerm_4 rfl (lv_at hl 0 rfl) ?_
    refine lv_bipush (v := (nI 12)) hx hb dX9_isTerm_5 (by decide) ?_
    refine lv_icmp_ge (tgt := 14) hx hb dX9_isTerm_7 (by decide) (fun h2 => ?_) (fun h2 => ?_)
    ·
      refine lv_iconst (v := (nI 0)) hx hb dX9_isTerm_14 (by decide) ?_
      exact mm_zret hx hb hr hlocks hE hh (by simp_all [bI, nI, inR]) (rfl) rfl dX9_isTerm_15
    ·
      refine lv_iconst (v := (nI 1)) hx hb dX9_isTerm_10 (by decide) ?_
      refine lv_goto (tgt := 15) hx hb dX9_isTerm_11 (by decide) ?_
      exact mm_zret hx hb hr hlocks hE hh (by simp_all [bI, nI, inR]) (rfl) rfl dX9_isTerm_15
set_option maxHeartbeats 4000000 in
set_option maxRecDepth 100000 in
/-- isView -/
theorem c_X9_isView (l : Launch) (Γ : Gm) (b M : Nat) (mem : Nat → va_E) {t : Int32}  : Ct l yX9_isView (.code yX9_isView cX9_isView 1 (some .boolean)) ({ frames := 0, cells := 0, slots := 0, locals := 0 } : Room) Γ b M [.int t] mem (fun u => u = mem) (some (.int (bI (inR t 3)))) := by
  refine mm_enter (cc := cX9_isView) (by decide) (Nat.le_of_ble_eq_true rfl) ?_
  intro p e s m args below meth c ls hx hb hml hown hr hlocks hname hE hh hl
  have hl : lv_has ls 1 [(0, .int t)] := hl
  refine lv_iload_n hx hb dX9_isView_0 rfl (lv_at hl 0 rfl) ?_
  refine lv_if_lt (tgt := 13) hx hb dX9_isView_1 (by decide) (fun h1 => ?_) (fun h1 => ?_)
  ·
    refine lv_iconst (v := (nI 0)) hx hb dX9_isView_13 (by decide) ?_
    exact mm_zret hx hb hr hlocks hE hh (by simp_all [bI, nI, inR]) (rfl) rfl dX9_isView_14
  ·
    refine lv_iload_n hx hb dX9_isView_4 rfl (lv_at hl 0 rfl) ?_
    refine lv_iconst (v := (nI 3)) hx hb dX9_isView_5 (by decide) ?_
    refine lv_icmp_ge (tgt := 13) hx hb dX9_isView_6 (by decide) (fun h2 => ?_) (fun h2 => ?_)
    ·
      refine lv_iconst (v := (nI 0)) hx hb dX9_isView_13 (by decide) ?_
      exact mm_zret hx hb hr hlocks hE hh (by simp_all [bI, nI, inR]) (rfl) rfl dX9_isView_14
    ·
      refine lv_iconst (v := (nI 1)) hx hb dX9_isView_9 (by decide) ?_
      refine lv_goto (tgt := 14) hx hb dX9_isView_10 (by decide) ?_
      exact mm_zret hx hb hr hlocks hE hh (by simp_all [bI, nI, inR]) (rfl) rfl dX9_isView_14
set_option maxHeartbeats 4000000 in
set_option maxRecDepth 100000 in
/-- isMadeHow -/
theorem c_X9_isMadeHow (l : Launch) (Γ : Gm) (b M : Nat) (mem : Nat → va_E) {view how : Int32}  : Ct l yX9_isMadeHow (.code yX9_isMadeHow cX9_isMadeHow 2 (some .boolean)) ({ frames := 0, cells := 0, slots := 0, locals := 0 } : Room) Γ b M [.int view, .int how] mem (fun u => u = mem) (some (.int (bI (mkHow view how)))) := by
  refine mm_enter (cc := cX9_isMadeHow) (by decide) (Nat.le_of_ble_eq_true rfl) ?_
  intro p e s m args below meth c ls hx hb hml hown hr hlocks hname hE hh hl
  have hl : lv_has ls 2 [(0, .int view), (1, .int how)] := hl
  refine lv_iload_n hx hb dX9_isMadeHow_0 rfl (lv_at hl 1 rfl) ?_
  refine lv_if_eq (tgt := 18) hx hb dX9_isMadeHow_1 (by decide) (fun h1 => ?_) (fun h1 => ?_)
  ·
    refine lv_iconst (v := (nI 1)) hx hb dX9_isMadeHow_18 (by decide) ?_
    refine lv_goto (tgt := 23) hx hb dX9_isMadeHow_19 (by decide) ?_
    exact mm_zret hx hb hr hlocks hE hh (by simp_all [bI, nI, mkHow]) (rfl) rfl dX9_isMadeHow_23
  ·
    refine lv_iload_n hx hb dX9_isMadeHow_4 rfl (lv_at hl 1 rfl) ?_
    refine lv_iload_n hx hb dX9_isMadeHow_5 rfl (lv_at hl 0 rfl) ?_
    refine lv_iconst (v := 2) hx hb dX9_isMadeHow_6 (by decide) ?_
    refine lv_icmp_ne (tgt := 14) hx hb dX9_isMadeHow_7 (by decide) (fun h2 => ?_) (fun h2 => ?_)
    ·
      refine lv_iconst (v := 1) hx hb dX9_isMadeHow_14 (by decide) ?_
      refine lv_icmp_ne (tgt := 22) hx hb dX9_isMadeHow_15 (by decide) (fun h3 => ?_) (fun h3 => ?_)
      ·
        refine lv_iconst (v := (nI 0)) hx hb dX9_isMadeHow_22 (by decide) ?_
        exact mm_zret hx hb hr hlocks hE hh (by simp_all [bI, nI, mkHow]) (rfl) rfl dX9_isMadeHow_23
      ·
        refine lv_iconst (v := (nI 1)) hx hb dX9_isMadeHow_18 (by decide) ?_
        refine lv_goto (tgt := 23) hx hb dX9_isMadeHow_19 (by decide) ?_
        exact mm_zret hx hb hr hlocks hE hh (by simp_all [bI, nI, mkHow]) (rfl) rfl dX9_isMadeHow_23
    ·
      refine lv_iconst (v := 2) hx hb dX9_isMadeHow_10 (by decide) ?_
      refine lv_goto (tgt := 15) hx hb dX9_isMadeHow_11 (by decide) ?_
      refine lv_icmp_ne (tgt := 22) hx hb dX9_isMadeHow_15 (by decide) (fun h4 => ?_) (fun h4 => ?_)
      ·
        refine lv_iconst (v := (nI 0)) hx hb dX9_isMadeHow_22 (by decide) ?_
        exact mm_zret hx hb hr hlocks hE hh (by simp_all [bI, nI, mkHow]) (rfl) rfl dX9_isMadeHow_23
      ·
        refine lv_iconst (v := (nI 1)) hx hb dX9_isMadeHow_18 (by decide) ?_
        refine lv_goto (tgt := 23) hx hb dX9_isMadeHow_19 (by decide) ?_
        exact mm_zret hx hb hr hlocks hE hh (by simp_all [bI, nI, mkHow]) (rfl) rfl dX9_isMadeHow_23
set_option maxHeartbeats 4000000 in
set_option maxRecDepth 100000 in
/-- isAllowed -/
theorem c_X9_isAllowed (l : Launch) (Γ : Gm) (b M : Nat) (mem : Nat → va_E) {x : UInt32}  : Ct l yX9_isAllowed (.code yX9_isAllowed cX9_isAllowed 1 (some .boolean)) ({ frames := 0, cells := 0, slots := 0, locals := 0 } : Room) Γ b M [.float x] mem (fun u => u = mem) (some (.int (bI (okF x)))) := by
  refine mm_enter (cc := cX9_isAllowed) (by decide) (Nat.le_of_ble_eq_true rfl) ?_
  intro p e s m args below meth c ls hx hb hml hown hr hlocks hname hE hh hl
  have hl : lv_has ls 1 [(0, .float x)] := hl
  refine lv_fload_n hx hb dX9_isAllowed_0 rfl (lv_at hl 0 rfl) ?_
  refine nn_ldcfw hx hb hown (wk_X9_259 hE.2.1 args) dX9_isAllowed_1 ?_
  refine lv_fcmp hx hb dX9_isAllowed_4 ?_
  refine nn_cl_lt (tgt := 20) hx hb dX9_isAllowed_5 (by decide) (fun h1 => ?_) (fun h1 => ?_)
  ·
    have hq : okF x = false := decide_eq_false (fun q => h1 q.1)
    refine lv_iconst (v := (nI 0)) hx hb dX9_isAllowed_20 (by decide) ?_
    exact mm_zret hx hb hr hlocks hE hh (by rw [hq]; rfl) (rfl) rfl dX9_isAllowed_21
  ·
    have h5 := Classical.not_not.mp h1
    refine lv_fload_n hx hb dX9_isAllowed_8 rfl (lv_at hl 0 rfl) ?_
    refine nn_ldcfw hx hb hown (wk_X9_260 hE.2.1 args) dX9_isAllowed_9 ?_
    refine lv_fcmp hx hb dX9_isAllowed_12 ?_
    refine nn_cg_gt (tgt := 20) hx hb dX9_isAllowed_13 (by decide) (fun h2 => ?_) (fun h2 => ?_)
    ·
      have hq : okF x = false := decide_eq_false (fun q => h2 q.2)
      refine lv_iconst (v := (nI 0)) hx hb dX9_isAllowed_20 (by decide) ?_
      exact mm_zret hx hb hr hlocks hE hh (by rw [hq]; rfl) (rfl) rfl dX9_isAllowed_21
    ·
      have hq : okF x = true := decide_eq_true ⟨h5, Classical.not_not.mp h2⟩
      refine lv_iconst (v := (nI 1)) hx hb dX9_isAllowed_16 (by decide) ?_
      refine lv_goto (tgt := 21) hx hb dX9_isAllowed_17 (by decide) ?_
      exact mm_zret hx hb hr hlocks hE hh (by rw [hq]; rfl) (rfl) rfl dX9_isAllowed_21
set_option maxHeartbeats 4000000 in
set_option maxRecDepth 100000 in
/-- areAllowed -/
theorem c_X9_areAllowed (l : Launch) (Γ : Gm) (b M : Nat) (mem : Nat → va_E) {v0 v1 v2 v3 : UInt32}  : Ct l yX9_areAllowed (.code yX9_areAllowed cX9_areAllowed 4 (some .boolean)) ({ frames := 1, cells := 0, slots := 0, locals := 20 } : Room) Γ b M [.float v0, .float v1, .float v2, .float v3] mem (fun u => u = mem) (some (.int (bI (okF v0 && okF v1 && okF v2 && okF v3)))) := by
  refine mm_enter (cc := cX9_areAllowed) (by decide) (Nat.le_of_ble_eq_true rfl) ?_
  intro p e s m args below meth c ls hx hb hml hown hr hlocks hname hE hh hl
  have hl : lv_has ls 4 [(0, .float v0), (1, .float v1), (2, .float v2), (3, .float v3)] := hl
  refine lv_fload_n hx hb dX9_areAllowed_0 rfl (lv_at hl 0 rfl) ?_
  refine mm_S0r (As := [.float v0]) (rest := []) hx hb hml hown hE hl.1 hh (kc_X9_111 hE.2.1 ⟨Nat.le_of_ble_eq_true rfl, Nat.le_of_ble_eq_true rfl⟩) (c_X9_isAllowed l Γ b M mem (x := v0)) rfl rfl (Nat.le_of_ble_eq_true rfl) dX9_areAllowed_1 rfl rfl (fun H locs hh => ?_)
  refine nn_beq (tgt := 32) hx hb dX9_areAllowed_4 (by decide) (fun h1 => ?_) (fun h1 => ?_)
  ·
    refine lv_iconst (v := (nI 0)) hx hb dX9_areAllowed_32 (by decide) ?_
    exact mm_zret hx hb hr hlocks hE hh (by simp_all [bI, nI]) (rfl) rfl dX9_areAllowed_33
  ·
    refine lv_fload_n hx hb dX9_areAllowed_7 rfl (lv_at hl 1 rfl) ?_
    refine mm_S0r (As := [.float v1]) (rest := []) hx hb hml hown hE hl.1 hh (kc_X9_111 hE.2.1 ⟨Nat.le_of_ble_eq_true rfl, Nat.le_of_ble_eq_true rfl⟩) (c_X9_isAllowed l Γ b M mem (x := v1)) rfl rfl (Nat.le_of_ble_eq_true rfl) dX9_areAllowed_8 rfl rfl (fun H locs hh => ?_)
    refine nn_beq (tgt := 32) hx hb dX9_areAllowed_11 (by decide) (fun h2 => ?_) (fun h2 => ?_)
    ·
      refine lv_iconst (v := (nI 0)) hx hb dX9_areAllowed_32 (by decide) ?_
      exact mm_zret hx hb hr hlocks hE hh (by simp_all [bI, nI]) (rfl) rfl dX9_areAllowed_33
    ·
      refine lv_fload_n hx hb dX9_areAllowed_14 rfl (lv_at hl 2 rfl) ?_
      refine mm_S0r (As := [.float v2]) (rest := []) hx hb hml hown hE hl.1 hh (kc_X9_111 hE.2.1 ⟨Nat.le_of_ble_eq_true rfl, Nat.le_of_ble_eq_true rfl⟩) (c_X9_isAllowed l Γ b M mem (x := v2)) rfl rfl (Nat.le_of_ble_eq_true rfl) dX9_areAllowed_15 rfl rfl (fun H locs hh => ?_)
      refine nn_beq (tgt := 32) hx hb dX9_areAllowed_18 (by decide) (fun h3 => ?_) (fun h3 => ?_)
      ·
        refine lv_iconst (v := (nI 0)) hx hb dX9_areAllowed_32 (by decide) ?_
        exact mm_zret hx hb hr hlocks hE hh (by simp_all [bI, nI]) (rfl) rfl dX9_areAllowed_33
      ·
        refine lv_fload_n hx hb dX9_areAllowed_21 rfl (lv_at hl 3 rfl) ?_
        refine mm_S0r (As := [.float v3]) (rest := []) hx hb hml hown hE hl.1 hh (kc_X9_111 hE.2.1 ⟨Nat.le_of_ble_eq_true rfl, Nat.le_of_ble_eq_true rfl⟩) (c_X9_isAllowed l Γ b M mem (x := v3)) rfl rfl (Nat.le_of_ble_eq_true rfl) dX9_areAllowed_22 rfl rfl (fun H locs hh => ?_)
        refine nn_beq (tgt := 32) hx hb dX9_areAllowed_25 (by decide) (fun h4 => ?_) (fun h4 => ?_)
        ·
          refine lv_iconst (v := (nI 0)) hx hb dX9_areAllowed_32 (by decide) ?_
          exact mm_zret hx hb hr hlocks hE hh (by simp_all [bI, nI]) (rfl) rfl dX9_areAllowed_33
        ·
          refine lv_iconst (v := (nI 1)) hx hb dX9_areAllowed_28 (by decide) ?_
          refine lv_goto (tgt := 33) hx hb dX9_areAllowed_29 (by decide) ?_
          exact mm_zret hx hb hr hlocks hE hh (by simp_all [bI, nI]) (rfl) rfl dX9_areAllowed_33
set_option maxHeartbeats 4000000 in
set_option maxRecDepth 100000 in
/-- isOfShard -/
theorem c_X9_isOfShard (l : Launch) (Γ : Gm) (b M : Nat) (mem : Nat → va_E) {d k n : Nat} (hd : d < 2 ^ 31) (hk : k < 2 ^ 31) (hn : 0 < n ∧ n < 2 ^ 31) : Ct l yX9_isOfShard (.code yX9_isOfShard cX9_isOfShard 3 (some .boolean)) ({ frames := 0, cells := 0, slots := 0, locals := 0 } : Room) Γ b M [.int (nI d), .int (nI k), .int (nI n)] mem (fun u => u = mem) (some (.int (bI (decide (d % n = k))))) := by
  refine mm_enter (cc := cX9_isOfShard) (by decide) (Nat.le_of_ble_eq_true rfl) ?_
  intro p e s m args below meth c ls hx hb hml hown hr hlocks hname hE hh hl
  have hl : lv_has ls 3 [(0, .int (nI d)), (1, .int (nI k)), (2, .int (nI n))] := hl
  have hdn := Nat.mod_lt d hn.1
  refine lv_iload_n hx hb dX9_isOfShard_0 rfl (lv_at hl 2 rfl) ?_
  refine nn_if_le (tgt := 15) hx hb dX9_isOfShard_1 (by decide) (by omega) (fun h1 => ?_) (fun h1 => ?_)
  ·
    exact absurd h1 (by omega)
  ·
    refine lv_iload_n hx hb dX9_isOfShard_4 rfl (lv_at hl 0 rfl) ?_
    refine lv_iload_n hx hb dX9_isOfShard_5 rfl (lv_at hl 2 rfl) ?_
    refine nn_irem hx hb (by omega) (by omega) (by omega) dX9_isOfShard_6 ?_
    refine lv_iload_n hx hb dX9_isOfShard_7 rfl (lv_at hl 1 rfl) ?_
    refine nn_icmp_ne (tgt := 15) hx hb dX9_isOfShard_8 (by decide) (by omega) (by omega) (fun h2 => ?_) (fun h2 => ?_)
    ·
      refine lv_iconst (v := (nI 0)) hx hb dX9_isOfShard_15 (by decide) ?_
      exact mm_zret hx hb hr hlocks hE hh (by simp_all [bI, nI]) (rfl) rfl dX9_isOfShard_16
    ·
      refine lv_iconst (v := (nI 1)) hx hb dX9_isOfShard_11 (by decide) ?_
      refine lv_goto (tgt := 16) hx hb dX9_isOfShard_12 (by decide) ?_
      exact mm_zret hx hb hr hlocks hE hh (by simp_all [bI, nI]) (rfl) rfl dX9_isOfShard_16
set_option maxHeartbeats 4000000 in
set_option maxRecDepth 100000 in
/-- greater -/
theorem c_X9_greater (l : Launch) (Γ : Gm) (b M : Nat) (mem : Nat → va_E) {x y : UInt32} (hx1 : fb 250 x) (hy1 : fb 250 y) : Ct l yX9_greater (.code yX9_greater cX9_greater 2 (some .float)) ({ frames := 0, cells := 0, slots := 0, locals := 0 } : Room) Γ b M [.float x, .float y] mem (fun u => u = mem) (some (.float (gtF x y))) := by
  refine mm_enter (cc := cX9_greater) (by decide) (Nat.le_of_ble_eq_true rfl) ?_
  intro p e s m args below meth c ls hx hb hml hown hr hlocks hname hE hh hl
  have hl : lv_has ls 2 [(0, .float x), (1, .float y)] := hl
  refine lv_fload_n hx hb dX9_greater_0 rfl (lv_at hl 0 rfl) ?_
  refine lv_fload_n hx hb dX9_greater_1 rfl (lv_at hl 1 rfl) ?_
  refine lv_fcmp hx hb dX9_greater_2 ?_
  refine nn_cl_le (tgt := 8) hx hb dX9_greater_3 (by decide) (fun h1 => ?_) (fun h1 => ?_)
  ·
    refine lv_fload_n hx hb dX9_greater_8 rfl (lv_at hl 1 rfl) ?_
    refine lv_fload_n hx hb dX9_greater_9 rfl (lv_at hl 0 rfl) ?_
    refine lv_fcmp hx hb dX9_greater_10 ?_
    refine nn_cl_le (tgt := 16) hx hb dX9_greater_11 (by decide) (fun h2 => ?_) (fun h2 => ?_)
    ·
      refine lv_fload_n hx hb dX9_greater_16 rfl (lv_at hl 0 rfl) ?_
      refine lv_fconst0 hx hb dX9_greater_17 ?_
      refine lv_fcmp hx hb dX9_greater_18 ?_
      refine nn_cl_ne (tgt := 28) hx hb dX9_greater_19 (by decide) (fun h3 => ?_) (fun h3 => ?_)
      ·
        refine lv_fload_n hx hb dX9_greater_28 rfl (lv_at hl 0 rfl) ?_
        exact mm_fret hx hb hr hlocks hE hh (by simp_all [gtF]) (rfl) dX9_greater_29
      ·
        refine lv_fload_n hx hb dX9_greater_22 rfl (lv_at hl 0 rfl) ?_
        refine lv_fload_n hx hb dX9_greater_23 rfl (lv_at hl 1 rfl) ?_
        refine lv_fadd hx hb dX9_greater_24 ((hx1.add hy1 (by decide)).n (by decide)) ?_
        refine lv_goto (tgt := 29) hx hb dX9_greater_25 (by decide) ?_
        exact mm_fret hx hb hr hlocks hE hh (by simp_all [gtF]) (rfl) dX9_greater_29
    ·
      refine lv_fload_n hx hb dX9_greater_14 rfl (lv_at hl 1 rfl) ?_
      exact mm_fret hx hb hr hlocks hE hh (by simp_all [gtF]) (rfl) dX9_greater_15
  ·
    refine lv_fload_n hx hb dX9_greater_6 rfl (lv_at hl 0 rfl) ?_
    exact mm_fret hx hb hr hlocks hE hh (by simp_all [gtF]) (rfl) dX9_greater_7
set_option maxHeartbeats 400000 in
set_option maxRecDepth 100000 in
/-- logarithm -/
theorem c_X9_logarithm (l : Launch) (Γ : Gm) (b M : Nat) (mem : Nat → va_E) {x : UInt64} (hxo : lgOK x) : Ct l yX9_logarithm (.code yX9_logarithm cX9_logarithm 12 (some .double)) ({ frames := 0, cells := 0, slots := 0, locals := 0 } : Room) Γ b M [.double x] mem (fun u => u = mem) (some (.double (lgF x))) := by
  refine mm_enter (cc := cX9_logarithm) (by decide) (Nat.le_of_ble_eq_true rfl) ?_
  intro p e s m args below meth c ls hx hb hml hown hr hlocks hname hE hh hl
  have hl : lv_has ls 12 [(0, .double x)] := hl
  have loop33 : ∀ (mm : UInt64) (ee : Nat), (lgs 40 x 0 = (mm, ee)) → (l12 mm) → ∀ (H : Heap) (locs : List Loc), GH Γ b M mem s H locs → ∀ (ls : Array Slot), lv_has ls 12 [(4, .int (nI ee)), (2, .double mm), (0, .double x)] → W p l e ({ frames := 0, cells := 0, slots := 0, locals := 0 } : Room) s m args below meth c H locs 0 0 (MQ below (QC Γ b M (fun u => u = mem) (some (.double (lgF x)))) args s 0 0 (fun q => b ≤ q)) (F0 m 33 ls []) := by
    intro mm ee hex h12 H locs hh ls hl
    refine lv_dload_n hx hb dX9_logarithm_33 rfl (lv_at hl 1 rfl) ?_
    refine lv_dconst1 hx hb dX9_logarithm_34 ?_
    refine lv_dsub hx hb dX9_logarithm_35 ((lg_b0 h12).n (by decide)) ?_
    refine lv_dload_n hx hb dX9_logarithm_36 rfl (lv_at hl 1 rfl) ?_
    refine lv_dconst1 hx hb dX9_logarithm_37 ?_
    refine lv_dadd hx hb dX9_logarithm_38 ((lg_b1 h12).n (by decide)) ?_
    refine lv_ddiv hx hb dX9_logarithm_39 ((lg_bR h12).n (by decide)) ?_
    refine lv_dstore (lv' := [(5, .double (FP.ddiv (FP.dsub mm FP.dconst1) (FP.dadd mm FP.dconst1))), (4, .int (nI ee)), (2, .double mm), (0, .double x)]) hx hb dX9_logarithm_40 hl (by decide) rfl (fun ls hl => ?_)
    refine lv_dload hx hb dX9_logarithm_42 (lv_at hl 0 rfl) ?_
    refine lv_dstore (lv' := [(7, .double (FP.ddiv (FP.dsub mm FP.dconst1) (FP.dadd mm FP.dconst1))), (5, .double (FP.ddiv (FP.dsub mm FP.dconst1) (FP.dadd mm FP.dconst1))), (4, .int (nI ee)), (2, .double mm), (0, .double x)]) hx hb dX9_logarithm_44 hl (by decide) rfl (fun ls hl => ?_)
    refine lv_dconst0 hx hb dX9_logarithm_46 ?_
    refine lv_dstore (lv' := [(9, .double FP.dconst0), (7, .double (FP.ddiv (FP.dsub mm FP.dconst1) (FP.dadd mm FP.dconst1))), (5, .double (FP.ddiv (FP.dsub mm FP.dconst1) (FP.dadd mm FP.dconst1))), (4, .int (nI ee)), (2, .double mm), (0, .double x)]) hx hb dX9_logarithm_47 hl (by decide) rfl (fun ls hl => ?_)
    refine lv_iconst (v := (nI 1)) hx hb dX9_logarithm_49 (by decide) ?_
    refine lv_istore (lv' := [(11, .int (nI 1)), (9, .double FP.dconst0), (7, .double (FP.ddiv (FP.dsub mm FP.dconst1) (FP.dadd mm FP.dconst1))), (5, .double (FP.ddiv (FP.dsub mm FP.dconst1) (FP.dadd mm FP.dconst1))), (4, .int (nI ee)), (2, .double mm), (0, .double x)]) hx hb dX9_logarithm_50 hl (by decide) rfl (fun ls hl => ?_)
    have loop52 : ∀ (n9 : Nat) (i : Nat), (10 - i) < n9 → (i ≤ 10) → ∀ (H : Heap) (locs : List Loc), GH Γ b M mem s H locs → ∀ (ls : Array Slot), lv_has ls 12 [(11, .int (nI (2 * i + 1))), (9, .double (lgu (lgR mm) i)), (7, .double (lgp (lgR mm) i)), (5, .double (lgR mm)), (4, .int (nI ee)), (2, .double mm), (0, .double x)] → W p l e ({ frames := 0, cells := 0, slots := 0, locals := 0 } : Room) s m args below meth c H locs 0 0 (MQ below (QC Γ b M (fun u => u = mem) (some (.double (lgF x)))) args s 0 0 (fun q => b ≤ q)) (F0 m 52 ls []) := by
      intro n9
      induction n9 with
      | zero => intro i hn; exact absurd hn (Nat.not_lt_zero _)
      | succ n9 ih =>
        intro i hn hi H locs hh ls hl
        have ih1 := ih
        refine lv_iload hx hb dX9_logarithm_52 (lv_at hl 0 rfl) ?_
        refine lv_bipush (v := (nI 19)) hx hb dX9_logarithm_54 (by decide) ?_
        refine nn_icmp_gt (tgt := 86) hx hb dX9_logarithm_56 (by decide) (by omega) (by omega) (fun h2 => ?_) (fun h2 => ?_)
        ·
          obtain rfl : i = 10 := by omega
          refine lv_ldc2d hx hb hown (wk_X9_357 hE.2.1 args) dX9_logarithm_86 ?_
          refine lv_dload hx hb dX9_logarithm_89 (lv_at hl 1 rfl) ?_
          refine lv_dmul hx hb dX9_logarithm_91 (((lg_b2u (lg_bR h12))).n (by decide)) ?_
          refine lv_iload hx hb dX9_logarithm_92 (lv_at hl 4 rfl) ?_
          refine lv_i2d hx hb dX9_logarithm_94 ?_
          refine lv_ldc2d hx hb hown (wk_X9_359 hE.2.1 args) dX9_logarithm_95 ?_
          refine lv_dmul hx hb dX9_logarithm_98 ((lg_be _).n (by decide)) ?_
          refine lv_dadd hx hb dX9_logarithm_99 ((lg_bF (lg_bR h12) _).n (by decide)) ?_
          exact mm_dret hx hb hr hlocks hE hh (by unfold lgF; rw [hex]) (rfl) dX9_logarithm_100
        ·
          refine lv_dload hx hb dX9_logarithm_59 (lv_at hl 1 rfl) ?_
          refine lv_dload hx hb dX9_logarithm_61 (lv_at hl 2 rfl) ?_
          refine lv_iload hx hb dX9_logarithm_63 (lv_at hl 0 rfl) ?_
          refine lv_i2d hx hb dX9_logarithm_65 ?_
          refine lv_ddiv hx hb dX9_logarithm_66 ((lg_bq (lg_bR h12) i (by omega)).n (by omega)) ?_
          refine lv_dadd hx hb dX9_logarithm_67 ((lg_bu (lg_bR h12) (i + 1) (by omega)).n (by omega)) ?_
          refine lv_dstore (lv' := [(9, .double (FP.dadd (lgu (lgR mm) i) (FP.ddiv (lgp (lgR mm) i) (FP.i2d (nI (2 * i + 1)))))), (11, .int (nI (2 * i + 1))), (7, .double (lgp (lgR mm) i)), (5, .double (lgR mm)), (4, .int (nI ee)), (2, .double mm), (0, .double x)]) hx hb dX9_logarithm_68 hl (by decide) rfl (fun ls hl => ?_)
          refine lv_dload hx hb dX9_logarithm_70 (lv_at hl 2 rfl) ?_
          refine lv_dload hx hb dX9_logarithm_72 (lv_at hl 3 rfl) ?_
          refine lv_dload hx hb dX9_logarithm_74 (lv_at hl 3 rfl) ?_
          refine lv_dmul hx hb dX9_logarithm_76 ((lg_bs (lg_bR h12)).n (by decide)) ?_
          refine lv_dmul hx hb dX9_logarithm_77 ((lg_bp (lg_bR h12) (i + 1) (by omega)).n (by omega)) ?_
          refine lv_dstore (lv' := [(7, .double (FP.dmul (lgp (lgR mm) i) (FP.dmul (lgR mm) (lgR mm)))), (9, .double (FP.dadd (lgu (lgR mm) i) (FP.ddiv (lgp (lgR mm) i) (FP.i2d (nI (2 * i + 1)))))), (11, .int (nI (2 * i + 1))), (5, .double (lgR mm)), (4, .int (nI ee)), (2, .double mm), (0, .double x)]) hx hb dX9_logarithm_78 hl (by decide) rfl (fun ls hl => ?_)
          refine nn_iinc (x := (2 * i + 1)) (d := 2) (lv' := [(11, .int (nI ((2 * i + 1) + 2))), (7, .double (FP.dmul (lgp (lgR mm) i) (FP.dmul (lgR mm) (lgR mm)))), (9, .double (FP.dadd (lgu (lgR mm) i) (FP.ddiv (lgp (lgR mm) i) (FP.i2d (nI (2 * i + 1)))))), (5, .double (lgR mm)), (4, .int (nI ee)), (2, .double mm), (0, .double x)]) hx hb dX9_logarithm_80 hl (k := 2) rfl (by decide) (by decide) rfl (fun ls hl => ?_)
          refine lv_goto (tgt := 52) hx hb dX9_logarithm_83 (by decide) ?_
          exact ih1 (i + 1) (by omega) (by omega) _ _ hh ls (lv_sub hl [0, 2, 1, 3, 4, 5, 6] rfl)
    exact loop52 ((10 - 0) + 1) 0 (by omega) (by omega) _ _ hh ls (lv_sub hl [0, 1, 2, 3, 4, 5, 6] rfl)
  refine lv_dload_n hx hb dX9_logarithm_0 rfl (lv_at hl 0 rfl) ?_
  refine lv_dstore_n (lv' := [(2, .double x), (0, .double x)]) hx hb dX9_logarithm_1 rfl hl (by decide) rfl (fun ls hl => ?_)
  refine lv_iconst (v := (nI 0)) hx hb dX9_logarithm_2 (by decide) ?_
  refine lv_istore (lv' := [(4, .int (nI 0)), (2, .double x), (0, .double x)]) hx hb dX9_logarithm_3 hl (by decide) rfl (fun ls hl => ?_)
  have loop5 : ∀ (n9 : Nat) (mm : UInt64) (ee : Nat), (40 - ee) < n9 → (lgI x mm ee) → ∀ (H : Heap) (locs : List Loc), GH Γ b M mem s H locs → ∀ (ls : Array Slot), lv_has ls 12 [(4, .int (nI ee)), (2, .double mm), (0, .double x)] → W p l e ({ frames := 0, cells := 0, slots := 0, locals := 0 } : Room) s m args below meth c H locs 0 0 (MQ below (QC Γ b M (fun u => u = mem) (some (.double (lgF x)))) args s 0 0 (fun q => b ≤ q)) (F0 m 5 ls []) := by
    intro n9
    induction n9 with
    | zero => intro mm ee hn; exact absurd hn (Nat.not_lt_zero _)
    | succ n9 ih =>
      intro mm ee hn hI H locs hh ls hl
      have hee := lgI_e hI
      have ih3 := ih
      refine lv_dload_n hx hb dX9_logarithm_5 rfl (lv_at hl 1 rfl) ?_
      refine lv_ldc2d hx hb hown (wk_X9_357 hE.2.1 args) dX9_logarithm_6 ?_
      refine lv_dcmp hx hb dX9_logarithm_9 ?_
      refine nn_cl_lt (tgt := 33) hx hb dX9_logarithm_10 (by decide) (fun h4 => ?_) (fun h4 => ?_)
      ·
        have hex := lgI_x hI h4
        have h12 : l12 mm := ⟨hI.1, lgI_lt hI h4⟩
        exact loop33 mm ee (hex) (h12) _ _ hh ls (lv_sub hl [0, 1, 2] rfl)
      ·
        have h10 := Classical.not_not.mp h4
        refine lv_iload hx hb dX9_logarithm_13 (lv_at hl 0 rfl) ?_
        refine lv_sipush (v := (nI 1100)) hx hb dX9_logarithm_15 (by decide) ?_
        refine nn_icmp_ge (tgt := 33) hx hb dX9_logarithm_18 (by decide) (by omega) (by omega) (fun h5 => ?_) (fun h5 => ?_)
        ·
          exact absurd h5 (by omega)
        ·
          refine lv_dload_n hx hb dX9_logarithm_21 rfl (lv_at hl 1 rfl) ?_
          refine lv_ldc2d hx hb hown (wk_X9_357 hE.2.1 args) dX9_logarithm_22 ?_
          refine lv_ddiv hx hb dX9_logarithm_25 (db.n (K := 1060) (by unfold db; have hg := half_bits (lgI_ge hI h10) (by have := hI.2.1; omega); have := hI.2.1; rw [hg]; omega) (by decide)) ?_
          refine lv_dstore_n (lv' := [(2, .double (FP.ddiv mm 4611686018427387904)), (4, .int (nI ee)), (0, .double x)]) hx hb dX9_logarithm_26 rfl hl (by decide) rfl (fun ls hl => ?_)
          refine nn_iinc (x := ee) (d := 1) (lv' := [(4, .int (nI (ee + 1))), (2, .double (FP.ddiv mm 4611686018427387904)), (0, .double x)]) hx hb dX9_logarithm_27 hl (k := 1) rfl (by decide) (by decide) rfl (fun ls hl => ?_)
          refine lv_goto (tgt := 5) hx hb dX9_logarithm_30 (by decide) ?_
          exact ih3 (FP.ddiv mm 4611686018427387904) (ee + 1) (by have := lgI_e hI; omega) (lgI_s hI h10) _ _ hh ls (lv_sub hl [0, 1, 2] rfl)
  exact loop5 ((40 - 0) + 1) x 0 (by omega) (lgI_0 hxo) _ _ hh ls (lv_sub hl [0, 1, 2] rfl)
