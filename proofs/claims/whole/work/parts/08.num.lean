/-! numbers: ints that are naturals (nI n), branches on them, branches behind fcmp and dcmp -/
def rge (r : Option Ordering) : Prop := r = some .gt ∨ r = some .eq
def rle (r : Option Ordering) : Prop := r = some .lt ∨ r = some .eq
section NN
variable {p : Program} {l : Launch} {e : Env} {R : Room} {s : State} {m : MethodId} {args : Array Value} {below : List Frame} {meth : Method} {c : Code} {H : Heap} {locs : List Loc} {cells slots : Nat} {Q : State → Prop}
variable {cc : ByteArray} {pc : Nat} {ls : Array Slot} {rest : List Value}
theorem nn_iadd (hx : p.tables.exec = Jvm.exec) (hb : c.code = cc) {x y : Nat} (hdg : decode cc pc = .ok (.iadd, 1)) (k : W p l e R s m args below meth c H locs cells slots Q (F0 m (pc + 1) ls (.int (nI (x + y)) :: rest))) : W p l e R s m args below meth c H locs cells slots Q (F0 m pc ls (.int (nI y) :: .int (nI x) :: rest)) := lv_iadd hx hb hdg (by rw [nI_add]; exact k)
theorem nn_isub (hx : p.tables.exec = Jvm.exec) (hb : c.code = cc) {x y : Nat} (h : y ≤ x) (hdg : decode cc pc = .ok (.isub, 1)) (k : W p l e R s m args below meth c H locs cells slots Q (F0 m (pc + 1) ls (.int (nI (x - y)) :: rest))) : W p l e R s m args below meth c H locs cells slots Q (F0 m pc ls (.int (nI y) :: .int (nI x) :: rest)) := lv_isub hx hb hdg (by rw [pk_sub h]; exact k)
theorem nn_imul (hx : p.tables.exec = Jvm.exec) (hb : c.code = cc) {x y : Nat} (hdg : decode cc pc = .ok (.imul, 1)) (k : W p l e R s m args below meth c H locs cells slots Q (F0 m (pc + 1) ls (.int (nI (x * y)) :: rest))) : W p l e R s m args below meth c H locs cells slots Q (F0 m pc ls (.int (nI y) :: .int (nI x) :: rest)) := lv_imul hx hb hdg (by rw [pk_mul]; exact k)
theorem nn_idiv (hx : p.tables.exec = Jvm.exec) (hb : c.code = cc) {x y : Nat} (h1 : x < 2 ^ 31) (h0 : 0 < y) (h2 : y < 2 ^ 31) (hdg : decode cc pc = .ok (.idiv, 1)) (k : W p l e R s m args below meth c H locs cells slots Q (F0 m (pc + 1) ls (.int (nI (x / y)) :: rest))) : W p l e R s m args below meth c H locs cells slots Q (F0 m pc ls (.int (nI y) :: .int (nI x) :: rest)) := lv_idiv hx hb hdg (nI_ne0 h0 h2) (by rw [pk_div h1 h0 h2]; exact k)
theorem nn_irem (hx : p.tables.exec = Jvm.exec) (hb : c.code = cc) {x y : Nat} (h1 : x < 2 ^ 31) (h0 : 0 < y) (h2 : y < 2 ^ 31) (hdg : decode cc pc = .ok (.irem, 1)) (k : W p l e R s m args below meth c H locs cells slots Q (F0 m (pc + 1) ls (.int (nI (x % y)) :: rest))) : W p l e R s m args below meth c H locs cells slots Q (F0 m pc ls (.int (nI y) :: .int (nI x) :: rest)) := lv_irem hx hb hdg (nI_ne0 h0 h2) (by rw [pk_rem h1 h0 h2]; exact k)
theorem nn_iinc (hx : p.tables.exec = Jvm.exec) (hb : c.code = cc) {i nL k x d : Nat} {n : Int} {lv lv' : List (Nat × Value)} (hdg : decode cc pc = .ok (.iinc i n, 3)) (h : lv_has ls nL lv) (hk : lv[k]? = some (i, .int (nI x))) (hd : Int32.ofInt n = nI d) (hn : i < nL) (hl : (i, Value.int (nI (x + d))) :: lv.filter (fun q => !(q.1 == i) && !(q.1 + 1 == i && q.2.category == 2)) = lv')
    (kk : ∀ ls' : Array Slot, lv_has ls' nL lv' → W p l e R s m args below meth c H locs cells slots Q (F0 m (pc + 3) ls' rest)) : W p l e R s m args below meth c H locs cells slots Q (F0 m pc ls rest) := lv_iinc hx hb hdg h hk (by rw [hd, nI_add]) hn hl kk
theorem nn_idec (hx : p.tables.exec = Jvm.exec) (hb : c.code = cc) {i nL k x : Nat} {lv lv' : List (Nat × Value)} (hdg : decode cc pc = .ok (.iinc i (-1), 3)) (h : lv_has ls nL lv) (hk : lv[k]? = some (i, .int (nI x))) (h1 : 1 ≤ x) (hn : i < nL) (hl : (i, Value.int (nI (x - 1))) :: lv.filter (fun q => !(q.1 == i) && !(q.1 + 1 == i && q.2.category == 2)) = lv')
    (kk : ∀ ls' : Array Slot, lv_has ls' nL lv' → W p l e R s m args below meth c H locs cells slots Q (F0 m (pc + 3) ls' rest)) : W p l e R s m args below meth c H locs cells slots Q (F0 m pc ls rest) := lv_iinc hx hb hdg h hk (by rw [show Int32.ofInt (-1) = (-1 : Int32) from rfl, sb_m1 (by omega)]) hn hl kk
theorem nn_icmp_ge (hx : p.tables.exec = Jvm.exec) (hb : c.code = cc) {x y : Nat} {off : Int} {tgt : Nat} (hdg : decode cc pc = .ok (.if_icmp .ge off, 3)) (ht : (pc : Int) + off = (tgt : Int)) (hX : x < 2 ^ 31) (hY : y < 2 ^ 31) (kt : y ≤ x → W p l e R s m args below meth c H locs cells slots Q (F0 m tgt ls rest)) (kf : x < y → W p l e R s m args below meth c H locs cells slots Q (F0 m (pc + 3) ls rest)) : W p l e R s m args below meth c H locs cells slots Q (F0 m pc ls (.int (nI y) :: .int (nI x) :: rest)) :=
  lv_icmp_ge hx hb hdg ht (fun h => kt ((nI_leI hY hX).mp h)) (fun h => kf (by have h2 := mt (nI_leI hY hX).mpr h; omega))
theorem nn_icmp_gt (hx : p.tables.exec = Jvm.exec) (hb : c.code = cc) {x y : Nat} {off : Int} {tgt : Nat} (hdg : decode cc pc = .ok (.if_icmp .gt off, 3)) (ht : (pc : Int) + off = (tgt : Int)) (hX : x < 2 ^ 31) (hY : y < 2 ^ 31) (kt : y < x → W p l e R s m args below meth c H locs cells slots Q (F0 m tgt ls rest)) (kf : x ≤ y → W p l e R s m args below meth c H locs cells slots Q (F0 m (pc + 3) ls rest)) : W p l e R s m args below meth c H locs cells slots Q (F0 m pc ls (.int (nI y) :: .int (nI x) :: rest)) :=
  lv_icmp_gt hx hb hdg ht (fun h => kt ((nI_ltI hY hX).mp h)) (fun h => kf (by have h2 := mt (nI_ltI hY hX).mpr h; omega))
theorem nn_icmp_le (hx : p.tables.exec = Jvm.exec) (hb : c.code = cc) {x y : Nat} {off : Int} {tgt : Nat} (hdg : decode cc pc = .ok (.if_icmp .le off, 3)) (ht : (pc : Int) + off = (tgt : Int)) (hX : x < 2 ^ 31) (hY : y < 2 ^ 31) (kt : x ≤ y → W p l e R s m args below meth c H locs cells slots Q (F0 m tgt ls rest)) (kf : y < x → W p l e R s m args below meth c H locs cells slots Q (F0 m (pc + 3) ls rest)) : W p l e R s m args below meth c H locs cells slots Q (F0 m pc ls (.int (nI y) :: .int (nI x) :: rest)) :=
  lv_icmp_le hx hb hdg ht (fun h => kt ((nI_leI hX hY).mp h)) (fun h => kf (by have h2 := mt (nI_leI hX hY).mpr h; omega))
theorem nn_icmp_lt (hx : p.tables.exec = Jvm.exec) (hb : c.code = cc) {x y : Nat} {off : Int} {tgt : Nat} (hdg : decode cc pc = .ok (.if_icmp .lt off, 3)) (ht : (pc : Int) + off = (tgt : Int)) (hX : x < 2 ^ 31) (hY : y < 2 ^ 31) (kt : x < y → W p l e R s m args below meth c H locs cells slots Q (F0 m tgt ls rest)) (kf : y ≤ x → W p l e R s m args below meth c H locs cells slots Q (F0 m (pc + 3) ls rest)) : W p l e R s m args below meth c H locs cells slots Q (F0 m pc ls (.int (nI y) :: .int (nI x) :: rest)) :=
  lv_icmp_lt hx hb hdg ht (fun h => kt ((nI_ltI hX hY).mp h)) (fun h => kf (by have h2 := mt (nI_ltI hX hY).mpr h; omega))
theorem nn_icmp_eq (hx : p.tables.exec = Jvm.exec) (hb : c.code = cc) {x y : Nat} {off : Int} {tgt : Nat} (hdg : decode cc pc = .ok (.if_icmp .eq off, 3)) (ht : (pc : Int) + off = (tgt : Int)) (hX : x < 2 ^ 31) (hY : y < 2 ^ 31) (kt : x = y → W p l e R s m args below meth c H locs cells slots Q (F0 m tgt ls rest)) (kf : x ≠ y → W p l e R s m args below meth c H locs cells slots Q (F0 m (pc + 3) ls rest)) : W p l e R s m args below meth c H locs cells slots Q (F0 m pc ls (.int (nI y) :: .int (nI x) :: rest)) :=
  lv_icmp_eq hx hb hdg ht (fun h => kt ((nI_eq hX hY).mp h)) (fun h => kf (fun q => h ((nI_eq hX hY).mpr q)))
theorem nn_icmp_ne (hx : p.tables.exec = Jvm.exec) (hb : c.code = cc) {x y : Nat} {off : Int} {tgt : Nat} (hdg : decode cc pc = .ok (.if_icmp .ne off, 3)) (ht : (pc : Int) + off = (tgt : Int)) (hX : x < 2 ^ 31) (hY : y < 2 ^ 31) (kt : x ≠ y → W p l e R s m args below meth c H locs cells slots Q (F0 m tgt ls rest)) (kf : x = y → W p l e R s m args below meth c H locs cells slots Q (F0 m (pc + 3) ls rest)) : W p l e R s m args below meth c H locs cells slots Q (F0 m pc ls (.int (nI y) :: .int (nI x) :: rest)) :=
  lv_icmp_ne hx hb hdg ht (fun h => kt (fun q => h ((nI_eq hX hY).mpr q))) (fun h => kf (by first | exact (nI_eq hX hY).mp h | exact (nI_eq hX hY).mp (Classical.not_not.mp h)))
theorem nn_if_gt (hx : p.tables.exec = Jvm.exec) (hb : c.code = cc) {x : Nat} {off : Int} {tgt : Nat} (hdg : decode cc pc = .ok (.ifCond .gt off, 3)) (ht : (pc : Int) + off = (tgt : Int)) (hX : x < 2 ^ 31) (kt : 0 < x → W p l e R s m args below meth c H locs cells slots Q (F0 m tgt ls rest)) (kf : x = 0 → W p l e R s m args below meth c H locs cells slots Q (F0 m (pc + 3) ls rest)) : W p l e R s m args below meth c H locs cells slots Q (F0 m pc ls (.int (nI x) :: rest)) := by
  have e0 : (0 : Int32) = nI 0 := rfl
  exact lv_if_gt hx hb hdg ht (fun h => kt (by rw [e0] at h; exact (nI_ltI (by decide) hX).mp h)) (fun h => kf (by rw [e0] at h; have h2 := mt (nI_ltI (by decide) hX).mpr h; omega))
theorem nn_if_le (hx : p.tables.exec = Jvm.exec) (hb : c.code = cc) {x : Nat} {off : Int} {tgt : Nat} (hdg : decode cc pc = .ok (.ifCond .le off, 3)) (ht : (pc : Int) + off = (tgt : Int)) (hX : x < 2 ^ 31) (kt : x = 0 → W p l e R s m args below meth c H locs cells slots Q (F0 m tgt ls rest)) (kf : 0 < x → W p l e R s m args below meth c H locs cells slots Q (F0 m (pc + 3) ls rest)) : W p l e R s m args below meth c H locs cells slots Q (F0 m pc ls (.int (nI x) :: rest)) := by
  have e0 : (0 : Int32) = nI 0 := rfl
  exact lv_if_le hx hb hdg ht (fun h => kt (by rw [e0] at h; have := (nI_leI hX (by decide)).mp h; omega)) (fun h => kf (by rw [e0] at h; have h2 := mt (nI_leI hX (by decide)).mpr h; omega))
theorem nn_if_eq (hx : p.tables.exec = Jvm.exec) (hb : c.code = cc) {x : Nat} {off : Int} {tgt : Nat} (hdg : decode cc pc = .ok (.ifCond .eq off, 3)) (ht : (pc : Int) + off = (tgt : Int)) (hX : x < 2 ^ 31) (kt : x = 0 → W p l e R s m args below meth c H locs cells slots Q (F0 m tgt ls rest)) (kf : 0 < x → W p l e R s m args below meth c H locs cells slots Q (F0 m (pc + 3) ls rest)) : W p l e R s m args below meth c H locs cells slots Q (F0 m pc ls (.int (nI x) :: rest)) := by
  have e0 : (0 : Int32) = nI 0 := rfl
  exact lv_if_eq hx hb hdg ht (fun h => kt (by rw [e0] at h; exact (nI_eq hX (by decide)).mp h)) (fun h => kf (by rw [e0] at h; have h2 := mt (nI_eq hX (by decide)).mpr h; omega))
theorem nn_if_ne (hx : p.tables.exec = Jvm.exec) (hb : c.code = cc) {x : Nat} {off : Int} {tgt : Nat} (hdg : decode cc pc = .ok (.ifCond .ne off, 3)) (ht : (pc : Int) + off = (tgt : Int)) (hX : x < 2 ^ 31) (kt : 0 < x → W p l e R s m args below meth c H locs cells slots Q (F0 m tgt ls rest)) (kf : x = 0 → W p l e R s m args below meth c H locs cells slots Q (F0 m (pc + 3) ls rest)) : W p l e R s m args below meth c H locs cells slots Q (F0 m pc ls (.int (nI x) :: rest)) := by
  have e0 : (0 : Int32) = nI 0 := rfl
  exact lv_if_ne hx hb hdg ht (fun h => kt (by rw [e0] at h; have h2 := mt (nI_eq hX (by decide)).mpr h; omega)) (fun h => kf (by rw [e0] at h; first | exact (nI_eq hX (by decide)).mp h | exact (nI_eq hX (by decide)).mp (Classical.not_not.mp h)))
theorem cv_l_gt (r : Option Ordering) : (0 < Op.cmpValue r .l) ↔ (r = some .gt) := by
  rcases r with _ | o
  · simp [Op.cmpValue, rge, rle]
  · cases o <;> simp [Op.cmpValue, rge, rle]
theorem nn_cl_gt (hx : p.tables.exec = Jvm.exec) (hb : c.code = cc) {r : Option Ordering} {off : Int} {tgt : Nat} (hdg : decode cc pc = .ok (.ifCond .gt off, 3)) (ht : (pc : Int) + off = (tgt : Int)) (kt : (r = some .gt) → W p l e R s m args below meth c H locs cells slots Q (F0 m tgt ls rest)) (kf : ¬ (r = some .gt) → W p l e R s m args below meth c H locs cells slots Q (F0 m (pc + 3) ls rest)) : W p l e R s m args below meth c H locs cells slots Q (F0 m pc ls (.int (Op.cmpValue r .l) :: rest)) :=
  lv_if_gt hx hb hdg ht (fun h => kt ((cv_l_gt r).mp h)) (fun h => kf (fun q => h ((cv_l_gt r).mpr q)))
theorem cv_l_le (r : Option Ordering) : (Op.cmpValue r .l ≤ 0) ↔ (¬ r = some .gt) := by
  rcases r with _ | o
  · simp [Op.cmpValue, rge, rle]
  · cases o <;> simp [Op.cmpValue, rge, rle]
theorem nn_cl_le (hx : p.tables.exec = Jvm.exec) (hb : c.code = cc) {r : Option Ordering} {off : Int} {tgt : Nat} (hdg : decode cc pc = .ok (.ifCond .le off, 3)) (ht : (pc : Int) + off = (tgt : Int)) (kt : (¬ r = some .gt) → W p l e R s m args below meth c H locs cells slots Q (F0 m tgt ls rest)) (kf : ¬ (¬ r = some .gt) → W p l e R s m args below meth c H locs cells slots Q (F0 m (pc + 3) ls rest)) : W p l e R s m args below meth c H locs cells slots Q (F0 m pc ls (.int (Op.cmpValue r .l) :: rest)) :=
  lv_if_le hx hb hdg ht (fun h => kt ((cv_l_le r).mp h)) (fun h => kf (fun q => h ((cv_l_le r).mpr q)))
theorem cv_l_lt (r : Option Ordering) : (Op.cmpValue r .l < 0) ↔ (¬ rge r) := by
  rcases r with _ | o
  · simp [Op.cmpValue, rge, rle]
  · cases o <;> simp [Op.cmpValue, rge, rle]
theorem nn_cl_lt (hx : p.tables.exec = Jvm.exec) (hb : c.code = cc) {r : Option Ordering} {off : Int} {tgt : Nat} (hdg : decode cc pc = .ok (.ifCond .lt off, 3)) (ht : (pc : Int) + off = (tgt : Int)) (kt : (¬ rge r) → W p l e R s m args below meth c H locs cells slots Q (F0 m tgt ls rest)) (kf : ¬ (¬ rge r) → W p l e R s m args below meth c H locs cells slots Q (F0 m (pc + 3) ls rest)) : W p l e R s m args below meth c H locs cells slots Q (F0 m pc ls (.int (Op.cmpValue r .l) :: rest)) :=
  lv_if_lt hx hb hdg ht (fun h => kt ((cv_l_lt r).mp h)) (fun h => kf (fun q => h ((cv_l_lt r).mpr q)))
theorem cv_l_ge (r : Option Ordering) : (0 ≤ Op.cmpValue r .l) ↔ (rge r) := by
  rcases r with _ | o
  · simp [Op.cmpValue, rge, rle]
  · cases o <;> simp [Op.cmpValue, rge, rle]
theorem nn_cl_ge (hx : p.tables.exec = Jvm.exec) (hb : c.code = cc) {r : Option Ordering} {off : Int} {tgt : Nat} (hdg : decode cc pc = .ok (.ifCond .ge off, 3)) (ht : (pc : Int) + off = (tgt : Int)) (kt : (rge r) → W p l e R s m args below meth c H locs cells slots Q (F0 m tgt ls rest)) (kf : ¬ (rge r) → W p l e R s m args below meth c H locs cells slots Q (F0 m (pc + 3) ls rest)) : W p l e R s m args below meth c H locs cells slots Q (F0 m pc ls (.int (Op.cmpValue r .l) :: rest)) :=
  lv_if_ge hx hb hdg ht (fun h => kt ((cv_l_ge r).mp h)) (fun h => kf (fun q => h ((cv_l_ge r).mpr q)))
theorem cv_l_eq (r : Option Ordering) : (Op.cmpValue r .l = 0) ↔ (r = some .eq) := by
  rcases r with _ | o
  · simp [Op.cmpValue, rge, rle]
  · cases o <;> simp [Op.cmpValue, rge, rle]
theorem nn_cl_eq (hx : p.tables.exec = Jvm.exec) (hb : c.code = cc) {r : Option Ordering} {off : Int} {tgt : Nat} (hdg : decode cc pc = .ok (.ifCond .eq off, 3)) (ht : (pc : Int) + off = (tgt : Int)) (kt : (r = some .eq) → W p l e R s m args below meth c H locs cells slots Q (F0 m tgt ls rest)) (kf : ¬ (r = some .eq) → W p l e R s m args below meth c H locs cells slots Q (F0 m (pc + 3) ls rest)) : W p l e R s m args below meth c H locs cells slots Q (F0 m pc ls (.int (Op.cmpValue r .l) :: rest)) :=
  lv_if_eq hx hb hdg ht (fun h => kt ((cv_l_eq r).mp h)) (fun h => kf (fun q => h ((cv_l_eq r).mpr q)))
theorem cv_l_ne (r : Option Ordering) : (¬ Op.cmpValue r .l = 0) ↔ (¬ r = some .eq) := by
  rcases r with _ | o
  · simp [Op.cmpValue, rge, rle]
  · cases o <;> simp [Op.cmpValue, rge, rle]
theorem nn_cl_ne (hx : p.tables.exec = Jvm.exec) (hb : c.code = cc) {r : Option Ordering} {off : Int} {tgt : Nat} (hdg : decode cc pc = .ok (.ifCond .ne off, 3)) (ht : (pc : Int) + off = (tgt : Int)) (kt : (¬ r = some .eq) → W p l e R s m args below meth c H locs cells slots Q (F0 m tgt ls rest)) (kf : ¬ (¬ r = some .eq) → W p l e R s m args below meth c H locs cells slots Q (F0 m (pc + 3) ls rest)) : W p l e R s m args below meth c H locs cells slots Q (F0 m pc ls (.int (Op.cmpValue r .l) :: rest)) :=
  lv_if_ne hx hb hdg ht (fun h => kt ((cv_l_ne r).mp h)) (fun h => kf (fun q => (cv_l_ne r).mpr q (by first | exact h | exact Classical.not_not.mp h)))
theorem cv_g_lt (r : Option Ordering) : (Op.cmpValue r .g < 0) ↔ (r = some .lt) := by
  rcases r with _ | o
  · simp [Op.cmpValue, rge, rle]
  · cases o <;> simp [Op.cmpValue, rge, rle]
theorem nn_cg_lt (hx : p.tables.exec = Jvm.exec) (hb : c.code = cc) {r : Option Ordering} {off : Int} {tgt : Nat} (hdg : decode cc pc = .ok (.ifCond .lt off, 3)) (ht : (pc : Int) + off = (tgt : Int)) (kt : (r = some .lt) → W p l e R s m args below meth c H locs cells slots Q (F0 m tgt ls rest)) (kf : ¬ (r = some .lt) → W p l e R s m args below meth c H locs cells slots Q (F0 m (pc + 3) ls rest)) : W p l e R s m args below meth c H locs cells slots Q (F0 m pc ls (.int (Op.cmpValue r .g) :: rest)) :=
  lv_if_lt hx hb hdg ht (fun h => kt ((cv_g_lt r).mp h)) (fun h => kf (fun q => h ((cv_g_lt r).mpr q)))
theorem cv_g_ge (r : Option Ordering) : (0 ≤ Op.cmpValue r .g) ↔ (¬ r = some .lt) := by
  rcases r with _ | o
  · simp [Op.cmpValue, rge, rle]
  · cases o <;> simp [Op.cmpValue, rge, rle]
theorem nn_cg_ge (hx : p.tables.exec = Jvm.exec) (hb : c.code = cc) {r : Option Ordering} {off : Int} {tgt : Nat} (hdg : decode cc pc = .ok (.ifCond .ge off, 3)) (ht : (pc : Int) + off = (tgt : Int)) (kt : (¬ r = some .lt) → W p l e R s m args below meth c H locs cells slots Q (F0 m tgt ls rest)) (kf : ¬ (¬ r = some .lt) → W p l e R s m args below meth c H locs cells slots Q (F0 m (pc + 3) ls rest)) : W p l e R s m args below meth c H locs cells slots Q (F0 m pc ls (.int (Op.cmpValue r .g) :: rest)) :=
  lv_if_ge hx hb hdg ht (fun h => kt ((cv_g_ge r).mp h)) (fun h => kf (fun q => h ((cv_g_ge r).mpr q)))
theorem cv_g_gt (r : Option Ordering) : (0 < Op.cmpValue r .g) ↔ (¬ rle r) := by
  rcases r with _ | o
  · simp [Op.cmpValue, rge, rle]
  · cases o <;> simp [Op.cmpValue, rge, rle]
theorem nn_cg_gt (hx : p.tables.exec = Jvm.exec) (hb : c.code = cc) {r : Option Ordering} {off : Int} {tgt : Nat} (hdg : decode cc pc = .ok (.ifCond .gt off, 3)) (ht : (pc : Int) + off = (tgt : Int)) (kt : (¬ rle r) → W p l e R s m args below meth c H locs cells slots Q (F0 m tgt ls rest)) (kf : ¬ (¬ rle r) → W p l e R s m args below meth c H locs cells slots Q (F0 m (pc + 3) ls rest)) : W p l e R s m args below meth c H locs cells slots Q (F0 m pc ls (.int (Op.cmpValue r .g) :: rest)) :=
  lv_if_gt hx hb hdg ht (fun h => kt ((cv_g_gt r).mp h)) (fun h => kf (fun q => h ((cv_g_gt r).mpr q)))
theorem cv_g_le (r : Option Ordering) : (Op.cmpValue r .g ≤ 0) ↔ (rle r) := by
  rcases r with _ | o
  · simp [Op.cmpValue, rge, rle]
  · cases o <;> simp [Op.cmpValue, rge, rle]
theorem nn_cg_le (hx : p.tables.exec = Jvm.exec) (hb : c.code = cc) {r : Option Ordering} {off : Int} {tgt : Nat} (hdg : decode cc pc = .ok (.ifCond .le off, 3)) (ht : (pc : Int) + off = (tgt : Int)) (kt : (rle r) → W p l e R s m args below meth c H locs cells slots Q (F0 m tgt ls rest)) (kf : ¬ (rle r) → W p l e R s m args below meth c H locs cells slots Q (F0 m (pc + 3) ls rest)) : W p l e R s m args below meth c H locs cells slots Q (F0 m pc ls (.int (Op.cmpValue r .g) :: rest)) :=
  lv_if_le hx hb hdg ht (fun h => kt ((cv_g_le r).mp h)) (fun h => kf (fun q => h ((cv_g_le r).mpr q)))
theorem cv_g_eq (r : Option Ordering) : (Op.cmpValue r .g = 0) ↔ (r = some .eq) := by
  rcases r with _ | o
  · simp [Op.cmpValue, rge, rle]
  · cases o <;> simp [Op.cmpValue, rge, rle]
theorem nn_cg_eq (hx : p.tables.exec = Jvm.exec) (hb : c.code = cc) {r : Option Ordering} {off : Int} {tgt : Nat} (hdg : decode cc pc = .ok (.ifCond .eq off, 3)) (ht : (pc : Int) + off = (tgt : Int)) (kt : (r = some .eq) → W p l e R s m args below meth c H locs cells slots Q (F0 m tgt ls rest)) (kf : ¬ (r = some .eq) → W p l e R s m args below meth c H locs cells slots Q (F0 m (pc + 3) ls rest)) : W p l e R s m args below meth c H locs cells slots Q (F0 m pc ls (.int (Op.cmpValue r .g) :: rest)) :=
  lv_if_eq hx hb hdg ht (fun h => kt ((cv_g_eq r).mp h)) (fun h => kf (fun q => h ((cv_g_eq r).mpr q)))
theorem cv_g_ne (r : Option Ordering) : (¬ Op.cmpValue r .g = 0) ↔ (¬ r = some .eq) := by
  rcases r with _ | o
  · simp [Op.cmpValue, rge, rle]
  · cases o <;> simp [Op.cmpValue, rge, rle]
theorem nn_cg_ne (hx : p.tables.exec = Jvm.exec) (hb : c.code = cc) {r : Option Ordering} {off : Int} {tgt : Nat} (hdg : decode cc pc = .ok (.ifCond .ne off, 3)) (ht : (pc : Int) + off = (tgt : Int)) (kt : (¬ r = some .eq) → W p l e R s m args below meth c H locs cells slots Q (F0 m tgt ls rest)) (kf : ¬ (¬ r = some .eq) → W p l e R s m args below meth c H locs cells slots Q (F0 m (pc + 3) ls rest)) : W p l e R s m args below meth c H locs cells slots Q (F0 m pc ls (.int (Op.cmpValue r .g) :: rest)) :=
  lv_if_ne hx hb hdg ht (fun h => kt ((cv_g_ne r).mp h)) (fun h => kf (fun q => (cv_g_ne r).mpr q (by first | exact h | exact Classical.not_not.mp h)))
def bI (q : Bool) : Int32 := if q then 1 else 0
theorem bI_nar (q : Bool) : narrow .boolean (.int (bI q)) = .int (bI q) := by cases q <;> rfl
theorem bI_nar2 (q : Bool) : vp_nar .boolean (bI q) = bI q := by cases q <;> rfl
theorem bI_fit (q : Bool) : fits .boolean (.int (bI q)) = true := by cases q <;> rfl
abbrev aB (Γ : Gm) (n : Nat) (g : Nat → Bool) : va_E := aZ Γ n (fun t => bI (g t))
theorem va_up_bI (g : Nat → Bool) (k : Nat) (v : Bool) : va_up (fun t => bI (g t)) k (bI v) = fun t => bI (va_up g k v t) := by
  funext t
  unfold va_up
  split <;> rfl
theorem bI_eq0 (q : Bool) : bI q = 0 ↔ q = false := by cases q <;> simp [bI]
theorem nn_beq (hx : p.tables.exec = Jvm.exec) (hb : c.code = cc) {q : Bool} {off : Int} {tgt : Nat} (hdg : decode cc pc = .ok (.ifCond .eq off, 3)) (ht : (pc : Int) + off = (tgt : Int)) (kt : q = false → W p l e R s m args below meth c H locs cells slots Q (F0 m tgt ls rest)) (kf : q = true → W p l e R s m args below meth c H locs cells slots Q (F0 m (pc + 3) ls rest)) : W p l e R s m args below meth c H locs cells slots Q (F0 m pc ls (.int (bI q) :: rest)) := by
  exact lv_if_eq hx hb hdg ht (fun h => kt ((bI_eq0 q).mp h)) (fun h => kf (by cases q; exact absurd rfl h; rfl))
theorem nn_bne (hx : p.tables.exec = Jvm.exec) (hb : c.code = cc) {q : Bool} {off : Int} {tgt : Nat} (hdg : decode cc pc = .ok (.ifCond .ne off, 3)) (ht : (pc : Int) + off = (tgt : Int)) (kt : q = true → W p l e R s m args below meth c H locs cells slots Q (F0 m tgt ls rest)) (kf : q = false → W p l e R s m args below meth c H locs cells slots Q (F0 m (pc + 3) ls rest)) : W p l e R s m args below meth c H locs cells slots Q (F0 m pc ls (.int (bI q) :: rest)) := by
  exact lv_if_ne hx hb hdg ht (fun h => kt (by cases q; exact absurd rfl h; rfl)) (fun h => kf (by cases q; rfl; first | (exact absurd h (by decide)) | (exact absurd (Classical.not_not.mp h) (by decide))))
theorem wq_code_min {U : State} (h : EXg U) (A : Array Value) : (Cond.code Lib.Math.min.name Lib.Math.min.code 2 (some .int)).before A U = true := h _ (List.mem_of_getElem? (i := 303) (by decide +kernel)) (by decide +kernel) A
theorem wq_static_min {U : State} (h : EXg U) (A : Array Value) : (Cond.static Lib.Math.min.name).before A U = true := h _ (List.mem_of_getElem? (i := 302) (by decide +kernel)) (by decide +kernel) A
theorem wq_code_max {U : State} (h : EXg U) (A : Array Value) : (Cond.code Lib.Math.max.name Lib.Math.max.code 2 (some .int)).before A U = true := h _ (List.mem_of_getElem? (i := 87) (by decide +kernel)) (by decide +kernel) A
theorem wq_static_max {U : State} (h : EXg U) (A : Array Value) : (Cond.static Lib.Math.max.name).before A U = true := h _ (List.mem_of_getElem? (i := 86) (by decide +kernel)) (by decide +kernel) A
theorem wq_init {U : State} (h : EXg U) (A : Array Value) : (Cond.initialized "java/lang/Math").before A U = true := h _ (List.mem_of_getElem? (i := 44) (by decide +kernel)) (by decide +kernel) A
theorem nn_mmin (hx : p.tables.exec = Jvm.exec) (hb : c.code = cc) {nL index x y : Nat} {own : String} (hml : c.maxLocals = nL) (hl : ls.size = nL) (hown : s.vm.findClass own = some m.cls) (hE : EXg s) (hlink : (Cond.methodLink own index Lib.Math.min.name).before args s = true) (hf : 1 ≤ R.frames) (hlo : (rest.map fun v => v.category).sum + 13 ≤ R.locals) (hX : x < 2 ^ 31) (hY : y < 2 ^ 31) (hdg : decode cc pc = .ok (.invokestatic index, 3))
    (kk : W p l e R s m args below meth c H locs 0 0 Q (F0 m (pc + 3) ls (.int (nI (min x y)) :: rest))) : W p l e R s m args below meth c H locs 0 0 Q (F0 m pc ls (.int (nI y) :: .int (nI x) :: rest)) := by
  refine va_mmin hx hb (hml.trans hl.symm) hown hlink (wq_static_min hE args) (wq_init hE args) (wq_code_min hE args) hf hlo (Nat.zero_le _) (Nat.zero_le _) hdg ?_
  have e : (if nI y < nI x then nI y else nI x) = nI (min x y) := by
    split
    · rename_i h; have := (nI_ltI hY hX).mp h; congr 1; omega
    · rename_i h; have := mt (nI_ltI hY hX).mpr h; congr 1; omega
  rw [e]; exact kk
theorem nn_mmax (hx : p.tables.exec = Jvm.exec) (hb : c.code = cc) {nL index x y : Nat} {own : String} (hml : c.maxLocals = nL) (hl : ls.size = nL) (hown : s.vm.findClass own = some m.cls) (hE : EXg s) (hlink : (Cond.methodLink own index Lib.Math.max.name).before args s = true) (hf : 1 ≤ R.frames) (hlo : (rest.map fun v => v.category).sum + 13 ≤ R.locals) (hX : x < 2 ^ 31) (hY : y < 2 ^ 31) (hdg : decode cc pc = .ok (.invokestatic index, 3))
    (kk : W p l e R s m args below meth c H locs 0 0 Q (F0 m (pc + 3) ls (.int (nI (max x y)) :: rest))) : W p l e R s m args below meth c H locs 0 0 Q (F0 m pc ls (.int (nI y) :: .int (nI x) :: rest)) := by
  refine va_mmax hx hb (hml.trans hl.symm) hown hlink (wq_static_max hE args) (wq_init hE args) (wq_code_max hE args) hf hlo (Nat.zero_le _) (Nat.zero_le _) hdg ?_
  have e : (if nI x < nI y then nI y else nI x) = nI (max x y) := by
    split
    · rename_i h; have := (nI_ltI hX hY).mp h; congr 1; omega
    · rename_i h; have := mt (nI_ltI hX hY).mpr h; congr 1; omega
  rw [e]; exact kk
theorem nn_ldcfw (hexec : p.tables.exec = Jvm.exec) (hb : c.code = cc) {own : String} {index : Nat} {v : UInt32} (hown : s.vm.findClass own = some m.cls) (hconst : (Jvm.Cond.constantFloat own index v).before args s = true) (hdg : decode cc pc = .ok (.ldc_w index, 3)) (k : W p l e R s m args below meth c H locs cells slots Q (F0 m (pc + 3) ls (.float v :: rest))) : W p l e R s m args below meth c H locs cells slots Q (F0 m pc ls rest) := by
  intro T hT X
  obtain ⟨t, a1, b1⟩ := k T hT X
  obtain ⟨kc, cf, hk, hcf, hcp⟩ := Cond.constantFloat_spec hown hconst
  obtain ⟨k', hk', he⟩ := X.warmed.alike.2.2 _ _ hk
  refine ⟨t, ?_, b1⟩
  have hdg' : decode c.code pc = .ok (.ldc_w index, 3) := by rw [hb]; exact hdg
  jvm_step X.here [hexec, hdg', Op.ldc_w.wp_float (s := T) (f := F0 m pc ls rest) X.here.top hk' (by rw [he]; exact hcf) hcp]
  exact a1
theorem mm_alen (hx : p.tables.exec = Jvm.exec) (hb : c.code = cc) {Γ : Gm} {b M i : Nat} {mem : Nat → va_E} (hE : EX Γ b s) (hh : GH Γ b M mem s H locs) (t0 : Nat) {cA : ClassId} {n : Nat} {x : (Nat → Int32) ⊕ (Nat → Int64) ⊕ (Nat → UInt32) ⊕ (Nat → UInt64) ⊕ (Nat → Option Nat)} {ty : FieldType} (hi : i < M) (hm : mem i = .inl (cA, n, x)) (ht : (tyL Γ)[t0]? = some (cA, ty)) (hdg : decode cc pc = .ok (.arraylength, 1)) (kk : W p l e R s m args below meth c H locs cells slots Q (F0 m (pc + 1) ls (.int (nI n) :: rest))) : W p l e R s m args below meth c H locs cells slots Q (F0 m pc ls (.ref (b + i) :: rest)) := va_alen hx hb hE.1 hh.1 i t0 (gW_at hi hm) ht rfl hdg kk
end NN
