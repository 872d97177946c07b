/-! EVERY CALL (but search, fuse): both sides answer alike, and the invariant holds again -/
theorem f_nn {x y : UInt32} {o : Ordering} (h : FP.fcmp x y = some o) : FP.Core.val32 x ≠ .nan := by
  intro hn
  have e : FP.fcmp x y = none := by
    show FP.Core.order (FP.Core.val32 x) (FP.Core.val32 y) = none
    rw [hn]
    rfl
  rw [e] at h
  cases h
theorem okF_nn {x : UInt32} (h : okF x = true) : FP.Core.val32 x ≠ .nan := by
  have h1 := (of_decide_eq_true h).1
  rcases h1 with h1 | h1
  · exact f_nn h1
  · exact f_nn h1
theorem okF_fb {x : UInt32} (h : okF x = true) : fb 148 x := by
  have hn := okF_nn h
  obtain ⟨h1, h2⟩ := of_decide_eq_true h
  have nl : FP.Core.val32 3380609024 ≠ .nan := by rw [FP.Core.ne_nan32]; decide
  have nh : FP.Core.val32 1233125376 ≠ .nan := by rw [FP.Core.ne_nan32]; decide
  have e1 : FP.Core.fkey 3380609024 = -1233125376 := by decide +kernel
  have e2 : FP.Core.fkey 1233125376 = 1233125376 := by decide +kernel
  have k1 : -1233125376 ≤ FP.Core.fkey x := by
    rw [← e1]
    rcases h1 with h1 | h1
    · have := (FP.Core.fcmp_gt_key hn nl).mp h1; omega
    · have := (FP.Core.fcmp_eq_key hn nl).mp h1; omega
  have k2 : FP.Core.fkey x ≤ 1233125376 := by
    rw [← e2]
    rcases h2 with h2 | h2
    · have := (FP.Core.fcmp_lt_key hn nh).mp h2; omega
    · have := (FP.Core.fcmp_eq_key hn nh).mp h2; omega
  unfold FP.Core.fkey at k1 k2
  unfold fb
  have := x.toNat_lt
  split at k1 <;> split at k2 <;> omega
theorem ok_rge {x : UInt32} (h : okF x = true) (hl : ¬ FP.fcmp x FP.fconst0 = some .lt) : rge (FP.fcmp x FP.fconst0) := by
  have hn := okF_nn h
  have nz : FP.Core.val32 FP.fconst0 ≠ .nan := by rw [FP.Core.ne_nan32]; decide
  have k := mt (FP.Core.fcmp_lt_key hn nz).mpr hl
  rcases Int.lt_or_eq_of_le (show FP.Core.fkey FP.fconst0 ≤ FP.Core.fkey x by omega) with k2 | k2
  · exact Or.inl ((FP.Core.fcmp_gt_key hn nz).mpr k2)
  · exact Or.inr ((FP.Core.fcmp_eq_key hn nz).mpr k2.symm)
theorem lt_nrge {x y : UInt32} (h : FP.fcmp x y = some .lt) : ¬ rge (FP.fcmp x y) := by
  intro q
  rw [h] at q
  rcases q with q | q <;> cases q
theorem up1 {α : Type} {Q : Nat → α → Prop} {f : Nat → α} {d : Nat} {x : α} (h0 : Q d x) (h : ∀ a, Q a (f a)) : ∀ a, Q a (va_up f d x a) := by
  intro a
  by_cases e : a = d
  · subst e; rw [va_up_self]; exact h0
  · rw [va_up_ne _ _ e]; exact h a
theorem up2 {α : Type} {Q : Nat → Nat → α → Prop} {f : Nat → Nat → α} {d t : Nat} {x : α} (h0 : Q d t x) (h : ∀ a c, Q a c (f a c)) : ∀ a c, Q a c (va_up f d (va_up (f d) t x) a c) := by
  intro a c
  by_cases e : a = d
  · subst e
    rw [va_up_self]
    exact up1 (Q := Q a) h0 (h a) c
  · rw [va_up_ne _ _ e]; exact h a c
theorem up4_gd {f : Nat → UInt32} {k : Nat} {v0 v1 v2 v3 : UInt32} (h : gdF f) (h4 : (okF v0 && okF v1 && okF v2 && okF v3) = true) : gdF (up4 f k v0 v1 v2 v3) := by
  have k4 : okF v0 = true ∧ okF v1 = true ∧ okF v2 = true ∧ okF v3 = true := by simpa [and_assoc] using h4
  exact up1 (Q := fun _ z => fb 148 z) (okF_fb k4.2.2.2) (up1 (Q := fun _ z => fb 148 z) (okF_fb k4.2.2.1) (up1 (Q := fun _ z => fb 148 z) (okF_fb k4.2.1) (up1 (Q := fun _ z => fb 148 z) (okF_fb k4.1) h)))
theorem suN_up (f : Nat → Nat) (t : Nat) : ∀ n, suN (va_up f t (f t + 1)) n = suN f n + (if t < n then 1 else 0)
  | 0 => rfl
  | n + 1 => by
    have h := suN_up f t n
    show suN (va_up f t (f t + 1)) n + va_up f t (f t + 1) n = suN f n + f n + _
    rw [h]
    by_cases e : n = t
    · subst e
      rw [va_up_self, if_neg (Nat.lt_irrefl n), if_pos (Nat.lt_succ_self n)]
      omega
    · rw [va_up_ne _ _ e]
      by_cases e2 : t < n
      · rw [if_pos e2, if_pos (by omega)]; omega
      · rw [if_neg e2, if_neg (by omega)]; omega
theorem suN_lm {f : Nat → Nat} (h : ∀ t, f t ≤ 1000) : ∀ n, suN f n ≤ 1000 * n
  | 0 => Nat.le_refl 0
  | n + 1 => by
    have h1 := suN_lm h n
    have h2 := h n
    show suN f n + f n ≤ _
    omega
theorem zr_f {mh : Nat → Bool} {v : Nat} (hv : v < 3) : zrR mh 3 v = false := if_pos hv
section ILS
variable {nd : Nat} {lst : Nat → Bool × Nat × Nat × Nat} {lrk : Nat → Nat × Nat} {ldc : Nat → Nat → Nat} {lsc : Nat → Nat → UInt64} {mh : Nat → Bool} {ml mli : Nat → Nat} {msc : Nat → UInt64} {mwk : Nat → Nat}
theorem IL_all {nd2 : Nat} (h : IL nd lst lrk ldc lsc mh ml mli msc mwk) : IL nd2 (fgL lst 3) lrk ldc lsc (zrR mh 3) ml mli msc mwk := by
  have hm : ∀ v, v < 3 → lmd (fgL lst 3) v = false := fun v hv => by
    show (fgL lst 3 v).1 = false
    unfold fgL
    rw [if_pos hv]
  refine ⟨fun v hv => ⟨(hm v hv).trans (zr_f hv).symm, fun e => ?_⟩, fun v hv e => ?_, fun v hv e => ?_, h.2.2.2.1, h.2.2.2.2⟩
  · rw [zr_f hv] at e; cases e
  · rw [hm v hv] at e; cases e
  · rw [zr_f hv] at e; cases e
theorem IL_one (v0 : Nat) (h : IL nd lst lrk ldc lsc mh ml mli msc mwk) : IL nd (va_up lst v0 (false, (lst v0).2)) lrk ldc lsc (va_up mh v0 false) ml mli msc mwk := by
  have h1 : ∀ v, v = v0 → lmd (va_up lst v0 (false, (lst v0).2)) v = false := fun v e => by
    subst e
    show (va_up lst v (false, (lst v).2) v).1 = false
    rw [va_up_self]
  have h2 : ∀ v, v ≠ v0 → lmd (va_up lst v0 (false, (lst v0).2)) v = lmd lst v := fun v e => by
    show (va_up lst v0 (false, (lst v0).2) v).1 = (lst v).1
    rw [va_up_ne _ _ e]
  have m1 : ∀ v, v = v0 → va_up mh v0 false v = false := fun v e => by subst e; rw [va_up_self]
  have m2 : ∀ v, v ≠ v0 → va_up mh v0 false v = mh v := fun v e => va_up_ne _ _ e
  refine ⟨fun v hv => ?_, fun v hv e => ?_, fun v hv e => ?_, h.2.2.2.1, h.2.2.2.2⟩
  · by_cases e : v = v0
    · exact ⟨(h1 v e).trans (m1 v e).symm, fun q => by rw [m1 v e] at q; cases q⟩
    · rw [h2 v e, m2 v e]; exact h.1 v hv
  · by_cases e2 : v = v0
    · rw [h1 v e2] at e; cases e
    · rw [h2 v e2] at e; exact h.2.1 v hv e
  · by_cases e2 : v = v0
    · rw [m1 v e2] at e; cases e
    · rw [m2 v e2] at e
      rw [va_up_ne _ _ e2]
      exact h.2.2.1 v hv e
end ILS
theorem IF_0 {sf : Nat} {fdc : Nat → Nat} {fsc : Nat → UInt64} {fc : Nat} {mf : Nat → Nat} {mfs : Nat → UInt64} (h : IF sf fdc fsc fc mf mfs) : IF 0 fdc fsc 0 mf mfs := ⟨rfl, Nat.zero_le _, h.2.2.1, fun j hj => absurd hj (Nat.not_lt_zero _)⟩
theorem hasT_n {f : Nat → Int32} {t : Int32} {n : Nat} (h : ¬ hasT f t n = true) : hasT f t n = false := Bool.not_eq_true _ ▸ h
theorem b_f {x : Bool} (h : ¬ x = true) : x = false := Bool.not_eq_true _ ▸ h
theorem op_document (l : Launch) (hlst : l.stackTraces = false) (Γ : Gm) (b : Nat) (mem : Nat → va_E) (h : Inv Γ b mem)  : OpI l Γ b yL_document kL_document [.ref (b + 0), .ref (b + 136)] yX10_document (.code yX10_document cX10_document 1 (some .int)) [.ref (b + 115)] mem := by
  obtain ⟨cd, nd, cn, ln, wt, tz, tf, cz, cf, wz, wm, iz, im, iw, vz, vf, lst, lrk, ldc, lsc, sf, fdc, fsc, mh, ml, mli, msc, mwk, fc, mf, mfs, hC, hR, hD, hL, hF, ho, hq⟩ := h
  have hD0 := hD
  obtain ⟨hnd, hcn, hlc, hln, hlm, hwt, htz, htf, hcz, hcf, hwz, hwm, hiz, him, hiw, hvz, hvf⟩ := hD0
  by_cases h1 : nd = 16
  · exact opI_x hC hR hD hL hF ho hq (by decide) (ox_document_1 l hlst Γ b mem hC h1) (or_document_1 l Γ b mem hR h1)
  · exact opI_o (k := 0) hC hR hD hL hF ho hq (oc_document l Γ b mem hC ho (by omega)) (fun u hu => or_document l Γ b u hu (by omega)) ⟨by omega, hcn, hlc, hln, hlm, hwt, htz, htf, hcz, hcf, hwz, hwm, hiz, him, hiw, hvz, hvf⟩ (IL_all hL) (IF_0 hF)
theorem op_count (l : Launch) (hlst : l.stackTraces = false) (Γ : Gm) (b : Nat) (mem : Nat → va_E) (h : Inv Γ b mem) (d t : Int32) : OpI l Γ b yL_count kL_count [.ref (b + 0), .int d, .int t, .ref (b + 136)] yX10_count (.code yX10_count cX10_count 3 (some .int)) [.ref (b + 115), .int d, .int t] mem := by
  obtain ⟨cd, nd, cn, ln, wt, tz, tf, cz, cf, wz, wm, iz, im, iw, vz, vf, lst, lrk, ldc, lsc, sf, fdc, fsc, mh, ml, mli, msc, mwk, fc, mf, mfs, hC, hR, hD, hL, hF, ho, hq⟩ := h
  have hD0 := hD
  obtain ⟨hnd, hcn, hlc, hln, hlm, hwt, htz, htf, hcz, hcf, hwz, hwm, hiz, him, hiw, hvz, hvf⟩ := hD0
  by_cases h1 : (inR d nd && inR t 12) = true
  · obtain ⟨a1, a2⟩ := Bool.and_eq_true_iff.mp h1
    obtain ⟨d, hd1, rfl⟩ := inR_of (by omega) a1
    obtain ⟨t, ht, rfl⟩ := inR_of (by decide) a2
    by_cases h2 : cn d t = 1000
    · exact opI_x hC hR hD hL hF ho hq (by decide) (ox_count_2 l hlst Γ b mem hC hnd hd1 ht h2) (or_count_2 l Γ b mem hR hnd hd1 ht ((fl12_at _ ht).trans h2))
    · have h3 := hcn d t
      have hcn2 := up2 (Q := fun _ _ z => z ≤ 1000) (f := cn) (d := d) (t := t) (x := cn d t + 1) (by omega) hcn
      have hlm2 : ∀ a, suN (va_up cn d (va_up (cn d) t (cn d t + 1)) a) 12 = va_up ln d (ln d + 1) a := by
        intro a
        by_cases e : a = d
        · subst e
          rw [va_up_self, va_up_self, suN_up, if_pos ht, hlm]
        · rw [va_up_ne _ _ e, va_up_ne _ _ e]; exact hlm a
      have hlc2 : ∀ a c, va_up cn d (va_up (cn d) t (cn d t + 1)) a c ≤ va_up ln d (ln d + 1) a := by
        refine up2 (Q := fun a _ z => z ≤ va_up ln d (ln d + 1) a) ?_ (fun a c => ?_)
        · rw [va_up_self]; have := hlc d t; omega
        · by_cases e : a = d
          · subst e; rw [va_up_self]; have := hlc a c; omega
          · rw [va_up_ne _ _ e]; exact hlc a c
      have hln2 : ∀ a, va_up ln d (ln d + 1) a ≤ 12000 := fun a => by
        rw [← hlm2 a]
        exact suN_lm (hcn2 a) 12
      exact opI_o (k := 0) hC hR hD hL hF ho hq (oc_count l Γ b mem hC ho hnd hd1 ht (by omega)) (fun u hu => or_count l Γ b u hu hnd hd1 ht (by omega)) ⟨hnd, hcn2, hlc2, hln2, hlm2, hwt, htz, htf, hcz, hcf, hwz, hwm, hiz, him, hiw, hvz, hvf⟩ (IL_all hL) (IF_0 hF)
  · exact opI_x hC hR hD hL hF ho hq (by decide) (ox_count_1 l hlst Γ b mem hC (b_f h1)) (or_count_1 l Γ b mem hR (b_f h1))
theorem op_weigh (l : Launch) (hlst : l.stackTraces = false) (Γ : Gm) (b : Nat) (mem : Nat → va_E) (h : Inv Γ b mem) (d t : Int32) (x : UInt32) : OpV l Γ b yL_weigh kL_weigh [.ref (b + 0), .int d, .int t, .float x] yX10_weigh (.code yX10_weigh cX10_weigh 4 none) [.ref (b + 115), .int d, .int t, .float x] mem := by
  obtain ⟨cd, nd, cn, ln, wt, tz, tf, cz, cf, wz, wm, iz, im, iw, vz, vf, lst, lrk, ldc, lsc, sf, fdc, fsc, mh, ml, mli, msc, mwk, fc, mf, mfs, hC, hR, hD, hL, hF, ho, hq⟩ := h
  have hD0 := hD
  obtain ⟨hnd, hcn, hlc, hln, hlm, hwt, htz, htf, hcz, hcf, hwz, hwm, hiz, him, hiw, hvz, hvf⟩ := hD0
  by_cases h1 : (inR d nd && inR t 12) = true
  · obtain ⟨a1, a2⟩ := Bool.and_eq_true_iff.mp h1
    obtain ⟨d, hd1, rfl⟩ := inR_of (by omega) a1
    obtain ⟨t, ht, rfl⟩ := inR_of (by decide) a2
    by_cases h2 : okF x = true
    · by_cases h3 : FP.fcmp x FP.fconst0 = some .lt
      · exact opV_x hC hR hD hL hF ho hq (by decide) (ox_weigh_2 l hlst Γ b mem hC hnd hd1 ht (fun _ => h3)) (or_weigh_2 l Γ b mem hR hnd hd1 ht (fun _ => lt_nrge h3))
      · exact opV_o (k := 0) hC hR hD hL hF ho hq (oc_weigh l Γ b mem hC hnd hd1 ht h2 h3) (fun u hu => or_weigh l Γ b u hu hnd hd1 ht h2 (ok_rge h2 h3)) ⟨hnd, hcn, hlc, hln, hlm, up2 (Q := fun _ _ z => fb 148 z) (okF_fb h2) hwt, htz, htf, hcz, hcf, hwz, hwm, hiz, him, hiw, hvz, hvf⟩ (IL_all hL) (IF_0 hF)
    · exact opV_x hC hR hD hL hF ho hq (by decide) (ox_weigh_2 l hlst Γ b mem hC hnd hd1 ht (fun q => absurd q h2)) (or_weigh_2 l Γ b mem hR hnd hd1 ht (fun q => absurd q h2))
  · exact opV_x hC hR hD hL hF ho hq (by decide) (ox_weigh_1 l hlst Γ b mem hC (b_f h1)) (or_weigh_1 l Γ b mem hR (b_f h1))
theorem op_token (l : Launch) (hlst : l.stackTraces = false) (Γ : Gm) (b : Nat) (mem : Nat → va_E) (h : Inv Γ b mem) (d : Int32) (v0 v1 v2 v3 : UInt32) : OpI l Γ b yL_token kL_token [.ref (b + 0), .int d, .float v0, .float v1, .float v2, .float v3, .ref (b + 136)] yX10_token (.code yX10_token cX10_token 7 (some .int)) [.ref (b + 115), .int d, .float v0, .float v1, .float v2, .float v3] mem := by
  obtain ⟨cd, nd, cn, ln, wt, tz, tf, cz, cf, wz, wm, iz, im, iw, vz, vf, lst, lrk, ldc, lsc, sf, fdc, fsc, mh, ml, mli, msc, mwk, fc, mf, mfs, hC, hR, hD, hL, hF, ho, hq⟩ := h
  have hD0 := hD
  obtain ⟨hnd, hcn, hlc, hln, hlm, hwt, htz, htf, hcz, hcf, hwz, hwm, hiz, him, hiw, hvz, hvf⟩ := hD0
  by_cases h1 : inR d nd = true
  · obtain ⟨d, hd1, rfl⟩ := inR_of (by omega) h1
    by_cases h4 : (okF v0 && okF v1 && okF v2 && okF v3) = true
    · have h3 := htz d
      by_cases h2 : tz d = 4
      · exact opI_x hC hR hD hL hF ho hq (by decide) (ox_token_3 l hlst Γ b mem hC hnd hd1 h4 h2) (or_token_3 l Γ b mem hR hnd hd1 h4 h2)
      · exact opI_o (k := 0) hC hR hD hL hF ho hq (oc_token l Γ b mem hC ho hnd hd1 h4 (by omega)) (fun u hu => by have q := or_token l Γ b u hu hnd hd1 h4 (by omega); rw [Nat.mul_comm 4 (tz d)] at q; exact q) ⟨hnd, hcn, hlc, hln, hlm, hwt, up1 (Q := fun _ z => z ≤ 4) (by omega) htz, up1 (Q := fun _ z => gdF z) (up4_gd (htf d) h4) htf, hcz, hcf, hwz, hwm, hiz, him, hiw, hvz, hvf⟩ (IL_all hL) (IF_0 hF)
    · exact opI_x hC hR hD hL hF ho hq (by decide) (ox_token_2 l hlst Γ b mem hC hnd hd1 (b_f h4)) (or_token_2 l Γ b mem hR hnd hd1 (b_f h4))
  · exact opI_x hC hR hD hL hF ho hq (by decide) (ox_token_1 l hlst Γ b mem hC (b_f h1)) (or_token_1 l Γ b mem hR (b_f h1))
theorem op_centroid (l : Launch) (hlst : l.stackTraces = false) (Γ : Gm) (b : Nat) (mem : Nat → va_E) (h : Inv Γ b mem) (v0 v1 v2 v3 : UInt32) : OpI l Γ b yL_centroid kL_centroid [.ref (b + 0), .float v0, .float v1, .float v2, .float v3, .ref (b + 136)] yX10_centroid (.code yX10_centroid cX10_centroid 5 (some .int)) [.ref (b + 115), .float v0, .float v1, .float v2, .float v3] mem := by
  obtain ⟨cd, nd, cn, ln, wt, tz, tf, cz, cf, wz, wm, iz, im, iw, vz, vf, lst, lrk, ldc, lsc, sf, fdc, fsc, mh, ml, mli, msc, mwk, fc, mf, mfs, hC, hR, hD, hL, hF, ho, hq⟩ := h
  have hD0 := hD
  obtain ⟨hnd, hcn, hlc, hln, hlm, hwt, htz, htf, hcz, hcf, hwz, hwm, hiz, him, hiw, hvz, hvf⟩ := hD0
  by_cases h4 : (okF v0 && okF v1 && okF v2 && okF v3) = true
  · by_cases h2 : cz = 4
    · exact opI_x hC hR hD hL hF ho hq (by decide) (ox_centroid_2 l hlst Γ b mem hC h4 h2) (or_centroid_2 l Γ b mem hR h4 h2)
    · exact opI_o (k := 0) hC hR hD hL hF ho hq (oc_centroid l Γ b mem hC ho h4 (by omega)) (fun u hu => by have q := or_centroid l Γ b u hu h4 (by omega); rw [Nat.mul_comm 4 cz] at q; exact q) ⟨hnd, hcn, hlc, hln, hlm, hwt, htz, htf, by omega, up4_gd hcf h4, hwz, hwm, hiz, him, hiw, hvz, hvf⟩ (IL_all hL) (IF_0 hF)
  · exact opI_x hC hR hD hL hF ho hq (by decide) (ox_centroid_1 l hlst Γ b mem hC (b_f h4)) (or_centroid_1 l Γ b mem hR (b_f h4))
theorem op_vector (l : Launch) (hlst : l.stackTraces = false) (Γ : Gm) (b : Nat) (mem : Nat → va_E) (h : Inv Γ b mem) (v0 v1 v2 v3 : UInt32) : OpI l Γ b yL_vector kL_vector [.ref (b + 0), .float v0, .float v1, .float v2, .float v3, .ref (b + 136)] yX10_vector (.code yX10_vector cX10_vector 5 (some .int)) [.ref (b + 115), .float v0, .float v1, .float v2, .float v3] mem := by
  obtain ⟨cd, nd, cn, ln, wt, tz, tf, cz, cf, wz, wm, iz, im, iw, vz, vf, lst, lrk, ldc, lsc, sf, fdc, fsc, mh, ml, mli, msc, mwk, fc, mf, mfs, hC, hR, hD, hL, hF, ho, hq⟩ := h
  have hD0 := hD
  obtain ⟨hnd, hcn, hlc, hln, hlm, hwt, htz, htf, hcz, hcf, hwz, hwm, hiz, him, hiw, hvz, hvf⟩ := hD0
  by_cases h4 : (okF v0 && okF v1 && okF v2 && okF v3) = true
  · by_cases h2 : vz = 3
    · exact opI_x hC hR hD hL hF ho hq (by decide) (ox_vector_2 l hlst Γ b mem hC h4 h2) (or_vector_2 l Γ b mem hR h4 h2)
    · exact opI_o (k := 0) hC hR hD hL hF ho hq (oc_vector l Γ b mem hC ho h4 (by omega)) (fun u hu => by have q := or_vector l Γ b u hu h4 (by omega); rw [Nat.mul_comm 4 vz] at q; exact q) ⟨hnd, hcn, hlc, hln, hlm, hwt, htz, htf, hcz, hcf, hwz, hwm, hiz, him, hiw, by omega, up4_gd hvf h4⟩ (IL_one 2 hL) (IF_0 hF)
  · exact opI_x hC hR hD hL hF ho hq (by decide) (ox_vector_1 l hlst Γ b mem hC (b_f h4)) (or_vector_1 l Γ b mem hR (b_f h4))
theorem op_word (l : Launch) (hlst : l.stackTraces = false) (Γ : Gm) (b : Nat) (mem : Nat → va_E) (h : Inv Γ b mem) (t : Int32) : OpI l Γ b yL_word kL_word [.ref (b + 0), .int t, .ref (b + 136)] yX10_word (.code yX10_word cX10_word 2 (some .int)) [.ref (b + 115), .int t] mem := by
  obtain ⟨cd, nd, cn, ln, wt, tz, tf, cz, cf, wz, wm, iz, im, iw, vz, vf, lst, lrk, ldc, lsc, sf, fdc, fsc, mh, ml, mli, msc, mwk, fc, mf, mfs, hC, hR, hD, hL, hF, ho, hq⟩ := h
  have hD0 := hD
  obtain ⟨hnd, hcn, hlc, hln, hlm, hwt, htz, htf, hcz, hcf, hwz, hwm, hiz, him, hiw, hvz, hvf⟩ := hD0
  by_cases h1 : inR t 12 = true
  · obtain ⟨t, ht, rfl⟩ := inR_of (by decide) h1
    by_cases h2 : hasT (fun i => nI (wm i)) (nI t) wz = true
    · exact opI_x hC hR hD hL hF ho hq (by decide) (ox_word_2 l hlst Γ b mem hC ht hwz h2) (or_word_2 l Γ b mem hR ht hwz h2)
    · by_cases h3 : wz = 4
      · exact opI_x hC hR hD hL hF ho hq (by decide) (ox_word_3 l hlst Γ b mem hC ht h3 (b_f h2)) (or_word_3 l Γ b mem hR ht h3 (b_f h2))
      · exact opI_o (k := 0) hC hR hD hL hF ho hq (oc_word l Γ b mem hC ho ht (b_f h2) (by omega)) (fun u hu => or_word l Γ b u hu ht (by omega) (b_f h2)) ⟨hnd, hcn, hlc, hln, hlm, hwt, htz, htf, hcz, hcf, by omega, up1 (Q := fun _ z => z < 12) ht hwm, hiz, him, hiw, hvz, hvf⟩ (IL_one 0 hL) (IF_0 hF)
  · exact opI_x hC hR hD hL hF ho hq (by decide) (ox_word_1 l hlst Γ b mem hC (b_f h1)) (or_word_1 l Γ b mem hR (b_f h1))
theorem op_impact (l : Launch) (hlst : l.stackTraces = false) (Γ : Gm) (b : Nat) (mem : Nat → va_E) (h : Inv Γ b mem) (t x : Int32) : OpI l Γ b yL_impact kL_impact [.ref (b + 0), .int t, .int x, .ref (b + 136)] yX10_impact (.code yX10_impact cX10_impact 3 (some .int)) [.ref (b + 115), .int t, .int x] mem := by
  obtain ⟨cd, nd, cn, ln, wt, tz, tf, cz, cf, wz, wm, iz, im, iw, vz, vf, lst, lrk, ldc, lsc, sf, fdc, fsc, mh, ml, mli, msc, mwk, fc, mf, mfs, hC, hR, hD, hL, hF, ho, hq⟩ := h
  have hD0 := hD
  obtain ⟨hnd, hcn, hlc, hln, hlm, hwt, htz, htf, hcz, hcf, hwz, hwm, hiz, him, hiw, hvz, hvf⟩ := hD0
  by_cases h1 : inR t 12 = true
  · obtain ⟨t, ht, rfl⟩ := inR_of (by decide) h1
    by_cases h2 : hasT (fun i => nI (im i)) (nI t) iz = false ∧ ¬ x < nI 1 ∧ x ≤ nI 100
    · obtain ⟨h2, h5, h6⟩ := h2
      obtain ⟨x, hx2, rfl⟩ : ∃ j : Nat, j ≤ 100 ∧ x = nI j := nI_of2 (M := nI 100) (n := 100) (by decide) (fun q => h5 (Int32.lt_of_lt_of_le q (by decide))) h6
      have hx1 : 1 ≤ x := by
        rcases Nat.eq_zero_or_pos x with q | q
        · subst q; exact absurd (show nI 0 < nI 1 by decide) h5
        · exact q
      by_cases h3 : iz = 4
      · exact opI_x hC hR hD hL hF ho hq (by decide) (ox_impact_3 l hlst Γ b mem hC ht h3 h2 ⟨hx1, hx2⟩) (or_impact_3 l Γ b mem hR ht h3 h2 ⟨hx1, hx2⟩)
      · have hiw2 : ∀ i, i < iz + 1 → 1 ≤ va_up iw iz x i ∧ va_up iw iz x i ≤ 100 := fun i hi => by
          by_cases e : i = iz
          · subst e; rw [va_up_self]; exact ⟨hx1, hx2⟩
          · rw [va_up_ne _ _ e]; exact hiw i (by omega)
        exact opI_o (k := 0) hC hR hD hL hF ho hq (oc_impact l Γ b mem hC ho ht h2 ⟨hx1, hx2⟩ (by omega)) (fun u hu => or_impact l Γ b u hu ht (by omega) h2 ⟨hx1, hx2⟩) ⟨hnd, hcn, hlc, hln, hlm, hwt, htz, htf, hcz, hcf, hwz, hwm, by omega, up1 (Q := fun _ z => z < 12) ht him, hiw2, hvz, hvf⟩ (IL_one 1 hL) (IF_0 hF)
    · have hbad : hasT (fun i => nI (im i)) (nI t) iz = false → ¬ x < nI 1 → ¬ x ≤ nI 100 := fun a1 a2 a3 => h2 ⟨a1, a2, a3⟩
      exact opI_x hC hR hD hL hF ho hq (by decide) (ox_impact_2 l hlst Γ b mem hC ht hiz hbad) (or_impact_2 l Γ b mem hR ht hiz hbad)
  · exact opI_x hC hR hD hL hF ho hq (by decide) (ox_impact_1 l hlst Γ b mem hC (b_f h1)) (or_impact_1 l Γ b mem hR (b_f h1))
theorem op_hit (l : Launch) (hlst : l.stackTraces = false) (Γ : Gm) (b : Nat) (mem : Nat → va_E) (h : Inv Γ b mem) (v i : Int32) : OpI l Γ b yL_hit kL_hit [.ref (b + 0), .int v, .int i, .ref (b + 136)] yX10_hit (.code yX10_hit cX10_hit 3 (some .int)) [.ref (b + 115), .int v, .int i] mem := by
  obtain ⟨cd, nd, cn, ln, wt, tz, tf, cz, cf, wz, wm, iz, im, iw, vz, vf, lst, lrk, ldc, lsc, sf, fdc, fsc, mh, ml, mli, msc, mwk, fc, mf, mfs, hC, hR, hD, hL, hF, ho, hq⟩ := h
  have hD0 := hD
  obtain ⟨hnd, hcn, hlc, hln, hlm, hwt, htz, htf, hcz, hcf, hwz, hwm, hiz, him, hiw, hvz, hvf⟩ := hD0
  by_cases h1 : inR v 3 = true
  · obtain ⟨v, hv, rfl⟩ := inR_of (by decide) h1
    obtain ⟨e1, e2⟩ := hL.1 v hv
    have e1 : (lst v).1 = mh v := e1
    by_cases h2 : mh v = true
    · obtain ⟨e3, e4⟩ := e2 h2
      have e3 : (lrk v).2 = ml v := e3
      have h20 : (lrk v).2 ≤ 20 := (hL.2.1 v hv (e1.trans h2)).2.1
      by_cases h3 : inR i (ml v) = true
      · obtain ⟨i, hi, rfl⟩ := inR_of (by omega) h3
        have e5 : ldc v i = mli (20 * v + i) := (e4 i hi).1
        exact opI_o (k := 0) hC hR hD hL hF ho hq (oc_hit l Γ b mem hC ho hv (e1.trans h2) (by omega) h20) (fun u hu => by have q := or_hit l Γ b u hu hv h2 hi (by omega); rw [← e5] at q; exact q) hD hL hF
      · exact opI_x hC hR hD hL hF ho hq (by decide) (ox_hit_3 l hlst Γ b mem hC hv (e1.trans h2) (by rw [e3]; exact b_f h3)) (or_hit_3 l Γ b mem hR hv h2 (b_f h3))
    · exact opI_x hC hR hD hL hF ho hq (by decide) (ox_hit_2 l hlst Γ b mem hC hv (e1.trans (b_f h2))) (or_hit_2 l Γ b mem hR hv (b_f h2))
  · exact opI_x hC hR hD hL hF ho hq (by decide) (ox_hit_1 l hlst Γ b mem hC (b_f h1)) (or_hit_1 l Γ b mem hR (b_f h1))
theorem op_score (l : Launch) (hlst : l.stackTraces = false) (Γ : Gm) (b : Nat) (mem : Nat → va_E) (h : Inv Γ b mem) (v i : Int32) : OpD l Γ b yL_score kL_score [.ref (b + 0), .int v, .int i, .ref (b + 137)] yX10_score_ (.code yX10_score_ cX10_score_ 3 (some .double)) [.ref (b + 115), .int v, .int i] mem := by
  obtain ⟨cd, nd, cn, ln, wt, tz, tf, cz, cf, wz, wm, iz, im, iw, vz, vf, lst, lrk, ldc, lsc, sf, fdc, fsc, mh, ml, mli, msc, mwk, fc, mf, mfs, hC, hR, hD, hL, hF, ho, hq⟩ := h
  have hD0 := hD
  obtain ⟨hnd, hcn, hlc, hln, hlm, hwt, htz, htf, hcz, hcf, hwz, hwm, hiz, him, hiw, hvz, hvf⟩ := hD0
  by_cases h1 : inR v 3 = true
  · obtain ⟨v, hv, rfl⟩ := inR_of (by decide) h1
    obtain ⟨e1, e2⟩ := hL.1 v hv
    have e1 : (lst v).1 = mh v := e1
    by_cases h2 : mh v = true
    · obtain ⟨e3, e4⟩ := e2 h2
      have e3 : (lrk v).2 = ml v := e3
      have h20 : (lrk v).2 ≤ 20 := (hL.2.1 v hv (e1.trans h2)).2.1
      by_cases h3 : inR i (ml v) = true
      · obtain ⟨i, hi, rfl⟩ := inR_of (by omega) h3
        have e5 : lsc v i = msc (20 * v + i) := (e4 i hi).2
        exact opD_o (k := 0) hC hR hD hL hF ho hq (oc_score l Γ b mem hC hq hv (e1.trans h2) (by omega) h20) (fun u hu => by have q := or_score l Γ b u hu hv h2 hi (by omega); rw [← e5] at q; exact q) hD hL hF
      · exact opD_x hC hR hD hL hF ho hq (by decide) (ox_score_3 l hlst Γ b mem hC hv (e1.trans h2) (by rw [e3]; exact b_f h3)) (or_score_3 l Γ b mem hR hv h2 (b_f h3))
    · exact opD_x hC hR hD hL hF ho hq (by decide) (ox_score_2 l hlst Γ b mem hC hv (e1.trans (b_f h2))) (or_score_2 l Γ b mem hR hv (b_f h2))
  · exact opD_x hC hR hD hL hF ho hq (by decide) (ox_score_1 l hlst Γ b mem hC (b_f h1)) (or_score_1 l Γ b mem hR (b_f h1))
theorem op_work (l : Launch) (hlst : l.stackTraces = false) (Γ : Gm) (b : Nat) (mem : Nat → va_E) (h : Inv Γ b mem) (v w : Int32) : OpI l Γ b yL_work kL_work [.ref (b + 0), .int v, .int w, .ref (b + 136)] yX10_work (.code yX10_work cX10_work 3 (some .int)) [.ref (b + 115), .int v, .int w] mem := by
  obtain ⟨cd, nd, cn, ln, wt, tz, tf, cz, cf, wz, wm, iz, im, iw, vz, vf, lst, lrk, ldc, lsc, sf, fdc, fsc, mh, ml, mli, msc, mwk, fc, mf, mfs, hC, hR, hD, hL, hF, ho, hq⟩ := h
  have hD0 := hD
  obtain ⟨hnd, hcn, hlc, hln, hlm, hwt, htz, htf, hcz, hcf, hwz, hwm, hiz, him, hiw, hvz, hvf⟩ := hD0
  by_cases h0 : inR w 3 = true
  · obtain ⟨w, hw, rfl⟩ := inR_of (by decide) h0
    by_cases h1 : inR v 3 = true
    · obtain ⟨v, hv, rfl⟩ := inR_of (by decide) h1
      have e1 : (lst v).1 = mh v := (hL.1 v hv).1
      by_cases h2 : mh v = true
      · have e4 := hL.2.2.1 v hv h2
        have e5 : (lst v).2.1 = mwk (3 * v + 0) := by rw [e4]; rfl
        have e6 : (lst v).2.2.1 = mwk (3 * v + 1) := by rw [e4]
        have e7 : (lst v).2.2.2 = mwk (3 * v + 2) := by rw [e4]
        rcases (show w = 0 ∨ w = 1 ∨ w = 2 by omega) with e | e | e
        · subst e
          exact opI_o (k := 0) hC hR hD hL hF ho hq (oc_work0 l Γ b mem hC ho hv (e1.trans h2)) (fun u hu => by have q := or_work l Γ b u hu (v := v) (w := 0) hv (by decide) h2; rw [← e5] at q; exact q) hD hL hF
        · subst e
          exact opI_o (k := 0) hC hR hD hL hF ho hq (oc_work1 l Γ b mem hC ho hv (e1.trans h2)) (fun u hu => by have q := or_work l Γ b u hu (v := v) (w := 1) hv (by decide) h2; rw [← e6] at q; exact q) hD hL hF
        · subst e
          exact opI_o (k := 0) hC hR hD hL hF ho hq (oc_work2 l Γ b mem hC ho hv (e1.trans h2)) (fun u hu => by have q := or_work l Γ b u hu (v := v) (w := 2) hv (by decide) h2; rw [← e7] at q; exact q) hD hL hF
      · have hw3 : nI w = 0 ∨ nI w = nI 1 ∨ nI w = nI 2 := by
          rcases (show w = 0 ∨ w = 1 ∨ w = 2 by omega) with e | e | e
          · subst e; exact Or.inl rfl
          · subst e; exact Or.inr (Or.inl rfl)
          · subst e; exact Or.inr (Or.inr rfl)
        exact opI_x hC hR hD hL hF ho hq (by decide) (ox_work_2 l hlst Γ b mem hC hv (e1.trans (b_f h2)) hw3) (or_work_2 l Γ b mem hR hv hw (b_f h2))
    · have hw3 : nI w = 0 ∨ nI w = nI 1 ∨ nI w = nI 2 := by
        rcases (show w = 0 ∨ w = 1 ∨ w = 2 by omega) with e | e | e
        · subst e; exact Or.inl rfl
        · subst e; exact Or.inr (Or.inl rfl)
        · subst e; exact Or.inr (Or.inr rfl)
      exact opI_x hC hR hD hL hF ho hq (by decide) (ox_work_1b l hlst Γ b mem hC (b_f h1) hw3) (or_work_1 l Γ b mem hR (by rw [b_f h1]; rfl))
  · have hn : ¬ w = 0 ∧ ¬ w = nI 1 ∧ ¬ w = nI 2 := ⟨fun q => h0 (by rw [q]; decide), fun q => h0 (by rw [q]; decide), fun q => h0 (by rw [q]; decide)⟩
    exact opI_x hC hR hD hL hF ho hq (by decide) (ox_work_1 l hlst Γ b mem hC hn) (or_work_1 l Γ b mem hR (by rw [b_f h0, Bool.and_false]))
theorem op_fused (l : Launch) (hlst : l.stackTraces = false) (Γ : Gm) (b : Nat) (mem : Nat → va_E) (h : Inv Γ b mem) (i : Int32) : OpI l Γ b yL_fused kL_fused [.ref (b + 0), .int i, .ref (b + 136)] yX10_fused (.code yX10_fused cX10_fused 2 (some .int)) [.ref (b + 115), .int i] mem := by
  obtain ⟨cd, nd, cn, ln, wt, tz, tf, cz, cf, wz, wm, iz, im, iw, vz, vf, lst, lrk, ldc, lsc, sf, fdc, fsc, mh, ml, mli, msc, mwk, fc, mf, mfs, hC, hR, hD, hL, hF, ho, hq⟩ := h
  have hD0 := hD
  obtain ⟨hnd, hcn, hlc, hln, hlm, hwt, htz, htf, hcz, hcf, hwz, hwm, hiz, him, hiw, hvz, hvf⟩ := hD0
  obtain ⟨f1, f2, f3, f4⟩ := hF
  by_cases h1 : inR i fc = true
  · obtain ⟨i, hi, rfl⟩ := inR_of (by omega) h1
    have e5 : fdc i = mf i := (f4 i (by omega)).1
    exact opI_o (k := 0) hC hR hD hL ⟨f1, f2, f3, f4⟩ ho hq (oc_fused l Γ b mem hC ho (by omega) (by omega)) (fun u hu => by have q := or_fused l Γ b u hu hi (by omega); rw [← e5] at q; exact q) hD hL ⟨f1, f2, f3, f4⟩
  · exact opI_x hC hR hD hL ⟨f1, f2, f3, f4⟩ ho hq (by decide) (ox_fused_1 l hlst Γ b mem hC (by rw [f1]; exact b_f h1)) (or_fused_1 l Γ b mem hR (b_f h1))
theorem op_rating (l : Launch) (hlst : l.stackTraces = false) (Γ : Gm) (b : Nat) (mem : Nat → va_E) (h : Inv Γ b mem) (i : Int32) : OpD l Γ b yL_rating kL_rating [.ref (b + 0), .int i, .ref (b + 137)] yX10_rating (.code yX10_rating cX10_rating 2 (some .double)) [.ref (b + 115), .int i] mem := by
  obtain ⟨cd, nd, cn, ln, wt, tz, tf, cz, cf, wz, wm, iz, im, iw, vz, vf, lst, lrk, ldc, lsc, sf, fdc, fsc, mh, ml, mli, msc, mwk, fc, mf, mfs, hC, hR, hD, hL, hF, ho, hq⟩ := h
  have hD0 := hD
  obtain ⟨hnd, hcn, hlc, hln, hlm, hwt, htz, htf, hcz, hcf, hwz, hwm, hiz, him, hiw, hvz, hvf⟩ := hD0
  obtain ⟨f1, f2, f3, f4⟩ := hF
  by_cases h1 : inR i fc = true
  · obtain ⟨i, hi, rfl⟩ := inR_of (by omega) h1
    have e5 : fsc i = mfs i := (f4 i (by omega)).2
    exact opD_o (k := 0) hC hR hD hL ⟨f1, f2, f3, f4⟩ ho hq (oc_rating l Γ b mem hC hq (by omega) (by omega)) (fun u hu => by have q := or_rating l Γ b u hu hi (by omega); rw [← e5] at q; exact q) hD hL ⟨f1, f2, f3, f4⟩
  · exact opD_x hC hR hD hL ⟨f1, f2, f3, f4⟩ ho hq (by decide) (ox_rating_1 l hlst Γ b mem hC (by rw [f1]; exact b_f h1)) (or_rating_1 l Γ b mem hR (b_f h1))
theorem op_quantised (l : Launch) (hlst : l.stackTraces = false) (Γ : Gm) (b : Nat) (mem : Nat → va_E) (h : Inv Γ b mem) (d t : Int32) : OpI l Γ b yL_quantised kL_quantised [.ref (b + 0), .int d, .int t, .ref (b + 136)] yX10_quantised (.code yX10_quantised cX10_quantised 3 (some .int)) [.ref (b + 115), .int d, .int t] mem := by
  obtain ⟨cd, nd, cn, ln, wt, tz, tf, cz, cf, wz, wm, iz, im, iw, vz, vf, lst, lrk, ldc, lsc, sf, fdc, fsc, mh, ml, mli, msc, mwk, fc, mf, mfs, hC, hR, hD, hL, hF, ho, hq⟩ := h
  have hD0 := hD
  obtain ⟨hnd, hcn, hlc, hln, hlm, hwt, htz, htf, hcz, hcf, hwz, hwm, hiz, him, hiw, hvz, hvf⟩ := hD0
  by_cases h1 : (inR d nd && inR t 12) = true
  · obtain ⟨a1, a2⟩ := Bool.and_eq_true_iff.mp h1
    obtain ⟨d, hd1, rfl⟩ := inR_of (by omega) a1
    obtain ⟨t, ht, rfl⟩ := inR_of (by decide) a2
    exact opI_o (k := 0) hC hR hD hL hF ho hq (oc_quantised l Γ b mem hC ho hnd hd1 ht hwt) (fun u hu => or_quantised l Γ b u hu hnd hd1 ht hwt) hD hL hF
  · exact opI_x hC hR hD hL hF ho hq (by decide) (ox_quantised_1 l hlst Γ b mem hC (b_f h1)) (or_quantised_1 l Γ b mem hR (b_f h1))
theorem oc_clear (l : Launch) (Γ : Gm) (b : Nat) (mem : Nat → va_E) {nd : Nat} {cn : Nat → Nat → Nat} {ln : Nat → Nat} {wt : Nat → Nat → UInt32} {tz : Nat → Nat} {tf : Nat → Nat → UInt32} {cz : Nat} {cf : Nat → UInt32} {wz : Nat} {wm : Nat → Nat} {iz : Nat} {im iw : Nat → Nat} {vz : Nat} {vf : Nat → UInt32} {lst : Nat → Bool × Nat × Nat × Nat} {lrk : Nat → Nat × Nat} {ldc : Nat → Nat → Nat} {lsc : Nat → Nat → UInt64} {sf : Nat} {fdc : Nat → Nat} {fsc : Nat → UInt64} (h : IC Γ b mem nd cn ln wt tz tf cz cf wz wm iz im iw vz vf lst lrk ldc lsc sf fdc fsc) : ∃ (rm : Room) (P : (Nat → va_E) → Prop), RmOK rm ∧ Ct l yX9_clear (.code yX9_clear cX9_clear 1 none) rm Γ b 138 [.ref (b + 0)] mem P none ∧ ∀ u, P u → IC Γ b u nd cn ln wt tz tf cz cf 0 wm 0 im iw 0 vf (fgL lst 3) lrk ldc lsc 0 fdc fsc ∧ ∀ j, 115 ≤ j → u j = mem j := by
  obtain ⟨ww, pn, pt, bd, near, wa, lim2, ssz, sdc, ssc, lf, to, mb, fH, fC, fCo, fcn, fL, fWo, fwt, fTo, ftz, ftf, fZ, fZf, fW, fW1, fW2, fI, fI1, fI2, fV, fVf, fP, fPo, fpt, fBo, fbd, fS, fSw, fs0, fs1, fs2, fLo, fls, flr, fld, flc, fF, fR0, fR1, fR2, fF1, fF2, hsd⟩ := h
  refine ⟨_, _, ⟨⟨rfl, rfl⟩, Nat.le_of_ble_eq_true rfl, Nat.le_of_ble_eq_true rfl⟩, c_X9_clear l Γ b 138 mem (wz := wz) (iz := iz) (vz := vz) (lf := lf) (sf := sf) (lst := lst) (lrk := lrk) (ldc := ldc) (lsc := lsc) (by decide) fH fLo fls flr fld flc fF fR0 fW fI fV, ?_⟩
  rintro u ⟨p0, p1, p2, p3, p4, p5, p6, p7, kf⟩
  exact ⟨⟨ww, pn, pt, bd, near, wa, lim2, ssz, sdc, ssc, 0, to, mb, (kf _ (by decide) (by decide) (by decide) (by decide) (by decide) (by decide) (by decide) (by decide)).trans fH, (kf _ (by decide) (by decide) (by decide) (by decide) (by decide) (by decide) (by decide) (by decide)).trans fC, (kf _ (by decide) (by decide) (by decide) (by decide) (by decide) (by decide) (by decide) (by decide)).trans fCo, fun z9 hz9 => (kf _ (by omega) (by omega) (by omega) (by omega) (by omega) (by omega) (by omega) (by omega)).trans (fcn z9 hz9), (kf _ (by decide) (by decide) (by decide) (by decide) (by decide) (by decide) (by decide) (by decide)).trans fL, (kf _ (by decide) (by decide) (by decide) (by decide) (by decide) (by decide) (by decide) (by decide)).trans fWo, fun z9 hz9 => (kf _ (by omega) (by omega) (by omega) (by omega) (by omega) (by omega) (by omega) (by omega)).trans (fwt z9 hz9), (kf _ (by decide) (by decide) (by decide) (by decide) (by decide) (by decide) (by decide) (by decide)).trans fTo, fun z9 hz9 => (kf _ (by omega) (by omega) (by omega) (by omega) (by omega) (by omega) (by omega) (by omega)).trans (ftz z9 hz9), fun z9 hz9 => (kf _ (by omega) (by omega) (by omega) (by omega) (by omega) (by omega) (by omega) (by omega)).trans (ftf z9 hz9), (kf _ (by decide) (by decide) (by decide) (by decide) (by decide) (by decide) (by decide) (by decide)).trans fZ, (kf _ (by decide) (by decide) (by decide) (by decide) (by decide) (by decide) (by decide) (by decide)).trans fZf, p0, (kf _ (by decide) (by decide) (by decide) (by decide) (by decide) (by decide) (by decide) (by decide)).trans fW1, (kf _ (by decide) (by decide) (by decide) (by decide) (by decide) (by decide) (by decide) (by decide)).trans fW2, p1, (kf _ (by decide) (by decide) (by decide) (by decide) (by decide) (by decide) (by decide) (by decide)).trans fI1, (kf _ (by decide) (by decide) (by decide) (by decide) (by decide) (by decide) (by decide) (by decide)).trans fI2, p2, (kf _ (by decide) (by decide) (by decide) (by decide) (by decide) (by decide) (by decide) (by decide)).trans fVf, (kf _ (by decide) (by decide) (by decide) (by decide) (by decide) (by decide) (by decide) (by decide)).trans fP, (kf _ (by decide) (by decide) (by decide) (by decide) (by decide) (by decide) (by decide) (by decide)).trans fPo, fun z9 hz9 => (kf _ (by omega) (by omega) (by omega) (by omega) (by omega) (by omega) (by omega) (by omega)).trans (fpt z9 hz9), (kf _ (by decide) (by decide) (by decide) (by decide) (by decide) (by decide) (by decide) (by decide)).trans fBo, fun z9 hz9 => (kf _ (by omega) (by omega) (by omega) (by omega) (by omega) (by omega) (by omega) (by omega)).trans (fbd z9 hz9), (kf _ (by decide) (by decide) (by decide) (by decide) (by decide) (by decide) (by decide) (by decide)).trans fS, (kf _ (by decide) (by decide) (by decide) (by decide) (by decide) (by decide) (by decide) (by decide)).trans fSw, (kf _ (by decide) (by decide) (by decide) (by decide) (by decide) (by decide) (by decide) (by decide)).trans fs0, (kf _ (by decide) (by decide) (by decide) (by decide) (by decide) (by decide) (by decide) (by decide)).trans fs1, (kf _ (by decide) (by decide) (by decide) (by decide) (by decide) (by decide) (by decide) (by decide)).trans fs2, (kf _ (by decide) (by decide) (by decide) (by decide) (by decide) (by decide) (by decide) (by decide)).trans fLo, p3, p4, p5, p6, (kf _ (by decide) (by decide) (by decide) (by decide) (by decide) (by decide) (by decide) (by decide)).trans fF, p7, (kf _ (by decide) (by decide) (by decide) (by decide) (by decide) (by decide) (by decide) (by decide)).trans fR1, (kf _ (by decide) (by decide) (by decide) (by decide) (by decide) (by decide) (by decide) (by decide)).trans fR2, (kf _ (by decide) (by decide) (by decide) (by decide) (by decide) (by decide) (by decide) (by decide)).trans fF1, (kf _ (by decide) (by decide) (by decide) (by decide) (by decide) (by decide) (by decide) (by decide)).trans fF2, hsd⟩, fun j h1 => kf j (by omega) (by omega) (by omega) (by omega) (by omega) (by omega) (by omega) (by omega)⟩
theorem or_clear (l : Launch) (Γ : Gm) (b : Nat) (mem : Nat → va_E) {cd : Nat} {nd : Nat} {cn : Nat → Nat → Nat} {wt : Nat → Nat → UInt32} {tz : Nat → Nat} {tf : Nat → Nat → UInt32} {cz : Nat} {cf : Nat → UInt32} {wz : Nat} {wm : Nat → Nat} {iz : Nat} {im iw : Nat → Nat} {vz : Nat} {vf : Nat → UInt32} {mh : Nat → Bool} {ml mli : Nat → Nat} {msc : Nat → UInt64} {mwk : Nat → Nat} {fc : Nat} {mf : Nat → Nat} {mfs : Nat → UInt64}  (h : IR Γ b mem cd nd cn wt tz tf cz cf wz wm iz im iw vz vf mh ml mli msc mwk fc mf mfs)  : MdI l Γ b yX10_clear (.code yX10_clear cX10_clear 1 none) [.ref (b + 115)] mem none (fun u => IR Γ b u 0 nd cn wt tz tf cz cf 0 wm 0 im iw 0 vf (zrR mh 3) ml mli msc mwk 0 mf mfs) := by
  obtain ⟨md, wh, sd, sk, ps, mr, mrs, mal, mas, fM, g116, g117, g118, g119, g120, g121, g122, g123, g124, g125, g126, g127, g128, g129, g130, g131, g132, g133, g134, g135, hmr, hmal⟩ := h
  refine ⟨_, _, ⟨⟨rfl, rfl⟩, Nat.le_of_ble_eq_true rfl, Nat.le_of_ble_eq_true rfl⟩, m_clear l Γ b 138 mem (cd := cd) (nd := nd) (cz := cz) (wz := wz) (iz := iz) (vz := vz) (md := md) (wh := wh) (sd := sd) (sk := sk) (ps := ps) (fc := fc) (mh := mh) (by decide) fM g125, ?_⟩
  rintro u ⟨p0, p1, kf⟩
  exact ⟨⟨md, wh, sd, sk, ps, mr, mrs, mal, mas, p0, (kf _ (by decide) (by decide)).trans g116, (kf _ (by decide) (by decide)).trans g117, (kf _ (by decide) (by decide)).trans g118, (kf _ (by decide) (by decide)).trans g119, (kf _ (by decide) (by decide)).trans g120, (kf _ (by decide) (by decide)).trans g121, (kf _ (by decide) (by decide)).trans g122, (kf _ (by decide) (by decide)).trans g123, (kf _ (by decide) (by decide)).trans g124, p1, (kf _ (by decide) (by decide)).trans g126, (kf _ (by decide) (by decide)).trans g127, (kf _ (by decide) (by decide)).trans g128, (kf _ (by decide) (by decide)).trans g129, (kf _ (by decide) (by decide)).trans g130, (kf _ (by decide) (by decide)).trans g131, (kf _ (by decide) (by decide)).trans g132, (kf _ (by decide) (by decide)).trans g133, (kf _ (by decide) (by decide)).trans g134, (kf _ (by decide) (by decide)).trans g135, hmr, hmal⟩, fun j hj => kf j (by omega) (by omega)⟩
/-- clear, on both sides -/
theorem op_clear (l : Launch) (Γ : Gm) (b : Nat) (mem : Nat → va_E) (h : Inv Γ b mem) : ∃ (rm : Room) (P : (Nat → va_E) → Prop), RmOK rm ∧ (∃ fs, mem 0 = .inr (8, fs)) ∧ Ct l yX9_clear (.code yX9_clear cX9_clear 1 none) rm Γ b 138 [.ref (b + 0)] mem P none ∧ ∀ u, P u → ∃ (rm2 : Room) (P2 : (Nat → va_E) → Prop), RmOK rm2 ∧ (∃ fs, u 115 = .inr (9, fs)) ∧ Ct l yX10_clear (.code yX10_clear cX10_clear 1 none) rm2 Γ b 138 [.ref (b + 115)] u P2 none ∧ ∀ u2, P2 u2 → Inv Γ b u2 := by
  obtain ⟨cd, nd, cn, ln, wt, tz, tf, cz, cf, wz, wm, iz, im, iw, vz, vf, lst, lrk, ldc, lsc, sf, fdc, fsc, mh, ml, mli, msc, mwk, fc, mf, mfs, hC, hR, hD, hL, hF, ho, hq⟩ := h
  obtain ⟨hnd, hcn, hlc, hln, hlm, hwt, htz, htf, hcz, hcf, hwz, hwm, hiz, him, hiw, hvz, hvf⟩ := hD
  have hC0 := hC
  obtain ⟨ww, pn, pt, bd, near, wa, lim2, ssz, sdc, ssc, lf, to, mb, fH, -⟩ := hC0
  obtain ⟨rm, P, h1, h2, h3⟩ := oc_clear l Γ b mem hC
  refine ⟨rm, P, h1, ⟨_, fH⟩, h2, fun u hu => ?_⟩
  obtain ⟨c1, c3⟩ := h3 u hu
  have hRu := IR_frame hR (u := u) (fun j a _ => c3 j a)
  obtain ⟨rm2, P2, k1, k2, k3⟩ := or_clear l Γ b u hRu
  have h4 := IR_MOk hRu
  obtain ⟨_, _, _, _, _, _, _, _, _, _, _, h4⟩ := h4
  refine ⟨rm2, P2, k1, ⟨_, h4⟩, k2, fun u2 hu2 => ?_⟩
  obtain ⟨g2, f2⟩ := k3 u2 hu2
  exact ⟨_, _, _, _, _, _, _, _, _, _, _, _, _, _, _, _, _, _, _, _, _, _, _, _, _, _, _, _, _, _, _, IC_frame c1 (fun j hj => f2 j (Or.inl hj)), g2, ⟨hnd, hcn, hlc, hln, hlm, hwt, htz, htf, hcz, hcf, by omega, hwm, by omega, him, fun i hi => absurd hi (Nat.not_lt_zero _), by omega, hvf⟩, IL_all hL, IF_0 hF, ⟨ho.choose, (f2 136 (Or.inr (by decide))).trans ((c3 136 (by decide)).trans ho.choose_spec)⟩, ⟨hq.choose, (f2 137 (Or.inr (by decide))).trans ((c3 137 (by decide)).trans hq.choose_spec)⟩⟩
