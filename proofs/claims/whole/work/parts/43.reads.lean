/-! ===== class and reference as wholes: what is asked ===== -/
/-- the class's tables T, references Φ and their number rc; the reference's rows x -/
def LR (T : Nat → Nat → Nat → Int32) (Φ : Nat → Nat → Nat) (rc : Int32) (x : Nat → Nat → Int32) (τ : Nat → Nat → Nat → Int32) (nf : Nat → Nat) (R : Nat) : Prop := (∀ w, w < 2 → BR (T (2 * w)) (T (2 * w + 1)) x (τ w) w (nf w)) ∧ rc = nI R ∧ WR x R Φ ∧ BX x
section LRS
variable {T : Nat → Nat → Nat → Int32} {Φ : Nat → Nat → Nat} {rc : Int32} {x : Nat → Nat → Int32} {τ : Nat → Nat → Nat → Int32} {nf : Nat → Nat} {R : Nat}
theorem LR.lok (q : LR T Φ rc x τ nf R) : LOK T Φ rc τ (fun w => vmX x w) nf R :=
  ⟨fun w hw => ⟨(q.1 w hw).okh, (q.1 w hw).wf, (q.1 w hw).okm, (q.1 w hw).wm⟩, q.2.1, q.2.2.1.1, fun i hi => (q.2.2.1.2.2 i hi).1⟩
theorem LR.hX (q : LR T Φ rc x τ nf R) : ∀ w, w < 2 → WX x w (nf w) := fun w hw => (q.1 w hw).wx
theorem LR.res (q : LR T Φ rc x τ nf R) {w i : Nat} (hw : w < 2) (hi : i < R) : p_X0_resolution (T (2 * w)) (τ w) (T (2 * w + 1)) (vmX x w) (nf w) (Φ i) = p_X5_resolved x nf R Φ w i := res_eq (q.1 w hw) (q.2.2.1.2.2 i hi).1
theorem LR.rR (q : LR T Φ rc x τ nf R) {w i : Nat} (hw : w < 2) (hi : i < R) : rM (nf w) (p_X5_resolved x nf R Φ w i) := res_rM q.hX q.2.2.1 hw hi
theorem rM_gd {n : Nat} {v : Int32} (h : rM n v) : gd v = true ↔ v < 64 := by
  obtain ⟨k, h1, h2, h3⟩ := h
  rw [h3, gd_nI (by omega), decide_eq_true_eq]
  exact (nI_ltI (a := k) (b := 64) (by omega) (by omega)).symm
theorem LR.g6 (q : LR T Φ rc x τ nf R) {w i : Nat} (hw : w < 2) (hi : i < R) (hk : Φ i 0 = 4 ∨ Φ i 0 = 7) (hg : gd (p_X5_resolved x nf R Φ w i) = true) : g16 (nf w) (p_X5_resolved x nf R Φ w i) := res_g16 x nf R Φ w i q.hX q.2.2.1 hw hi (by omega) ((rM_gd (q.rR hw hi)).mp hg)
theorem LR.hg16 (q : LR T Φ rc x τ nf R) : ∀ w, w < 2 → ∀ i, i < R → decide (Φ i 0 = 4 ∨ Φ i 0 = 7) = true → gd (p_X0_resolution (T (2 * w)) (τ w) (T (2 * w + 1)) ((fun w => vmX x w) w) (nf w) (Φ i)) = true → g16 (nf w) (p_X0_resolution (T (2 * w)) (τ w) (T (2 * w + 1)) ((fun w => vmX x w) w) (nf w) (Φ i)) := by
  intro w hw i hi hk hg
  show g16 (nf w) (p_X0_resolution (T (2 * w)) (τ w) (T (2 * w + 1)) (vmX x w) (nf w) (Φ i))
  have hg : gd (p_X0_resolution (T (2 * w)) (τ w) (T (2 * w + 1)) (vmX x w) (nf w) (Φ i)) = true := hg
  rw [q.res hw hi] at hg ⊢
  exact q.g6 hw hi (of_decide_eq_true hk) hg
theorem LR.hrg (q : LR T Φ rc x τ nf R) : ∀ w, w < 2 → ∀ i, i < R → rg (p_X0_resolution (T (2 * w)) (τ w) (T (2 * w + 1)) ((fun w => vmX x w) w) (nf w) (Φ i)) := by
  intro w hw i hi
  show rg (p_X0_resolution (T (2 * w)) (τ w) (T (2 * w + 1)) (vmX x w) (nf w) (Φ i))
  rw [q.res hw hi]
  exact (q.rR hw hi).rg (q.1 w hw).n30
theorem m2_gd : gd (-2) = false := by decide
/-- what is selected: class (-2 where nothing can be), reference (512 there) -/
theorem LR.sel (q : LR T Φ rc x τ nf R) {w i u : Nat} (hw : w < 2) (hi : i < R) (hu : u < 12) : p_X0_selection (T (2 * w)) (τ w) (T (2 * w + 1)) (vmX x w) (nf w) (Φ i) (p_X0_resolution (T (2 * w)) (τ w) (T (2 * w + 1)) (vmX x w) (nf w) (Φ i)) u = if slD x nf R Φ w i = true then p_X5_selected x nf R Φ w i u else -2 := by
  have hφ := (q.2.2.1.2.2 i hi).1
  rw [q.res hw hi]
  by_cases c : slD x nf R Φ w i = true
  · obtain ⟨h1, h2⟩ := slD_iff.mp c
    rw [if_pos c]
    exact sel_eq (q.1 w hw) hφ (q.g6 hw hi h1 ((rM_gd (q.rR hw hi)).mpr h2)) h1 hu
  · rw [if_neg c]
    unfold p_X0_selection
    by_cases h1 : Φ i 0 = 4 ∨ Φ i 0 = 7
    · rw [if_pos (decide_eq_true h1)]
      rw [if_neg (fun z => c (slD_iff.mpr ⟨h1, (rM_gd (q.rR hw hi)).mp z⟩))]
    · rw [if_neg (by simp only [decide_eq_true_eq]; exact h1)]
theorem LR.selM (q : LR T Φ rc x τ nf R) {w i u : Nat} (hw : w < 2) (hi : i < R) (hu : u < 12) (c : slD x nf R Φ w i = true) : rM (nf w) (p_X5_selected x nf R Φ w i u) := by
  obtain ⟨h1, h2⟩ := slD_iff.mp c
  exact sel_rM q.hX q.2.2.1 hw hi hu (q.g6 hw hi h1 ((rM_gd (q.rR hw hi)).mpr h2))
theorem LR.hsr (q : LR T Φ rc x τ nf R) : ∀ w, w < 2 → ∀ i, i < R → ∀ u, u < 12 → gd (p_X0_selection (T (2 * w)) (τ w) (T (2 * w + 1)) ((fun w => vmX x w) w) (nf w) (Φ i) (p_X0_resolution (T (2 * w)) (τ w) (T (2 * w + 1)) ((fun w => vmX x w) w) (nf w) (Φ i)) u) = true → rg (p_X0_selection (T (2 * w)) (τ w) (T (2 * w + 1)) ((fun w => vmX x w) w) (nf w) (Φ i) (p_X0_resolution (T (2 * w)) (τ w) (T (2 * w + 1)) ((fun w => vmX x w) w) (nf w) (Φ i)) u) := by
  intro w hw i hi u hu hg
  show rg (p_X0_selection (T (2 * w)) (τ w) (T (2 * w + 1)) (vmX x w) (nf w) (Φ i) (p_X0_resolution (T (2 * w)) (τ w) (T (2 * w + 1)) (vmX x w) (nf w) (Φ i)) u)
  have hg : gd (p_X0_selection (T (2 * w)) (τ w) (T (2 * w + 1)) (vmX x w) (nf w) (Φ i) (p_X0_resolution (T (2 * w)) (τ w) (T (2 * w + 1)) (vmX x w) (nf w) (Φ i)) u) = true := hg
  rw [q.sel hw hi hu] at hg ⊢
  by_cases c : slD x nf R Φ w i = true
  · rw [if_pos c]
    exact (q.selM hw hi hu c).rg (q.1 w hw).n30
  · rw [if_neg c, m2_gd] at hg
    exact absurd hg (by decide)
theorem a_load (q : LR T Φ rc x τ nf R) (t u : Int32) : p_X4_load T Φ τ (fun w => vmX x w) nf R t u = p_X5_load x nf R Φ t u := by
  unfold p_X4_load p_X5_load
  by_cases c : wi t 2 = true
  · rw [if_pos c, if_pos c, se_LV (q.1 _ (wi_sN (b := 2) (by decide) c).1).se]
  · rw [if_neg c, if_neg c]
theorem a_isUnder (q : LR T Φ rc x τ nf R) (t u v : Int32) : p_X4_isUnder T Φ τ (fun w => vmX x w) nf R t u v = p_X5_isUnder x nf R Φ t u v := by
  unfold p_X4_isUnder p_X5_isUnder
  by_cases c : wi t 2 = true
  · have b := q.1 _ (wi_sN (b := 2) (by decide) c).1
    rw [if_pos c, if_pos c]
    by_cases c2 : wi u 12 = true
    · rw [if_pos c2, if_pos c2]
      by_cases c3 : wi v 12 = true
      · rw [if_pos c3, if_pos c3, gd_LV b.wf (wi_sN (b := 12) (by decide) c2).1, gd_LV b.wf (wi_sN (b := 12) (by decide) c3).1, se_gdB b.se, se_abB b.se, se_fcB b.se]
      · rw [if_neg c3, if_neg c3]
    · rw [if_neg c2, if_neg c2]
  · rw [if_neg c, if_neg c]
theorem a_resolve (q : LR T Φ rc x τ nf R) (t u : Int32) : p_X4_resolve T Φ τ (fun w => vmX x w) nf R t u = p_X5_resolve x nf R Φ t u := by
  have hR := q.2.2.1.1
  unfold p_X4_resolve p_X5_resolve
  rw [q.2.2.1.2.1]
  by_cases c : wi t 2 = true
  · by_cases c2 : wi u (nI R) = true
    · rw [if_pos c, if_pos c2, if_pos (c := (wi t 2 && wi u (nI R)) = true) (by simp only [c, c2, Bool.and_true])]
      exact q.res (wi_sN (b := 2) (by decide) c).1 (wi_sN (by omega) c2).1
    · rw [if_pos c, if_neg c2, if_neg (c := (wi t 2 && wi u (nI R)) = true) (by simp [c2])]
  · rw [if_neg c, if_neg (c := (wi t 2 && wi u (nI R)) = true) (by simp [c])]
theorem a_select (q : LR T Φ rc x τ nf R) (t u v : Int32) : p_X4_select T Φ τ (fun w => vmX x w) nf R t u v = p_X5_select x nf R Φ t u v := by
  have hR := q.2.2.1.1
  unfold p_X4_select p_X5_select
  rw [q.2.2.1.2.1]
  by_cases c : wi t 2 = true
  · by_cases c2 : wi u (nI R) = true
    · rw [if_pos c, if_pos c2, if_pos (c := (wi t 2 && wi u (nI R)) = true) (by simp only [c, c2, Bool.and_true])]
      by_cases c3 : wi v 12 = true
      · rw [if_pos c3, if_pos c3]
        exact q.sel (wi_sN (b := 2) (by decide) c).1 (wi_sN (by omega) c2).1 (wi_sN (b := 12) (by decide) c3).1
      · rw [if_neg c3, if_neg c3]
    · rw [if_pos c, if_neg c2, if_neg (c := (wi t 2 && wi u (nI R)) = true) (by simp [c2])]
  · rw [if_neg c, if_neg (c := (wi t 2 && wi u (nI R)) = true) (by simp [c])]
/-! ===== ALIKE ===== -/
theorem z6_eq {a b : Int32} (ha : a = 0 ∨ a = 1) (hb : b = 0 ∨ b = 1) : ((!decide (a = 0)) = (!decide (b = 0))) ↔ a = b := by
  rcases ha with e | e <;> rcases hb with f | f <;> rw [e, f] <;> decide
theorem alike_eq (q : LR T Φ rc x τ nf R) {v u : Int32} (hv : rM (nf 0) v) (hu : rM (nf 1) u) : p_X4_areAlike T Φ τ (fun w => vmX x w) nf R v u = p_X5_areAlike x 0 (nf 0) (sN v) (sN u) := by
  obtain ⟨h1, h2, h3⟩ := hv.s
  obtain ⟨k1, k2, k3⟩ := hu.s
  unfold p_X4_areAlike p_X5_areAlike
  by_cases c : sN v / 64 = sN u / 64
  · rw [if_pos c, if_pos c]
    by_cases c2 : sN v % 64 < 16
    · rw [if_pos c2, if_pos c2]
    · rw [if_neg c2, if_neg c2]
      by_cases c3 : 16 ≤ sN u % 64
      · rw [if_pos c3, if_pos c3]
        have i0 : sN v % 64 - 16 < nf 0 := by omega
        have i1 : sN u % 64 - 16 < nf 1 := by omega
        have ei : 30 + sN u % 64 - 16 = 30 * 1 + (sN u % 64 - 16) := by omega
        have b0 := q.1 0 (by omega)
        have b1 := q.1 1 (by omega)
        have m0 := b0.wx.2.2.2 _ i0
        have m1 := b1.wx.2.2.2 _ i1
        rw [b0.okm.ow i0, b0.okm.ky i0, b1.okm.ow i1, b1.okm.ky i1, ei]
        generalize sN v % 64 - 16 = a at i0 m0 ⊢
        generalize sN u % 64 - 16 = b at i1 m1 ⊢
        have z0 : 30 * 0 + a = a := by omega
        rw [z0] at m0
        have e0 : vmX x 0 0 a = x 9 a := by show x 9 (30 * 0 + a) = x 9 a; rw [z0]
        have e1 : vmX x 1 0 b = x 9 (30 * 1 + b) := rfl
        have hk : vmX x 0 1 a = vmX x 1 1 b ↔ x 6 a = x 6 (30 * 1 + b) ∧ x 10 a = x 10 (30 * 1 + b) := by
          show kyF (!decide (x 6 (30 * 0 + a) = 0)) (x 10 (30 * 0 + a)) = kyF (!decide (x 6 (30 * 1 + b) = 0)) (x 10 (30 * 1 + b)) ↔ _
          rw [z0]
          have := ky_eq (z := !decide (x 6 (30 * 1 + b) = 0)) (z2 := !decide (x 6 a = 0)) (v := x 10 a) (s := sN (x 10 (30 * 1 + b))) m0.2.1 m1.2.1.1
          rw [← m1.2.1.2] at this
          rw [this, z6_eq m0.2.2.1 m1.2.2.1]
        rw [e0, e1]
        by_cases d1 : x 9 a = x 9 (30 * 1 + b)
        · by_cases d2 : x 6 a = x 6 (30 * 1 + b)
          · by_cases d3 : x 10 a = x 10 (30 * 1 + b)
            · rw [if_pos d1, if_pos d2, if_pos d3, decide_eq_true d1, decide_eq_true (hk.mpr ⟨d2, d3⟩)]; rfl
            · rw [if_pos d1, if_pos d2, if_neg d3, decide_eq_true d1, decide_eq_false (fun z => d3 (hk.mp z).2)]; rfl
          · rw [if_pos d1, if_neg d2, decide_eq_true d1, decide_eq_false (fun z => d2 (hk.mp z).1)]; rfl
        · rw [if_neg d1, decide_eq_false d1]; rfl
      · rw [if_neg c3, if_neg c3]
  · rw [if_neg c, if_neg c]
theorem gd64 {n : Nat} {v : Int32} (h : rM n v) : (64 ≤ v) ↔ ¬ gd v = true := by rw [rM_gd h, Int32.not_lt]
theorem a_compare (q : LR T Φ rc x τ nf R) (t : Int32) : p_X4_compare T Φ τ (fun w => vmX x w) nf R t = p_X5_compare x nf R Φ t := by
  have hR := q.2.2.1.1
  unfold p_X4_compare p_X5_compare
  rw [q.2.2.1.2.1]
  by_cases c : wi t (nI R) = true
  · rw [if_pos c, if_pos c]
    have hi := (wi_sN (by omega) c).1
    have r0 := q.res (w := 0) (by omega) hi
    have r1 := q.res (w := 1) (by omega) hi
    show (if p_X4_areAlike T Φ τ (fun w => vmX x w) nf R (p_X0_resolution (T (2 * 0)) (τ 0) (T (2 * 0 + 1)) (vmX x 0) (nf 0) (Φ (sN t))) (p_X0_resolution (T (2 * 1)) (τ 1) (T (2 * 1 + 1)) (vmX x 1) (nf 1) (Φ (sN t))) = 0 then (if gd (p_X0_resolution (T (2 * 0)) (τ 0) (T (2 * 0 + 1)) (vmX x 0) (nf 0) (Φ (sN t))) = true then (if gd (p_X0_resolution (T (2 * 1)) (τ 1) (T (2 * 1 + 1)) (vmX x 1) (nf 1) (Φ (sN t))) = true then (3 : Int32) else 1) else (if gd (p_X0_resolution (T (2 * 1)) (τ 1) (T (2 * 1 + 1)) (vmX x 1) (nf 1) (Φ (sN t))) = true then 2 else 4)) else 0) = _
    have m0 := q.rR (w := 0) (by omega) hi
    have m1 := q.rR (w := 1) (by omega) hi
    rw [r0, r1, alike_eq q m0 m1]
    simp only [gd64 m0, gd64 m1]
    by_cases d : p_X5_areAlike x 0 (nf 0) (sN (p_X5_resolved x nf R Φ 0 (sN t))) (sN (p_X5_resolved x nf R Φ 1 (sN t))) = 0
    · rw [if_pos d, if_pos d]
      by_cases d1 : gd (p_X5_resolved x nf R Φ 0 (sN t)) = true
      · rw [if_pos d1, if_neg (c := ¬ gd (p_X5_resolved x nf R Φ 0 (sN t)) = true) (fun z => z d1)]
        by_cases d2 : gd (p_X5_resolved x nf R Φ 1 (sN t)) = true
        · rw [if_pos d2, if_neg (c := ¬ gd (p_X5_resolved x nf R Φ 1 (sN t)) = true) (fun z => z d2)]
        · rw [if_neg d2, if_pos d2]
      · rw [if_neg d1, if_pos d1]
        by_cases d2 : gd (p_X5_resolved x nf R Φ 1 (sN t)) = true
        · rw [if_pos d2, if_neg (c := ¬ gd (p_X5_resolved x nf R Φ 1 (sN t)) = true) (fun z => z d2)]
        · rw [if_neg d2, if_pos d2]
    · rw [if_neg d, if_neg d]
  · rw [if_neg c, if_neg c]
end LRS
