/-! ===== the start: the new class and the new reference are the same ===== -/
theorem xh_bx {x : Nat → Nat → Int32} (h : BX x) (i : Nat) : ∀ j, BX (xh x i j)
  | 0 => h
  | j + 1 => BX.n (by omega) (xh_bx h i j)
theorem xs1_bx {x : Nat → Nat → Int32} (h : BX x) (i : Nat) : BX (xs1 x i) := BX.n (by omega) (BX.n (by omega) (BX.b (xh_bx h i 12)))
theorem xo_bx : BX (xo 2) := xs1_bx (xs1_bx (fun _ _ _ => Or.inl rfl) 0) 1
theorem st_ag : ∀ w, w < 2 → ∀ k, k < 5 → ∀ t, t < 12 → vwH h00 k t = xo 2 k (12 * w + t) := by decide +kernel
theorem st_3 : ∀ w, w < 2 → ∀ t, t < 12 → xo 2 3 (12 * w + t) = if t = 0 then -1 else nI 0 := by decide +kernel
theorem st_4 : ∀ w, w < 2 → ∀ t, t < 12 → xo 2 4 (12 * w + t) = 0 := by decide +kernel
theorem st_5 : ∀ w, w < 2 → ∀ t, t < 12 → xo 2 5 (12 * w + t) = nI t := by decide +kernel
theorem st_z : ∀ w, w < 2 → xo 2 0 (12 * w + 0) = 1 ∧ xo 2 1 (12 * w + 0) = 1 ∧ xo 2 3 (12 * w + 0) = -1 ∧ xo 2 4 (12 * w + 0) = 0 ∧ xo 2 2 (12 * w + 0) = 0 := by decide +kernel
theorem st_8 : ∀ w, w < 2 → xo 2 8 w = nI 0 := by decide +kernel
theorem st_h : ∀ w, w < 2 → ∀ t, t < 12 → thB (vwX (xo 2) w) t = true → h00 4 t = xo 2 5 (12 * w + t) := by decide +kernel
theorem st_t : ∀ t, t < 12 → h00 4 t = nI 0 := by decide +kernel
theorem st_b : ∀ t, t < 32 → 12 ≤ t → bt (h00 8 0) t = false := by decide +kernel
theorem st_wf {w : Nat} (hw : w < 2) : WFT (vwX (xo 2) w) := by
  obtain ⟨z0, z1, z3, z4, z2⟩ := st_z w hw
  refine ⟨fun t ht => ⟨?_, ?_, fun h0 => ?_, fun i _ _ => ?_⟩, z0, z1, z3, z4, z2⟩
  · show xo 2 3 (12 * w + t) = -1 ∨ isT (xo 2 3 (12 * w + t))
    rw [st_3 w hw t ht]
    by_cases c : t = 0
    · rw [if_pos c]; exact Or.inl rfl
    · rw [if_neg c]; exact Or.inr (isT_nI (by omega))
  · show isT (xo 2 5 (12 * w + t))
    rw [st_5 w hw t ht]; exact isT_nI ht
  · show ¬ xo 2 3 (12 * w + t) = -1
    rw [st_3 w hw t ht, if_neg h0]; decide
  · show bt (xo 2 4 (12 * w + t)) i = false
    rw [st_4 w hw t ht]; exact b_0 i
theorem st_pb {w : Nat} (hw : w < 2) : WFT (vwH h00) ∧ PB hI (fun _ _ => 0) (xo 2) w 0 := by
  refine PB.settled (fun k t hk ht => st_ag w hw k hk t ht) (st_wf hw) (fun t ht => by rw [st_t t ht]; exact isT_nI (by omega)) (fun t h1 h2 => st_b t h2 h1) (st_h w hw) ⟨st_wf hw, st_8 w hw, by omega, fun m hm => absurd hm (Nat.not_lt_zero _)⟩ ⟨nI_0.symm, by omega, fun m hm => absurd hm (Nat.not_lt_zero _), fun m _ _ => b_0 m⟩ (fun m _ hm => absurd hm (Nat.not_lt_zero _)) (fun m hm => absurd hm (Nat.not_lt_zero _))
theorem st_wfh : WFT (vwH h00) := (st_pb (w := 0) (by omega)).1
theorem st_inv : INV SI (xo 2) (fun _ => 0) 0 0 := by
  refine ⟨fun v hv => ?_, nI_0.symm, ⟨by omega, by decide +kernel, fun i hi => absurd hi (Nat.not_lt_zero _)⟩, xo_bx, by omega, nI_0.symm, by decide +kernel⟩
  rcases lt2 hv with e | e <;> subst e
  · exact (st_pb (w := 0) (by omega)).2
  · exact (st_pb (w := 1) (by omega)).2
