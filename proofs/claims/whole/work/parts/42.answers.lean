/-! ===== SELECTING ===== -/
section SEL
variable {h g x τ : Nat → Nat → Int32} {w : Nat} {nf : Nat → Nat} {R i : Nat} {Φ : Nat → Nat → Nat}
theorem ov_eq (b : BR h g x τ w (nf w)) {j m : Nat} (hm : m < nf w) (hp : ¬ vmX x w 2 m = 0) (hi : inhB (vmX x w) j = true) : p_X0_overrides h τ g (vmX x w) (nf w) j m = p_X5_overrides x w (nf w) j m := by
  have hA := (b.wx.2.2.2 m hm).2.2.2
  have e9 : ∀ m, x 9 (30 * w + m) = vmX x w 0 m := fun m => rfl
  have e11 : x 11 (30 * w + m) = vmX x w 2 m := rfl
  have e2 : ∀ j, x 2 (12 * w + j) = τ 2 j := fun j => (congrFun (b.se 2 (by decide)) j).symm
  unfold p_X0_overrides p_X5_overrides
  rw [e9, e9, e11, e2, e2, if_pos hi]
  by_cases c : j = m
  · rw [if_pos c, if_pos c]
  · rw [if_neg c, if_neg c]
    rcases a4 (v := vmX x w 2 m) hA with q | q | q | q
    · exact absurd q hp
    · rw [q]
      simp only [if_neg (by decide : ¬ (1 : Int32) = 3), if_neg (by decide : ¬ (1 : Int32) = 2), if_true]
      by_cases c2 : τ 2 (sN (vmX x w 0 j)) = τ 2 (sN (vmX x w 0 m))
      · rw [if_pos c2, decide_eq_true c2, if_pos rfl]
      · rw [if_neg c2, decide_eq_false c2, if_neg (by decide)]
    · rw [q]
      simp only [if_neg (by decide : ¬ (2 : Int32) = 3), if_neg (by decide : ¬ (2 : Int32) = 1), if_true]
    · rw [q]
      simp only [if_neg (by decide : ¬ (3 : Int32) = 1), if_true]
theorem ov_no {j m n : Nat} {γ : Nat → Nat → Int32} (hi : ¬ inhB γ j = true) : p_X0_overrides h τ g γ n j m = 0 := by
  unfold p_X0_overrides
  rw [if_neg hi]
theorem cs_eq (b : BR h g x τ w (nf w)) {j : Nat} (hj : j < nf w) (u : Nat) : p_X0_checkSelected h τ g (vmX x w) (nf w) (Φ i) j = p_X5_selected_214 x nf R Φ w i u (nI j) := by
  have hn := b.n30
  have e12 : x 12 (30 * w + j) = vmX x w 3 j := rfl
  have e11 : x 11 (30 * w + j) = vmX x w 2 j := rfl
  have z1 : nI (464 + j) = nI (64 * 7 + (16 + j)) := congrArg nI (by omega)
  have z2 : nI (16 + j) = nI (64 * 0 + (16 + j)) := congrArg nI (by omega)
  have z3 : nI (272 + j) = nI (64 * 4 + (16 + j)) := congrArg nI (by omega)
  unfold p_X0_checkSelected p_X5_selected_214
  rw [sN_nI (by omega), e12, e11, z1, z2, z3]
  by_cases c : bt (vmX x w 3 j) 1 = true
  · rw [if_pos c, if_neg (c := vmX x w 3 j &&& 2 = 0) (fun z => and2_eq.mp z c)]
  · rw [if_neg c, if_pos (c := vmX x w 3 j &&& 2 = 0) (and2_eq.mpr c)]
theorem s169 (b : BR h g x τ w (nf w)) {u m : Nat} (hu : u < 12) (gu : Gd τ u) (rv : Int32) : p_X0_selection_68 h τ g (vmX x w) (nf w) (Φ i) rv u (p_X0_selectFromFaces h τ g (vmX x w) (nf w) u (nI (Φ i 3))) = p_X5_selected_169 x nf R Φ w i u (-1) := by
  have hn := b.n30
  unfold p_X5_selected_169 p_X0_selectFromFaces p_X0_selection_68
  rw [if_neg (c := (0 : Int32) ≤ -1) (by decide)]
  rcases ob_eq b hu gu (Φ i 3) with ⟨h1, h2⟩ | ⟨h1, h2⟩ | ⟨j, hj, hg, h1, h2⟩
  · rw [h1, h2]
    simp only [if_neg (by decide : ¬ (-2 : Int32) = -4), if_neg (by decide : ¬ (0 : Int32) ≤ -1), if_neg (by decide : ¬ (-1 : Int32) = -2), if_true]
    rw [gd_nI (by omega), if_neg (by simp; omega)]
  · rw [h1, h2]
    simp only [if_neg (by decide : ¬ (0 : Int32) ≤ -2), if_true]
    rw [gd_nI (by omega), if_neg (by simp; omega)]
  · have e : (16 : Int32) + nI j = nI (16 + j) := nI_add 16 j
    have n4 : ¬ nI j = -4 := fun z => by have := congrArg Int32.toInt z; rw [nI_toInt (by omega)] at this; simp at this
    rw [h1, h2, if_pos (c := (0 : Int32) ≤ nI j) (nI_pos' (by omega)), if_neg n4, if_neg (nI_nn (by omega)), e, gd_nI (by omega), if_pos (by simp; omega), sN_nI (by omega), Nat.add_sub_cancel_left]
    exact cs_eq b hj u
theorem sf_eq (b : BR h g x τ w (nf w)) {u m : Nat} (hu : u < 12) (gu : Gd τ u) (hm : m < nf w) (hp : ¬ vmX x w 2 m = 0) (hr : sN (p_X5_resolved x nf R Φ w i) - 16 = m) (rv : Int32) : ∀ d v n5 k1 k2, (v = -1 ∨ (isT v ∧ gN τ d (sN v) = true)) → n5 + d ≤ 12 → 12 - n5 < k1 → d + 1 < k2 → p_X0_selection_68 h τ g (vmX x w) (nf w) (Φ i) rv u (p_X0_selectFor_6 h τ g (vmX x w) (nf w) u m (nI (Φ i 3)) k1 n5 v) = p_X5_selected_97 x nf R Φ w i u k2 v (-1) := by
  have hn := b.n30
  intro d
  have base : ∀ v n5 k1 k2, v = -1 → p_X0_selection_68 h τ g (vmX x w) (nf w) (Φ i) rv u (p_X0_selectFor_6 h τ g (vmX x w) (nf w) u m (nI (Φ i 3)) (k1 + 1) n5 v) = p_X5_selected_97 x nf R Φ w i u (k2 + 1) v (-1) := by
    intro v n5 k1 k2 e
    have q1 : p_X0_selectFor_6 h τ g (vmX x w) (nf w) u m (nI (Φ i 3)) (k1 + 1) n5 v = p_X0_selectFromFaces h τ g (vmX x w) (nf w) u (nI (Φ i 3)) := by
      rw [p_X0_selectFor_6, e]
      by_cases c : 12 ≤ n5
      · rw [if_pos c]
      · rw [if_neg c, if_pos rfl]
    rw [q1, p_X5_selected_97, e, if_pos m1_lt]
    exact s169 (m := m) b hu gu rv
  induction d with
  | zero =>
    intro v n5 k1 k2 hv h1 h2 h3
    have e : v = -1 := hv.resolve_right (fun q => by have := q.2; rw [gN] at this; exact absurd this (by decide))
    obtain ⟨k1, rfl⟩ : ∃ k, k1 = k + 1 := ⟨k1 - 1, by omega⟩
    obtain ⟨k2, rfl⟩ : ∃ k, k2 = k + 1 := ⟨k2 - 1, by omega⟩
    exact base v n5 k1 k2 e
  | succ d ih =>
    intro v n5 k1 k2 hv h1 h2 h3
    obtain ⟨k1, rfl⟩ : ∃ k, k1 = k + 1 := ⟨k1 - 1, by omega⟩
    obtain ⟨k2, rfl⟩ : ∃ k, k2 = k + 1 := ⟨k2 - 1, by omega⟩
    rcases hv with e | ⟨hT, hg⟩
    · exact base v n5 k1 k2 e
    · have hnn := isT_nn hT
      have hup := (up_step b.wf hT hg).2
      rw [Nat.add_sub_cancel] at hup
      have e3 : x 3 (12 * w + sN v) = τ 3 (sN v) := (congrFun (b.se 3 (by decide)) (sN v)).symm
      have go := ih (τ 3 (sN v)) (n5 + 1) k1 k2 hup (by omega) (by omega) (by omega)
      rw [p_X0_selectFor_6, if_neg (c := 12 ≤ n5) (by omega), if_neg (c := v = -1) (fun z => hnn (by rw [z]; decide)), p_X5_selected_97, if_neg (c := v < 0) hnn, if_neg (c := (0 : Int32) ≤ -1) (by decide), e3, hr]
      rcases fd_od (γ := vmX x w) (n := nf w) (t := sN v) (key := kyF true (nI (Φ i 3))) hn with ⟨q1, q2⟩ | ⟨j, hj, hgo, q0, q1, q2⟩
      · rw [q1, q2, if_pos (c := (-2 : Int32) = -2) rfl, if_pos (c := (-1 : Int32) < 0) m1_lt]
        exact go
      · have hof : offB (vmX x w) (nf w) (sN v) (kyF true (nI (Φ i 3))) = inhB (vmX x w) j := by
          unfold offB
          rw [q0, decide_eq_true hj, Bool.true_and]
        rw [q0, q1, q2, if_neg (c := nI j = -2) (nI_nn (by omega)), if_neg (c := nI j < 0) (nI_pos (by omega)), hof]
        by_cases c : inhB (vmX x w) j = true
        · rw [if_pos (c := inhB (vmX x w) j = true) c, ov_eq b hm hp c]
          by_cases c2 : p_X5_overrides x w (nf w) j m = 0
          · rw [if_pos (c := p_X5_overrides x w (nf w) j m = 0) c2, if_pos (c := p_X5_overrides x w (nf w) j m = 0) c2]
            exact go
          · rw [if_neg (c := p_X5_overrides x w (nf w) j m = 0) c2, if_neg (c := p_X5_overrides x w (nf w) j m = 0) c2]
            obtain ⟨k2, rfl⟩ : ∃ k, k2 = k + 1 := ⟨k2 - 1, by omega⟩
            have fin : p_X5_selected_97 x nf R Φ w i u (k2 + 1) (τ 3 (sN v)) (nI j) = p_X5_selected_169 x nf R Φ w i u (nI j) := by
              rw [p_X5_selected_97, if_pos (c := (0 : Int32) ≤ nI j) (nI_pos' (by omega))]
              by_cases c3 : τ 3 (sN v) < 0
              · rw [if_pos c3]
              · rw [if_neg c3]
            rw [fin]
            unfold p_X0_selection_68 p_X5_selected_169
            rw [gd_nI (by omega), if_pos (by simp; omega), sN_nI (by omega), Nat.add_sub_cancel_left, if_pos (c := (0 : Int32) ≤ nI j) (nI_pos' (by omega))]
            exact cs_eq b hj u
        · rw [if_neg (c := inhB (vmX x w) j = true) c, ov_no c, if_pos (c := (0 : Int32) = 0) rfl]
          exact go
theorem sel_eq (b : BR h g x τ w (nf w)) (hφ : φR (Φ i)) (hg : g16 (nf w) (p_X5_resolved x nf R Φ w i)) (hk : Φ i 0 = 4 ∨ Φ i 0 = 7) {u : Nat} (hu : u < 12) : p_X0_selection h τ g (vmX x w) (nf w) (Φ i) (p_X5_resolved x nf R Φ w i) u = p_X5_selected x nf R Φ w i u := by
  have hn := b.n30
  obtain ⟨hf0, hf1, hf2, hf3⟩ := hφ
  obtain ⟨m, hm, er⟩ := hg
  have esn : sN (p_X5_resolved x nf R Φ w i) - 16 = m := by rw [er, sN_nI (by omega), Nat.add_sub_cancel_left]
  have egd : gd (p_X5_resolved x nf R Φ w i) = true := by rw [er, gd_nI (by omega)]; simp; omega
  have e11 : x 11 (30 * w + m) = vmX x w 2 m := rfl
  have e1 : x 1 (12 * w + u) = τ 1 u := (congrFun (b.se 1 (by decide)) u).symm
  unfold p_X0_selection p_X5_selected
  rw [if_pos (c := decide (Φ i 0 = 4 ∨ Φ i 0 = 7) = true) (decide_eq_true hk), if_pos (c := gd (p_X5_resolved x nf R Φ w i) = true) egd, esn, e11, e1, ← se_gdB b.se, ← se_abB b.se, ← se_fcB b.se]
  unfold p_X0_isFit
  rw [gd_LV b.wf hu]
  have e512 : nI (512 + u) = nI (64 * 8 + u) := congrArg nI (by omega)
  by_cases cg : gdB τ u = true
  · rw [if_pos (c := gdB τ u = true) cg, if_pos (c := gdB τ u = true) cg]
    by_cases cm : (!(bt (τ 1 u) 1 || bt (τ 1 u) 2)) = true
    · have cm2 : τ 1 u &&& 6 = 0 := and6_eq.mpr (by
        simp only [Bool.not_eq_true', Bool.or_eq_false_iff] at cm
        rintro (q | q)
        · rw [cm.1] at q; exact absurd q (by decide)
        · rw [cm.2] at q; exact absurd q (by decide))
      rw [if_pos (c := (!(bt (τ 1 u) 1 || bt (τ 1 u) 2)) = true) cm, if_pos (c := τ 1 u &&& 6 = 0) cm2]
      by_cases cu : (abB τ u (Φ i 2) || fcB τ u (Φ i 2)) = true
      · rw [if_pos (c := (abB τ u (Φ i 2) || fcB τ u (Φ i 2)) = true) cu, if_pos (c := (abB τ u (Φ i 2) || fcB τ u (Φ i 2)) = true) cu, if_neg (c := (1 : Int32) = 0) (by decide)]
        have gu := gdB_iff.mp cg
        by_cases cp : vmX x w 2 m = 0
        · rw [if_pos (c := vmX x w 2 m = 0) cp, if_pos (c := vmX x w 2 m = 0) cp, p_X5_selected_97, if_neg (c := nI u < 0) (nI_pos (by omega)), if_pos (c := (0 : Int32) ≤ nI m) (nI_pos' (by omega))]
          unfold p_X0_selection_68 p_X5_selected_169
          rw [if_pos (c := gd (p_X5_resolved x nf R Φ w i) = true) egd, esn, if_pos (c := (0 : Int32) ≤ nI m) (nI_pos' (by omega))]
          exact cs_eq b hm u
        · rw [if_neg (c := vmX x w 2 m = 0) cp, if_neg (c := vmX x w 2 m = 0) cp]
          unfold p_X0_selectFor
          exact sf_eq b hu gu hm cp esn _ 12 (nI u) 0 13 14 (Or.inr ⟨isT_nI hu, by rw [sN_nI (by omega)]; exact gN12 b.wf hu gu⟩) (by omega) (by omega) (by omega)
      · rw [if_neg (c := (abB τ u (Φ i 2) || fcB τ u (Φ i 2)) = true) cu, if_neg (c := (abB τ u (Φ i 2) || fcB τ u (Φ i 2)) = true) cu, if_pos (c := (0 : Int32) = 0) rfl, e512]
    · have cm2 : ¬ τ 1 u &&& 6 = 0 := fun z => cm (by
        have := and6_eq.mp z
        simp only [Bool.not_eq_true', Bool.or_eq_false_iff]
        constructor
        · cases e : bt (τ 1 u) 1 with
          | false => rfl
          | true => exact absurd (Or.inl e) this
        · cases e : bt (τ 1 u) 2 with
          | false => rfl
          | true => exact absurd (Or.inr e) this)
      rw [if_neg (c := (!(bt (τ 1 u) 1 || bt (τ 1 u) 2)) = true) cm, if_neg (c := τ 1 u &&& 6 = 0) cm2, if_pos (c := (0 : Int32) = 0) rfl, e512]
  · rw [if_neg (c := gdB τ u = true) cg, if_neg (c := gdB τ u = true) cg, if_pos (c := (0 : Int32) = 0) rfl, e512]
end SEL
