/-! ===== what a verdict blames ===== -/
def rM (n : Nat) (v : Int32) : Prop := ∃ k, k < 640 ∧ (k % 64 < 12 ∨ (16 ≤ k % 64 ∧ k % 64 < 16 + n)) ∧ v = nI k
theorem rM.rg {n : Nat} {v : Int32} (hn : n ≤ 30) (h : rM n v) : rg v := by
  obtain ⟨k, h1, h2, h3⟩ := h
  exact ⟨k, h1, by omega, h3⟩
theorem rM.s {n : Nat} {v : Int32} (h : rM n v) : sN v < 640 ∧ (sN v % 64 < 12 ∨ (16 ≤ sN v % 64 ∧ sN v % 64 < 16 + n)) ∧ v = nI (sN v) := by
  obtain ⟨k, h1, h2, h3⟩ := h
  have e : sN v = k := by rw [h3, sN_nI (by omega)]
  rw [e]; exact ⟨h1, h2, h3⟩
theorem rM_LV {n : Nat} {τ : Nat → Nat → Int32} (wf : WFT τ) {t : Nat} (ht : t < 12) : rM n (LV τ t) := by
  obtain ⟨k, hk, e⟩ := LV_nat wf ht
  exact ⟨k, by omega, Or.inl hk.2, e⟩
theorem res_rM {x : Nat → Nat → Int32} {nf : Nat → Nat} {R : Nat} {Φ : Nat → Nat → Nat} {w t : Nat} (hX : ∀ w, w < 2 → WX x w (nf w)) (wr : WR x R Φ) (hw : w < 2) (ht : t < R) : rM (nf w) (p_X5_resolved x nf R Φ w t) := by
  have wx := hX w hw
  have hn := wx.2.2.1
  obtain ⟨⟨hf0, hf1, hf2, hf3⟩, -⟩ := wr.2.2 t ht
  have h385 : ∀ m y, m < nf w → rM (nf w) (p_X5_resolved_385 x nf R Φ w t y m) := by
    intro m y hm
    rw [p_X5_resolved_385]
    repeat' split
    all_goals exact ⟨_, by omega, by omega, rfl⟩
  have h361 : ∀ m y, m < nf w → rM (nf w) (p_X5_resolved_361 x nf R Φ w t y m) := by
    intro m y hm
    rw [p_X5_resolved_361]
    repeat' split
    · exact h385 m y hm
    · exact ⟨_, by omega, by omega, rfl⟩
    · exact h385 m y hm
  have h327 : ∀ m y, m < nf w → rM (nf w) (p_X5_resolved_327 x nf R Φ w t y m) := by
    intro m y hm
    rw [p_X5_resolved_327]
    repeat' split
    · exact h361 m y hm
    · exact h361 m y hm
    · exact ⟨_, by omega, by omega, rfl⟩
  have h302 : ∀ m y z z2, m < nf w → rM (nf w) (p_X5_resolved_302 x nf R Φ w t z y m z2) := by
    intro m y z z2 hm
    rw [p_X5_resolved_302]
    repeat' split
    · exact h327 m y hm
    · exact h327 m y hm
    · exact h361 m y hm
    · exact ⟨_, by omega, by omega, rfl⟩
  have h283 : ∀ m y z, m < nf w → rM (nf w) (p_X5_resolved_283 x nf R Φ w t y m z) := by
    intro m y z hm
    rw [p_X5_resolved_283]
    split <;> exact h302 _ _ _ _ hm
  have h205 : ∀ v, om1 (nf w) v → rM (nf w) (p_X5_resolved_205 x nf R Φ w t v) := by
    intro v hv
    rw [p_X5_resolved_205]
    split
    · rename_i c
      have hm := (hv.nn c).1
      repeat' split
      · exact ⟨_, by omega, by omega, rfl⟩
      all_goals exact h283 _ _ _ hm
    · split <;> exact ⟨_, by omega, by omega, rfl⟩
  have h171 : Gd (vwX x w) (Φ t 2) → rM (nf w) (p_X5_resolved_171 x nf R Φ w t) := by
    intro g
    rw [p_X5_resolved_171]
    split
    · exact h205 _ (find_om1 _ _ _ hn _ _ wx hf2 g)
    · exact h205 _ (om1_av hn)
  have h153 : ∀ v, Gd (vwX x w) (Φ t 2) → rM (nf w) (p_X5_resolved_153 x nf R Φ w t v) := by
    intro v g
    rw [p_X5_resolved_153]
    repeat' split
    · exact ⟨_, by omega, by omega, rfl⟩
    · exact h171 g
    · exact h171 g
  have h141 : ∀ z, Gd (vwX x w) (Φ t 2) → rM (nf w) (p_X5_resolved_141 x nf R Φ w t z) := by
    intro z g
    rw [p_X5_resolved_141]
    repeat' split
    · exact ⟨_, by omega, by omega, rfl⟩
    · exact h153 _ g
    · exact h153 _ g
  have h111 : Gd (vwX x w) (Φ t 2) → rM (nf w) (p_X5_resolved_111 x nf R Φ w t) := by
    intro g
    rw [p_X5_resolved_111]
    repeat' split
    · exact ⟨_, by omega, by omega, rfl⟩
    · exact h141 _ g
    · exact h141 _ g
  rw [p_X5_resolved]
  split
  · split
    · rename_i c1 c2
      have g := (LV_64 wx.1 hf2).mp c2
      repeat' split
      · exact h111 g
      · exact ⟨_, by omega, by omega, rfl⟩
      · exact h111 g
    · exact rM_LV wx.1 hf2
  · exact rM_LV wx.1 hf1
theorem sel_rM {x : Nat → Nat → Int32} {nf : Nat → Nat} {R : Nat} {Φ : Nat → Nat → Nat} {w t u : Nat} (hX : ∀ w, w < 2 → WX x w (nf w)) (wr : WR x R Φ) (hw : w < 2) (ht : t < R) (hu : u < 12) (hsel : g16 (nf w) (p_X5_resolved x nf R Φ w t)) : rM (nf w) (p_X5_selected x nf R Φ w t u) := by
  have wx := hX w hw
  have hn := wx.2.2.1
  have h214 : ∀ v, isM (nf w) v → rM (nf w) (p_X5_selected_214 x nf R Φ w t u v) := by
    intro v hv
    have := hv.1
    rw [p_X5_selected_214]
    repeat' split
    all_goals exact ⟨_, by omega, by omega, rfl⟩
  have h169 : ∀ v, om1 (nf w) v → rM (nf w) (p_X5_selected_169 x nf R Φ w t u v) := by
    intro v hv
    rw [p_X5_selected_169]
    split
    · rename_i c; exact h214 v (hv.nn c)
    · split
      · rename_i c; exact h214 _ (bod_isM hn c)
      · split <;> exact ⟨_, by omega, by omega, rfl⟩
  have h97 : Gd (vwX x w) u → ∀ k v v7, (v = -1 ∨ (isT v ∧ gN (vwX x w) (k - 1) (sN v) = true)) → 0 < k → om1 (nf w) v7 → rM (nf w) (p_X5_selected_97 x nf R Φ w t u k v v7) := by
    intro g k
    induction k with
    | zero => intro v v7 _ h; omega
    | succ k ih =>
      intro v v7 hv _ h7
      rw [p_X5_selected_97]
      split
      · exact h169 v7 h7
      · rename_i c
        obtain ⟨hT, hg⟩ := hv.resolve_left (fun e => c (by rw [e]; decide))
        have hup := up_step wx.1 hT hg
        repeat' split
        · exact h169 v7 h7
        · exact ih _ _ hup.2 hup.1 h7
        · exact ih _ _ hup.2 hup.1 h7
        · exact ih _ _ hup.2 hup.1 (om1_od hn)
        · exact ih _ _ hup.2 hup.1 h7
  rw [p_X5_selected]
  split
  · rename_i c
    have g := gdB_iff.mp c
    have h0 : nI u = -1 ∨ (isT (nI u) ∧ gN (vwX x w) (14 - 1) (sN (nI u)) = true) := Or.inr ⟨isT_nI hu, by rw [sN_nI (by omega)]; exact gN_mono (gN12 wx.1 hu g)⟩
    have hm := (g16_sub hn hsel).1
    repeat' split
    · exact h97 g 14 _ _ h0 (by omega) (Or.inr (isM_nI hn hm))
    · exact h97 g 14 _ _ h0 (by omega) (Or.inl rfl)
    all_goals exact ⟨_, by omega, by omega, rfl⟩
  · exact ⟨_, by omega, by omega, rfl⟩
/-! ===== the look-up of a method ===== -/
section FND
variable {h g x τ : Nat → Nat → Int32} {w n : Nat}
theorem fd_od {γ : Nat → Nat → Int32} {n t : Nat} {key : Int32} (hn : n ≤ 30) : (fdI γ n t key = -2 ∧ odI γ n t key = -1) ∨ ∃ j, j < n ∧ goB γ j = false ∧ fdN γ n t key = j ∧ fdI γ n t key = nI j ∧ odI γ n t key = nI j := by
  by_cases c : fdN γ n t key < n
  · exact Or.inr ⟨_, c, (fd_spec c).2.2, rfl, by unfold fdI; rw [if_pos c], odI_of c⟩
  · exact Or.inl ⟨by unfold fdI; rw [if_neg c], by unfold odI; rw [if_neg c]⟩
theorem crN_of {γ : Nat → Nat → Int32} {j : Nat} (h1 : j < n) (h2 : goB γ j = false) : crN γ n (nI j) (nI j) := Or.inr ⟨j, h1, h2, rfl, rfl⟩
theorem m1_lt : (-1 : Int32) < 0 := by decide
theorem fia_eq (b : BR h g x τ w n) {t u : Nat} {X : Int32} (hX : crN (vmX x w) n X (bestR x w n t u)) : ∀ d v n4 k1 k2, (v = -1 ∨ (isT v ∧ gN τ d (sN v) = true)) → n4 + d ≤ 12 → 12 - n4 < k1 → d < k2 → crN (vmX x w) n (if p_X0_findInAbove_5 h τ g (vmX x w) n t (nI u) k1 n4 v = -2 then X else p_X0_findInAbove_5 h τ g (vmX x w) n t (nI u) k1 n4 v) (p_X5_find_26 x w n t u k2 v false) := by
  have hn := b.n30
  intro d
  induction d with
  | zero =>
    intro v n4 k1 k2 hv h1 h2 h3
    have e : v = -1 := hv.resolve_right (fun q => by have := q.2; rw [gN] at this; exact absurd this (by decide))
    obtain ⟨k1, rfl⟩ : ∃ k, k1 = k + 1 := ⟨k1 - 1, by omega⟩
    obtain ⟨k2, rfl⟩ : ∃ k, k2 = k + 1 := ⟨k2 - 1, by omega⟩
    have q1 : p_X0_findInAbove_5 h τ g (vmX x w) n t (nI u) (k1 + 1) n4 v = -2 := by
      rw [p_X0_findInAbove_5, e]
      by_cases c : 12 ≤ n4
      · rw [if_pos c]
      · rw [if_neg c, if_pos rfl]
    have q2 : p_X5_find_26 x w n t u (k2 + 1) v false = bestR x w n t u := by rw [p_X5_find_26, e, if_pos m1_lt]; rfl
    rw [q1, q2, if_pos rfl]
    exact hX
  | succ d ih =>
    intro v n4 k1 k2 hv h1 h2 h3
    obtain ⟨k1, rfl⟩ : ∃ k, k1 = k + 1 := ⟨k1 - 1, by omega⟩
    obtain ⟨k2, rfl⟩ : ∃ k, k2 = k + 1 := ⟨k2 - 1, by omega⟩
    rcases hv with e | ⟨hT, hg⟩
    · have q1 : p_X0_findInAbove_5 h τ g (vmX x w) n t (nI u) (k1 + 1) n4 v = -2 := by rw [p_X0_findInAbove_5, e, if_neg (c := 12 ≤ n4) (by omega), if_pos rfl]
      have q2 : p_X5_find_26 x w n t u (k2 + 1) v false = bestR x w n t u := by rw [p_X5_find_26, e, if_pos m1_lt]; rfl
      rw [q1, q2, if_pos rfl]
      exact hX
    · have hnn := isT_nn hT
      have hup := (up_step b.wf hT hg).2
      rw [Nat.add_sub_cancel] at hup
      have e3 : x 3 (12 * w + sN v) = τ 3 (sN v) := (congrFun (b.se 3 (by decide)) (sN v)).symm
      have q3 : p_X0_findInAbove_5 h τ g (vmX x w) n t (nI u) (k1 + 1) n4 v = if fdI (vmX x w) n (sN v) (kyF true (nI u)) = -2 then p_X0_findInAbove_5 h τ g (vmX x w) n t (nI u) k1 (n4 + 1) (τ 3 (sN v)) else fdI (vmX x w) n (sN v) (kyF true (nI u)) := by
        rw [p_X0_findInAbove_5, if_neg (c := 12 ≤ n4) (by omega), if_neg (c := v = -1) (fun z => hnn (by rw [z]; decide))]
      have q4 : p_X5_find_26 x w n t u (k2 + 1) v false = if (0 : Int32) ≤ odI (vmX x w) n (sN v) (kyF true (nI u)) then odI (vmX x w) n (sN v) (kyF true (nI u)) else p_X5_find_26 x w n t u k2 (τ 3 (sN v)) false := by
        rw [p_X5_find_26, if_neg (c := v < 0) hnn, e3, if_neg (c := false = true) (by decide)]
      rw [q3, q4]
      rcases fd_od (γ := vmX x w) (n := n) (t := sN v) (key := kyF true (nI u)) hn with ⟨q1, q2⟩ | ⟨j, hj, hgo, q0, q1, q2⟩
      · rw [q1, q2, if_pos (c := (-2 : Int32) = -2) rfl, if_neg (c := (0 : Int32) ≤ -1) (by decide)]
        exact ih (τ 3 (sN v)) (n4 + 1) k1 k2 hup (by omega) (by omega) (by omega)
      · rw [q1, q2, if_neg (c := nI j = -2) (nI_nn (by omega)), if_neg (c := nI j = -2) (nI_nn (by omega)), if_pos (c := (0 : Int32) ≤ nI j) (nI_pos' (by omega))]
        exact crN_of hj hgo
theorem fii_eq (b : BR h g x τ w n) {t u : Nat} (ht : t < 12) (gt : Gd τ t) (hi : bt (τ 1 t) 1 = true) {X : Int32} (hX : crN (vmX x w) n X (bestR x w n t u)) : crN (vmX x w) n (if p_X0_findInInterface h τ g (vmX x w) n t (nI u) = -2 then X else p_X0_findInInterface h τ g (vmX x w) n t (nI u)) (p_X5_find_26 x w n t u 14 (nI t) true) := by
  have hn := b.n30
  have e3 : x 3 (12 * w + t) = 0 := by rw [← if_sup gt hi]; exact (congrFun (b.se 3 (by decide)) t).symm
  have e30 : x 3 (12 * w + 0) = -1 := by rw [← b.wf.2.2.2.1]; exact (congrFun (b.se 3 (by decide)) 0).symm
  have ht0 : ¬ 0 = t := fun z => by rw [← z, root_nif b.wf] at hi; exact absurd hi (by decide)
  have e11 : ∀ j, x 11 (30 * w + j) = vmX x w 2 j := fun j => rfl
  have e12 : ∀ j, x 12 (30 * w + j) = vmX x w 3 j := fun j => rfl
  have hb : p_X5_find_26 x w n t u 12 (-1) true = bestR x w n t u := by rw [p_X5_find_26, if_pos m1_lt]; rfl
  have q3 : p_X5_find_26 x w n t u 14 (nI t) true = if (0 : Int32) ≤ odI (vmX x w) n t (kyF true (nI u)) then odI (vmX x w) n t (kyF true (nI u)) else p_X5_find_26 x w n t u 13 0 true := by
    rw [p_X5_find_26, if_neg (c := nI t < 0) (nI_pos (by omega)), sN_nI (by omega), e3, if_pos (c := true = true) rfl, if_pos (c := t = t) rfl]
  have q4 : p_X5_find_26 x w n t u 13 0 true = if (0 : Int32) ≤ odI (vmX x w) n 0 (kyF true (nI u)) then (if vmX x w 2 (fdN (vmX x w) n 0 (kyF true (nI u))) = 3 then (if vmX x w 3 (fdN (vmX x w) n 0 (kyF true (nI u))) &&& 1 = 0 then odI (vmX x w) n 0 (kyF true (nI u)) else bestR x w n t u) else bestR x w n t u) else bestR x w n t u := by
    rw [p_X5_find_26, if_neg (c := (0 : Int32) < 0) (by decide), isT_root, e30, hb, if_pos (c := true = true) rfl, if_neg (c := 0 = t) ht0, e11, e12]
  rw [q3, q4]
  unfold p_X0_findInInterface
  rcases fd_od (γ := vmX x w) (n := n) (t := t) (key := kyF true (nI u)) hn with ⟨q1, q2⟩ | ⟨j, hj, hgo, q0, q1, q2⟩
  · rw [q1, q2, if_pos (c := (-2 : Int32) = -2) rfl, if_neg (c := (0 : Int32) ≤ -1) (by decide)]
    rcases fd_od (γ := vmX x w) (n := n) (t := 0) (key := kyF true (nI u)) hn with ⟨r1, r2⟩ | ⟨j, hj, hgo, r0, r1, r2⟩
    · rw [r1, r2, if_pos (c := (-2 : Int32) = -2) rfl, if_pos (c := (-2 : Int32) = -2) rfl, if_neg (c := (0 : Int32) ≤ -1) (by decide)]
      exact hX
    · rw [r0, r1, r2, if_neg (c := nI j = -2) (nI_nn (by omega)), if_pos (c := (0 : Int32) ≤ nI j) (nI_pos' (by omega))]
      by_cases c1 : vmX x w 2 j = 3
      · simp only [if_pos c1]
        by_cases c2 : bt (vmX x w 3 j) 0 = true
        · simp only [if_pos c2, if_neg (fun z => and1_eq.mp z c2 : ¬ vmX x w 3 j &&& 1 = 0)]; exact hX
        · simp only [if_neg c2, if_pos (and1_eq.mpr c2 : vmX x w 3 j &&& 1 = 0), if_neg (nI_nn (by omega) : ¬ nI j = -2)]; exact crN_of hj hgo
      · simp only [if_neg c1]; exact hX
  · rw [q1, q2]
    simp only [if_neg (nI_nn (by omega) : ¬ nI j = -2), if_pos (nI_pos' (by omega) : (0 : Int32) ≤ nI j)]
    exact crN_of hj hgo
noncomputable def fndC (h τ g γ : Nat → Nat → Int32) (n t : Nat) (y : Int32) : Int32 := if bt (τ 1 t) 1 = true then (if p_X0_findInInterface h τ g γ n t y = -2 then p_X0_findBest h τ g γ n t y else p_X0_findInInterface h τ g γ n t y) else (if p_X0_findInAbove h τ g γ n t y = -2 then p_X0_findBest h τ g γ n t y else p_X0_findInAbove h τ g γ n t y)
theorem find_eq (b : BR h g x τ w n) {t u : Nat} (ht : t < 12) (hu : u < 15) (gt : Gd τ t) : crN (vmX x w) n (fndC h τ g (vmX x w) n t (nI u)) (p_X5_find x w n t u) := by
  have hX := best_eq b ht hu gt
  have e1 : x 1 (12 * w + t) = τ 1 t := (congrFun (b.se 1 (by decide)) t).symm
  unfold fndC p_X5_find
  rw [e1]
  by_cases c : bt (τ 1 t) 1 = true
  · rw [if_pos c, if_neg (fun z => and2_eq.mp z c)]
    exact fii_eq b ht gt c hX
  · rw [if_neg c, if_pos (and2_eq.mpr c)]
    unfold p_X0_findInAbove
    exact fia_eq b hX 12 (nI t) 0 13 14 (Or.inr ⟨isT_nI ht, by rw [sN_nI (by omega)]; exact gN12 b.wf ht gt⟩) (by omega) (by omega) (by omega)
theorem fR_go {τ γ : Nat → Nat → Int32} {n : Nat} {key : Int32} : ∀ d t, fR τ γ n key d t < n → goB γ (fR τ γ n key d t) = false
  | 0, t, q => by rw [fR] at q; exact absurd q (Nat.lt_irrefl n)
  | d + 1, t, q => by
    rw [fR] at q ⊢
    by_cases c1 : fdN γ n t key < n
    · rw [if_pos c1]; exact (fd_spec c1).2.2
    · rw [if_neg c1] at q ⊢
      by_cases c2 : fst (fun u => bt (τ 4 t) u && decide (fR τ γ n key d u < n)) 12 < 12
      · rw [if_pos c2] at q ⊢; exact fR_go d _ q
      · rw [if_neg c2] at q ⊢
        by_cases c3 : τ 3 t = -1
        · rw [if_pos c3] at q; exact absurd q (Nat.lt_irrefl n)
        · rw [if_neg c3] at q ⊢; exact fR_go d _ q
theorem field_eq (b : BR h g x τ w n) {t u : Nat} (ht : t < 12) (gt : Gd τ t) : crN (vmX x w) n (pFF h τ g (vmX x w) n 13 0 t (nI u)).1 (av n (FR (vwX x w) (vmX x w) n (kyF false (nI u)) t)) := by
  rw [FF_top h τ g (vmX x w) n b.n30 (nI u) b.wf ht gt, se_FR b.se]
  by_cases c : FR (vwX x w) (vmX x w) n (kyF false (nI u)) t < n
  · unfold cv av
    rw [if_pos c, if_pos c]
    exact crN_of c (fR_go 12 t c)
  · unfold cv av
    rw [if_neg c, if_neg c]
    exact Or.inl ⟨rfl, rfl⟩
/-! ===== ACCESS ===== -/
theorem a4 {v : Int32} (hA : isA v) : v = 0 ∨ v = 1 ∨ v = 2 ∨ v = 3 := by
  obtain ⟨h1, h2⟩ := hA
  generalize sN v = k at h1 h2
  have : k = 0 ∨ k = 1 ∨ k = 2 ∨ k = 3 := by omega
  rcases this with e | e | e | e
  · exact Or.inl (by rw [h2, e]; rfl)
  · exact Or.inr (Or.inl (by rw [h2, e]; rfl))
  · exact Or.inr (Or.inr (Or.inl (by rw [h2, e]; rfl)))
  · exact Or.inr (Or.inr (Or.inr (by rw [h2, e]; rfl)))
theorem open_eq (b : BR h g x τ w n) {m r d : Nat} (hm : m < n) (hg : goB (vmX x w) m = false) (hr : r < 12) (hd : d < 12) (gr : Gd τ r) (gd : Gd τ d) : p_X0_isAccessible h τ g (vmX x w) n m r d = p_X5_isOpen x w n m r d := by
  have hA := (b.wx.2.2.2 m hm).2.2.2
  have hT := (b.wm m hm).1
  have e9 : x 9 (30 * w + m) = vmX x w 0 m := rfl
  have e11 : x 11 (30 * w + m) = vmX x w 2 m := rfl
  have e12 : x 12 (30 * w + m) = vmX x w 3 m := rfl
  have e2 : ∀ j, x 2 (12 * w + j) = τ 2 j := fun j => (congrFun (b.se 2 (by decide)) j).symm
  have ns1 := se_nsN b.se b.ha b.wf hT (b.ot m hm hg)
  have ns2 := se_nsN b.se b.ha b.wf hd gd.there
  have hab : bt (aboI (vwX x w) d) (sN (vmX x w 0 m)) = abB τ d (sN (vmX x w 0 m)) := by
    rw [Bool.eq_iff_iff]
    unfold aboI
    rw [or12_bt (by omega), ← se_abB b.se]
    exact ⟨fun q => q.2, fun q => ⟨hT, q⟩⟩
  have hmain : p_X5_isOpen x w n m r d = p_X5_isOpen_58 x w n m r d (decide (τ 2 (sN (vmX x w 0 m)) = τ 2 d)) := by
    unfold p_X5_isOpen
    rw [e9, e2, e2]
    by_cases c : τ 2 (sN (vmX x w 0 m)) = τ 2 d
    · rw [if_pos c, decide_eq_true c]
    · rw [if_neg c, decide_eq_false c]
  rw [hmain]
  unfold p_X5_isOpen_58 p_X0_isAccessible p_X0_isInherited
  rw [e11, e12, e9, hab, ← ns1, ← ns2, ← se_abB b.se, ← se_fcB b.se]
  rcases a4 (v := vmX x w 2 m) hA with c | c | c | c
  · rw [c]
    simp only [if_neg (by decide : ¬ (0 : Int32) = 1), if_neg (by decide : ¬ (0 : Int32) = 2), if_neg (by decide : ¬ (0 : Int32) = 3), if_true]
  · rw [c]
    simp only [if_neg (by decide : ¬ (1 : Int32) = 3), if_neg (by decide : ¬ (1 : Int32) = 0), if_neg (by decide : ¬ (1 : Int32) = 2), if_true]
    by_cases c2 : τ 2 (sN (vmX x w 0 m)) = τ 2 d
    · rw [decide_eq_true c2, if_pos rfl]; rfl
    · rw [decide_eq_false c2, if_neg (by decide)]; rfl
  · rw [c]
    simp only [if_neg (by decide : ¬ (2 : Int32) = 1), if_neg (by decide : ¬ (2 : Int32) = 3), if_neg (by decide : ¬ (2 : Int32) = 0), if_true]
    by_cases c2 : τ 2 (sN (vmX x w 0 m)) = τ 2 d
    · rw [decide_eq_true c2, if_pos rfl, if_pos rfl]
    · rw [decide_eq_false c2]
      simp only [Bool.false_eq_true, if_false]
      by_cases c3 : abB τ d (sN (vmX x w 0 m)) = true
      · simp only [if_pos c3]
        by_cases c4 : bt (vmX x w 3 m) 0 = true
        · simp only [if_pos c4, if_neg (fun z => and1_eq.mp z c4 : ¬ vmX x w 3 m &&& 1 = 0), if_neg (by decide : ¬ (1 : Int32) = 0)]
        · simp only [if_neg c4, if_pos (and1_eq.mpr c4 : vmX x w 3 m &&& 1 = 0)]
          by_cases c5 : (abB τ r d || fcB τ r d) = true
          · simp only [if_pos c5, if_neg (by decide : ¬ (1 : Int32) = 0)]
          · simp only [if_neg c5]
            by_cases c6 : (abB τ d r || fcB τ d r) = true
            · simp only [if_pos c6, if_neg (by decide : ¬ (1 : Int32) = 0)]
            · simp only [if_neg c6, if_true]
      · simp only [if_neg c3, if_true]
  · rw [c]
    simp only [if_neg (by decide : ¬ (3 : Int32) = 1), if_neg (by decide : ¬ (3 : Int32) = 2), if_true]
end FND
/-! ===== RESOLVING ===== -/
section RSV
variable {h g x τ : Nat → Nat → Int32} {w : Nat} {nf : Nat → Nat} {R i : Nat} {Φ : Nat → Nat → Nat}
theorem cm_385 (j : Nat) : p_X0_checkMember_117 h τ g (vmX x w) (nf w) (Φ i) j = p_X5_resolved_385 x nf R Φ w i (30 * w + j) j := by
  have e12 : x 12 (30 * w + j) = vmX x w 3 j := rfl
  unfold p_X0_checkMember_117 p_X5_resolved_385
  rw [e12]
  by_cases c : Φ i 0 = 5
  · rw [if_pos c, if_pos c]
    by_cases c2 : bt (vmX x w 3 j) 1 = true
    · rw [if_pos c2, if_neg (fun z => and2_eq.mp z c2)]; exact congrArg nI (by omega)
    · rw [if_neg c2, if_pos (and2_eq.mpr c2)]; exact congrArg nI (by omega)
  · rw [if_neg c, if_neg c]; exact congrArg nI (by omega)
theorem cm_361 (se : SE τ (vwX x w)) (j : Nat) : p_X0_checkMember_82 h τ g (vmX x w) (nf w) (Φ i) j = p_X5_resolved_361 x nf R Φ w i (30 * w + j) j := by
  unfold p_X0_checkMember_82 p_X5_resolved_361
  rw [cm_385 (R := R), se_abB se, se_fcB se]
theorem cm_302 (b : BR h g x τ w (nf w)) {j : Nat} (hj : j < nf w) (hd : Φ i 1 < 12) (z : Bool) : (if b2i (bt (vmX x w 3 j) 0) = b2i z then (if decide (Φ i 0 = 1 ∨ Φ i 0 = 3) = true then (if bt (vmX x w 3 j) 2 = true then (if vmX x w 0 j = nI (Φ i 1) then p_X0_checkMember_82 h τ g (vmX x w) (nf w) (Φ i) j else nI (272 + j)) else p_X0_checkMember_82 h τ g (vmX x w) (nf w) (Φ i) j) else p_X0_checkMember_82 h τ g (vmX x w) (nf w) (Φ i) j) else nI (208 + j)) = p_X5_resolved_283 x nf R Φ w i (30 * w + j) j z := by
  have e12 : x 12 (30 * w + j) = vmX x w 3 j := rfl
  have e9 : x 9 (30 * w + j) = vmX x w 0 j := rfl
  have hT := b.wm j hj
  have ho : vmX x w 0 j = nI (Φ i 1) ↔ Φ i 1 = sN (vmX x w 0 j) := by
    constructor
    · intro q; rw [q, sN_nI (by omega)]
    · intro q; rw [q]; exact hT.2
  have h283 : p_X5_resolved_283 x nf R Φ w i (30 * w + j) j z = p_X5_resolved_302 x nf R Φ w i z (30 * w + j) j (bt (vmX x w 3 j) 0) := by
    unfold p_X5_resolved_283
    rw [e12]
    by_cases c : bt (vmX x w 3 j) 0 = true
    · rw [if_neg (fun z => and1_eq.mp z c), c]
    · rw [if_pos (and1_eq.mpr c)]
      rw [Bool.not_eq_true] at c
      rw [c]
  have h327 : (if bt (vmX x w 3 j) 2 = true then (if vmX x w 0 j = nI (Φ i 1) then p_X0_checkMember_82 h τ g (vmX x w) (nf w) (Φ i) j else nI (272 + j)) else p_X0_checkMember_82 h τ g (vmX x w) (nf w) (Φ i) j) = p_X5_resolved_327 x nf R Φ w i (30 * w + j) j := by
    unfold p_X5_resolved_327
    rw [e12, e9, cm_361 (R := R) b.se]
    by_cases c : bt (vmX x w 3 j) 2 = true
    · rw [if_pos c, if_neg (fun z => and4_eq.mp z c)]
      by_cases c2 : vmX x w 0 j = nI (Φ i 1)
      · rw [if_pos c2, if_pos (ho.mp c2)]
      · rw [if_neg c2, if_neg (fun z => c2 (ho.mpr z))]
        exact congrArg nI (by omega)
    · rw [if_neg c, if_pos (and4_eq.mpr c)]
  rw [h283]
  unfold p_X5_resolved_302
  rw [h327]
  by_cases c : b2i (bt (vmX x w 3 j) 0) = b2i z
  · rw [if_pos c, if_pos c]
    by_cases c1 : Φ i 0 = 1
    · rw [if_pos c1, if_pos (by simp [c1])]
    · rw [if_neg c1]
      by_cases c3 : Φ i 0 = 3
      · rw [if_pos c3, if_pos (by simp [c3])]
      · rw [if_neg c3, if_neg (by simp [c1, c3]), cm_361 (R := R) b.se]
  · rw [if_neg c, if_neg c]; exact congrArg nI (by omega)
theorem cm_205 (b : BR h g x τ w (nf w)) {j : Nat} (hj : j < nf w) (hg : goB (vmX x w) j = false) (hφ : φR (Φ i)) (g1 : Gd τ (Φ i 1)) (g2 : Gd τ (Φ i 2)) : p_X0_checkMember h τ g (vmX x w) (nf w) (Φ i) j = p_X5_resolved_205 x nf R Φ w i (nI j) := by
  have hn := b.n30
  obtain ⟨hf0, hf1, hf2, hf3⟩ := hφ
  unfold p_X0_checkMember p_X5_resolved_205
  rw [if_pos (c := (0 : Int32) ≤ nI j) (nI_pos' (by omega)), sN_nI (by omega), open_eq b hj hg hf2 hf1 g2 g1, cm_302 (R := R) b hj hf1]
  by_cases c : p_X5_isOpen x w (nf w) j (Φ i 2) (Φ i 1) = 0
  · rw [if_pos c, if_pos c]; exact congrArg nI (by omega)
  · rw [if_neg c, if_neg c]
    by_cases c2 : Φ i 0 = 2
    · rw [if_pos c2, decide_eq_true (Or.inl c2)]
    · rw [if_neg c2]
      by_cases c3 : Φ i 0 = 3
      · rw [if_pos c3, decide_eq_true (Or.inr (Or.inl c3))]
      · rw [if_neg c3]
        by_cases c4 : Φ i 0 = 6
        · rw [if_pos c4, decide_eq_true (Or.inr (Or.inr c4))]
        · rw [if_neg c4, decide_eq_false (by omega)]
theorem r75 (b : BR h g x τ w (nf w)) (hφ : φR (Φ i)) (g1 : Gd τ (Φ i 1)) (g2 : Gd τ (Φ i 2)) {v v' : Int32} {k : Nat} (hk : 64 ≤ k ∧ k < 1000) (hc : crN (vmX x w) (nf w) v v') (he : nI k = if 4 ≤ Φ i 0 then nI (64 * 6 + Φ i 2) else nI (64 * 5 + Φ i 2)) : p_X0_resolution_75 h τ g (vmX x w) (nf w) (Φ i) (if v = -2 then nI k else 16 + v) = p_X5_resolved_205 x nf R Φ w i v' := by
  have hn := b.n30
  unfold p_X0_resolution_75
  rcases hc with ⟨h1, h2⟩ | ⟨j, hj, hg, h1, h2⟩
  · rw [h1, h2, if_pos rfl, gd_nI (by omega), if_neg (by simp; omega)]
    unfold p_X5_resolved_205
    rw [if_neg (c := (0 : Int32) ≤ -1) (by decide)]
    exact he
  · have e : (16 : Int32) + nI j = nI (16 + j) := nI_add 16 j
    rw [h1, h2, if_neg (nI_nn (by omega)), e, gd_nI (by omega), if_pos (by simp; omega), sN_nI (by omega), Nat.add_sub_cancel_left]
    exact cm_205 b hj hg hφ g1 g2
theorem lum_eq : p_X0_lookUpMethod h τ g (vmX x w) (nf w) (Φ i) = (if (Φ i 0 = 4 ∧ bt (τ 1 (Φ i 2)) 1 = true) ∨ (Φ i 0 = 7 ∧ ¬ bt (τ 1 (Φ i 2)) 1 = true) then nI (192 + Φ i 2) else if fndC h τ g (vmX x w) (nf w) (Φ i 2) (nI (Φ i 3)) = -2 then nI (384 + Φ i 2) else 16 + fndC h τ g (vmX x w) (nf w) (Φ i 2) (nI (Φ i 3))) := by
  have h77 : ∀ v, p_X0_lookUpMethod_77 h τ g (vmX x w) (nf w) (Φ i) v = p_X0_lookUpMethod_97 h τ g (vmX x w) (nf w) (Φ i) (if v = -2 then p_X0_findBest h τ g (vmX x w) (nf w) (Φ i 2) (nI (Φ i 3)) else v) := by
    intro v
    unfold p_X0_lookUpMethod_77
    by_cases c : v = -2
    · rw [if_pos c, if_pos c]
    · rw [if_neg c, if_neg c]
  have h46 : p_X0_lookUpMethod_46 h τ g (vmX x w) (nf w) (Φ i) (bt (τ 1 (Φ i 2)) 1) = (if fndC h τ g (vmX x w) (nf w) (Φ i 2) (nI (Φ i 3)) = -2 then nI (384 + Φ i 2) else 16 + fndC h τ g (vmX x w) (nf w) (Φ i 2) (nI (Φ i 3))) := by
    unfold p_X0_lookUpMethod_46 fndC
    rw [h77, h77]
    unfold p_X0_lookUpMethod_97
    by_cases c : bt (τ 1 (Φ i 2)) 1 = true
    · simp only [if_pos c]
    · simp only [if_neg c]
  unfold p_X0_lookUpMethod p_X0_lookUpMethod_24
  rw [h46]
  by_cases c4 : Φ i 0 = 4
  · by_cases cz : bt (τ 1 (Φ i 2)) 1 = true
    · rw [if_pos c4, if_pos cz, if_pos (Or.inl ⟨c4, cz⟩)]
    · have hc : ¬ ((Φ i 0 = 4 ∧ bt (τ 1 (Φ i 2)) 1 = true) ∨ (Φ i 0 = 7 ∧ ¬ bt (τ 1 (Φ i 2)) 1 = true)) := by rintro (q | q); exact cz q.2; omega
      rw [if_pos c4, if_neg cz, if_neg (c := Φ i 0 = 7) (by omega), if_neg hc]
  · by_cases c7 : Φ i 0 = 7
    · by_cases cz : bt (τ 1 (Φ i 2)) 1 = true
      · have hc : ¬ ((Φ i 0 = 4 ∧ bt (τ 1 (Φ i 2)) 1 = true) ∨ (Φ i 0 = 7 ∧ ¬ bt (τ 1 (Φ i 2)) 1 = true)) := by rintro (q | q); exact c4 q.1; exact q.2 cz
        rw [if_neg c4, if_pos c7, if_pos cz, if_neg hc]
      · rw [if_neg c4, if_pos c7, if_neg cz, if_pos (Or.inr ⟨c7, cz⟩)]
    · have hc : ¬ ((Φ i 0 = 4 ∧ bt (τ 1 (Φ i 2)) 1 = true) ∨ (Φ i 0 = 7 ∧ ¬ bt (τ 1 (Φ i 2)) 1 = true)) := by rintro (q | q); exact c4 q.1; exact c7 q.1
      rw [if_neg c4, if_neg c7, if_neg hc]
theorem res_eq (b : BR h g x τ w (nf w)) (hφ : φR (Φ i)) : p_X0_resolution h τ g (vmX x w) (nf w) (Φ i) = p_X5_resolved x nf R Φ w i := by
  have hφ' := hφ
  obtain ⟨hf0, hf1, hf2, hf3⟩ := hφ'
  have e1 : ∀ t, x 1 (12 * w + t) = τ 1 t := fun t => (congrFun (b.se 1 (by decide)) t).symm
  have e2 : ∀ t, x 2 (12 * w + t) = τ 2 t := fun t => (congrFun (b.se 2 (by decide)) t).symm
  unfold p_X0_resolution p_X5_resolved
  rw [← se_LV b.se, e1, e2, e2]
  by_cases g1 : Gd τ (Φ i 1)
  · rw [if_pos (c := LV τ (Φ i 1) < 64) ((LV_64 b.wf hf1).mpr g1), if_pos (c := gd (LV τ (Φ i 1)) = true) (by rw [gd_LV b.wf hf1, gdB_iff]; exact g1)]
    by_cases g2 : Gd τ (Φ i 2)
    · have hg2 : gd (LV τ (Φ i 2)) = true := by rw [gd_LV b.wf hf2, gdB_iff]; exact g2
      rw [if_pos (c := LV τ (Φ i 2) < 64) ((LV_64 b.wf hf2).mpr g2)]
      unfold rcI
      rw [if_pos hg2]
      have hrc : (if τ 1 (Φ i 2) &&& 1 = 0 then (if τ 2 (Φ i 2) = τ 2 (Φ i 1) then p_X5_resolved_111 x nf R Φ w i else nI (64 * 4 + Φ i 2)) else p_X5_resolved_111 x nf R Φ w i) = if rcF τ (Φ i 2) (Φ i 1) = true then p_X5_resolved_111 x nf R Φ w i else nI (64 * 4 + Φ i 2) := by
        unfold rcF
        by_cases c : bt (τ 1 (Φ i 2)) 0 = true
        · rw [if_neg (fun z => and1_eq.mp z c), if_pos (by simp [c])]
        · rw [if_pos (and1_eq.mpr c)]
          by_cases c2 : τ 2 (Φ i 2) = τ 2 (Φ i 1)
          · rw [if_pos c2, if_pos (by simp [c2])]
          · rw [if_neg c2, if_neg (by simp [c, c2])]
      rw [hrc]
      by_cases cr : rcF τ (Φ i 2) (Φ i 1) = true
      · rw [if_pos cr, if_pos cr, gd_nI (by omega), if_pos (by simp; omega)]
        unfold p_X5_resolved_111
        rw [e1]
        by_cases c8 : Φ i 0 = 8
        · rw [if_pos c8, if_pos c8]; exact congrArg nI (by omega)
        · rw [if_neg c8, if_neg c8]
          have h141 : (if τ 1 (Φ i 2) &&& 2 = 0 then p_X5_resolved_141 x nf R Φ w i false else p_X5_resolved_141 x nf R Φ w i true) = p_X5_resolved_141 x nf R Φ w i (bt (τ 1 (Φ i 2)) 1) := by
            by_cases c : bt (τ 1 (Φ i 2)) 1 = true
            · rw [if_neg (fun z => and2_eq.mp z c), c]
            · rw [if_pos (and2_eq.mpr c)]
              rw [Bool.not_eq_true] at c
              rw [c]
          rw [h141]
          unfold p_X5_resolved_141 p_X5_resolved_153 p_X5_resolved_171
          by_cases c3 : Φ i 0 ≤ 3
          · rw [if_pos (c := decide (Φ i 0 ≤ 3) = true) (by simp [c3]), if_neg (c := Φ i 0 = 4) (by omega), if_neg (c := Φ i 0 = 7) (by omega), if_neg (c := 4 ≤ Φ i 0) (by omega)]
            unfold p_X0_lookUpField
            exact r75 b hφ g1 g2 (k := 320 + Φ i 2) (by omega) (field_eq b hf2 g2) (by rw [if_neg (by omega)])
          · rw [if_neg (c := decide (Φ i 0 ≤ 3) = true) (by simp [c3]), if_pos (c := 4 ≤ Φ i 0) (by omega), lum_eq]
            have hq := r75 (R := R) b hφ g1 g2 (k := 384 + Φ i 2) (by omega) (find_eq b hf2 hf3 g2) (by rw [if_pos (by omega)])
            have hch : p_X0_resolution_75 h τ g (vmX x w) (nf w) (Φ i) (nI (192 + Φ i 2)) = nI (64 * 3 + Φ i 2) := by
              unfold p_X0_resolution_75
              rw [gd_nI (by omega), if_neg (by simp; omega)]
            by_cases c4 : Φ i 0 = 4
            · rw [if_pos (c := Φ i 0 = 4) c4]
              by_cases cz : bt (τ 1 (Φ i 2)) 1 = true
              · rw [if_pos (Or.inl ⟨c4, cz⟩), if_pos cz]; exact hch
              · rw [if_neg (by rintro (q | q); exact cz q.2; omega), if_neg cz, if_neg (c := Φ i 0 = 7) (by omega)]; exact hq
            · rw [if_neg (c := Φ i 0 = 4) c4]
              by_cases c7 : Φ i 0 = 7
              · rw [if_pos (c := Φ i 0 = 7) c7]
                by_cases cz : bt (τ 1 (Φ i 2)) 1 = true
                · rw [if_neg (by rintro (q | q); exact c4 q.1; exact q.2 cz), cz, if_neg (c := b2i true = 0) (by decide)]; exact hq
                · rw [if_pos (Or.inr ⟨c7, cz⟩)]
                  rw [Bool.not_eq_true] at cz
                  rw [cz, if_pos (c := b2i false = 0) (by decide)]; exact hch
              · rw [if_neg (by rintro (q | q); exact c4 q.1; exact c7 q.1), if_neg (c := Φ i 0 = 7) c7]; exact hq
      · rw [if_neg cr, if_neg cr, gd_nI (by omega), if_neg (by simp; omega)]
    · have hg2 : ¬ gd (LV τ (Φ i 2)) = true := by rw [gd_LV b.wf hf2, gdB_iff]; exact g2
      rw [if_neg (c := LV τ (Φ i 2) < 64) (fun z => g2 ((LV_64 b.wf hf2).mp z))]
      unfold rcI
      rw [if_neg hg2, if_neg hg2]
  · rw [if_neg (c := LV τ (Φ i 1) < 64) (fun z => g1 ((LV_64 b.wf hf1).mp z)), if_neg (c := gd (LV τ (Φ i 1)) = true) (by rw [gd_LV b.wf hf1, gdB_iff]; exact g1)]
end RSV
