/-! ===== receivers and counts ===== -/
section LRC
variable {T : Nat → Nat → Nat → Int32} {Φ : Nat → Nat → Nat} {rc : Int32} {x : Nat → Nat → Int32} {τ : Nat → Nat → Nat → Int32} {nf : Nat → Nat} {R : Nat}
/-- what is selected, as both tell it -/
def cSl (n : Nat) (vc v : Int32) : Prop := (gd vc = true ∧ ¬ 64 ≤ v ∧ vc = v ∧ rM n v) ∨ (¬ gd vc = true ∧ 64 ≤ v)
theorem LR.cs (q : LR T Φ rc x τ nf R) {w i u : Nat} (hw : w < 2) (hi : i < R) (hu : u < 12) : cSl (nf w) (p_X0_selection (T (2 * w)) (τ w) (T (2 * w + 1)) (vmX x w) (nf w) (Φ i) (p_X0_resolution (T (2 * w)) (τ w) (T (2 * w + 1)) (vmX x w) (nf w) (Φ i)) u) (if slD x nf R Φ w i = true then p_X5_selected x nf R Φ w i u else 512) := by
  rw [q.sel hw hi hu]
  by_cases c : slD x nf R Φ w i = true
  · rw [if_pos c, if_pos c]
    have m := q.selM hw hi hu c
    by_cases d : gd (p_X5_selected x nf R Φ w i u) = true
    · exact Or.inl ⟨d, fun z => (gd64 m).mp z d, rfl, m⟩
    · exact Or.inr ⟨d, (gd64 m).mpr d⟩
  · rw [if_neg c, if_neg c]
    exact Or.inr ⟨by rw [m2_gd]; decide, by decide⟩
theorem wi4 {u : Int32} (h : wi u 4 = true) : u = 0 ∨ u = 1 ∨ u = 2 ∨ u = 3 := by
  obtain ⟨j, hj, e⟩ := wi_of (b := 4) (by decide) h
  have : j = 0 ∨ j = 1 ∨ j = 2 ∨ j = 3 := by omega
  rcases this with z | z | z | z
  · exact Or.inl (by rw [e, z]; rfl)
  · exact Or.inr (Or.inl (by rw [e, z]; rfl))
  · exact Or.inr (Or.inr (Or.inl (by rw [e, z]; rfl)))
  · exact Or.inr (Or.inr (Or.inr (by rw [e, z]; rfl)))
theorem rc_step (q : LR T Φ rc x τ nf R) {t u vc v wc v' : Int32} (h4 : wi u 4 = true) (h1 : cSl (nf 0) vc v) (h2 : cSl (nf 1) wc v') (K : Nat → Nat → Int32) (n4 n3 : Nat) : p_X5_receivers_102 x nf R Φ t u K v n4 n3 v' = if p_X4_isSuchReceiver T Φ τ (fun w => vmX x w) nf R u vc wc = 0 then K (n4 + 1) n3 else K (n4 + 1) (n3 + 1) := by
  unfold p_X5_receivers_102 p_X5_receivers_116 p_X5_receivers_130 p_X4_isSuchReceiver
  have n10 : ¬ (1 : Int32) = 0 := by decide
  have n20 : ¬ (2 : Int32) = 0 := by decide
  have n21 : ¬ (2 : Int32) = 1 := by decide
  have n30 : ¬ (3 : Int32) = 0 := by decide
  have n31 : ¬ (3 : Int32) = 1 := by decide
  have n32 : ¬ (3 : Int32) = 2 := by decide
  have bt1 : b2i true = 1 := rfl
  have bf0 : b2i false = 0 := rfl
  rcases h1 with ⟨a1, a2, a3, a4⟩ | ⟨a1, a2⟩ <;> rcases h2 with ⟨b1, b2, b3, b4⟩ | ⟨b1, b2⟩
  · subst a3
    subst b3
    rw [alike_eq q a4 b4]
    rcases wi4 h4 with e | e | e | e <;> subst e <;> simp only [a1, a2, b1, b2, bt1, bf0, n10, n20, n21, n30, n31, n32, if_true, if_false]
    by_cases d : p_X5_areAlike x 0 (nf 0) (sN vc) (sN wc) = 0 <;> simp only [d, n10, if_true, if_false]
  · subst a3
    have b1' : gd wc = false := by cases e : gd wc with | false => rfl | true => exact absurd e b1
    rcases wi4 h4 with e | e | e | e <;> subst e <;> simp only [a1, a2, b1', b2, bt1, bf0, n10, n20, n21, n30, n31, n32, if_true, if_false, Bool.false_eq_true]
  · have a1' : gd vc = false := by cases e : gd vc with | false => rfl | true => exact absurd e a1
    rcases wi4 h4 with e | e | e | e <;> subst e <;> simp only [a1', a2, b1, b2, bt1, bf0, n10, n20, n21, n30, n31, n32, if_true, if_false, Bool.false_eq_true]
  · have a1' : gd vc = false := by cases e : gd vc with | false => rfl | true => exact absurd e a1
    have b1' : gd wc = false := by cases e : gd wc with | false => rfl | true => exact absurd e b1
    rcases wi4 h4 with e | e | e | e <;> subst e <;> simp only [a1', a2, b1', b2, bt1, bf0, n10, n20, n21, n30, n31, n32, if_true, if_false, Bool.false_eq_true]
theorem rc_loop (q : LR T Φ rc x τ nf R) {t u : Int32} (hi : sN t < R) (h4 : wi u 4 = true) (hk : Φ (sN t) 0 = 4 ∨ Φ (sN t) 0 = 7) : ∀ k i s, 12 - i < k → p_X4_receivers_58 T Φ τ (fun w => vmX x w) nf R t u k i s = p_X5_receivers_26 x nf R Φ t u k i s := by
  intro k
  induction k with
  | zero => intro i s h; omega
  | succ k ih =>
    intro i s hk2
    rw [p_X4_receivers_58, p_X5_receivers_26]
    by_cases c : 12 ≤ i
    · rw [if_pos c, if_pos c]
    · rw [if_neg c, if_neg c]
      have c0 := q.cs (w := 0) (by omega) hi (u := i) (by omega)
      have c1 := q.cs (w := 1) (by omega) hi (u := i) (by omega)
      have h77 : ∀ v, p_X5_receivers_77 x nf R Φ t u (fun n4 n3 => p_X5_receivers_26 x nf R Φ t u k n4 n3) i s v = p_X5_receivers_102 x nf R Φ t u (fun n4 n3 => p_X5_receivers_26 x nf R Φ t u k n4 n3) v i s (if slD x nf R Φ 1 (sN t) = true then p_X5_selected x nf R Φ 1 (sN t) i else 512) := by
        intro v
        unfold p_X5_receivers_77
        by_cases d : slD x nf R Φ 1 (sN t) = true
        · rw [if_pos d, if_pos d]
        · rw [if_neg d, if_neg d]
      have hR : (if slD x nf R Φ 0 (sN t) = true then p_X5_receivers_77 x nf R Φ t u (fun n4 n3 => p_X5_receivers_26 x nf R Φ t u k n4 n3) i s (p_X5_selected x nf R Φ 0 (sN t) i) else p_X5_receivers_77 x nf R Φ t u (fun n4 n3 => p_X5_receivers_26 x nf R Φ t u k n4 n3) i s 512) = if p_X4_isSuchReceiver T Φ τ (fun w => vmX x w) nf R u (p_X0_selection (T (2 * 0)) (τ 0) (T (2 * 0 + 1)) (vmX x 0) (nf 0) (Φ (sN t)) (p_X0_resolution (T (2 * 0)) (τ 0) (T (2 * 0 + 1)) (vmX x 0) (nf 0) (Φ (sN t))) i) (p_X0_selection (T (2 * 1)) (τ 1) (T (2 * 1 + 1)) (vmX x 1) (nf 1) (Φ (sN t)) (p_X0_resolution (T (2 * 1)) (τ 1) (T (2 * 1 + 1)) (vmX x 1) (nf 1) (Φ (sN t))) i) = 0 then p_X5_receivers_26 x nf R Φ t u k (i + 1) s else p_X5_receivers_26 x nf R Φ t u k (i + 1) (s + 1) := by
        rw [h77, h77]
        rw [← rc_step q h4 c0 c1 (t := t) (fun n4 n3 => p_X5_receivers_26 x nf R Φ t u k n4 n3) i s]
        by_cases d : slD x nf R Φ 0 (sN t) = true
        · rw [if_pos d, if_pos d]
        · rw [if_neg d, if_neg d]
      have hL : (if Φ (sN t) 0 = 4 then (if slD x nf R Φ 0 (sN t) = true then p_X5_receivers_77 x nf R Φ t u (fun n4 n3 => p_X5_receivers_26 x nf R Φ t u k n4 n3) i s (p_X5_selected x nf R Φ 0 (sN t) i) else p_X5_receivers_77 x nf R Φ t u (fun n4 n3 => p_X5_receivers_26 x nf R Φ t u k n4 n3) i s 512) else (if Φ (sN t) 0 = 7 then (if slD x nf R Φ 0 (sN t) = true then p_X5_receivers_77 x nf R Φ t u (fun n4 n3 => p_X5_receivers_26 x nf R Φ t u k n4 n3) i s (p_X5_selected x nf R Φ 0 (sN t) i) else p_X5_receivers_77 x nf R Φ t u (fun n4 n3 => p_X5_receivers_26 x nf R Φ t u k n4 n3) i s 512) else nI s)) = (if slD x nf R Φ 0 (sN t) = true then p_X5_receivers_77 x nf R Φ t u (fun n4 n3 => p_X5_receivers_26 x nf R Φ t u k n4 n3) i s (p_X5_selected x nf R Φ 0 (sN t) i) else p_X5_receivers_77 x nf R Φ t u (fun n4 n3 => p_X5_receivers_26 x nf R Φ t u k n4 n3) i s 512) := by
        rcases hk with e | e
        · rw [if_pos e]
        · rw [if_neg (by omega), if_pos e]
      rw [hL, hR, ih (i + 1) (s + 0) (by omega), ih (i + 1) (s + 1) (by omega), Nat.add_zero s]
theorem rc_zero (q : LR T Φ rc x τ nf R) {t u : Int32} (hi : sN t < R) (h4 : wi u 4 = true) (hk : ¬ (Φ (sN t) 0 = 4 ∨ Φ (sN t) 0 = 7)) : ∀ k i, 12 - i < k → p_X4_receivers_58 T Φ τ (fun w => vmX x w) nf R t u k i 0 = nI 0 := by
  intro k
  induction k with
  | zero => intro i h; omega
  | succ k ih =>
    intro i hk2
    rw [p_X4_receivers_58]
    by_cases c : 12 ≤ i
    · rw [if_pos c]
    · rw [if_neg c]
      have hs : ∀ w, w < 2 → p_X0_selection (T (2 * w)) (τ w) (T (2 * w + 1)) (vmX x w) (nf w) (Φ (sN t)) (p_X0_resolution (T (2 * w)) (τ w) (T (2 * w + 1)) (vmX x w) (nf w) (Φ (sN t))) i = -2 := by
        intro w hw
        unfold p_X0_selection
        rw [if_neg (by simp only [decide_eq_true_eq]; exact hk)]
      show (if p_X4_isSuchReceiver T Φ τ (fun w => vmX x w) nf R u (p_X0_selection (T (2 * 0)) (τ 0) (T (2 * 0 + 1)) (vmX x 0) (nf 0) (Φ (sN t)) (p_X0_resolution (T (2 * 0)) (τ 0) (T (2 * 0 + 1)) (vmX x 0) (nf 0) (Φ (sN t))) i) (p_X0_selection (T (2 * 1)) (τ 1) (T (2 * 1 + 1)) (vmX x 1) (nf 1) (Φ (sN t)) (p_X0_resolution (T (2 * 1)) (τ 1) (T (2 * 1 + 1)) (vmX x 1) (nf 1) (Φ (sN t))) i) = 0 then p_X4_receivers_58 T Φ τ (fun w => vmX x w) nf R t u k (i + 1) (0 + 0) else p_X4_receivers_58 T Φ τ (fun w => vmX x w) nf R t u k (i + 1) (0 + 1)) = nI 0
      rw [hs 0 (by omega), hs 1 (by omega)]
      have z : p_X4_isSuchReceiver T Φ τ (fun w => vmX x w) nf R u (-2) (-2) = 0 := by
        unfold p_X4_isSuchReceiver
        rw [m2_gd]
        rcases wi4 h4 with e | e | e | e <;> subst e <;> rfl
      rw [if_pos z]
      exact ih (i + 1) (by omega)
theorem a_receivers (q : LR T Φ rc x τ nf R) (t u : Int32) : p_X4_receivers T Φ τ (fun w => vmX x w) nf R t u = p_X5_receivers x nf R Φ t u := by
  have hR := q.2.2.1.1
  unfold p_X4_receivers p_X5_receivers
  rw [q.2.2.1.2.1]
  by_cases c : wi t (nI R) = true
  · rw [if_pos c, if_pos c]
    have hi := (wi_sN (by omega) c).1
    by_cases h4 : wi u 4 = true
    · rw [if_pos h4, if_pos h4]
      by_cases hk : Φ (sN t) 0 = 4 ∨ Φ (sN t) 0 = 7
      · exact rc_loop q hi h4 hk 13 0 0 (by omega)
      · rw [rc_zero q hi h4 hk 13 0 (by omega), p_X5_receivers_26, if_neg (c := 12 ≤ 0) (by omega), if_neg (c := Φ (sN t) 0 = 4) (fun z => hk (Or.inl z)), if_neg (c := Φ (sN t) 0 = 7) (fun z => hk (Or.inr z))]
    · rw [if_neg h4, if_neg h4]
  · rw [if_neg c, if_neg c]
/-! ===== count ===== -/
theorem cnF_0 {p : Nat → Bool} : ∀ {n : Nat}, (∀ j, j < n → p j = false) → cnF p n = 0
  | 0, _ => rfl
  | n + 1, h => by rw [cnF, cnF_0 (fun j hj => h j (by omega)), h n (by omega)]; rfl
theorem cnF_not (p : Nat → Bool) : ∀ n, cnF (fun m => !(p m)) n = n - cnF p n
  | 0 => rfl
  | n + 1 => by
    have ih := cnF_not p n
    have := cnF_le p n
    rw [cnF, cnF, ih]
    cases e : p n with
    | true => simp only [Bool.not_true, Bool.false_eq_true, if_false, if_true]; omega
    | false => simp only [Bool.not_false, Bool.false_eq_true, if_false, if_true]; omega
theorem cg_loop (q : LR T Φ rc x τ nf R) {w : Nat} (hw : w < 2) : ∀ k i s, 16 - i < k → i ≤ R → s = cnF (fun j => gd (p_X5_resolved x nf R Φ w j)) i → p_X4_countGoodReferences_4 T Φ τ (fun w => vmX x w) nf R w k i s = nI (cnF (fun j => gd (p_X5_resolved x nf R Φ w j)) R) := by
  have hR := q.2.2.1.1
  intro k
  induction k with
  | zero => intro i s h; omega
  | succ k ih =>
    intro i s hk hi hs
    rw [p_X4_countGoodReferences_4]
    by_cases c : R ≤ i
    · have e : i = R := by omega
      rw [if_pos c, hs, e]
    · rw [if_neg c]
      have r := q.res hw (i := i) (by omega)
      show (if gd (p_X0_resolution (T (2 * w)) (τ w) (T (2 * w + 1)) (vmX x w) (nf w) (Φ i)) = true then p_X4_countGoodReferences_4 T Φ τ (fun w => vmX x w) nf R w k (i + 1) (s + 1) else p_X4_countGoodReferences_4 T Φ τ (fun w => vmX x w) nf R w k (i + 1) (s + 0)) = _
      rw [r]
      by_cases d : gd (p_X5_resolved x nf R Φ w i) = true
      · rw [if_pos d]
        exact ih _ _ (by omega) (by omega) (by rw [cnF_t d, hs])
      · rw [if_neg d]
        exact ih _ _ (by omega) (by omega) (by rw [cnF_f d, hs]; rfl)
noncomputable def q24 (x : Nat → Nat → Int32) (w : Nat) (u : Int32) (t : Nat) : Bool := thB (vwX x w) t && (decide (u = 0) || (decide (u = 4) && gdB (vwX x w) t))
def q80 (x : Nat → Nat → Int32) (w : Nat) (u : Int32) (m : Nat) : Bool := !(goB (vmX x w) m) && (decide (u = 1) || (decide (u = 5) && (!decide (x 6 (30 * w + m) = 0) && bt (vmX x w 3 m) 1)))
noncomputable def q150 (x : Nat → Nat → Int32) (nf : Nat → Nat) (R : Nat) (Φ : Nat → Nat → Nat) (w : Nat) (u : Int32) (i : Nat) : Bool := decide (u = 3) && gd (p_X5_resolved x nf R Φ w i)
theorem ct24 {t u : Int32} : ∀ k i s, 12 - i < k → i ≤ 12 → s = cnF (q24 x (sN t) u) i → p_X5_count_24 x nf R Φ t u k i s = p_X5_count_80 x nf R Φ t u 31 (30 * sN t) (cnF (q24 x (sN t) u) 12) := by
  intro k
  induction k with
  | zero => intro i s h; omega
  | succ k ih =>
    intro i s hk hi hs
    rw [p_X5_count_24]
    by_cases c : 12 ≤ i
    · have e : i = 12 := by omega
      rw [if_pos c, hs, e]
    · rw [if_neg c]
      have no : q24 x (sN t) u i = false → p_X5_count_24 x nf R Φ t u k (i + 1) s = p_X5_count_80 x nf R Φ t u 31 (30 * sN t) (cnF (q24 x (sN t) u) 12) := fun z => ih _ _ (by omega) (by omega) (by rw [cnF_f (by rw [z]; decide), hs])
      have yes : q24 x (sN t) u i = true → p_X5_count_24 x nf R Φ t u k (i + 1) (s + 1) = p_X5_count_80 x nf R Φ t u 31 (30 * sN t) (cnF (q24 x (sN t) u) 12) := fun z => ih _ _ (by omega) (by omega) (by rw [cnF_t z, hs])
      have hth : thB (vwX x (sN t)) i = !decide (x 0 (12 * sN t + i) = 0) := rfl
      by_cases c1 : x 0 (12 * sN t + i) = 0
      · rw [if_pos c1]
        apply no
        unfold q24; rw [hth]; simp [c1]
      · rw [if_neg c1]
        by_cases c2 : u = 0
        · rw [if_pos c2]
          apply yes
          unfold q24; rw [hth]; simp [c1, c2]
        · rw [if_neg c2]
          by_cases c3 : u = 4
          · rw [if_pos c3]
            by_cases c4 : gdB (vwX x (sN t)) i = true
            · rw [if_pos c4]
              apply yes
              unfold q24; rw [hth]; simp [c1, c3, c4]
            · rw [if_neg c4]
              apply no
              unfold q24; rw [hth]; simp [c1, c3, c4]
          · rw [if_neg c3]
            apply no
            unfold q24; simp [c2, c3]
theorem ct80 {t u : Int32} (hn : nf (sN t) ≤ 30) (c0 : Nat) : ∀ k i s, nf (sN t) - i < k → i ≤ nf (sN t) → s = c0 + cnF (q80 x (sN t) u) i → p_X5_count_80 x nf R Φ t u k (30 * sN t + i) s = p_X5_count_150 x nf R Φ t u 17 0 (c0 + cnF (q80 x (sN t) u) (nf (sN t))) := by
  intro k
  induction k with
  | zero => intro i s h; omega
  | succ k ih =>
    intro i s hk hi hs
    rw [p_X5_count_80]
    by_cases c : 30 * sN t + nf (sN t) ≤ 30 * sN t + i
    · have e : i = nf (sN t) := by omega
      rw [if_pos c, hs, e]
    · rw [if_neg c]
      have no : q80 x (sN t) u i = false → p_X5_count_80 x nf R Φ t u k (30 * sN t + i + 1) s = p_X5_count_150 x nf R Φ t u 17 0 (c0 + cnF (q80 x (sN t) u) (nf (sN t))) := fun z => ih (i + 1) _ (by omega) (by omega) (by rw [cnF_f (by rw [z]; decide), hs])
      have yes : q80 x (sN t) u i = true → p_X5_count_80 x nf R Φ t u k (30 * sN t + i + 1) (s + 1) = p_X5_count_150 x nf R Φ t u 17 0 (c0 + cnF (q80 x (sN t) u) (nf (sN t))) := fun z => ih (i + 1) _ (by omega) (by omega) (by rw [cnF_t z, hs]; omega)
      have hgo : goB (vmX x (sN t)) i = !decide (x 7 (30 * sN t + i) = 0) := rfl
      have e12 : x 12 (30 * sN t + i) = vmX x (sN t) 3 i := rfl
      rw [e12]
      by_cases c1 : x 7 (30 * sN t + i) = 0
      · rw [if_pos c1]
        by_cases c2 : u = 1
        · rw [if_pos c2]
          apply yes
          unfold q80; rw [hgo]; simp [c1, c2]
        · rw [if_neg c2]
          by_cases c3 : u = 5
          · rw [if_pos c3]
            by_cases c4 : x 6 (30 * sN t + i) = 0
            · rw [if_pos c4]
              apply no
              unfold q80; rw [hgo]; simp [c1, c3, c4]
            · rw [if_neg c4]
              by_cases c5 : bt (vmX x (sN t) 3 i) 1 = true
              · rw [if_neg (fun z => and2_eq.mp z c5)]
                apply yes
                unfold q80; rw [hgo]; simp [c1, c3, c4, c5]
              · rw [if_pos (and2_eq.mpr c5)]
                apply no
                unfold q80; rw [hgo]; simp [c1, c3, c4, c5]
          · rw [if_neg c3]
            apply no
            unfold q80; simp [c2, c3]
      · rw [if_neg c1]
        apply no
        unfold q80; rw [hgo]; simp [c1]
theorem ct150 (q : LR T Φ rc x τ nf R) {t u : Int32} (hw : sN t < 2) (c0 : Nat) : ∀ k i s, R - i < k → i ≤ R → s = c0 + cnF (q150 x nf R Φ (sN t) u) i → p_X5_count_150 x nf R Φ t u k i s = p_X5_count_185 x nf R Φ t u (c0 + cnF (q150 x nf R Φ (sN t) u) R) := by
  intro k
  induction k with
  | zero => intro i s h; omega
  | succ k ih =>
    intro i s hk hi hs
    rw [p_X5_count_150]
    by_cases c : R ≤ i
    · have e : i = R := by omega
      rw [if_pos c, hs, e]
    · rw [if_neg c]
      have no : q150 x nf R Φ (sN t) u i = false → p_X5_count_150 x nf R Φ t u k (i + 1) s = p_X5_count_185 x nf R Φ t u (c0 + cnF (q150 x nf R Φ (sN t) u) R) := fun z => ih (i + 1) _ (by omega) (by omega) (by rw [cnF_f (by rw [z]; decide), hs])
      have yes : q150 x nf R Φ (sN t) u i = true → p_X5_count_150 x nf R Φ t u k (i + 1) (s + 1) = p_X5_count_185 x nf R Φ t u (c0 + cnF (q150 x nf R Φ (sN t) u) R) := fun z => ih (i + 1) _ (by omega) (by omega) (by rw [cnF_t z, hs]; omega)
      have m := q.rR hw (i := i) (by omega)
      by_cases c2 : u = 3
      · rw [if_pos c2]
        by_cases c3 : gd (p_X5_resolved x nf R Φ (sN t) i) = true
        · rw [if_neg (fun z => (gd64 m).mp z c3)]
          apply yes
          unfold q150; simp [c2, c3]
        · rw [if_pos ((gd64 m).mpr c3)]
          apply no
          unfold q150; simp [c3]
      · rw [if_neg c2]
        apply no
        unfold q150; simp [c2]
theorem wi7 {u : Int32} (h : wi u 7 = true) : u = 0 ∨ u = 1 ∨ u = 2 ∨ u = 3 ∨ u = 4 ∨ u = 5 ∨ u = 6 := by
  obtain ⟨j, hj, e⟩ := wi_of (b := 7) (by decide) h
  have : j = 0 ∨ j = 1 ∨ j = 2 ∨ j = 3 ∨ j = 4 ∨ j = 5 ∨ j = 6 := by omega
  rcases this with z | z | z | z | z | z | z
  · exact Or.inl (by rw [e, z]; rfl)
  · exact Or.inr (Or.inl (by rw [e, z]; rfl))
  · exact Or.inr (Or.inr (Or.inl (by rw [e, z]; rfl)))
  · exact Or.inr (Or.inr (Or.inr (Or.inl (by rw [e, z]; rfl))))
  · exact Or.inr (Or.inr (Or.inr (Or.inr (Or.inl (by rw [e, z]; rfl)))))
  · exact Or.inr (Or.inr (Or.inr (Or.inr (Or.inr (Or.inl (by rw [e, z]; rfl))))))
  · exact Or.inr (Or.inr (Or.inr (Or.inr (Or.inr (Or.inr (by rw [e, z]; rfl))))))
theorem nwi7 {u : Int32} (h : ¬ wi u 7 = true) : ¬ u = 0 ∧ ¬ u = 1 ∧ ¬ u = 2 ∧ ¬ u = 3 ∧ ¬ u = 4 ∧ ¬ u = 5 ∧ ¬ u = 6 := by
  refine ⟨?_, ?_, ?_, ?_, ?_, ?_, ?_⟩ <;> intro e <;> rw [e] at h <;> exact h (by decide)
theorem ky15 {z : Bool} {v : Int32} (hv : isS v) : kyF z v < 15 ↔ z = false := by
  obtain ⟨h1, h2⟩ := hv
  rw [h2]
  cases z with
  | false =>
    have : kyF false (nI (sN v)) = nI (sN v) := rfl
    rw [this]
    exact ⟨fun _ => rfl, fun _ => nI_lt (b := 15) h1 (by omega)⟩
  | true =>
    have e : kyF true (nI (sN v)) = nI (15 + sN v) := nI_add 15 (sN v)
    rw [e]
    exact ⟨fun q => absurd q (nI_nlt (b := 15) (by omega) (by omega)), fun q => absurd q (by decide)⟩
theorem a_count (q : LR T Φ rc x τ nf R) (t u : Int32) : p_X4_count T Φ τ (fun w => vmX x w) nf R t u = p_X5_count x nf R Φ t u := by
  have hR := q.2.2.1.1
  unfold p_X4_count p_X5_count
  by_cases c : wi t 2 = true
  · rw [if_pos c, if_pos c]
    have hw := (wi_sN (b := 2) (by decide) c).1
    have b := q.1 _ hw
    have hn := b.n30
    by_cases c7 : wi u 7 = true
    · rw [if_pos c7, ct24 13 0 0 (by omega) (by omega) rfl]
      have e80 := ct80 (x := x) (nf := nf) (R := R) (Φ := Φ) (t := t) (u := u) hn (cnF (q24 x (sN t) u) 12) 31 0 (cnF (q24 x (sN t) u) 12) (by omega) (by omega) rfl
      rw [Nat.add_zero] at e80
      rw [e80, ct150 (u := u) q hw (cnF (q24 x (sN t) u) 12 + cnF (q80 x (sN t) u) (nf (sN t))) 17 0 (cnF (q24 x (sN t) u) 12 + cnF (q80 x (sN t) u) (nf (sN t))) (by omega) (by omega) rfl]
      have A24 : ¬ u = 0 → ¬ u = 4 → cnF (q24 x (sN t) u) 12 = 0 := fun h1 h2 => cnF_0 (fun j _ => by unfold q24; simp [h1, h2])
      have A80 : ¬ u = 1 → ¬ u = 5 → cnF (q80 x (sN t) u) (nf (sN t)) = 0 := fun h1 h2 => cnF_0 (fun j _ => by unfold q80; simp [h1, h2])
      have A150 : ¬ u = 3 → cnF (q150 x nf R Φ (sN t) u) R = 0 := fun h1 => cnF_0 (fun j _ => by unfold q150; simp [h1])
      unfold p_X5_count_185
      rcases wi7 c7 with e | e | e | e | e | e | e
      · subst e
        rw [if_pos rfl, if_neg (by decide), if_neg (by decide), A80 (by decide) (by decide), A150 (by decide), Nat.add_zero]
        exact congrArg nI (cnF_cong (fun j _ => by unfold q24; rw [se_th b.se]; simp))
      · subst e
        rw [if_neg (c := (1 : Int32) = 0) (by decide), if_pos rfl, if_neg (by decide), if_neg (by decide), A24 (by decide) (by decide), A150 (by decide), Nat.add_zero, Nat.zero_add]
        show nI (nf (sN t) - cnF (goB (vmX x (sN t))) (nf (sN t))) = _
        rw [← cnF_not]
        exact congrArg nI (cnF_cong (fun j _ => by unfold q80; simp))
      · subst e
        rw [if_neg (c := (2 : Int32) = 0) (by decide), if_neg (c := (2 : Int32) = 1) (by decide), if_pos rfl, if_pos rfl]
        exact b.wx.2.1.symm
      · subst e
        rw [if_neg (c := (3 : Int32) = 0) (by decide), if_neg (c := (3 : Int32) = 1) (by decide), if_neg (c := (3 : Int32) = 2) (by decide), if_pos rfl, if_neg (by decide), if_neg (by decide), A24 (by decide) (by decide), A80 (by decide) (by decide), Nat.zero_add]
        unfold p_X4_countGoodReferences
        rw [cg_loop q hw 17 0 0 (by omega) (by omega) rfl]
        exact congrArg nI (cnF_cong (fun j _ => by unfold q150; simp))
      · subst e
        rw [if_neg (c := (4 : Int32) = 0) (by decide), if_neg (c := (4 : Int32) = 1) (by decide), if_neg (c := (4 : Int32) = 2) (by decide), if_neg (c := (4 : Int32) = 3) (by decide), if_pos rfl, if_neg (by decide), if_neg (by decide), A80 (by decide) (by decide), A150 (by decide), Nat.add_zero]
        refine congrArg nI (cnF_cong (fun j _ => ?_))
        unfold q24
        rw [← se_th b.se, ← se_gdB b.se]
        cases hz : gdB (τ (sN t)) j with
        | false => simp
        | true =>
          have := (gdB_iff.mp hz).there
          simp [this]
      · subst e
        rw [if_neg (c := (5 : Int32) = 0) (by decide), if_neg (c := (5 : Int32) = 1) (by decide), if_neg (c := (5 : Int32) = 2) (by decide), if_neg (c := (5 : Int32) = 3) (by decide), if_neg (c := (5 : Int32) = 4) (by decide), if_pos rfl, if_neg (by decide), if_neg (by decide), A24 (by decide) (by decide), A150 (by decide), Nat.add_zero, Nat.zero_add]
        show nI (cnF (abM (vmX x (sN t))) (nf (sN t))) = _
        refine congrArg nI (cnF_cong (fun j hj => ?_))
        have hS := (b.wx.2.2.2 j hj).2.1
        have hk : decide (vmX x (sN t) 1 j < 15) = decide (x 6 (30 * sN t + j) = 0) := by
          have e1 : vmX x (sN t) 1 j = kyF (!decide (x 6 (30 * sN t + j) = 0)) (x 10 (30 * sN t + j)) := rfl
          rw [e1, decide_eq_decide, ky15 hS]
          simp
        unfold q80 abM
        rw [hk]
        cases goB (vmX x (sN t)) j <;> simp
      · subst e
        rw [if_neg (c := (6 : Int32) = 0) (by decide), if_neg (c := (6 : Int32) = 1) (by decide), if_neg (c := (6 : Int32) = 2) (by decide), if_neg (c := (6 : Int32) = 3) (by decide), if_neg (c := (6 : Int32) = 4) (by decide), if_neg (c := (6 : Int32) = 5) (by decide), if_pos rfl, if_neg (by decide), if_pos rfl]
        exact se_shI b.se b.ha b.wf
    · obtain ⟨h0, h1, h2, h3, h4, h5, h6⟩ := nwi7 c7
      rw [if_neg c7, if_neg h0, if_neg h1, if_neg h2, if_neg h3, if_neg h4, if_neg h5, if_neg h6]
  · rw [if_neg c, if_neg c]
end LRC
