/-! ===== LOADING comes to its end within twelve steps ===== -/
theorem cnF_sub {p q : Nat → Bool} : ∀ {n : Nat}, (∀ j, j < n → p j = true → q j = true) → cnF p n ≤ cnF q n
  | 0, _ => Nat.le_refl _
  | n + 1, h => by
    have ih := cnF_sub (n := n) (fun j hj => h j (by omega))
    by_cases c : p n = true
    · rw [cnF_t c, cnF_t (h n (by omega) c)]; omega
    · rw [cnF_f c]
      have : cnF q n ≤ cnF q (n + 1) := by rw [cnF]; exact Nat.le_add_right _ _
      omega
theorem cnF_same {p q : Nat → Bool} : ∀ {n : Nat}, (∀ j, j < n → p j = true → q j = true) → cnF p n = cnF q n → ∀ j, j < n → q j = true → p j = true
  | 0, _, _, j, hj, _ => absurd hj (Nat.not_lt_zero j)
  | n + 1, h, e, j, hj, hq => by
    have hs := cnF_sub (n := n) (fun j hj => h j (by omega))
    by_cases c : p n = true
    · rw [cnF_t c, cnF_t (h n (by omega) c)] at e
      rcases Nat.lt_or_ge j n with z | z
      · exact cnF_same (n := n) (fun j hj => h j (by omega)) (by omega) j z hq
      · have e2 : j = n := by omega
        subst e2
        exact c
    · by_cases c2 : q n = true
      · rw [cnF_f c, cnF_t c2] at e; omega
      · rw [cnF_f c, cnF_f c2] at e
        rcases Nat.lt_or_ge j n with z | z
        · exact cnF_same (n := n) (fun j hj => h j (by omega)) e j z hq
        · have e2 : j = n := by omega
          subst e2
          exact absurd hq c2
/-- if a step adds nothing, no later one does -/
theorem gN_stop {τ : Nat → Nat → Int32} (wf : WFT τ) {n : Nat} (h : ∀ t, t < 12 → gN τ (n + 1) t = true → gN τ n t = true) : ∀ m t, t < 12 → gN τ (n + m) t = true → gN τ n t = true := by
  intro m
  induction m with
  | zero => intro t _ g; exact g
  | succ m ih =>
    intro t ht g
    obtain ⟨h1, h2, h3, h4⟩ := gN_iff.mp g
    apply h t ht
    refine gN_iff.mpr ⟨h1, ?_, fun u hu hb => ih u hu (h3 u hu hb), h4⟩
    by_cases c : τ 3 t = -1
    · exact Or.inl c
    · exact Or.inr (ih _ ((wf.1 t ht).1.resolve_left c).1 (h2.resolve_left c))
theorem gN12 {τ : Nat → Nat → Int32} (wf : WFT τ) {t : Nat} (ht : t < 12) (g : Gd τ t) : gN τ 12 t = true := by
  -- either some step adds nothing, or there are as many as steps
  have key : ∀ k, (∃ n, n < k ∧ ∀ t, t < 12 → gN τ (n + 1) t = true → gN τ n t = true) ∨ k ≤ cnF (gN τ k) 12 := by
    intro k
    induction k with
    | zero => exact Or.inr (Nat.zero_le _)
    | succ k ih =>
      rcases ih with ⟨n, h1, h2⟩ | h
      · exact Or.inl ⟨n, by omega, h2⟩
      · by_cases e : cnF (gN τ k) 12 = cnF (gN τ (k + 1)) 12
        · exact Or.inl ⟨k, by omega, fun t ht q => cnF_same (fun j _ q => gN_mono q) e t ht q⟩
        · have := cnF_sub (p := gN τ k) (q := gN τ (k + 1)) (n := 12) (fun j _ q => gN_mono q)
          exact Or.inr (by omega)
  obtain ⟨m, g⟩ := g
  rcases key 12 with ⟨n, h1, h2⟩ | h
  · rcases Nat.lt_or_ge m n with z | z
    · exact gN_le (by omega) g
    · have := gN_stop wf h2 (m - n) t ht (by rw [Nat.add_sub_cancel' z]; exact g)
      exact gN_le (by omega) this
  · have e : cnF (gN τ 12) 12 = cnF (fun _ => true) 12 := by
      have h1 := cnF_le (gN τ 12) 12
      have h2 : cnF (fun _ => true) 12 = 12 := by decide
      omega
    exact cnF_same (fun _ _ _ => rfl) e t ht rfl
