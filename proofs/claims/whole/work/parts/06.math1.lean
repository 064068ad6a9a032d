/-! ===== LOADING, as mathematics ===== -/
def wrB (τ : Nat → Nat → Int32) (t : Nat) : Bool := (!decide (τ 3 t = -1) && (bt (τ 1 (sN (τ 3 t))) 1 || bt (τ 1 (sN (τ 3 t))) 3)) || (bt (τ 1 t) 1 && !decide (τ 3 t = 0)) || exB (fun u => bt (τ 4 t) u && !(bt (τ 1 u) 1)) 12
/-- loaded without fault, within n steps -/
def gN (τ : Nat → Nat → Int32) : Nat → Nat → Bool
  | 0, _ => false
  | n + 1, t => thB τ t && (decide (τ 3 t = -1) || gN τ n (sN (τ 3 t))) && !(exB (fun u => bt (τ 4 t) u && !(gN τ n u)) 12) && !(wrB τ t)
theorem gN_iff {τ : Nat → Nat → Int32} {n t : Nat} : gN τ (n + 1) t = true ↔ thB τ t = true ∧ (τ 3 t = -1 ∨ gN τ n (sN (τ 3 t)) = true) ∧ (∀ u, u < 12 → bt (τ 4 t) u = true → gN τ n u = true) ∧ wrB τ t = false := by
  rw [gN]
  constructor
  · intro h
    simp only [Bool.and_eq_true, Bool.or_eq_true, decide_eq_true_eq, Bool.not_eq_true'] at h
    obtain ⟨⟨⟨h1, h2⟩, h3⟩, h4⟩ := h
    refine ⟨h1, h2, fun u hu hb => ?_, h4⟩
    cases e : gN τ n u with
    | true => rfl
    | false =>
      have : exB (fun u => bt (τ 4 t) u && !(gN τ n u)) 12 = true := exB_iff.mpr ⟨u, hu, by simp [hb, e]⟩
      rw [this] at h3
      exact absurd h3 (by decide)
  · rintro ⟨h1, h2, h3, h4⟩
    have h5 : exB (fun u => bt (τ 4 t) u && !(gN τ n u)) 12 = false := by
      cases e : exB (fun u => bt (τ 4 t) u && !(gN τ n u)) 12 with
      | false => rfl
      | true =>
        obtain ⟨u, hu, hb⟩ := exB_iff.mp e
        simp only [Bool.and_eq_true, Bool.not_eq_true'] at hb
        have := h3 u hu hb.1
        rw [hb.2] at this
        exact absurd this (by decide)
    simp only [Bool.and_eq_true, Bool.or_eq_true, decide_eq_true_eq, Bool.not_eq_true']
    exact ⟨⟨⟨h1, h2⟩, h5⟩, h4⟩
theorem gN_mono {τ : Nat → Nat → Int32} : ∀ {n t : Nat}, gN τ n t = true → gN τ (n + 1) t = true
  | 0, t, h => by simp [gN] at h
  | n + 1, t, h => by
    obtain ⟨h1, h2, h3, h4⟩ := gN_iff.mp h
    exact gN_iff.mpr ⟨h1, h2.imp id (fun q => gN_mono q), fun u hu hb => gN_mono (h3 u hu hb), h4⟩
theorem gN_le {τ : Nat → Nat → Int32} {n m t : Nat} (h : n ≤ m) (g : gN τ n t = true) : gN τ m t = true := by
  induction h with
  | refl => exact g
  | step _ ih => exact gN_mono ih
/-- loaded without fault -/
def Gd (τ : Nat → Nat → Int32) (t : Nat) : Prop := ∃ n, gN τ n t = true
noncomputable def gdB (τ : Nat → Nat → Int32) (t : Nat) : Bool := @decide (Gd τ t) (Classical.propDecidable _)
theorem gdB_iff {τ : Nat → Nat → Int32} {t : Nat} : gdB τ t = true ↔ Gd τ t := by unfold gdB; exact @decide_eq_true_iff _ (Classical.propDecidable _)
theorem gdB_f {τ : Nat → Nat → Int32} {t : Nat} : gdB τ t = false ↔ ¬ Gd τ t := by
  rw [← gdB_iff]; cases gdB τ t <;> simp
theorem Gd.there {τ : Nat → Nat → Int32} {t : Nat} (h : Gd τ t) : thB τ t = true := by
  obtain ⟨n, h⟩ := h
  cases n with
  | zero => simp [gN] at h
  | succ n => exact (gN_iff.mp h).1
theorem Gd.right {τ : Nat → Nat → Int32} {t : Nat} (h : Gd τ t) : wrB τ t = false := by
  obtain ⟨n, h⟩ := h
  cases n with
  | zero => simp [gN] at h
  | succ n => exact (gN_iff.mp h).2.2.2
theorem Gd.sup {τ : Nat → Nat → Int32} {t : Nat} (h : Gd τ t) (hs : ¬ τ 3 t = -1) : Gd τ (sN (τ 3 t)) := by
  obtain ⟨n, h⟩ := h
  cases n with
  | zero => simp [gN] at h
  | succ n => exact ⟨n, (gN_iff.mp h).2.1.resolve_left hs⟩
theorem Gd.face {τ : Nat → Nat → Int32} {t u : Nat} (h : Gd τ t) (hu : u < 12) (hb : bt (τ 4 t) u = true) : Gd τ u := by
  obtain ⟨n, h⟩ := h
  cases n with
  | zero => simp [gN] at h
  | succ n => exact ⟨n, (gN_iff.mp h).2.2.1 u hu hb⟩
theorem Gd.mk {τ : Nat → Nat → Int32} {t : Nat} (h1 : thB τ t = true) (h2 : τ 3 t = -1 ∨ Gd τ (sN (τ 3 t))) (h3 : ∀ u, u < 12 → bt (τ 4 t) u = true → Gd τ u) (h4 : wrB τ t = false) : Gd τ t := by
  have all : ∀ k, ∃ n, ∀ u, u < k → u < 12 → bt (τ 4 t) u = true → gN τ n u = true := by
    intro k
    induction k with
    | zero => exact ⟨0, fun u h => absurd h (Nat.not_lt_zero u)⟩
    | succ k ih =>
      obtain ⟨n, hn⟩ := ih
      by_cases q : k < 12 ∧ bt (τ 4 t) k = true
      · obtain ⟨m, hm⟩ := h3 k q.1 q.2
        refine ⟨max n m, fun u h5 h6 h7 => ?_⟩
        rcases Nat.lt_or_ge u k with z | z
        · exact gN_le (Nat.le_max_left n m) (hn u z h6 h7)
        · have e : u = k := by omega
          subst e
          exact gN_le (Nat.le_max_right n m) hm
      · refine ⟨n, fun u h5 h6 h7 => ?_⟩
        rcases Nat.lt_or_ge u k with z | z
        · exact hn u z h6 h7
        · have e : u = k := by omega
          subst e
          exact absurd ⟨h6, h7⟩ q
  obtain ⟨n, hn⟩ := all 12
  rcases h2 with h2 | ⟨m, h2⟩
  · exact ⟨n + 1, gN_iff.mpr ⟨h1, Or.inl h2, fun u hu hb => hn u hu hu hb, h4⟩⟩
  · exact ⟨max n m + 1, gN_iff.mpr ⟨h1, Or.inr (gN_le (Nat.le_max_right n m) h2), fun u hu hb => gN_le (Nat.le_max_left n m) (hn u hu hu hb), h4⟩⟩
/-- whenever u is loaded within n steps, t is within fewer -/
def lowr (τ : Nat → Nat → Int32) (t u : Nat) : Prop := ∀ n, gN τ n u = true → ∃ k, k < n ∧ gN τ k t = true
theorem lowr.irr {τ : Nat → Nat → Int32} {t : Nat} (h : lowr τ t t) : ¬ Gd τ t := by
  have : ∀ n, ¬ gN τ n t = true := by
    intro n
    induction n using Nat.strongRecOn with
    | ind n ih =>
      intro g
      obtain ⟨k, hk, g2⟩ := h n g
      exact ih k hk g2
  rintro ⟨n, g⟩
  exact this n g
theorem lowr.sup {τ : Nat → Nat → Int32} {t : Nat} (hs : ¬ τ 3 t = -1) : lowr τ (sN (τ 3 t)) t := by
  intro n g
  cases n with
  | zero => simp [gN] at g
  | succ n => exact ⟨n, by omega, (gN_iff.mp g).2.1.resolve_left hs⟩
theorem lowr.face {τ : Nat → Nat → Int32} {t u : Nat} (hu : u < 12) (hb : bt (τ 4 t) u = true) : lowr τ u t := by
  intro n g
  cases n with
  | zero => simp [gN] at g
  | succ n => exact ⟨n, by omega, (gN_iff.mp g).2.2.1 u hu hb⟩
theorem lowr.trans {τ : Nat → Nat → Int32} {a b c : Nat} (h1 : lowr τ a b) (h2 : lowr τ b c) : lowr τ a c := by
  intro n g
  obtain ⟨k, hk, g2⟩ := h2 n g
  obtain ⟨j, hj, g3⟩ := h1 k g2
  exact ⟨j, by omega, g3⟩
/-- what LOADING tells of a type: n steps at most, the types of the mask o being loaded already -/
noncomputable def vN (τ : Nat → Nat → Int32) : Nat → Int32 → Nat → Int32
  | 0, _, _ => 0
  | n + 1, o, t => if thB τ t = true then (if bt o t = true then nI (128 + t) else if (!decide (τ 3 t = -1) && !(gdB τ (sN (τ 3 t)))) = true then vN τ n (o ||| bm t) (sN (τ 3 t)) else if fst (fun u => bt (τ 4 t) u && !(gdB τ u)) 12 < 12 then vN τ n (o ||| bm t) (fst (fun u => bt (τ 4 t) u && !(gdB τ u)) 12) else if wrB τ t = true then nI (192 + t) else nI t) else nI (64 + t)
noncomputable def LV (τ : Nat → Nat → Int32) (t : Nat) : Int32 := vN τ 13 0 t
/-- how many types are not in the mask -/
def cN (o : Int32) : Nat := cnF (fun t => !(bt o t)) 12
theorem cnF_upd {p q : Nat → Bool} {i : Nat} (hp : p i = true) (hq : q i = false) : ∀ {n : Nat}, i < n → (∀ j, j < n → j ≠ i → q j = p j) → cnF q n + 1 = cnF p n
  | 0, h, _ => absurd h (Nat.not_lt_zero i)
  | n + 1, h, he => by
    unfold cnF
    rcases Nat.lt_or_ge i n with z | z
    · have ih := cnF_upd hp hq z (fun j hj hne => he j (by omega) hne)
      rw [he n (by omega) (by omega)]
      split <;> omega
    · have e : i = n := by omega
      subst e
      rw [if_neg (by simp [hq]), if_pos hp, cnF_cong (fun j hj => he j (by omega) (by omega))]
theorem cN_or {o : Int32} {t : Nat} (ht : t < 12) (h : bt o t = false) : cN (o ||| bm t) + 1 = cN o := by
  unfold cN
  refine cnF_upd (i := t) (by simp [h]) (by rw [b_or, b_bm (by omega) (by omega)]; simp) ht (fun j hj hne => ?_)
  rw [b_or, b_bm (by omega) (by omega)]
  simp [hne]
theorem cN_0 : cN 0 = 12 := by decide
theorem gd_nI {j : Nat} (h : j < 2 ^ 31) : gd (nI j) = decide (j < 64) := by unfold gd; exact wi_nI (b := 64) h (by decide)
theorem vN_good {τ : Nat → Nat → Int32} {n t : Nat} {o : Int32} (hg : Gd τ t) (ho : bt o t = false) : vN τ (n + 1) o t = nI t := by
  rw [vN, if_pos hg.there, if_neg (by simp [ho]), if_neg, if_neg, if_neg (by simp [hg.right])]
  · rw [fst_none]
    · omega
    · intro u hu
      by_cases hb : bt (τ 4 t) u = true
      · have := gdB_iff.mpr (hg.face hu hb)
        simp [this]
      · simp at hb
        simp [hb]
  · by_cases hs : τ 3 t = -1
    · simp [hs]
    · have := gdB_iff.mpr (hg.sup hs)
      simp [this]
theorem vN_bad {τ : Nat → Nat → Int32} (wf : WFT τ) : ∀ {n t : Nat} {o : Int32}, t < 12 → cN o < n → ¬ Gd τ t → gd (vN τ n o t) = false
  | 0, t, o, _, h, _ => absurd h (Nat.not_lt_zero _)
  | n + 1, t, o, ht, hc, hb => by
    rw [vN]
    split
    · rename_i hth
      split
      · rw [gd_nI (by omega), decide_eq_false (by omega)]
      · rename_i ho
        simp at ho
        have hc2 : cN (o ||| bm t) < n := by have := cN_or ht ho; omega
        split
        · rename_i hs
          simp only [Bool.and_eq_true, Bool.not_eq_true', decide_eq_false_iff_not] at hs
          have hT := ((wf.1 t ht).1.resolve_left hs.1).1
          exact vN_bad wf hT hc2 (gdB_f.mp hs.2)
        · rename_i hs
          split
          · rename_i hf
            have hy := fst_yes _ _ hf
            simp only [Bool.and_eq_true, Bool.not_eq_true'] at hy
            exact vN_bad wf hf hc2 (gdB_f.mp hy.2)
          · rename_i hf
            split
            · rw [gd_nI (by omega), decide_eq_false (by omega)]
            · rename_i hw
              exfalso
              apply hb
              refine Gd.mk hth ?_ ?_ (by simpa using hw)
              · by_cases q : τ 3 t = -1
                · exact Or.inl q
                · refine Or.inr (gdB_iff.mp ?_)
                  cases e : gdB τ (sN (τ 3 t)) with
                  | true => rfl
                  | false => exact absurd (by simp [q, e]) hs
              · intro u hu hbu
                apply gdB_iff.mp
                cases e : gdB τ u with
                | true => rfl
                | false =>
                  have hl := fst_le (fun u => bt (τ 4 t) u && !(gdB τ u)) 12
                  have := fst_no (fun u => bt (τ 4 t) u && !(gdB τ u)) 12 u (by omega)
                  simp [hbu, e] at this
    · rw [gd_nI (by omega), decide_eq_false (by omega)]
/-- the supers of a type, itself too -/
def abN (τ : Nat → Nat → Int32) : Nat → Nat → Nat → Bool
  | 0, _, _ => false
  | n + 1, t, w => decide (w = t) || (!decide (τ 3 t = -1) && abN τ n (sN (τ 3 t)) w)
def fcN (τ : Nat → Nat → Int32) : Nat → Nat → Nat → Bool
  | 0, _, _ => false
  | n + 1, t, w => bt (τ 4 t) w || (!decide (τ 3 t = -1) && fcN τ n (sN (τ 3 t)) w) || exB (fun u => bt (τ 4 t) u && fcN τ n u w) 12
theorem abN_mono {τ : Nat → Nat → Int32} : ∀ {n t w : Nat}, abN τ n t w = true → abN τ (n + 1) t w = true
  | 0, t, w, h => by simp [abN] at h
  | n + 1, t, w, h => by
    rw [abN] at h ⊢
    simp only [Bool.or_eq_true, Bool.and_eq_true] at h ⊢
    exact h.imp id (fun q => ⟨q.1, abN_mono q.2⟩)
theorem fcN_mono {τ : Nat → Nat → Int32} : ∀ {n t w : Nat}, fcN τ n t w = true → fcN τ (n + 1) t w = true
  | 0, t, w, h => by simp [fcN] at h
  | n + 1, t, w, h => by
    rw [fcN] at h ⊢
    simp only [Bool.or_eq_true, Bool.and_eq_true] at h ⊢
    refine h.imp (fun q => q.imp id (fun q => ⟨q.1, fcN_mono q.2⟩)) (fun q => ?_)
    obtain ⟨u, hu, q⟩ := exB_iff.mp q
    simp only [Bool.and_eq_true] at q
    exact exB_iff.mpr ⟨u, hu, by simp only [Bool.and_eq_true]; exact ⟨q.1, fcN_mono q.2⟩⟩
theorem fcN_le {τ : Nat → Nat → Int32} {n m t w : Nat} (h : n ≤ m) (g : fcN τ n t w = true) : fcN τ m t w = true := by
  induction h with
  | refl => exact g
  | step _ ih => exact fcN_mono ih
noncomputable def abB (τ : Nat → Nat → Int32) (t w : Nat) : Bool := @decide (∃ n, abN τ n t w = true) (Classical.propDecidable _)
noncomputable def fcB (τ : Nat → Nat → Int32) (t w : Nat) : Bool := @decide (∃ n, fcN τ n t w = true) (Classical.propDecidable _)
theorem abB_iff {τ : Nat → Nat → Int32} {t w : Nat} : abB τ t w = true ↔ ∃ n, abN τ n t w = true := by unfold abB; exact @decide_eq_true_iff _ (Classical.propDecidable _)
theorem fcB_iff {τ : Nat → Nat → Int32} {t w : Nat} : fcB τ t w = true ↔ ∃ n, fcN τ n t w = true := by unfold fcB; exact @decide_eq_true_iff _ (Classical.propDecidable _)
theorem abB_eq (τ : Nat → Nat → Int32) (t w : Nat) : abB τ t w = (decide (w = t) || (!decide (τ 3 t = -1) && abB τ (sN (τ 3 t)) w)) := by
  rw [Bool.eq_iff_iff, abB_iff]
  simp only [Bool.or_eq_true, Bool.and_eq_true, abB_iff]
  constructor
  · rintro ⟨n, h⟩
    cases n with
    | zero => simp [abN] at h
    | succ n =>
      rw [abN] at h
      simp only [Bool.or_eq_true, Bool.and_eq_true] at h
      exact h.imp id (fun q => ⟨q.1, n, q.2⟩)
  · rintro (h | ⟨h1, n, h2⟩)
    · exact ⟨1, by rw [abN]; simp only [Bool.or_eq_true]; exact Or.inl h⟩
    · exact ⟨n + 1, by rw [abN]; simp only [Bool.or_eq_true, Bool.and_eq_true]; exact Or.inr ⟨h1, h2⟩⟩
theorem fcB_eq (τ : Nat → Nat → Int32) (t w : Nat) : fcB τ t w = (bt (τ 4 t) w || (!decide (τ 3 t = -1) && fcB τ (sN (τ 3 t)) w) || exB (fun u => bt (τ 4 t) u && fcB τ u w) 12) := by
  rw [Bool.eq_iff_iff, fcB_iff]
  simp only [Bool.or_eq_true, Bool.and_eq_true, fcB_iff]
  constructor
  · rintro ⟨n, h⟩
    cases n with
    | zero => simp [fcN] at h
    | succ n =>
      rw [fcN] at h
      simp only [Bool.or_eq_true, Bool.and_eq_true] at h
      refine h.imp (fun q => q.imp id (fun q => ⟨q.1, n, q.2⟩)) (fun q => ?_)
      obtain ⟨u, hu, q⟩ := exB_iff.mp q
      simp only [Bool.and_eq_true] at q
      exact exB_iff.mpr ⟨u, hu, by simp only [Bool.and_eq_true]; exact ⟨q.1, fcB_iff.mpr ⟨n, q.2⟩⟩⟩
  · rintro ((h | ⟨h1, n, h2⟩) | h)
    · exact ⟨1, by rw [fcN]; simp only [Bool.or_eq_true]; exact Or.inl (Or.inl h)⟩
    · exact ⟨n + 1, by rw [fcN]; simp only [Bool.or_eq_true, Bool.and_eq_true]; exact Or.inl (Or.inr ⟨h1, h2⟩)⟩
    · obtain ⟨u, hu, q⟩ := exB_iff.mp h
      simp only [Bool.and_eq_true] at q
      obtain ⟨n, h2⟩ := fcB_iff.mp q.2
      exact ⟨n + 1, by rw [fcN]; simp only [Bool.or_eq_true]; exact Or.inr (exB_iff.mpr ⟨u, hu, by simp only [Bool.and_eq_true]; exact ⟨q.1, h2⟩⟩)⟩
