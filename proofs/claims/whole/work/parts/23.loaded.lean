/-! ===== LOADING, step by step ===== -/
theorem MUi.weak {l : Launch} {y : MethodName} {ws : List Cond} {rm : Room} {D : va_G} {cI cZ cB cR : ClassId} {w : va_W} {av : List Value} {σ σ' : Type} {w' : σ → va_W} {w'' : σ' → va_W} {post : Int32 → σ → Prop} {post' : Int32 → σ' → Prop} (h : MUi l y ws rm D cI cZ cB cR w av w' post) (f : σ → σ') (hw : ∀ u, w'' (f u) = w' u) (hp : ∀ r u, post r u → post' r (f u)) : MUi l y ws rm D cI cZ cB cR w av w'' post' := by
  intro sz p e h1 h2 h3 s m args below h4 h5 h6 h7
  obtain ⟨n, o, a, b, c, ⟨⟨r, u, e1, hq, hB⟩, hF⟩, hL⟩ := h sz p e h1 h2 h3 s m args below h4 h5 h6 h7
  exact ⟨n, o, a, b, c, ⟨⟨r, f u, e1, hp r u hq, by show va_P D vwCl (w'' (f u)) _; rw [hw]; exact hB⟩, hF⟩, hL⟩
theorem nn_sN {v : Int32} (h : ¬ v < 0) : v = nI (sN v) := by
  obtain ⟨j, hj, e⟩ := nI_of h
  rw [e, sN_nI hj]
theorem isT_nn {v : Int32} (h : isT v) : ¬ v < 0 := by rw [h.2]; exact nI_pos (by have := h.1; omega)
theorem st2_kk {h : Nat → Nat → Int32} {k j : Nat} {v : Int32} : st2 h k j v k j = v := by rw [st2_k, pk_us]
theorem st2_kn {h : Nat → Nat → Int32} {k j i : Nat} {v : Int32} (q : i ≠ j) : st2 h k j v k i = h k i := by rw [st2_k, pk_un q]
def uS (y : Nat → Nat → Int32) (i : Nat) : Nat := sN (y 0 i)
/-- the mask of the first types of the row -/
def mkI (y : Nat → Nat → Int32) : Nat → Int32
  | 0 => 0
  | i + 1 => mkI y i ||| bm (uS y i)
/-- a stage by its number from 0 on -/
def sI (s : Nat) : Int32 := nI s - 2
theorem sI_lt : ∀ s, s < 14 → (sI s < 0 ↔ s < 2) := by decide +kernel
theorem sI_ge : ∀ s, s < 14 → (0 ≤ sI s ↔ 2 ≤ s) := by decide +kernel
theorem sI_m2 : ∀ s, s < 14 → (sI s = -2 ↔ s = 0) := by decide +kernel
theorem sI_11 : ∀ s, s < 14 → (11 ≤ sI s ↔ s = 13) := by decide +kernel
theorem sI_1 : ∀ s, s < 14 → sI s + 1 = sI (s + 1) := by decide +kernel
theorem sI_N : ∀ s, s < 14 → 2 ≤ s → sI s = nI (s - 2) := by decide +kernel
theorem sI_s : ∀ s, s < 14 → sN (sI s + 2) = s := by decide +kernel
theorem mkI_bt {y : Nat → Nat → Int32} {n : Nat} (hT : ∀ i, i < n → isT (y 0 i)) : ∀ {j u : Nat}, j ≤ n → u < 32 → (bt (mkI y j) u = true ↔ ∃ i, i < j ∧ uS y i = u)
  | 0, u, _, _ => by rw [mkI, b_0]; simp
  | j + 1, u, hj, hu => by
    have ht := (hT j (by omega)).1
    rw [mkI, b_or, b_bm (show uS y j < 32 by unfold uS; omega) hu, Bool.or_eq_true, mkI_bt hT (j := j) (by omega) hu, decide_eq_true_eq]
    constructor
    · rintro (⟨i, h1, h2⟩ | h)
      · exact ⟨i, by omega, h2⟩
      · exact ⟨j, by omega, h.symm⟩
    · rintro ⟨i, h1, h2⟩
      rcases Nat.lt_or_ge i j with z | z
      · exact Or.inl ⟨i, z, h2⟩
      · have e : i = j := by omega
        subst e
        exact Or.inr h2.symm
theorem mkI_cong {y z : Nat → Nat → Int32} : ∀ {j : Nat}, (∀ i, i < j → y 0 i = z 0 i) → mkI y j = mkI z j
  | 0, _ => rfl
  | j + 1, h => by
    rw [mkI, mkI, mkI_cong (fun i hi => h i (by omega))]
    unfold uS
    rw [h j (by omega)]
/-- what is above a type has been found good, up to a stage -/
def PG (τ : Nat → Nat → Int32) (u s : Nat) : Prop := (2 ≤ s → τ 3 u = -1 ∨ Gd τ (sN (τ 3 u))) ∧ ∀ f, f < 12 → f + 2 < s → bt (τ 4 u) f = true → Gd τ f
/-- what a stage asks for -/
def CH (τ : Nat → Nat → Int32) (u s c : Nat) : Prop := (s = 1 ∧ ¬ τ 3 u = -1 ∧ c = sN (τ 3 u)) ∨ (2 ≤ s ∧ s < 14 ∧ bt (τ 4 u) (s - 2) = true ∧ c = s - 2)
theorem PG.next {τ : Nat → Nat → Int32} {u s c : Nat} (h : PG τ u s) (hc : CH τ u s c) (g : Gd τ c) : PG τ u (s + 1) := by
  rcases hc with ⟨h1, h2, h3⟩ | ⟨h1, h2, h3, h4⟩
  · subst h1
    exact ⟨fun _ => Or.inr (h3 ▸ g), fun f hf q => by omega⟩
  · refine ⟨fun _ => h.1 h1, fun f hf q hb => ?_⟩
    rcases Nat.lt_or_ge (f + 2) s with z | z
    · exact h.2 f hf z hb
    · have e : f = s - 2 := by omega
      rw [e, ← h4]; exact g
def LK (τ y : Nat → Nat → Int32) (i : Nat) : Prop := thB τ (uS y i) = true ∧ bt (mkI y i) (uS y i) = false ∧ ∃ s, s < 14 ∧ 1 ≤ s ∧ y 1 i = sI s ∧ PG τ (uS y i) s ∧ CH τ (uS y i) s (uS y (i + 1))
def PT (τ : Nat → Nat → Int32) (t n : Nat) (v5 : Int32) (y : Nat → Nat → Int32) : Prop := y 0 0 = nI t ∧ (∀ i, i < n → isT (y 0 i)) ∧ (∀ i, i < n → bt v5 (uS y i) = false) ∧ (∀ i, i + 1 < n → LK τ y i) ∧ ∀ u, u < 12 → bt v5 u = true → Gd τ u
def MD (τ : Nat → Nat → Int32) (t n : Nat) (v4 v5 : Int32) (y : Nat → Nat → Int32) (s : Nat) (v : Int32) : Prop := 0 < n ∧ PT τ t n v5 y ∧ thB τ (uS y (n - 1)) = true ∧ bt (mkI y (n - 1)) (uS y (n - 1)) = false ∧ v4 = mkI y n ∧ s < 14 ∧ y 1 (n - 1) = sI s ∧ ((v = -1 ∧ PG τ (uS y (n - 1)) (s + 1)) ∨ (isT v ∧ 1 ≤ s ∧ PG τ (uS y (n - 1)) s ∧ CH τ (uS y (n - 1)) s (sN v) ∧ bt v5 (sN v) = false))
def IV (τ : Nat → Nat → Int32) (t n : Nat) (v4 v5 : Int32) (y : Nat → Nat → Int32) : Prop := (n = 0 ∧ Gd τ t) ∨ (0 < n ∧ PT τ t n v5 y ∧ y 1 (n - 1) = -2 ∧ v4 = mkI y (n - 1)) ∨ ∃ s, 1 ≤ s ∧ MD τ t n v4 v5 y s (-1)
theorem PT.cnt {τ : Nat → Nat → Int32} {t n : Nat} {v5 : Int32} {y : Nat → Nat → Int32} (h : PT τ t n v5 y) : ∀ j, j < n → cN (mkI y j) + j = 12 := by
  intro j
  induction j with
  | zero => intro _; rw [mkI, cN_0]
  | succ j ih =>
    intro hj
    have h1 := ih (by omega)
    have h2 : cN (mkI y j ||| bm (uS y j)) + 1 = cN (mkI y j) := cN_or (h.2.1 j (by omega)).1 (h.2.2.2.1 j hj).2.1
    rw [mkI]
    omega
theorem PT.le {τ : Nat → Nat → Int32} {t n : Nat} {v5 : Int32} {y : Nat → Nat → Int32} (h : PT τ t n v5 y) : n ≤ 13 := by
  rcases Nat.lt_or_ge 0 n with z | z
  · have := h.cnt (n - 1) (by omega); omega
  · omega
theorem MD.le {τ : Nat → Nat → Int32} {t n s : Nat} {v4 v5 v : Int32} {y : Nat → Nat → Int32} (h : MD τ t n v4 v5 y s v) : n ≤ 12 := by
  obtain ⟨h0, h1, h2, h3, -⟩ := h
  have c := h1.cnt (n - 1) (by omega)
  have := cN_or (h1.2.1 (n - 1) (by omega)).1 h3
  omega
theorem IV.pos {τ : Nat → Nat → Int32} {t n : Nat} {v4 v5 : Int32} {y : Nat → Nat → Int32} (h : IV τ t n v4 v5 y) (hn : 0 < n) : PT τ t n v5 y := by
  rcases h with h | h | ⟨s, -, h⟩
  · omega
  · exact h.2.1
  · exact h.2.1
theorem IV.n13 {τ : Nat → Nat → Int32} {t n : Nat} {v4 v5 : Int32} {y : Nat → Nat → Int32} (h : IV τ t n v4 v5 y) : n ≤ 13 := by
  rcases Nat.lt_or_ge 0 n with z | z
  · exact (h.pos z).le
  · omega
theorem IV.init {τ : Nat → Nat → Int32} {t : Nat} (ht : t < 12) (y : Nat → Nat → Int32) : IV τ t 1 0 0 (st2 (st2 y 0 0 (nI t)) 1 0 (-2)) := by
  have e : (st2 (st2 y 0 0 (nI t)) 1 0 (-2)) 0 0 = nI t := by rw [st2_n (by omega), st2_kk]
  refine Or.inr (Or.inl ⟨by omega, ⟨e, fun i hi => ?_, fun i _ => b_0 _, fun i hi => by omega, fun u _ q => by rw [b_0] at q; exact absurd q (by decide)⟩, st2_kk, rfl⟩)
  have : i = 0 := by omega
  subst this
  rw [e]; exact isT_nI ht
/-- a stage's number -/
def mS (y : Nat → Nat → Int32) (n : Nat) : Nat := 13 - sN (y 1 (n - 1) + 2)
theorem MD.ms {τ : Nat → Nat → Int32} {t n s : Nat} {v4 v5 v : Int32} {y : Nat → Nat → Int32} (h : MD τ t n v4 v5 y s v) : mS y n = 13 - s := by
  unfold mS
  rw [h.2.2.2.2.2.2.1, sI_s s h.2.2.2.2.2.1]
/-- fresh, or a stage further -/
theorem IV.fresh {τ : Nat → Nat → Int32} {t n : Nat} {v4 v5 : Int32} {y : Nat → Nat → Int32} (h : IV τ t n v4 v5 y) (hn : 0 < n) (c : y 1 (n - 1) = -2) : v4 = mkI y (n - 1) := by
  rcases h with h | h | ⟨s, h1, h⟩
  · omega
  · exact h.2.2.2
  · have := h.2.2.2.2.2.2.1
    rw [c] at this
    have := (sI_m2 s h.2.2.2.2.2.1).mp this.symm
    omega
theorem IV.mid0 {τ : Nat → Nat → Int32} {t n : Nat} {v4 v5 : Int32} {y : Nat → Nat → Int32} (h : IV τ t n v4 v5 y) (hn : 0 < n) (c : y 1 (n - 1) = -2) (h1 : thB τ (uS y (n - 1)) = true) (h2 : ¬ bt v4 (uS y (n - 1)) = true) : MD τ t n (v4 ||| bm (uS y (n - 1))) v5 y 0 (-1) := by
  have e := h.fresh hn c
  have p := h.pos hn
  refine ⟨hn, p, h1, ?_, ?_, by omega, c, Or.inl ⟨rfl, fun q => by omega, fun f _ q => by omega⟩⟩
  · rw [← e]; simpa using h2
  · rw [e]
    obtain ⟨k, rfl⟩ : ∃ k, n = k + 1 := ⟨n - 1, by omega⟩
    rfl
theorem IV.mid1 {τ : Nat → Nat → Int32} {t n : Nat} {v4 v5 : Int32} {y : Nat → Nat → Int32} (h : IV τ t n v4 v5 y) (hn : 0 < n) (c : ¬ y 1 (n - 1) = -2) : ∃ s, MD τ t n v4 v5 y s (-1) := by
  rcases h with h | h | ⟨s, h1, h⟩
  · omega
  · exact absurd h.2.2.1 c
  · exact ⟨s, h⟩
theorem PT.stage {τ : Nat → Nat → Int32} {t n : Nat} {v5 v : Int32} {y : Nat → Nat → Int32} (h : PT τ t n v5 y) : PT τ t n v5 (st2 y 1 (n - 1) v) := by
  have e0 : (st2 y 1 (n - 1) v) 0 = y 0 := st2_n (by omega)
  have eu : ∀ i, uS (st2 y 1 (n - 1) v) i = uS y i := fun i => by unfold uS; rw [e0]
  refine ⟨by rw [e0]; exact h.1, fun i hi => by rw [e0]; exact h.2.1 i hi, fun i hi => by rw [eu]; exact h.2.2.1 i hi, fun i hi => ?_, h.2.2.2.2⟩
  have := h.2.2.2.1 i hi
  unfold LK at this ⊢
  rw [eu, eu, mkI_cong (z := y) (fun i _ => by rw [e0]), st2_kn (by omega)]
  exact this
/-- a stage further: nothing is asked for, or what is known to be good -/
theorem MD.skip {τ : Nat → Nat → Int32} {t n s : Nat} {v4 v5 : Int32} {y : Nat → Nat → Int32} (h : MD τ t n v4 v5 y s (-1)) (hs : s < 13) (hc : ∀ c, CH τ (uS y (n - 1)) (s + 1) c → Gd τ c) : MD τ t n v4 v5 (st2 y 1 (n - 1) (y 1 (n - 1) + 1)) (s + 1) (-1) := by
  obtain ⟨h0, h1, h2, h3, h4, h5, h6, h7⟩ := h
  have e0 : ∀ v, (st2 y 1 (n - 1) v) 0 = y 0 := fun v => st2_n (by omega)
  have eu : ∀ v i, uS (st2 y 1 (n - 1) v) i = uS y i := fun v i => by unfold uS; rw [e0]
  have p : PG τ (uS y (n - 1)) (s + 1) := by
    rcases h7 with h7 | h7
    · exact h7.2
    · exact absurd (isT_nn h7.1) (by decide)
  refine ⟨h0, h1.stage, by rw [eu]; exact h2, by rw [eu, mkI_cong (z := y) (fun i _ => by rw [e0])]; exact h3, by rw [mkI_cong (z := y) (fun i _ => by rw [e0])]; exact h4, by omega, by rw [st2_kk, h6, sI_1 s h5], Or.inl ⟨rfl, ?_⟩⟩
  rw [eu]
  by_cases q : ∃ c, CH τ (uS y (n - 1)) (s + 1) c
  · obtain ⟨c, q⟩ := q
    exact p.next q (hc c q)
  · refine ⟨fun z => ?_, fun f hf z hb => ?_⟩
    · by_cases z2 : τ 3 (uS y (n - 1)) = -1
      · exact Or.inl z2
      · rcases Nat.lt_or_ge s 1 with z3 | z3
        · exact absurd ⟨_, Or.inl ⟨by omega, z2, rfl⟩⟩ q
        · exact p.1 (by omega)
    · rcases Nat.lt_or_ge (f + 2) (s + 1) with z3 | z3
      · exact p.2 f hf z3 hb
      · have e : f = s + 1 - 2 := by omega
        exact absurd ⟨_, Or.inr ⟨by omega, by omega, by rw [← e]; exact hb, rfl⟩⟩ q
/-- a stage further: something is asked for -/
theorem MD.ask {τ : Nat → Nat → Int32} {t n s : Nat} {v4 v5 v : Int32} {y : Nat → Nat → Int32} (h : MD τ t n v4 v5 y s (-1)) (hs : s < 13) (hT : isT v) (hc : CH τ (uS y (n - 1)) (s + 1) (sN v)) (hg : ¬ bt v5 (sN v) = true) : MD τ t n v4 v5 (st2 y 1 (n - 1) (y 1 (n - 1) + 1)) (s + 1) v := by
  obtain ⟨h0, h1, h2, h3, h4, h5, h6, h7⟩ := h
  have e0 : ∀ v, (st2 y 1 (n - 1) v) 0 = y 0 := fun v => st2_n (by omega)
  have eu : ∀ v i, uS (st2 y 1 (n - 1) v) i = uS y i := fun v i => by unfold uS; rw [e0]
  have p : PG τ (uS y (n - 1)) (s + 1) := by
    rcases h7 with h7 | h7
    · exact h7.2
    · exact absurd (isT_nn h7.1) (by decide)
  refine ⟨h0, h1.stage, by rw [eu]; exact h2, by rw [eu, mkI_cong (z := y) (fun i _ => by rw [e0])]; exact h3, by rw [mkI_cong (z := y) (fun i _ => by rw [e0])]; exact h4, by omega, by rw [st2_kk, h6, sI_1 s h5], Or.inr ⟨hT, by omega, by rw [eu]; exact p, by rw [eu]; exact hc, by simpa using hg⟩⟩
theorem MD.push {τ : Nat → Nat → Int32} {t n s : Nat} {v4 v5 v : Int32} {y : Nat → Nat → Int32} (h : MD τ t n v4 v5 y s v) (hv : ¬ v < 0) : IV τ t (n + 1) v4 v5 (st2 (st2 y 0 n v) 1 n (-2)) := by
  obtain ⟨h0, h1, h2, h3, h4, h5, h6, h7⟩ := h
  obtain ⟨hT, hs, hp, hc, hg⟩ : isT v ∧ 1 ≤ s ∧ PG τ (uS y (n - 1)) s ∧ CH τ (uS y (n - 1)) s (sN v) ∧ bt v5 (sN v) = false := by
    rcases h7 with h7 | h7
    · rw [h7.1] at hv; exact absurd (by decide) hv
    · exact h7
  have e0 : ∀ i, i < n → (st2 (st2 y 0 n v) 1 n (-2)) 0 i = y 0 i := fun i hi => by rw [st2_n (by omega), st2_kn (by omega)]
  have en : (st2 (st2 y 0 n v) 1 n (-2)) 0 n = v := by rw [st2_n (by omega), st2_kk]
  have e1 : ∀ i, i < n → (st2 (st2 y 0 n v) 1 n (-2)) 1 i = y 1 i := fun i hi => by rw [st2_kn (by omega), st2_n (by omega)]
  generalize hy : st2 (st2 y 0 n v) 1 n (-2) = z at e0 en e1
  have eu : ∀ i, i < n → uS z i = uS y i := fun i hi => by unfold uS; rw [e0 i hi]
  have em : ∀ j, j ≤ n → mkI z j = mkI y j := fun j hj => mkI_cong (fun i hi => e0 i (by omega))
  refine Or.inr (Or.inl ⟨by omega, ⟨by rw [e0 0 h0]; exact h1.1, fun i hi => ?_, fun i hi => ?_, fun i hi => ?_, h1.2.2.2.2⟩, by rw [← hy]; exact st2_kk, by show v4 = mkI z (n + 1 - 1); rw [Nat.add_sub_cancel, em n (Nat.le_refl n)]; exact h4⟩)
  · rcases Nat.lt_or_ge i n with q | q
    · rw [e0 i q]; exact h1.2.1 i q
    · have e : i = n := by omega
      rw [e, en]; exact hT
  · rcases Nat.lt_or_ge i n with q | q
    · rw [eu i q]; exact h1.2.2.1 i q
    · have e : i = n := by omega
      have : uS z n = sN v := by unfold uS; rw [en]
      rw [e, this]; exact hg
  · unfold LK
    rw [eu i (by omega), em i (by omega), e1 i (by omega)]
    rcases Nat.lt_or_ge (i + 1) n with q | q
    · rw [eu (i + 1) q]; exact h1.2.2.2.1 i q
    · have e : i = n - 1 := by omega
      have e2 : i + 1 = n := by omega
      have : uS z n = sN v := by unfold uS; rw [en]
      rw [e2, this, e]
      exact ⟨h2, h3, s, h5, hs, h6, hp, hc⟩
/-- the way up: what is told of the last one that is not good is told of the first -/
theorem PT.chain {τ : Nat → Nat → Int32} {t n : Nat} {v5 : Int32} {y : Nat → Nat → Int32} (h : PT τ t n v5 y) (hn : 0 < n) (ht : t < 12) : ∀ j, j < n → ¬ Gd τ (uS y j) → LV τ t = vN τ (13 - j) (mkI y j) (uS y j) := by
  intro j
  induction j with
  | zero =>
    intro _ _
    have : uS y 0 = t := by unfold uS; rw [h.1, sN_nI (by omega)]
    rw [this]; rfl
  | succ j ih =>
    intro hj hb
    have hle := h.le
    obtain ⟨l1, l2, s, l3, l4, l5, l6, l7⟩ := h.2.2.2.1 j hj
    have hb2 : ¬ Gd τ (uS y j) := by
      intro g
      rcases l7 with ⟨-, q2, q3⟩ | ⟨q1, q2, q3, q4⟩
      · exact hb (q3 ▸ g.sup q2)
      · exact hb (q4 ▸ g.face (by omega) q3)
    rw [ih (by omega) hb2]
    obtain ⟨m, hm⟩ : ∃ m, 13 - j = m + 1 := ⟨12 - j, by omega⟩
    have hm2 : 13 - (j + 1) = m := by omega
    rw [hm, hm2, vN, if_pos l1, if_neg (by simp [l2])]
    rcases l7 with ⟨q1, q2, q3⟩ | ⟨q1, q2, q3, q4⟩
    · have g0 : gdB τ (sN (τ 3 (uS y j))) = false := gdB_f.mpr (q3 ▸ hb)
      rw [if_pos (by simp [q2, g0]), ← q3]
      rfl
    · have hnb : ¬ (!decide (τ 3 (uS y j) = -1) && !(gdB τ (sN (τ 3 (uS y j))))) = true := by
        rcases l6.1 q1 with z | z
        · simp [z]
        · simp [gdB_iff.mpr z]
      have hf : fst (fun u => bt (τ 4 (uS y j)) u && !(gdB τ u)) 12 = uS y (j + 1) := by
        refine fst_at (by omega) ?_ (fun f hf => ?_)
        · rw [gdB_f.mpr hb, q4, q3]; rfl
        · by_cases z : bt (τ 4 (uS y j)) f = true
          · rw [gdB_iff.mpr (l6.2 f (by omega) (by omega) z)]; simp
          · simp at z; simp [z]
      rw [if_neg hnb, hf, if_pos (by omega)]
      rfl
/-- a type on the way is not good if it comes again -/
theorem PT.low {τ : Nat → Nat → Int32} {t n : Nat} {v5 : Int32} {y : Nat → Nat → Int32} (h : PT τ t n v5 y) : ∀ j i, i < j → j < n → lowr τ (uS y j) (uS y i) := by
  intro j
  induction j with
  | zero => intro i hi; omega
  | succ j ih =>
    intro i hi hj
    obtain ⟨-, -, s, -, -, -, -, l7⟩ := h.2.2.2.1 j hj
    have e : lowr τ (uS y (j + 1)) (uS y j) := by
      rcases l7 with ⟨-, q2, q3⟩ | ⟨q1, q2, q3, q4⟩
      · rw [q3]; exact lowr.sup q2
      · rw [q4]; exact lowr.face (by omega) q3
    rcases Nat.lt_or_ge i j with z | z
    · exact e.trans (ih i z (by omega))
    · have : i = j := by omega
      rw [this]; exact e
theorem IV.missing {τ : Nat → Nat → Int32} {t n : Nat} {v4 v5 : Int32} {y : Nat → Nat → Int32} (h : IV τ t n v4 v5 y) (hn : 0 < n) (ht : t < 12) (c : ¬ thB τ (uS y (n - 1)) = true) : nI (64 * 1 + uS y (n - 1)) = LV τ t := by
  have p := h.pos hn
  have hle := p.le
  rw [p.chain hn ht (n - 1) (by omega) (fun g => c g.there)]
  obtain ⟨m, hm⟩ : ∃ m, 13 - (n - 1) = m + 1 := ⟨13 - n, by omega⟩
  rw [hm, vN, if_neg c]
theorem IV.circular {τ : Nat → Nat → Int32} {t n : Nat} {v4 v5 : Int32} {y : Nat → Nat → Int32} (h : IV τ t n v4 v5 y) (hn : 0 < n) (ht : t < 12) (c : y 1 (n - 1) = -2) (h1 : thB τ (uS y (n - 1)) = true) (h2 : bt v4 (uS y (n - 1)) = true) : nI (64 * 2 + uS y (n - 1)) = LV τ t := by
  have p := h.pos hn
  have hle := p.le
  have e := h.fresh hn c
  rw [e] at h2
  have hu : uS y (n - 1) < 32 := by have := (p.2.1 (n - 1) (by omega)).1; unfold uS; omega
  obtain ⟨i, hi, ei⟩ := (mkI_bt p.2.1 (by omega) hu).mp h2
  have hb : ¬ Gd τ (uS y (n - 1)) := by
    have := p.low (n - 1) i hi (by omega)
    rw [ei] at this
    exact this.irr
  rw [p.chain hn ht (n - 1) (by omega) hb]
  obtain ⟨m, hm⟩ : ∃ m, 13 - (n - 1) = m + 1 := ⟨13 - n, by omega⟩
  rw [hm, vN, if_pos h1, if_pos h2]
theorem MD.all {τ : Nat → Nat → Int32} {t n : Nat} {v4 v5 : Int32} {y : Nat → Nat → Int32} (h : MD τ t n v4 v5 y 13 (-1)) : (τ 3 (uS y (n - 1)) = -1 ∨ Gd τ (sN (τ 3 (uS y (n - 1))))) ∧ ∀ f, f < 12 → bt (τ 4 (uS y (n - 1))) f = true → Gd τ f := by
  rcases h.2.2.2.2.2.2.2 with h7 | h7
  · exact ⟨h7.2.1 (by omega), fun f hf => h7.2.2 f hf (by omega)⟩
  · exact absurd (isT_nn h7.1) (by decide)
theorem MD.changed {τ : Nat → Nat → Int32} {t n : Nat} {v4 v5 : Int32} {y : Nat → Nat → Int32} (h : MD τ t n v4 v5 y 13 (-1)) (ht : t < 12) (c : wrB τ (uS y (n - 1)) = true) : nI (64 * 3 + uS y (n - 1)) = LV τ t := by
  have hle := h.le
  have ha := h.all
  obtain ⟨h0, h1, h2, h3, h4, h5, h6, h7⟩ := h
  rw [h1.chain h0 ht (n - 1) (by omega) (fun g => by have := g.right; rw [c] at this; exact absurd this (by decide))]
  obtain ⟨m, hm⟩ : ∃ m, 13 - (n - 1) = m + 1 := ⟨13 - n, by omega⟩
  rw [hm, vN, if_pos h2, if_neg (by simp [h3]), if_neg, if_neg, if_pos c]
  · rw [fst_none]
    · omega
    · intro f hf
      by_cases z : bt (τ 4 (uS y (n - 1))) f = true
      · rw [gdB_iff.mpr (ha.2 f hf z)]; simp
      · simp at z; simp [z]
  · rcases ha.1 with z | z
    · simp [z]
    · simp [gdB_iff.mpr z]
theorem MD.pop {τ : Nat → Nat → Int32} {t n : Nat} {v4 v5 : Int32} {y : Nat → Nat → Int32} (h : MD τ t n v4 v5 y 13 (-1)) (ht : t < 12) (c : ¬ wrB τ (uS y (n - 1)) = true) : IV τ t (n - 1) (v4 &&& (bm (uS y (n - 1)) ^^^ (-1))) (v5 ||| bm (uS y (n - 1))) y ∧ cN (v5 ||| bm (uS y (n - 1))) + 1 = cN v5 := by
  have hle := h.le
  have ha := h.all
  obtain ⟨h0, h1, h2, h3, h4, h5, h6, h7⟩ := h
  have hT := h1.2.1 (n - 1) (by omega)
  have hu : uS y (n - 1) < 12 := hT.1
  have hg : Gd τ (uS y (n - 1)) := Gd.mk h2 ha.1 ha.2 (by simpa using c)
  refine ⟨?_, cN_or hu (h1.2.2.1 (n - 1) (by omega))⟩
  by_cases e1 : n = 1
  · left
    subst e1
    refine ⟨rfl, ?_⟩
    have : uS y 0 = t := by unfold uS; rw [h1.1, sN_nI (by omega)]
    rw [← this]; exact hg
  · right; right
    obtain ⟨m, rfl⟩ : ∃ m, n = m + 2 := ⟨n - 2, by omega⟩
    obtain ⟨l1, l2, s, l3, l4, l5, l6, l7⟩ := h1.2.2.2.1 m (by omega)
    have em : m + 2 - 1 = m + 1 := rfl
    rw [em] at h2 h3 h6 h7 hT hu hg ⊢
    have hne : ∀ i, i < m + 1 → uS y i ≠ uS y (m + 1) := fun i hi e => by
      have := (mkI_bt h1.2.1 (j := m + 1) (u := uS y (m + 1)) (by omega) (by omega)).mpr ⟨i, hi, e⟩
      rw [h3] at this; exact absurd this (by decide)
    refine ⟨s, l4, by omega, ⟨h1.1, fun i hi => h1.2.1 i (by omega), fun i hi => ?_, fun i hi => h1.2.2.2.1 i (by omega), fun u hu2 q => ?_⟩, l1, l2, ?_, l3, l5, Or.inl ⟨rfl, l6.next l7 hg⟩⟩
    · rw [b_or, h1.2.2.1 i (by omega), b_bm (by omega) (by have := (h1.2.1 i (by omega)).1; unfold uS; omega)]
      simp [hne i hi]
    · rw [b_or, b_bm (by omega) (by omega), Bool.or_eq_true, decide_eq_true_eq] at q
      rcases q with q | q
      · exact h1.2.2.2.2 u hu2 q
      · rw [q]; exact hg
    · rw [h4]
      apply b_ext
      intro i hi
      rw [b_and, b_xor, b_m1 i hi, b_bm (by omega) hi, show mkI y (m + 2) = mkI y (m + 1) ||| bm (uS y (m + 1)) from rfl, b_or, b_bm (by omega) hi]
      by_cases z : i = uS y (m + 1)
      · subst z; rw [h3]; simp
      · simp [z]
theorem pk_dec {n : Nat} (h : 0 < n) : nI n + (-1) = nI (n - 1) := by
  obtain ⟨m, rfl⟩ : ∃ m, n = m + 1 := ⟨n - 1, by omega⟩
  exact pk_m1 m
theorem MD.m1 {τ : Nat → Nat → Int32} {t n s : Nat} {v4 v5 v : Int32} {y : Nat → Nat → Int32} (h : MD τ t n v4 v5 y s v) (c : ¬ 0 ≤ v) : v = -1 := by
  rcases h.2.2.2.2.2.2.2 with h7 | h7
  · exact h7.1
  · exact absurd (Int32.not_lt.mp (isT_nn h7.1)) c
theorem ld_s {τ : Nat → Nat → Int32} {t n s : Nat} {v4 v5 v : Int32} {y : Nat → Nat → Int32} (h : MD τ t n v4 v5 y s v) (c : ¬ 11 ≤ y 1 (n - 1)) : s < 13 ∧ y 1 (n - 1) + 1 = sI (s + 1) := by
  have h5 := h.2.2.2.2.2.1
  have h6 := h.2.2.2.2.2.2.1
  rw [h6, sI_11 s h5] at c
  rw [h6, sI_1 s h5]
  exact ⟨by omega, rfl⟩
theorem ld_k {y : Nat → Nat → Int32} {n s : Nat} (hs : s < 14) (h6 : y 1 (n - 1) = sI s) (c : ¬ 11 ≤ y 1 (n - 1)) (c2 : 0 ≤ y 1 (n - 1) + 1) : sN (y 1 (n - 1) + 1) < 12 := by
  rw [h6] at c c2 ⊢
  rw [sI_11 s hs] at c
  rw [sI_1 s hs] at c2 ⊢
  rw [sI_ge (s + 1) (by omega)] at c2
  rw [sI_N (s + 1) (by omega) c2, sN_nI (by omega)]
  omega
theorem ld_a {x : Nat → Nat → Int32} {w n6 n7 : Nat} (wf : WFT (vwX x w)) (h6 : n6 < 12) (h7 : n7 = 12 * w + n6) (c : ¬ x 3 n7 < 0) : sN (x 3 n7) < 12 := by
  rcases (wf.1 n6 h6).1 with e | e
  · exact absurd (show x 3 n7 < 0 by rw [h7]; rw [show x 3 (12 * w + n6) = -1 from e]; decide) c
  · rw [h7]; exact e.1
theorem ld_th {x : Nat → Nat → Int32} {w u : Nat} (c : ¬ x 0 (12 * w + u) = 0) : thB (vwX x w) u = true := by
  show (!decide (x 0 (12 * w + u) = 0)) = true
  simp [c]
theorem ld_13 {τ : Nat → Nat → Int32} {t n s : Nat} {v4 v5 v : Int32} {y : Nat → Nat → Int32} (h : MD τ t n v4 v5 y s v) (hs : v < 0 → s = 13) (c : v < 0) : MD τ t n v4 v5 y 13 (-1) := by
  have e := hs c
  have e2 := h.m1 (fun q => absurd (Int32.not_lt.mpr q) (fun z => z c))
  rw [e, e2] at h
  exact h
theorem ld_ms {τ : Nat → Nat → Int32} {t n s k : Nat} {v4 v5 v : Int32} {y : Nat → Nat → Int32} (h : MD τ t n v4 v5 y s v) (c : ¬ 11 ≤ y 1 (n - 1)) (hk : mS y n < k + 1) : mS (st2 y 1 (n - 1) (y 1 (n - 1) + 1)) n < k := by
  obtain ⟨h1, h2⟩ := ld_s h c
  rw [h.ms] at hk
  unfold mS
  rw [st2_kk, h2, sI_s (s + 1) (by omega)]
  omega
theorem ld_e1 {τ : Nat → Nat → Int32} {t n : Nat} {v4 v5 v : Int32} {y : Nat → Nat → Int32} (h : ∃ s, MD τ t n v4 v5 y s v) (c : 0 ≤ v) : ∃ s, MD τ t n v4 v5 y s v ∧ (v < 0 → s = 13) := by
  obtain ⟨s, h⟩ := h
  exact ⟨s, h, fun q => absurd q (Int32.not_lt.mpr c)⟩
theorem ld_e2 {τ : Nat → Nat → Int32} {t n s : Nat} {v4 v5 v : Int32} {y : Nat → Nat → Int32} (h : MD τ t n v4 v5 y s v) (c : 11 ≤ y 1 (n - 1)) : ∃ s, MD τ t n v4 v5 y s v ∧ (v < 0 → s = 13) := by
  rw [h.2.2.2.2.2.2.1, sI_11 s h.2.2.2.2.2.1] at c
  exact ⟨s, h, fun _ => c⟩
theorem ld_pm {τ : Nat → Nat → Int32} {t n s k n6 : Nat} {v4 v5 v : Int32} {y : Nat → Nat → Int32} (h : MD τ t n v4 v5 y s v) (hs : v < 0 → s = 13) (c : v < 0) (ht : t < 12) (e : n6 = uS y (n - 1)) (cw : ¬ wrB τ n6 = true) (hk : 2 * cN v5 + (13 - n) < k + 1) : 2 * cN (v5 ||| bm n6) + (13 - (n - 1)) < k := by
  have := (MD.pop (ld_13 h hs c) ht (by rw [← e]; exact cw)).2
  rw [← e] at this
  have h0 := h.1
  have h1 := h.le
  omega
section LDP
variable {x : Nat → Nat → Int32} {w t n s n6 n7 : Nat} {v4 v5 v : Int32} {y : Nat → Nat → Int32}
theorem ld_CHk (h : MD (vwX x w) t n v4 v5 y s v) (e6 : n6 = uS y (n - 1)) (e7 : n7 = 12 * w + n6) (c : ¬ 11 ≤ y 1 (n - 1)) (c2 : 0 ≤ y 1 (n - 1) + 1) : (∀ c, CH (vwX x w) (uS y (n - 1)) (s + 1) c ↔ bt (x 4 n7) (sN (y 1 (n - 1) + 1)) = true ∧ c = sN (y 1 (n - 1) + 1)) ∧ isT (y 1 (n - 1) + 1) := by
  obtain ⟨h1, h2⟩ := ld_s h c
  rw [h2, sI_ge (s + 1) (by omega)] at c2
  have e : y 1 (n - 1) + 1 = nI (s + 1 - 2) := by rw [h2, sI_N (s + 1) (by omega) c2]
  have e9 : x 4 n7 = vwX x w 4 (uS y (n - 1)) := by rw [e7, e6]; rfl
  rw [e, sN_nI (by omega), e9]
  refine ⟨fun c => ⟨?_, ?_⟩, isT_nI (by omega)⟩
  · rintro (⟨q1, q2, q3⟩ | ⟨q1, q2, q3, q4⟩)
    · omega
    · exact ⟨q3, q4⟩
  · rintro ⟨q1, q2⟩; exact Or.inr ⟨by omega, by omega, q1, q2⟩
theorem ld_CHa (h : MD (vwX x w) t n v4 v5 y s v) (e6 : n6 = uS y (n - 1)) (e7 : n7 = 12 * w + n6) (c : ¬ 11 ≤ y 1 (n - 1)) (c2 : ¬ 0 ≤ y 1 (n - 1) + 1) : ∀ c, CH (vwX x w) (uS y (n - 1)) (s + 1) c ↔ ¬ x 3 n7 = -1 ∧ c = sN (x 3 n7) := by
  obtain ⟨h1, h2⟩ := ld_s h c
  rw [h2, sI_ge (s + 1) (by omega)] at c2
  have e9 : x 3 n7 = vwX x w 3 (uS y (n - 1)) := by rw [e7, e6]; rfl
  rw [e9]
  refine fun c => ⟨?_, ?_⟩
  · rintro (⟨q1, q2, q3⟩ | ⟨q1, q2, q3, q4⟩)
    · exact ⟨q2, q3⟩
    · omega
  · rintro ⟨q1, q2⟩; exact Or.inl ⟨by omega, q1, q2⟩
theorem ld_P2 (h : MD (vwX x w) t n v4 v5 y s v) (hv : v = -1) (e6 : n6 = uS y (n - 1)) (e7 : n7 = 12 * w + n6) (c : ¬ 11 ≤ y 1 (n - 1)) (c2 : 0 ≤ y 1 (n - 1) + 1) (c4 : bt v5 (sN (y 1 (n - 1) + 1)) = true) : ∃ s, MD (vwX x w) t n v4 v5 (st2 y 1 (n - 1) (y 1 (n - 1) + 1)) s (-1) := by
  obtain ⟨q1, q2⟩ := ld_CHk h e6 e7 c c2
  obtain ⟨h1, -⟩ := ld_s h c
  subst hv
  exact ⟨_, h.skip h1 (fun c hc => by rw [((q1 c).mp hc).2]; exact h.2.1.2.2.2.2 _ q2.1 c4)⟩
theorem ld_P3 (h : MD (vwX x w) t n v4 v5 y s v) (hv : v = -1) (e6 : n6 = uS y (n - 1)) (e7 : n7 = 12 * w + n6) (c : ¬ 11 ≤ y 1 (n - 1)) (c2 : 0 ≤ y 1 (n - 1) + 1) (c3 : bt (x 4 n7) (sN (y 1 (n - 1) + 1)) = true) (c4 : ¬ bt v5 (sN (y 1 (n - 1) + 1)) = true) : ∃ s, MD (vwX x w) t n v4 v5 (st2 y 1 (n - 1) (y 1 (n - 1) + 1)) s (y 1 (n - 1) + 1) := by
  obtain ⟨q1, q2⟩ := ld_CHk h e6 e7 c c2
  obtain ⟨h1, -⟩ := ld_s h c
  subst hv
  exact ⟨_, h.ask h1 q2 ((q1 _).mpr ⟨c3, rfl⟩) c4⟩
theorem ld_P4 (h : MD (vwX x w) t n v4 v5 y s v) (hv : v = -1) (e6 : n6 = uS y (n - 1)) (e7 : n7 = 12 * w + n6) (c : ¬ 11 ≤ y 1 (n - 1)) (c2 : 0 ≤ y 1 (n - 1) + 1) (c3 : ¬ bt (x 4 n7) (sN (y 1 (n - 1) + 1)) = true) : ∃ s, MD (vwX x w) t n v4 v5 (st2 y 1 (n - 1) (y 1 (n - 1) + 1)) s v := by
  obtain ⟨q1, q2⟩ := ld_CHk h e6 e7 c c2
  obtain ⟨h1, -⟩ := ld_s h c
  subst hv
  exact ⟨_, h.skip h1 (fun c hc => absurd ((q1 c).mp hc).1 c3)⟩
theorem ld_P7 (wf : WFT (vwX x w)) (h6 : n6 < 12) (h : MD (vwX x w) t n v4 v5 y s v) (hv : v = -1) (e6 : n6 = uS y (n - 1)) (e7 : n7 = 12 * w + n6) (c : ¬ 11 ≤ y 1 (n - 1)) (c2 : ¬ 0 ≤ y 1 (n - 1) + 1) (c3 : x 3 n7 < 0) : ∃ s, MD (vwX x w) t n v4 v5 (st2 y 1 (n - 1) (y 1 (n - 1) + 1)) s (x 3 n7) := by
  have q1 := ld_CHa h e6 e7 c c2
  obtain ⟨h1, -⟩ := ld_s h c
  have e : x 3 n7 = -1 := by
    rcases (wf.1 n6 h6).1 with e | e
    · rw [e7]; exact e
    · exact absurd c3 (isT_nn (by rw [e7]; exact e))
  rw [e]
  subst hv
  exact ⟨_, h.skip h1 (fun c hc => absurd e ((q1 c).mp hc).1)⟩
theorem ld_P8 (wf : WFT (vwX x w)) (h6 : n6 < 12) (h : MD (vwX x w) t n v4 v5 y s v) (hv : v = -1) (e6 : n6 = uS y (n - 1)) (e7 : n7 = 12 * w + n6) (c : ¬ 11 ≤ y 1 (n - 1)) (c2 : ¬ 0 ≤ y 1 (n - 1) + 1) (c3 : ¬ x 3 n7 < 0) (c4 : bt v5 (sN (x 3 n7)) = true) : ∃ s, MD (vwX x w) t n v4 v5 (st2 y 1 (n - 1) (y 1 (n - 1) + 1)) s (-1) := by
  have q1 := ld_CHa h e6 e7 c c2
  obtain ⟨h1, -⟩ := ld_s h c
  subst hv
  exact ⟨_, h.skip h1 (fun c hc => by rw [((q1 c).mp hc).2]; exact h.2.1.2.2.2.2 _ (ld_a wf h6 e7 c3) c4)⟩
theorem ld_P9 (wf : WFT (vwX x w)) (h6 : n6 < 12) (h : MD (vwX x w) t n v4 v5 y s v) (hv : v = -1) (e6 : n6 = uS y (n - 1)) (e7 : n7 = 12 * w + n6) (c : ¬ 11 ≤ y 1 (n - 1)) (c2 : ¬ 0 ≤ y 1 (n - 1) + 1) (c3 : ¬ x 3 n7 < 0) (c4 : ¬ bt v5 (sN (x 3 n7)) = true) : ∃ s, MD (vwX x w) t n v4 v5 (st2 y 1 (n - 1) (y 1 (n - 1) + 1)) s (x 3 n7) := by
  have q1 := ld_CHa h e6 e7 c c2
  obtain ⟨h1, -⟩ := ld_s h c
  subst hv
  exact ⟨_, h.ask h1 ⟨ld_a wf h6 e7 c3, nn_sN c3⟩ ((q1 _).mpr ⟨fun e => c3 (by rw [e]; decide), rfl⟩) c4⟩
end LDP

noncomputable def p_X5_loaded_202 (x : Nat → Nat → Int32) (w n : Nat) (t : Nat) (K23 : Int32 → Int32 → Nat → (Nat → Nat → Int32) → Int32 × (Nat → Nat → Int32)) (v8 : Int32) (n6 : Nat) (v5 : Int32) (v4 : Int32) (n3 : Nat) (y : (Nat → Nat → Int32)) : Int32 × (Nat → Nat → Int32) := if v8 < (0 : Int32) then (if (wrB (vwX x w) n6) = true then ((nI (64 * 3 + n6), y)) else (K23 (v5 ||| ((1 : Int32) <<< ((nI n6) &&& 31))) (v4 &&& (((1 : Int32) <<< ((nI n6) &&& 31)) ^^^ (-1 : Int32))) (n3 - 1) y)) else (K23 v5 v4 (n3 + 1) (st2 (st2 y 0 n3 v8) 1 n3 (-2 : Int32)))
noncomputable def p_X5_loaded_105 (x : Nat → Nat → Int32) (w n : Nat) (t : Nat) (K23 : Int32 → Int32 → Nat → (Nat → Nat → Int32) → Int32 × (Nat → Nat → Int32)) : Nat → Int32 → Nat → Nat → Int32 → Int32 → Nat → (Nat → Nat → Int32) → Int32 × (Nat → Nat → Int32)
  | 0, _, _, _, _, _, _, y => (0, y)
  | k + 1, v8, n7, n6, v5, v4, n3, y => if (0 : Int32) ≤ v8 then (p_X5_loaded_202 x w n t K23 v8 n6 v5 v4 n3 y) else (if (11 : Int32) ≤ (y 1 (n3 - 1)) then (p_X5_loaded_202 x w n t K23 v8 n6 v5 v4 n3 y) else (if (0 : Int32) ≤ (y 1 (n3 - 1) + 1) then (if (bt (x 4 n7) (sN (y 1 (n3 - 1) + 1))) = true then (if (y 1 (n3 - 1) + 1) < (0 : Int32) then (p_X5_loaded_105 x w n t K23 k (y 1 (n3 - 1) + 1) n7 n6 v5 v4 n3 (st2 y 1 (n3 - 1) ((y 1 (n3 - 1)) + (1 : Int32)))) else (if (bt v5 (sN (y 1 (n3 - 1) + 1))) = true then (p_X5_loaded_105 x w n t K23 k (-1 : Int32) n7 n6 v5 v4 n3 (st2 y 1 (n3 - 1) ((y 1 (n3 - 1)) + (1 : Int32)))) else (p_X5_loaded_105 x w n t K23 k (y 1 (n3 - 1) + 1) n7 n6 v5 v4 n3 (st2 y 1 (n3 - 1) ((y 1 (n3 - 1)) + (1 : Int32)))))) else (if v8 < (0 : Int32) then (p_X5_loaded_105 x w n t K23 k v8 n7 n6 v5 v4 n3 (st2 y 1 (n3 - 1) ((y 1 (n3 - 1)) + (1 : Int32)))) else (if (bt v5 (sN v8)) = true then (p_X5_loaded_105 x w n t K23 k (-1 : Int32) n7 n6 v5 v4 n3 (st2 y 1 (n3 - 1) ((y 1 (n3 - 1)) + (1 : Int32)))) else (p_X5_loaded_105 x w n t K23 k v8 n7 n6 v5 v4 n3 (st2 y 1 (n3 - 1) ((y 1 (n3 - 1)) + (1 : Int32))))))) else (if (x 3 n7) < (0 : Int32) then (p_X5_loaded_105 x w n t K23 k (x 3 n7) n7 n6 v5 v4 n3 (st2 y 1 (n3 - 1) ((y 1 (n3 - 1)) + (1 : Int32)))) else (if (bt v5 (sN (x 3 n7))) = true then (p_X5_loaded_105 x w n t K23 k (-1 : Int32) n7 n6 v5 v4 n3 (st2 y 1 (n3 - 1) ((y 1 (n3 - 1)) + (1 : Int32)))) else (p_X5_loaded_105 x w n t K23 k (x 3 n7) n7 n6 v5 v4 n3 (st2 y 1 (n3 - 1) ((y 1 (n3 - 1)) + (1 : Int32))))))))
noncomputable def p_X5_loaded_23 (x : Nat → Nat → Int32) (w n : Nat) (t : Nat) : Nat → Int32 → Int32 → Nat → (Nat → Nat → Int32) → Int32 × (Nat → Nat → Int32)
  | 0, _, _, _, y => (0, y)
  | k + 1, v5, v4, n3, y => if n3 ≤ 0 then ((nI (64 * 0 + t), y)) else (if (y 1 (n3 - 1)) = (-2 : Int32) then (if (x 0 ((12 * w) + (uS y (n3 - 1)))) = (0 : Int32) then ((nI (64 * 1 + (uS y (n3 - 1))), y)) else (if (bt v4 (uS y (n3 - 1))) = true then ((nI (64 * 2 + (uS y (n3 - 1))), y)) else (p_X5_loaded_105 x w n t (fun v5 v4 n3 y => p_X5_loaded_23 x w n t k v5 v4 n3 y) 14 (-1 : Int32) ((12 * w) + (uS y (n3 - 1))) (uS y (n3 - 1)) v5 (v4 ||| ((1 : Int32) <<< ((nI (uS y (n3 - 1))) &&& 31))) n3 y))) else (p_X5_loaded_105 x w n t (fun v5 v4 n3 y => p_X5_loaded_23 x w n t k v5 v4 n3 y) 14 (-1 : Int32) ((12 * w) + (uS y (n3 - 1))) (uS y (n3 - 1)) v5 v4 n3 y))
noncomputable def p_X5_loaded (x : Nat → Nat → Int32) (w n : Nat) (t : Nat) (y : (Nat → Nat → Int32)) : Int32 × (Nat → Nat → Int32) := p_X5_loaded_23 x w n t 40 (0 : Int32) (0 : Int32) 1 (st2 (st2 y 0 0 (nI t)) 1 0 (-2 : Int32))
set_option maxHeartbeats 4000000 in
set_option maxRecDepth 100000 in
theorem c_X5_loaded (l : Launch) (D : va_G) (cI cZ cB cR : ClassId) (a : Nat → Nat) (x y : Nat → Nat → Int32) (w n : Nat) (t : Nat) (hw : w < 2) (wx : WX x w n) (hnt : t < 12)  : MUi l yX5_loaded wsX5_loaded ({ frames := 2, cells := 0, slots := 0, locals := 46 } : Room) D cI cZ cB cR (wX cI cZ a x (y 0) (y 1)) [.ref (a 0), .int (nI w), .int (nI t)] (fun (_ : Unit) => wX cI cZ a x (((p_X5_loaded x w n t y).2) 0) (((p_X5_loaded x w n t y).2) 1)) (fun r _ => r = (p_X5_loaded x w n t y).1) := by
  generalize hE : p_X5_loaded x w n t y = tgt
  intro sz
  refine Met.ofW (cc := cX5_loaded) (maxL := 10) (ret := (some .int)) (by decide) rfl ?_
  intro p e s m args below meth c s₁ B hml hv
  obtain ⟨hargs, hsz, hP, hEV, hD0⟩ := hv
  have hx := B.exec
  have hb := B.bytes
  have hr := B.returns
  have hts := atoms_spec (ws := wsX5_loaded) B.pre
  have hown : s.vm.findClass RX5 = some m.cls := findClass_of_methodNamed B.named
  have hlocks := B.notSynchronized
  have hK := hEV.1
  have hl := lv_entry ([.ref (a 0), .int (nI w), .int (nI t)]) (n := 10) (Nat.le_of_ble_eq_true rfl)
  rw [show entryFrame m args 10 = entryFrame m ([.ref (a 0), .int (nI w), .int (nI t)] : List Value).toArray 10 from by rw [hargs], lg_entry_eq]
  generalize (lg_sl ([.ref (a 0), .int (nI w), .int (nI t)]) ++ List.replicate (10 - (lg_sl ([.ref (a 0), .int (nI w), .int (nI t)])).length) Slot.unset).toArray = ls at hl ⊢
  have hl : lv_has ls 10 [(0, .ref (a 0)), (1, .int (nI w)), (2, .int (nI t))] := hl
  subst hsz
  have hD := hD0.self (sz := s.heap.size)
  generalize hAe : va_A (wX cI cZ a x (y 0) (y 1)) s.heap.size = A at hD ⊢
  have hA : ∀ q : Nat, s.heap.size ≤ q → A q := fun q h9 => by rw [← hAe]; exact Or.inr h9
  have hS : va_S A s.heap s.heap [] := va_S.rf
  rw [p_X5_loaded] at hE
  have hn30 := wx.2.2.1
  have key_23 : ∀ (k_23 : Nat) (v5 : Int32) (v4 : Int32) (n3 : Nat) (y : (Nat → Nat → Int32)) (ls : Array Slot) (H : Heap) (locs : List Loc) (hP : va_P D vwCl (wX cI cZ a x (y 0) (y 1)) H) (hD : va_D A (wX cI cZ a x (y 0) (y 1))) (hS : va_S A s.heap H locs), (2 * cN v5 + (13 - n3)) < k_23 → IV (vwX x w) t n3 v4 v5 y → lv_has ls 10 [(5, .int v5), (4, .int v4), (3, .int (nI n3)), (0, .ref (a 0)), (1, .int (nI w)), (2, .int (nI t))] → p_X5_loaded_23 x w n t k_23 v5 v4 n3 y = tgt → W p l e (headSpec wsX5_loaded ({ frames := 2, cells := 0, slots := 0, locals := 46 } : Room)).room s m args below meth c H locs 0 0 (MQ below (va_Qi (fun r (_ : Unit) => r = tgt.1) (fun _ t => va_P D vwCl (wX cI cZ a x (tgt.2 0) (tgt.2 1)) t.heap) A) args s 0 0 A) (F0 m 23 ls []) := by
    intro k_23
    induction k_23 with
    | zero => intro v5 v4 n3 y ls H locs hP hD hS hm; exact absurd hm (Nat.not_lt_zero _)
    | succ k_23 ih_23 =>
      have key_202 : ∀ (v8 : Int32) (n6 : Nat) (v5 : Int32) (v4 : Int32) (n3 : Nat) (y : (Nat → Nat → Int32)) (ls : Array Slot) (H : Heap) (locs : List Loc) (hP : va_P D vwCl (wX cI cZ a x (y 0) (y 1)) H) (hD : va_D A (wX cI cZ a x (y 0) (y 1))) (hS : va_S A s.heap H locs), (∃ s9, MD (vwX x w) t n3 v4 v5 y s9 v8 ∧ (v8 < 0 → s9 = 13)) → n6 = uS y (n3 - 1) → (2 * cN v5 + (13 - n3)) < k_23 + 1 → lv_has ls 10 [(8, .int v8), (6, .int (nI n6)), (5, .int v5), (4, .int v4), (3, .int (nI n3)), (0, .ref (a 0)), (1, .int (nI w)), (2, .int (nI t))] → p_X5_loaded_202 x w n t (fun v5 v4 n3 y => p_X5_loaded_23 x w n t k_23 v5 v4 n3 y) v8 n6 v5 v4 n3 y = tgt → W p l e (headSpec wsX5_loaded ({ frames := 2, cells := 0, slots := 0, locals := 46 } : Room)).room s m args below meth c H locs 0 0 (MQ below (va_Qi (fun r (_ : Unit) => r = tgt.1) (fun _ t => va_P D vwCl (wX cI cZ a x (tgt.2 0) (tgt.2 1)) t.heap) A) args s 0 0 A) (F0 m 202 ls []) := by
        intro v8 n6 v5 v4 n3 y ls H locs hP hD hS hi_202_0 hi_202_1 hi_202_2 hl hE
        rw [p_X5_loaded_202] at hE
        obtain ⟨s9, hM9, hs9⟩ := hi_202_0
        have hn9 := hM9.le
        have h0_9 := hM9.1
        have hu9 : n6 < 12 := by rw [hi_202_1]; exact (hM9.2.1.2.1 (n3 - 1) (by omega)).1
        refine lv_iload hx hb dX5_loaded_202 (lv_at hl 0 rfl) ?_
        refine lv_if_lt (tgt := 229) hx hb dX5_loaded_204 (by decide) (fun c_204 => ?_) (fun c_204 => ?_)
        · skip
          have hE := (if_pos c_204).symm.trans hE
          refine lv_aload_n hx hb dX5_loaded_229 rfl (lv_at hl 5 rfl) ?_
          refine lv_iload_n hx hb dX5_loaded_230 rfl (lv_at hl 6 rfl) ?_
          refine lv_iload hx hb dX5_loaded_231 (lv_at hl 1 rfl) ?_
          refine ro_V [.int (nI w), .int (nI n6)] [] ⟨hx, hb, hml, hown, hts⟩ (c_X5_isChanged l D cI cZ cB cR a x (y 0) (y 1) w n n6 (by omega) wx (by omega) ) (cwV (C := RX5) 2 hts (goodP (ps := [.methodLink RX5 101 yX5_isChanged, .instanceMethod yX5_isChanged, .selects RX5 yX5_isChanged yX5_isChanged, .initialized RX5]) (all4 mw_3_204 mw_3_206 ms_30 mw_1_6) mw_3_207) rfl rfl rfl (by decide +kernel) ⟨Nat.le_of_ble_eq_true rfl, Nat.le_of_ble_eq_true rfl⟩) hEV hP 0 rfl rfl rfl hl.1 rfl (Nat.le_of_ble_eq_true rfl) dX5_loaded_233 ⟨Nat.zero_le _, Nat.zero_le _⟩ ?_
          refine lv_if_eq (tgt := 246) hx hb dX5_loaded_236 (by decide) (fun c_236 => ?_) (fun c_236 => ?_)
          · have c_236 : ¬ ((wrB (vwX x w) n6) = true) := b2i_f c_236
            have hE := (if_neg c_236).symm.trans hE
            refine lv_iload hx hb dX5_loaded_246 (lv_at hl 3 rfl) ?_
            refine lv_iconst (v := (1 : Int32)) hx hb dX5_loaded_248 (by decide) ?_
            refine lv_iload hx hb dX5_loaded_249 (lv_at hl 1 rfl) ?_
            refine lv_ishl hx hb dX5_loaded_251 ?_
            refine lv_iconst (v := (-1 : Int32)) hx hb dX5_loaded_252 (by decide) ?_
            refine lv_ixor hx hb dX5_loaded_253 ?_
            refine lv_iand hx hb dX5_loaded_254 ?_
            refine lv_istore (lv' := [(4, .int (v4 &&& (((1 : Int32) <<< ((nI n6) &&& 31)) ^^^ (-1 : Int32)))), (8, .int v8), (6, .int (nI n6)), (5, .int v5), (3, .int (nI n3)), (0, .ref (a 0)), (1, .int (nI w)), (2, .int (nI t))]) hx hb dX5_loaded_255 hl (by decide) rfl (fun ls hl => ?_)
            refine lv_iload hx hb dX5_loaded_257 (lv_at hl 3 rfl) ?_
            refine lv_iconst (v := (1 : Int32)) hx hb dX5_loaded_259 (by decide) ?_
            refine lv_iload hx hb dX5_loaded_260 (lv_at hl 2 rfl) ?_
            refine lv_ishl hx hb dX5_loaded_262 ?_
            refine lv_ior hx hb dX5_loaded_263 ?_
            refine lv_istore (lv' := [(5, .int (v5 ||| ((1 : Int32) <<< ((nI n6) &&& 31)))), (4, .int (v4 &&& (((1 : Int32) <<< ((nI n6) &&& 31)) ^^^ (-1 : Int32)))), (8, .int v8), (6, .int (nI n6)), (3, .int (nI n3)), (0, .ref (a 0)), (1, .int (nI w)), (2, .int (nI t))]) hx hb dX5_loaded_264 hl (by decide) rfl (fun ls hl => ?_)
            refine lv_iinc (v := nI (n3 - 1)) (lv' := [(3, .int (nI (n3 - 1))), (5, .int (v5 ||| ((1 : Int32) <<< ((nI n6) &&& 31)))), (4, .int (v4 &&& (((1 : Int32) <<< ((nI n6) &&& 31)) ^^^ (-1 : Int32)))), (8, .int v8), (6, .int (nI n6)), (0, .ref (a 0)), (1, .int (nI w)), (2, .int (nI t))]) hx hb dX5_loaded_266 hl (k := 4) rfl (pk_dec (by omega)) (by decide) rfl (fun ls hl => ?_)
            refine lv_goto (tgt := 23) hx hb dX5_loaded_269 (by decide) ?_
            exact ih_23 (v5 ||| ((1 : Int32) <<< ((nI n6) &&& 31))) (v4 &&& (((1 : Int32) <<< ((nI n6) &&& 31)) ^^^ (-1 : Int32))) (n3 - 1) y ls _ _ hP hD hS (by first | (rw [cN_0]; omega) | omega | exact ld_pm hM9 hs9 c_204 hnt hi_202_1 c_236 hi_202_2) (by first | exact IV.init hnt y | exact hM9.push c_204 | (rw [hi_202_1]; exact (MD.pop (ld_13 hM9 hs9 c_204) hnt (by rw [← hi_202_1]; exact c_236)).1)) (lv_sub hl [1, 2, 0, 5, 6, 7] rfl) hE
          · have c_236 : (wrB (vwX x w) n6) = true := b2i_t c_236
            have hE := (if_pos c_236).symm.trans hE
            refine lv_iconst (v := (3 : Int32)) hx hb dX5_loaded_239 (by decide) ?_
            refine lv_iload hx hb dX5_loaded_240 (lv_at hl 1 rfl) ?_
            refine ro_S [.int (3 : Int32), .int (nI n6)] [] ⟨hx, hb, hml, hown, hts⟩ (c_X5_verdict l D cI cZ cB cR 3 n6 (by omega) (by omega)) (va_cwS 2 hts (goodP (ps := [.methodLink RX5 97 yX5_verdict, .static yX5_verdict, .initialized RX5]) (all3 mw_3_198 mw_3_199 mw_1_6) mw_3_200) rfl rfl rfl (by decide +kernel) ⟨Nat.le_of_ble_eq_true rfl, Nat.le_of_ble_eq_true rfl⟩) hEV va_P0 rfl hl.1 rfl (Nat.le_of_ble_eq_true rfl) dX5_loaded_242 ⟨Nat.zero_le _, Nat.zero_le _⟩ ?_
            exact W.iret hx hb hr (fun t9 ht9 _ => ⟨⟨_, (), rfl, congrArg Prod.fst hE, by show va_P D vwCl _ t9.heap; rw [ht9, ← congrArg Prod.snd hE]; exact hP⟩, hS.F ht9⟩) hS.2.2 dX5_loaded_245
        · skip
          have hE := (if_neg c_204).symm.trans hE
          refine lv_aload_n hx hb dX5_loaded_207 rfl (lv_at hl 5 rfl) ?_
          refine va_get (D := D) (ci := 5) (v := .ref (a 18)) (C := RX5) (T := TX5) (N := 21) hx hb hts (fun w9 h9 => List.mem_cons_of_mem _ (inT_X5 w9 h9)) hown hK hP 0 rfl rfl 19 (by decide) (hts (.fieldLink RX5 62 "LinkPredictorModel" "row" "[I") (List.mem_cons_of_mem _ mw_3_85)) (fun _ h9 => h9) rfl dX5_loaded_208 ?_
          refine lv_iload_n hx hb dX5_loaded_211 rfl (lv_at hl 4 rfl) ?_
          refine lv_iload hx hb dX5_loaded_212 (lv_at hl 0 rfl) ?_
          refine mu_ast hx hb hEV hP hD hS 18 (j := n3) (v := v8) (w2 := wX cI cZ a x ((st2 y 0 n3 v8) 0) ((st2 y 0 n3 v8) 1)) rfl (by omega) (by decide) rfl dX5_loaded_214 (fun H locs hP hD hS => ?_)
          refine lv_aload_n hx hb dX5_loaded_215 rfl (lv_at hl 5 rfl) ?_
          refine va_get (D := D) (ci := 5) (v := .ref (a 19)) (C := RX5) (T := TX5) (N := 21) hx hb hts (fun w9 h9 => List.mem_cons_of_mem _ (inT_X5 w9 h9)) hown hK hP 0 rfl rfl 20 (by decide) (hts (.fieldLink RX5 65 "LinkPredictorModel" "stage" "[I") (List.mem_cons_of_mem _ mw_3_86)) (fun _ h9 => h9) rfl dX5_loaded_216 ?_
          refine lv_iload_n hx hb dX5_loaded_219 rfl (lv_at hl 4 rfl) ?_
          refine lv_bipush (v := (-2 : Int32)) hx hb dX5_loaded_220 (by decide) ?_
          refine mu_ast hx hb hEV hP hD hS 19 (j := n3) (v := (-2 : Int32)) (w2 := wX cI cZ a x ((st2 (st2 y 0 n3 v8) 1 n3 (-2 : Int32)) 0) ((st2 (st2 y 0 n3 v8) 1 n3 (-2 : Int32)) 1)) rfl (by omega) (by decide) rfl dX5_loaded_222 (fun H locs hP hD hS => ?_)
          refine lv_iinc (v := nI (n3 + 1)) (lv' := [(3, .int (nI (n3 + 1))), (8, .int v8), (6, .int (nI n6)), (5, .int v5), (4, .int v4), (0, .ref (a 0)), (1, .int (nI w)), (2, .int (nI t))]) hx hb dX5_loaded_223 hl (k := 4) rfl (nI_1 _) (by decide) rfl (fun ls hl => ?_)
          refine lv_goto (tgt := 23) hx hb dX5_loaded_226 (by decide) ?_
          exact ih_23 v5 v4 (n3 + 1) (st2 (st2 y 0 n3 v8) 1 n3 (-2 : Int32)) ls _ _ hP hD hS (by first | (rw [cN_0]; omega) | omega | exact ld_pm hM9 hs9 c_204 hnt hi_202_1 c_236 hi_202_2) (by first | exact IV.init hnt y | exact hM9.push c_204 | (rw [hi_202_1]; exact (MD.pop (ld_13 hM9 hs9 c_204) hnt (by rw [← hi_202_1]; exact c_236)).1)) (lv_sub hl [3, 4, 0, 5, 6, 7] rfl) hE
      have key_105 : ∀ (k_105 : Nat) (v8 : Int32) (n7 : Nat) (n6 : Nat) (v5 : Int32) (v4 : Int32) (n3 : Nat) (y : (Nat → Nat → Int32)) (ls : Array Slot) (H : Heap) (locs : List Loc) (hP : va_P D vwCl (wX cI cZ a x (y 0) (y 1)) H) (hD : va_D A (wX cI cZ a x (y 0) (y 1))) (hS : va_S A s.heap H locs), (mS y n3) < k_105 → (∃ s9, MD (vwX x w) t n3 v4 v5 y s9 v8) → n6 = uS y (n3 - 1) → n7 = 12 * w + n6 → (2 * cN v5 + (13 - n3)) < k_23 + 1 → lv_has ls 10 [(8, .int v8), (7, .int (nI n7)), (6, .int (nI n6)), (5, .int v5), (4, .int v4), (3, .int (nI n3)), (0, .ref (a 0)), (1, .int (nI w)), (2, .int (nI t))] → p_X5_loaded_105 x w n t (fun v5 v4 n3 y => p_X5_loaded_23 x w n t k_23 v5 v4 n3 y) k_105 v8 n7 n6 v5 v4 n3 y = tgt → W p l e (headSpec wsX5_loaded ({ frames := 2, cells := 0, slots := 0, locals := 46 } : Room)).room s m args below meth c H locs 0 0 (MQ below (va_Qi (fun r (_ : Unit) => r = tgt.1) (fun _ t => va_P D vwCl (wX cI cZ a x (tgt.2 0) (tgt.2 1)) t.heap) A) args s 0 0 A) (F0 m 105 ls []) := by
        intro k_105
        induction k_105 with
        | zero => intro v8 n7 n6 v5 v4 n3 y ls H locs hP hD hS hm; exact absurd hm (Nat.not_lt_zero _)
        | succ k_105 ih_105 =>
          intro v8 n7 n6 v5 v4 n3 y ls H locs hP hD hS hm_105 hi_105_0 hi_105_1 hi_105_2 hi_105_3 hl hE
          rw [p_X5_loaded_105] at hE
          refine lv_iload hx hb dX5_loaded_105 (lv_at hl 0 rfl) ?_
          refine lv_if_ge (tgt := 202) hx hb dX5_loaded_107 (by decide) (fun c_107 => ?_) (fun c_107 => ?_)
          · skip
            have hE := (if_pos c_107).symm.trans hE
            exact key_202 v8 n6 v5 v4 n3 y ls _ _ hP hD hS (by first | exact hi_105_1 | exact hi_105_3 | exact ld_e1 hi_105_0 c_107 | exact ld_e2 hM9 c_120) (by first | exact hi_105_1 | exact hi_105_3 | exact ld_e1 hi_105_0 c_107 | exact ld_e2 hM9 c_120) (by first | exact hi_105_1 | exact hi_105_3 | exact ld_e1 hi_105_0 c_107 | exact ld_e2 hM9 c_120) (lv_sub hl [0, 2, 3, 4, 5, 6, 7, 8] rfl) hE
          · skip
            have hE := (if_neg c_107).symm.trans hE
            obtain ⟨s9, hM9⟩ := hi_105_0
            have hn9 := hM9.le
            have h0_9 := hM9.1
            have hs9 := hM9.2.2.2.2.2.1
            have h1_9 := hM9.2.2.2.2.2.2.1
            have hu9 : n6 < 12 := by rw [hi_105_1]; exact (hM9.2.1.2.1 (n3 - 1) (by omega)).1
            have hv9 := MD.m1 hM9 c_107
            refine lv_aload_n hx hb dX5_loaded_110 rfl (lv_at hl 6 rfl) ?_
            refine va_get (D := D) (ci := 5) (v := .ref (a 19)) (C := RX5) (T := TX5) (N := 21) hx hb hts (fun w9 h9 => List.mem_cons_of_mem _ (inT_X5 w9 h9)) hown hK hP 0 rfl rfl 20 (by decide) (hts (.fieldLink RX5 65 "LinkPredictorModel" "stage" "[I") (List.mem_cons_of_mem _ mw_3_86)) (fun _ h9 => h9) rfl dX5_loaded_111 ?_
            refine lv_iload_n hx hb dX5_loaded_114 rfl (lv_at hl 5 rfl) ?_
            refine lv_iconst (v := (1 : Int32)) hx hb dX5_loaded_115 (by decide) ?_
            refine lv_isub hx hb dX5_loaded_116 ?_
            refine top_eq (pk_sub (a := n3) (b := 1) (by omega)) ?_
            refine ro_ald hx hb hEV hP 19 (j := (n3 - 1)) rfl (by omega) (by decide) dX5_loaded_117 ?_
            refine lv_bipush (v := (11 : Int32)) hx hb dX5_loaded_118 (by decide) ?_
            refine lv_icmp_ge (tgt := 202) hx hb dX5_loaded_120 (by decide) (fun c_120 => ?_) (fun c_120 => ?_)
            · skip
              have hE := (if_pos c_120).symm.trans hE
              exact key_202 v8 n6 v5 v4 n3 y ls _ _ hP hD hS (by first | exact hi_105_1 | exact hi_105_3 | exact ld_e1 hi_105_0 c_107 | exact ld_e2 hM9 c_120) (by first | exact hi_105_1 | exact hi_105_3 | exact ld_e1 hi_105_0 c_107 | exact ld_e2 hM9 c_120) (by first | exact hi_105_1 | exact hi_105_3 | exact ld_e1 hi_105_0 c_107 | exact ld_e2 hM9 c_120) (lv_sub hl [0, 2, 3, 4, 5, 6, 7, 8] rfl) hE
            · skip
              have hE := (if_neg c_120).symm.trans hE
              refine lv_aload_n hx hb dX5_loaded_123 rfl (lv_at hl 6 rfl) ?_
              refine va_get (D := D) (ci := 5) (v := .ref (a 19)) (C := RX5) (T := TX5) (N := 21) hx hb hts (fun w9 h9 => List.mem_cons_of_mem _ (inT_X5 w9 h9)) hown hK hP 0 rfl rfl 20 (by decide) (hts (.fieldLink RX5 65 "LinkPredictorModel" "stage" "[I") (List.mem_cons_of_mem _ mw_3_86)) (fun _ h9 => h9) rfl dX5_loaded_124 ?_
              refine lv_iload_n hx hb dX5_loaded_127 rfl (lv_at hl 5 rfl) ?_
              refine lv_iconst (v := (1 : Int32)) hx hb dX5_loaded_128 (by decide) ?_
              refine lv_isub hx hb dX5_loaded_129 ?_
              refine top_eq (pk_sub (a := n3) (b := 1) (by omega)) ?_
              refine lv_dup2_11 hx hb dX5_loaded_130 rfl rfl ?_
              refine ro_ald hx hb hEV hP 19 (j := (n3 - 1)) rfl (by omega) (by decide) dX5_loaded_131 ?_
              refine lv_iconst (v := (1 : Int32)) hx hb dX5_loaded_132 (by decide) ?_
              refine lv_iadd hx hb dX5_loaded_133 ?_
              refine mu_ast hx hb hEV hP hD hS 19 (j := (n3 - 1)) (v := (y 1 (n3 - 1)) + (1 : Int32)) (w2 := wX cI cZ a x ((st2 y 1 (n3 - 1) ((y 1 (n3 - 1)) + (1 : Int32))) 0) ((st2 y 1 (n3 - 1) ((y 1 (n3 - 1)) + (1 : Int32))) 1)) rfl (by omega) (by decide) rfl dX5_loaded_134 (fun H locs hP hD hS => ?_)
              refine lv_aload_n hx hb dX5_loaded_135 rfl (lv_at hl 6 rfl) ?_
              refine va_get (D := D) (ci := 5) (v := .ref (a 19)) (C := RX5) (T := TX5) (N := 21) hx hb hts (fun w9 h9 => List.mem_cons_of_mem _ (inT_X5 w9 h9)) hown hK hP 0 rfl rfl 20 (by decide) (hts (.fieldLink RX5 65 "LinkPredictorModel" "stage" "[I") (List.mem_cons_of_mem _ mw_3_86)) (fun _ h9 => h9) rfl dX5_loaded_136 ?_
              refine lv_iload_n hx hb dX5_loaded_139 rfl (lv_at hl 5 rfl) ?_
              refine lv_iconst (v := (1 : Int32)) hx hb dX5_loaded_140 (by decide) ?_
              refine lv_isub hx hb dX5_loaded_141 ?_
              refine top_eq (pk_sub (a := n3) (b := 1) (by omega)) ?_
              refine ro_ald hx hb hEV hP 19 (j := (n3 - 1)) rfl (by omega) (by decide) dX5_loaded_142 ?_
              refine top_eq (st2_kk) ?_
              refine lv_istore (lv' := [(9, .int (y 1 (n3 - 1) + 1)), (8, .int v8), (7, .int (nI n7)), (6, .int (nI n6)), (5, .int v5), (4, .int v4), (3, .int (nI n3)), (0, .ref (a 0)), (1, .int (nI w)), (2, .int (nI t))]) hx hb dX5_loaded_143 hl (by decide) rfl (fun ls hl => ?_)
              refine lv_iload hx hb dX5_loaded_145 (lv_at hl 0 rfl) ?_
              refine lv_if_ge (tgt := 162) hx hb dX5_loaded_147 (by decide) (fun c_147 => ?_) (fun c_147 => ?_)
              · skip
                have hE := (if_pos c_147).symm.trans hE
                have hk9 : sN (y 1 (n3 - 1) + 1) < 12 := ld_k hs9 h1_9 c_120 c_147
                refine lv_aload_n hx hb dX5_loaded_162 rfl (lv_at hl 7 rfl) ?_
                refine va_get (D := D) (ci := 5) (v := .ref (a 5)) (C := RX5) (T := TX5) (N := 21) hx hb hts (fun w9 h9 => List.mem_cons_of_mem _ (inT_X5 w9 h9)) hown hK hP 0 rfl rfl 4 (by decide) (hts (.fieldLink RX5 23 "LinkPredictorModel" "faces" "[I") (List.mem_cons_of_mem _ mw_3_70)) (fun _ h9 => h9) rfl dX5_loaded_163 ?_
                refine lv_iload hx hb dX5_loaded_166 (lv_at hl 2 rfl) ?_
                refine ro_ald hx hb hEV hP 5 (j := n7) rfl (by omega) (by decide) dX5_loaded_168 ?_
                refine lv_iload hx hb dX5_loaded_169 (lv_at hl 0 rfl) ?_
                refine top_eq (nn_sN (Int32.not_lt.mpr c_147)) ?_
                refine ro_S [.int (x 4 n7), .int (nI (sN (y 1 (n3 - 1) + 1)))] [] ⟨hx, hb, hml, hown, hts⟩ (c_X5_has l D cI cZ cB cR (x 4 n7) (sN (y 1 (n3 - 1) + 1)) (by omega)) (va_cwS 2 hts (goodP (ps := [.methodLink RX5 94 yX5_has, .static yX5_has, .initialized RX5]) (all3 mw_3_201 mw_3_202 mw_1_6) mw_3_203) rfl rfl rfl (by decide +kernel) ⟨Nat.le_of_ble_eq_true rfl, Nat.le_of_ble_eq_true rfl⟩) hEV va_P0 rfl hl.1 rfl (Nat.le_of_ble_eq_true rfl) dX5_loaded_171 ⟨Nat.zero_le _, Nat.zero_le _⟩ ?_
                refine lv_if_eq (tgt := 181) hx hb dX5_loaded_174 (by decide) (fun c_174 => ?_) (fun c_174 => ?_)
                · have c_174 : ¬ ((bt (x 4 n7) (sN (y 1 (n3 - 1) + 1))) = true) := b2i_f c_174
                  have hE := (if_neg c_174).symm.trans hE
                  refine lv_iload hx hb dX5_loaded_181 (lv_at hl 1 rfl) ?_
                  refine lv_if_lt (tgt := 199) hx hb dX5_loaded_183 (by decide) (fun c_183 => ?_) (fun c_183 => ?_)
                  · skip
                    have hE := (if_pos c_183).symm.trans hE
                    refine lv_goto (tgt := 105) hx hb dX5_loaded_199 (by decide) ?_
                    exact ih_105 v8 n7 n6 v5 v4 n3 (st2 y 1 (n3 - 1) ((y 1 (n3 - 1)) + (1 : Int32))) ls _ _ hP hD hS (by first | (unfold mS; omega) | exact ld_ms hM9 c_120 hm_105) (by first | exact hm_23 | rfl | exact hi_105_1 | exact hi_105_2 | exact hi_105_3 | exact ⟨0, hi_23_0.mid0 (by omega) c_56 (ld_th c_66) c_83⟩ | exact hi_23_0.mid1 (by omega) c_56 | exact ld_P2 hM9 hv9 hi_105_1 hi_105_2 c_120 c_147 c_193 | exact ld_P3 hM9 hv9 hi_105_1 hi_105_2 c_120 c_147 c_174 c_193 | exact ld_P4 hM9 hv9 hi_105_1 hi_105_2 c_120 c_147 c_174 | exact ld_P7 wx.1 hu9 hM9 hv9 hi_105_1 hi_105_2 c_120 c_147 c_183 | exact ld_P8 wx.1 hu9 hM9 hv9 hi_105_1 hi_105_2 c_120 c_147 c_183 c_193 | exact ld_P9 wx.1 hu9 hM9 hv9 hi_105_1 hi_105_2 c_120 c_147 c_183 c_193 | exact absurd c_183 (Int32.not_lt.mpr c_147) | exact absurd (Int32.not_lt.mp c_183) c_107) (by first | exact hm_23 | rfl | exact hi_105_1 | exact hi_105_2 | exact hi_105_3 | exact ⟨0, hi_23_0.mid0 (by omega) c_56 (ld_th c_66) c_83⟩ | exact hi_23_0.mid1 (by omega) c_56 | exact ld_P2 hM9 hv9 hi_105_1 hi_105_2 c_120 c_147 c_193 | exact ld_P3 hM9 hv9 hi_105_1 hi_105_2 c_120 c_147 c_174 c_193 | exact ld_P4 hM9 hv9 hi_105_1 hi_105_2 c_120 c_147 c_174 | exact ld_P7 wx.1 hu9 hM9 hv9 hi_105_1 hi_105_2 c_120 c_147 c_183 | exact ld_P8 wx.1 hu9 hM9 hv9 hi_105_1 hi_105_2 c_120 c_147 c_183 c_193 | exact ld_P9 wx.1 hu9 hM9 hv9 hi_105_1 hi_105_2 c_120 c_147 c_183 c_193 | exact absurd c_183 (Int32.not_lt.mpr c_147) | exact absurd (Int32.not_lt.mp c_183) c_107) (by first | exact hm_23 | rfl | exact hi_105_1 | exact hi_105_2 | exact hi_105_3 | exact ⟨0, hi_23_0.mid0 (by omega) c_56 (ld_th c_66) c_83⟩ | exact hi_23_0.mid1 (by omega) c_56 | exact ld_P2 hM9 hv9 hi_105_1 hi_105_2 c_120 c_147 c_193 | exact ld_P3 hM9 hv9 hi_105_1 hi_105_2 c_120 c_147 c_174 c_193 | exact ld_P4 hM9 hv9 hi_105_1 hi_105_2 c_120 c_147 c_174 | exact ld_P7 wx.1 hu9 hM9 hv9 hi_105_1 hi_105_2 c_120 c_147 c_183 | exact ld_P8 wx.1 hu9 hM9 hv9 hi_105_1 hi_105_2 c_120 c_147 c_183 c_193 | exact ld_P9 wx.1 hu9 hM9 hv9 hi_105_1 hi_105_2 c_120 c_147 c_183 c_193 | exact absurd c_183 (Int32.not_lt.mpr c_147) | exact absurd (Int32.not_lt.mp c_183) c_107) (by first | exact hm_23 | rfl | exact hi_105_1 | exact hi_105_2 | exact hi_105_3 | exact ⟨0, hi_23_0.mid0 (by omega) c_56 (ld_th c_66) c_83⟩ | exact hi_23_0.mid1 (by omega) c_56 | exact ld_P2 hM9 hv9 hi_105_1 hi_105_2 c_120 c_147 c_193 | exact ld_P3 hM9 hv9 hi_105_1 hi_105_2 c_120 c_147 c_174 c_193 | exact ld_P4 hM9 hv9 hi_105_1 hi_105_2 c_120 c_147 c_174 | exact ld_P7 wx.1 hu9 hM9 hv9 hi_105_1 hi_105_2 c_120 c_147 c_183 | exact ld_P8 wx.1 hu9 hM9 hv9 hi_105_1 hi_105_2 c_120 c_147 c_183 c_193 | exact ld_P9 wx.1 hu9 hM9 hv9 hi_105_1 hi_105_2 c_120 c_147 c_183 c_193 | exact absurd c_183 (Int32.not_lt.mpr c_147) | exact absurd (Int32.not_lt.mp c_183) c_107) (lv_sub hl [1, 2, 3, 4, 5, 6, 7, 8, 9] rfl) hE
                  · skip
                    have hE := (if_neg c_183).symm.trans hE
                    have hx9 : sN v8 < 12 := by first | exact ld_k hs9 h1_9 c_120 c_147 | exact ld_a wx.1 hu9 hi_105_2 c_183 | exact absurd (Int32.not_lt.mp c_183) c_107
                    refine lv_iload hx hb dX5_loaded_186 (lv_at hl 4 rfl) ?_
                    refine lv_iload hx hb dX5_loaded_188 (lv_at hl 1 rfl) ?_
                    refine top_eq (nn_sN c_183) ?_
                    refine ro_S [.int v5, .int (nI (sN v8))] [] ⟨hx, hb, hml, hown, hts⟩ (c_X5_has l D cI cZ cB cR v5 (sN v8) (by omega)) (va_cwS 2 hts (goodP (ps := [.methodLink RX5 94 yX5_has, .static yX5_has, .initialized RX5]) (all3 mw_3_201 mw_3_202 mw_1_6) mw_3_203) rfl rfl rfl (by decide +kernel) ⟨Nat.le_of_ble_eq_true rfl, Nat.le_of_ble_eq_true rfl⟩) hEV va_P0 rfl hl.1 rfl (Nat.le_of_ble_eq_true rfl) dX5_loaded_190 ⟨Nat.zero_le _, Nat.zero_le _⟩ ?_
                    refine lv_if_eq (tgt := 199) hx hb dX5_loaded_193 (by decide) (fun c_193 => ?_) (fun c_193 => ?_)
                    · have c_193 : ¬ ((bt v5 (sN v8)) = true) := b2i_f c_193
                      have hE := (if_neg c_193).symm.trans hE
                      refine lv_goto (tgt := 105) hx hb dX5_loaded_199 (by decide) ?_
                      exact ih_105 v8 n7 n6 v5 v4 n3 (st2 y 1 (n3 - 1) ((y 1 (n3 - 1)) + (1 : Int32))) ls _ _ hP hD hS (by first | (unfold mS; omega) | exact ld_ms hM9 c_120 hm_105) (by first | exact hm_23 | rfl | exact hi_105_1 | exact hi_105_2 | exact hi_105_3 | exact ⟨0, hi_23_0.mid0 (by omega) c_56 (ld_th c_66) c_83⟩ | exact hi_23_0.mid1 (by omega) c_56 | exact ld_P2 hM9 hv9 hi_105_1 hi_105_2 c_120 c_147 c_193 | exact ld_P3 hM9 hv9 hi_105_1 hi_105_2 c_120 c_147 c_174 c_193 | exact ld_P4 hM9 hv9 hi_105_1 hi_105_2 c_120 c_147 c_174 | exact ld_P7 wx.1 hu9 hM9 hv9 hi_105_1 hi_105_2 c_120 c_147 c_183 | exact ld_P8 wx.1 hu9 hM9 hv9 hi_105_1 hi_105_2 c_120 c_147 c_183 c_193 | exact ld_P9 wx.1 hu9 hM9 hv9 hi_105_1 hi_105_2 c_120 c_147 c_183 c_193 | exact absurd c_183 (Int32.not_lt.mpr c_147) | exact absurd (Int32.not_lt.mp c_183) c_107) (by first | exact hm_23 | rfl | exact hi_105_1 | exact hi_105_2 | exact hi_105_3 | exact ⟨0, hi_23_0.mid0 (by omega) c_56 (ld_th c_66) c_83⟩ | exact hi_23_0.mid1 (by omega) c_56 | exact ld_P2 hM9 hv9 hi_105_1 hi_105_2 c_120 c_147 c_193 | exact ld_P3 hM9 hv9 hi_105_1 hi_105_2 c_120 c_147 c_174 c_193 | exact ld_P4 hM9 hv9 hi_105_1 hi_105_2 c_120 c_147 c_174 | exact ld_P7 wx.1 hu9 hM9 hv9 hi_105_1 hi_105_2 c_120 c_147 c_183 | exact ld_P8 wx.1 hu9 hM9 hv9 hi_105_1 hi_105_2 c_120 c_147 c_183 c_193 | exact ld_P9 wx.1 hu9 hM9 hv9 hi_105_1 hi_105_2 c_120 c_147 c_183 c_193 | exact absurd c_183 (Int32.not_lt.mpr c_147) | exact absurd (Int32.not_lt.mp c_183) c_107) (by first | exact hm_23 | rfl | exact hi_105_1 | exact hi_105_2 | exact hi_105_3 | exact ⟨0, hi_23_0.mid0 (by omega) c_56 (ld_th c_66) c_83⟩ | exact hi_23_0.mid1 (by omega) c_56 | exact ld_P2 hM9 hv9 hi_105_1 hi_105_2 c_120 c_147 c_193 | exact ld_P3 hM9 hv9 hi_105_1 hi_105_2 c_120 c_147 c_174 c_193 | exact ld_P4 hM9 hv9 hi_105_1 hi_105_2 c_120 c_147 c_174 | exact ld_P7 wx.1 hu9 hM9 hv9 hi_105_1 hi_105_2 c_120 c_147 c_183 | exact ld_P8 wx.1 hu9 hM9 hv9 hi_105_1 hi_105_2 c_120 c_147 c_183 c_193 | exact ld_P9 wx.1 hu9 hM9 hv9 hi_105_1 hi_105_2 c_120 c_147 c_183 c_193 | exact absurd c_183 (Int32.not_lt.mpr c_147) | exact absurd (Int32.not_lt.mp c_183) c_107) (by first | exact hm_23 | rfl | exact hi_105_1 | exact hi_105_2 | exact hi_105_3 | exact ⟨0, hi_23_0.mid0 (by omega) c_56 (ld_th c_66) c_83⟩ | exact hi_23_0.mid1 (by omega) c_56 | exact ld_P2 hM9 hv9 hi_105_1 hi_105_2 c_120 c_147 c_193 | exact ld_P3 hM9 hv9 hi_105_1 hi_105_2 c_120 c_147 c_174 c_193 | exact ld_P4 hM9 hv9 hi_105_1 hi_105_2 c_120 c_147 c_174 | exact ld_P7 wx.1 hu9 hM9 hv9 hi_105_1 hi_105_2 c_120 c_147 c_183 | exact ld_P8 wx.1 hu9 hM9 hv9 hi_105_1 hi_105_2 c_120 c_147 c_183 c_193 | exact ld_P9 wx.1 hu9 hM9 hv9 hi_105_1 hi_105_2 c_120 c_147 c_183 c_193 | exact absurd c_183 (Int32.not_lt.mpr c_147) | exact absurd (Int32.not_lt.mp c_183) c_107) (lv_sub hl [1, 2, 3, 4, 5, 6, 7, 8, 9] rfl) hE
                    · have c_193 : (bt v5 (sN v8)) = true := b2i_t c_193
                      have hE := (if_pos c_193).symm.trans hE
                      refine lv_iconst (v := (-1 : Int32)) hx hb dX5_loaded_196 (by decide) ?_
                      refine lv_istore (lv' := [(8, .int (-1 : Int32)), (9, .int (y 1 (n3 - 1) + 1)), (7, .int (nI n7)), (6, .int (nI n6)), (5, .int v5), (4, .int v4), (3, .int (nI n3)), (0, .ref (a 0)), (1, .int (nI w)), (2, .int (nI t))]) hx hb dX5_loaded_197 hl (by decide) rfl (fun ls hl => ?_)
                      refine lv_goto (tgt := 105) hx hb dX5_loaded_199 (by decide) ?_
                      exact ih_105 (-1 : Int32) n7 n6 v5 v4 n3 (st2 y 1 (n3 - 1) ((y 1 (n3 - 1)) + (1 : Int32))) ls _ _ hP hD hS (by first | (unfold mS; omega) | exact ld_ms hM9 c_120 hm_105) (by first | exact hm_23 | rfl | exact hi_105_1 | exact hi_105_2 | exact hi_105_3 | exact ⟨0, hi_23_0.mid0 (by omega) c_56 (ld_th c_66) c_83⟩ | exact hi_23_0.mid1 (by omega) c_56 | exact ld_P2 hM9 hv9 hi_105_1 hi_105_2 c_120 c_147 c_193 | exact ld_P3 hM9 hv9 hi_105_1 hi_105_2 c_120 c_147 c_174 c_193 | exact ld_P4 hM9 hv9 hi_105_1 hi_105_2 c_120 c_147 c_174 | exact ld_P7 wx.1 hu9 hM9 hv9 hi_105_1 hi_105_2 c_120 c_147 c_183 | exact ld_P8 wx.1 hu9 hM9 hv9 hi_105_1 hi_105_2 c_120 c_147 c_183 c_193 | exact ld_P9 wx.1 hu9 hM9 hv9 hi_105_1 hi_105_2 c_120 c_147 c_183 c_193 | exact absurd c_183 (Int32.not_lt.mpr c_147) | exact absurd (Int32.not_lt.mp c_183) c_107) (by first | exact hm_23 | rfl | exact hi_105_1 | exact hi_105_2 | exact hi_105_3 | exact ⟨0, hi_23_0.mid0 (by omega) c_56 (ld_th c_66) c_83⟩ | exact hi_23_0.mid1 (by omega) c_56 | exact ld_P2 hM9 hv9 hi_105_1 hi_105_2 c_120 c_147 c_193 | exact ld_P3 hM9 hv9 hi_105_1 hi_105_2 c_120 c_147 c_174 c_193 | exact ld_P4 hM9 hv9 hi_105_1 hi_105_2 c_120 c_147 c_174 | exact ld_P7 wx.1 hu9 hM9 hv9 hi_105_1 hi_105_2 c_120 c_147 c_183 | exact ld_P8 wx.1 hu9 hM9 hv9 hi_105_1 hi_105_2 c_120 c_147 c_183 c_193 | exact ld_P9 wx.1 hu9 hM9 hv9 hi_105_1 hi_105_2 c_120 c_147 c_183 c_193 | exact absurd c_183 (Int32.not_lt.mpr c_147) | exact absurd (Int32.not_lt.mp c_183) c_107) (by first | exact hm_23 | rfl | exact hi_105_1 | exact hi_105_2 | exact hi_105_3 | exact ⟨0, hi_23_0.mid0 (by omega) c_56 (ld_th c_66) c_83⟩ | exact hi_23_0.mid1 (by omega) c_56 | exact ld_P2 hM9 hv9 hi_105_1 hi_105_2 c_120 c_147 c_193 | exact ld_P3 hM9 hv9 hi_105_1 hi_105_2 c_120 c_147 c_174 c_193 | exact ld_P4 hM9 hv9 hi_105_1 hi_105_2 c_120 c_147 c_174 | exact ld_P7 wx.1 hu9 hM9 hv9 hi_105_1 hi_105_2 c_120 c_147 c_183 | exact ld_P8 wx.1 hu9 hM9 hv9 hi_105_1 hi_105_2 c_120 c_147 c_183 c_193 | exact ld_P9 wx.1 hu9 hM9 hv9 hi_105_1 hi_105_2 c_120 c_147 c_183 c_193 | exact absurd c_183 (Int32.not_lt.mpr c_147) | exact absurd (Int32.not_lt.mp c_183) c_107) (by first | exact hm_23 | rfl | exact hi_105_1 | exact hi_105_2 | exact hi_105_3 | exact ⟨0, hi_23_0.mid0 (by omega) c_56 (ld_th c_66) c_83⟩ | exact hi_23_0.mid1 (by omega) c_56 | exact ld_P2 hM9 hv9 hi_105_1 hi_105_2 c_120 c_147 c_193 | exact ld_P3 hM9 hv9 hi_105_1 hi_105_2 c_120 c_147 c_174 c_193 | exact ld_P4 hM9 hv9 hi_105_1 hi_105_2 c_120 c_147 c_174 | exact ld_P7 wx.1 hu9 hM9 hv9 hi_105_1 hi_105_2 c_120 c_147 c_183 | exact ld_P8 wx.1 hu9 hM9 hv9 hi_105_1 hi_105_2 c_120 c_147 c_183 c_193 | exact ld_P9 wx.1 hu9 hM9 hv9 hi_105_1 hi_105_2 c_120 c_147 c_183 c_193 | exact absurd c_183 (Int32.not_lt.mpr c_147) | exact absurd (Int32.not_lt.mp c_183) c_107) (lv_sub hl [0, 2, 3, 4, 5, 6, 7, 8, 9] rfl) hE
                · have c_174 : (bt (x 4 n7) (sN (y 1 (n3 - 1) + 1))) = true := b2i_t c_174
                  have hE := (if_pos c_174).symm.trans hE
                  refine lv_iload hx hb dX5_loaded_177 (lv_at hl 0 rfl) ?_
                  refine lv_istore (lv' := [(8, .int (y 1 (n3 - 1) + 1)), (9, .int (y 1 (n3 - 1) + 1)), (7, .int (nI n7)), (6, .int (nI n6)), (5, .int v5), (4, .int v4), (3, .int (nI n3)), (0, .ref (a 0)), (1, .int (nI w)), (2, .int (nI t))]) hx hb dX5_loaded_179 hl (by decide) rfl (fun ls hl => ?_)
                  refine lv_iload hx hb dX5_loaded_181 (lv_at hl 0 rfl) ?_
                  refine lv_if_lt (tgt := 199) hx hb dX5_loaded_183 (by decide) (fun c_183 => ?_) (fun c_183 => ?_)
                  · skip
                    have hE := (if_pos c_183).symm.trans hE
                    refine lv_goto (tgt := 105) hx hb dX5_loaded_199 (by decide) ?_
                    exact ih_105 (y 1 (n3 - 1) + 1) n7 n6 v5 v4 n3 (st2 y 1 (n3 - 1) ((y 1 (n3 - 1)) + (1 : Int32))) ls _ _ hP hD hS (by first | (unfold mS; omega) | exact ld_ms hM9 c_120 hm_105) (by first | exact hm_23 | rfl | exact hi_105_1 | exact hi_105_2 | exact hi_105_3 | exact ⟨0, hi_23_0.mid0 (by omega) c_56 (ld_th c_66) c_83⟩ | exact hi_23_0.mid1 (by omega) c_56 | exact ld_P2 hM9 hv9 hi_105_1 hi_105_2 c_120 c_147 c_193 | exact ld_P3 hM9 hv9 hi_105_1 hi_105_2 c_120 c_147 c_174 c_193 | exact ld_P4 hM9 hv9 hi_105_1 hi_105_2 c_120 c_147 c_174 | exact ld_P7 wx.1 hu9 hM9 hv9 hi_105_1 hi_105_2 c_120 c_147 c_183 | exact ld_P8 wx.1 hu9 hM9 hv9 hi_105_1 hi_105_2 c_120 c_147 c_183 c_193 | exact ld_P9 wx.1 hu9 hM9 hv9 hi_105_1 hi_105_2 c_120 c_147 c_183 c_193 | exact absurd c_183 (Int32.not_lt.mpr c_147) | exact absurd (Int32.not_lt.mp c_183) c_107) (by first | exact hm_23 | rfl | exact hi_105_1 | exact hi_105_2 | exact hi_105_3 | exact ⟨0, hi_23_0.mid0 (by omega) c_56 (ld_th c_66) c_83⟩ | exact hi_23_0.mid1 (by omega) c_56 | exact ld_P2 hM9 hv9 hi_105_1 hi_105_2 c_120 c_147 c_193 | exact ld_P3 hM9 hv9 hi_105_1 hi_105_2 c_120 c_147 c_174 c_193 | exact ld_P4 hM9 hv9 hi_105_1 hi_105_2 c_120 c_147 c_174 | exact ld_P7 wx.1 hu9 hM9 hv9 hi_105_1 hi_105_2 c_120 c_147 c_183 | exact ld_P8 wx.1 hu9 hM9 hv9 hi_105_1 hi_105_2 c_120 c_147 c_183 c_193 | exact ld_P9 wx.1 hu9 hM9 hv9 hi_105_1 hi_105_2 c_120 c_147 c_183 c_193 | exact absurd c_183 (Int32.not_lt.mpr c_147) | exact absurd (Int32.not_lt.mp c_183) c_107) (by first | exact hm_23 | rfl | exact hi_105_1 | exact hi_105_2 | exact hi_105_3 | exact ⟨0, hi_23_0.mid0 (by omega) c_56 (ld_th c_66) c_83⟩ | exact hi_23_0.mid1 (by omega) c_56 | exact ld_P2 hM9 hv9 hi_105_1 hi_105_2 c_120 c_147 c_193 | exact ld_P3 hM9 hv9 hi_105_1 hi_105_2 c_120 c_147 c_174 c_193 | exact ld_P4 hM9 hv9 hi_105_1 hi_105_2 c_120 c_147 c_174 | exact ld_P7 wx.1 hu9 hM9 hv9 hi_105_1 hi_105_2 c_120 c_147 c_183 | exact ld_P8 wx.1 hu9 hM9 hv9 hi_105_1 hi_105_2 c_120 c_147 c_183 c_193 | exact ld_P9 wx.1 hu9 hM9 hv9 hi_105_1 hi_105_2 c_120 c_147 c_183 c_193 | exact absurd c_183 (Int32.not_lt.mpr c_147) | exact absurd (Int32.not_lt.mp c_183) c_107) (by first | exact hm_23 | rfl | exact hi_105_1 | exact hi_105_2 | exact hi_105_3 | exact ⟨0, hi_23_0.mid0 (by omega) c_56 (ld_th c_66) c_83⟩ | exact hi_23_0.mid1 (by omega) c_56 | exact ld_P2 hM9 hv9 hi_105_1 hi_105_2 c_120 c_147 c_193 | exact ld_P3 hM9 hv9 hi_105_1 hi_105_2 c_120 c_147 c_174 c_193 | exact ld_P4 hM9 hv9 hi_105_1 hi_105_2 c_120 c_147 c_174 | exact ld_P7 wx.1 hu9 hM9 hv9 hi_105_1 hi_105_2 c_120 c_147 c_183 | exact ld_P8 wx.1 hu9 hM9 hv9 hi_105_1 hi_105_2 c_120 c_147 c_183 c_193 | exact ld_P9 wx.1 hu9 hM9 hv9 hi_105_1 hi_105_2 c_120 c_147 c_183 c_193 | exact absurd c_183 (Int32.not_lt.mpr c_147) | exact absurd (Int32.not_lt.mp c_183) c_107) (lv_sub hl [0, 2, 3, 4, 5, 6, 7, 8, 9] rfl) hE
                  · skip
                    have hE := (if_neg c_183).symm.trans hE
                    have hx9 : sN (y 1 (n3 - 1) + 1) < 12 := by first | exact ld_k hs9 h1_9 c_120 c_147 | exact ld_a wx.1 hu9 hi_105_2 c_183 | exact absurd (Int32.not_lt.mp c_183) c_107
                    refine lv_iload hx hb dX5_loaded_186 (lv_at hl 4 rfl) ?_
                    refine lv_iload hx hb dX5_loaded_188 (lv_at hl 0 rfl) ?_
                    refine top_eq (nn_sN c_183) ?_
                    refine ro_S [.int v5, .int (nI (sN (y 1 (n3 - 1) + 1)))] [] ⟨hx, hb, hml, hown, hts⟩ (c_X5_has l D cI cZ cB cR v5 (sN (y 1 (n3 - 1) + 1)) (by omega)) (va_cwS 2 hts (goodP (ps := [.methodLink RX5 94 yX5_has, .static yX5_has, .initialized RX5]) (all3 mw_3_201 mw_3_202 mw_1_6) mw_3_203) rfl rfl rfl (by decide +kernel) ⟨Nat.le_of_ble_eq_true rfl, Nat.le_of_ble_eq_true rfl⟩) hEV va_P0 rfl hl.1 rfl (Nat.le_of_ble_eq_true rfl) dX5_loaded_190 ⟨Nat.zero_le _, Nat.zero_le _⟩ ?_
                    refine lv_if_eq (tgt := 199) hx hb dX5_loaded_193 (by decide) (fun c_193 => ?_) (fun c_193 => ?_)
                    · have c_193 : ¬ ((bt v5 (sN (y 1 (n3 - 1) + 1))) = true) := b2i_f c_193
                      have hE := (if_neg c_193).symm.trans hE
                      refine lv_goto (tgt := 105) hx hb dX5_loaded_199 (by decide) ?_
                      exact ih_105 (y 1 (n3 - 1) + 1) n7 n6 v5 v4 n3 (st2 y 1 (n3 - 1) ((y 1 (n3 - 1)) + (1 : Int32))) ls _ _ hP hD hS (by first | (unfold mS; omega) | exact ld_ms hM9 c_120 hm_105) (by first | exact hm_23 | rfl | exact hi_105_1 | exact hi_105_2 | exact hi_105_3 | exact ⟨0, hi_23_0.mid0 (by omega) c_56 (ld_th c_66) c_83⟩ | exact hi_23_0.mid1 (by omega) c_56 | exact ld_P2 hM9 hv9 hi_105_1 hi_105_2 c_120 c_147 c_193 | exact ld_P3 hM9 hv9 hi_105_1 hi_105_2 c_120 c_147 c_174 c_193 | exact ld_P4 hM9 hv9 hi_105_1 hi_105_2 c_120 c_147 c_174 | exact ld_P7 wx.1 hu9 hM9 hv9 hi_105_1 hi_105_2 c_120 c_147 c_183 | exact ld_P8 wx.1 hu9 hM9 hv9 hi_105_1 hi_105_2 c_120 c_147 c_183 c_193 | exact ld_P9 wx.1 hu9 hM9 hv9 hi_105_1 hi_105_2 c_120 c_147 c_183 c_193 | exact absurd c_183 (Int32.not_lt.mpr c_147) | exact absurd (Int32.not_lt.mp c_183) c_107) (by first | exact hm_23 | rfl | exact hi_105_1 | exact hi_105_2 | exact hi_105_3 | exact ⟨0, hi_23_0.mid0 (by omega) c_56 (ld_th c_66) c_83⟩ | exact hi_23_0.mid1 (by omega) c_56 | exact ld_P2 hM9 hv9 hi_105_1 hi_105_2 c_120 c_147 c_193 | exact ld_P3 hM9 hv9 hi_105_1 hi_105_2 c_120 c_147 c_174 c_193 | exact ld_P4 hM9 hv9 hi_105_1 hi_105_2 c_120 c_147 c_174 | exact ld_P7 wx.1 hu9 hM9 hv9 hi_105_1 hi_105_2 c_120 c_147 c_183 | exact ld_P8 wx.1 hu9 hM9 hv9 hi_105_1 hi_105_2 c_120 c_147 c_183 c_193 | exact ld_P9 wx.1 hu9 hM9 hv9 hi_105_1 hi_105_2 c_120 c_147 c_183 c_193 | exact absurd c_183 (Int32.not_lt.mpr c_147) | exact absurd (Int32.not_lt.mp c_183) c_107) (by first | exact hm_23 | rfl | exact hi_105_1 | exact hi_105_2 | exact hi_105_3 | exact ⟨0, hi_23_0.mid0 (by omega) c_56 (ld_th c_66) c_83⟩ | exact hi_23_0.mid1 (by omega) c_56 | exact ld_P2 hM9 hv9 hi_105_1 hi_105_2 c_120 c_147 c_193 | exact ld_P3 hM9 hv9 hi_105_1 hi_105_2 c_120 c_147 c_174 c_193 | exact ld_P4 hM9 hv9 hi_105_1 hi_105_2 c_120 c_147 c_174 | exact ld_P7 wx.1 hu9 hM9 hv9 hi_105_1 hi_105_2 c_120 c_147 c_183 | exact ld_P8 wx.1 hu9 hM9 hv9 hi_105_1 hi_105_2 c_120 c_147 c_183 c_193 | exact ld_P9 wx.1 hu9 hM9 hv9 hi_105_1 hi_105_2 c_120 c_147 c_183 c_193 | exact absurd c_183 (Int32.not_lt.mpr c_147) | exact absurd (Int32.not_lt.mp c_183) c_107) (by first | exact hm_23 | rfl | exact hi_105_1 | exact hi_105_2 | exact hi_105_3 | exact ⟨0, hi_23_0.mid0 (by omega) c_56 (ld_th c_66) c_83⟩ | exact hi_23_0.mid1 (by omega) c_56 | exact ld_P2 hM9 hv9 hi_105_1 hi_105_2 c_120 c_147 c_193 | exact ld_P3 hM9 hv9 hi_105_1 hi_105_2 c_120 c_147 c_174 c_193 | exact ld_P4 hM9 hv9 hi_105_1 hi_105_2 c_120 c_147 c_174 | exact ld_P7 wx.1 hu9 hM9 hv9 hi_105_1 hi_105_2 c_120 c_147 c_183 | exact ld_P8 wx.1 hu9 hM9 hv9 hi_105_1 hi_105_2 c_120 c_147 c_183 c_193 | exact ld_P9 wx.1 hu9 hM9 hv9 hi_105_1 hi_105_2 c_120 c_147 c_183 c_193 | exact absurd c_183 (Int32.not_lt.mpr c_147) | exact absurd (Int32.not_lt.mp c_183) c_107) (lv_sub hl [0, 2, 3, 4, 5, 6, 7, 8, 9] rfl) hE
                    · have c_193 : (bt v5 (sN (y 1 (n3 - 1) + 1))) = true := b2i_t c_193
                      have hE := (if_pos c_193).symm.trans hE
                      refine lv_iconst (v := (-1 : Int32)) hx hb dX5_loaded_196 (by decide) ?_
                      refine lv_istore (lv' := [(8, .int (-1 : Int32)), (9, .int (y 1 (n3 - 1) + 1)), (7, .int (nI n7)), (6, .int (nI n6)), (5, .int v5), (4, .int v4), (3, .int (nI n3)), (0, .ref (a 0)), (1, .int (nI w)), (2, .int (nI t))]) hx hb dX5_loaded_197 hl (by decide) rfl (fun ls hl => ?_)
                      refine lv_goto (tgt := 105) hx hb dX5_loaded_199 (by decide) ?_
                      exact ih_105 (-1 : Int32) n7 n6 v5 v4 n3 (st2 y 1 (n3 - 1) ((y 1 (n3 - 1)) + (1 : Int32))) ls _ _ hP hD hS (by first | (unfold mS; omega) | exact ld_ms hM9 c_120 hm_105) (by first | exact hm_23 | rfl | exact hi_105_1 | exact hi_105_2 | exact hi_105_3 | exact ⟨0, hi_23_0.mid0 (by omega) c_56 (ld_th c_66) c_83⟩ | exact hi_23_0.mid1 (by omega) c_56 | exact ld_P2 hM9 hv9 hi_105_1 hi_105_2 c_120 c_147 c_193 | exact ld_P3 hM9 hv9 hi_105_1 hi_105_2 c_120 c_147 c_174 c_193 | exact ld_P4 hM9 hv9 hi_105_1 hi_105_2 c_120 c_147 c_174 | exact ld_P7 wx.1 hu9 hM9 hv9 hi_105_1 hi_105_2 c_120 c_147 c_183 | exact ld_P8 wx.1 hu9 hM9 hv9 hi_105_1 hi_105_2 c_120 c_147 c_183 c_193 | exact ld_P9 wx.1 hu9 hM9 hv9 hi_105_1 hi_105_2 c_120 c_147 c_183 c_193 | exact absurd c_183 (Int32.not_lt.mpr c_147) | exact absurd (Int32.not_lt.mp c_183) c_107) (by first | exact hm_23 | rfl | exact hi_105_1 | exact hi_105_2 | exact hi_105_3 | exact ⟨0, hi_23_0.mid0 (by omega) c_56 (ld_th c_66) c_83⟩ | exact hi_23_0.mid1 (by omega) c_56 | exact ld_P2 hM9 hv9 hi_105_1 hi_105_2 c_120 c_147 c_193 | exact ld_P3 hM9 hv9 hi_105_1 hi_105_2 c_120 c_147 c_174 c_193 | exact ld_P4 hM9 hv9 hi_105_1 hi_105_2 c_120 c_147 c_174 | exact ld_P7 wx.1 hu9 hM9 hv9 hi_105_1 hi_105_2 c_120 c_147 c_183 | exact ld_P8 wx.1 hu9 hM9 hv9 hi_105_1 hi_105_2 c_120 c_147 c_183 c_193 | exact ld_P9 wx.1 hu9 hM9 hv9 hi_105_1 hi_105_2 c_120 c_147 c_183 c_193 | exact absurd c_183 (Int32.not_lt.mpr c_147) | exact absurd (Int32.not_lt.mp c_183) c_107) (by first | exact hm_23 | rfl | exact hi_105_1 | exact hi_105_2 | exact hi_105_3 | exact ⟨0, hi_23_0.mid0 (by omega) c_56 (ld_th c_66) c_83⟩ | exact hi_23_0.mid1 (by omega) c_56 | exact ld_P2 hM9 hv9 hi_105_1 hi_105_2 c_120 c_147 c_193 | exact ld_P3 hM9 hv9 hi_105_1 hi_105_2 c_120 c_147 c_174 c_193 | exact ld_P4 hM9 hv9 hi_105_1 hi_105_2 c_120 c_147 c_174 | exact ld_P7 wx.1 hu9 hM9 hv9 hi_105_1 hi_105_2 c_120 c_147 c_183 | exact ld_P8 wx.1 hu9 hM9 hv9 hi_105_1 hi_105_2 c_120 c_147 c_183 c_193 | exact ld_P9 wx.1 hu9 hM9 hv9 hi_105_1 hi_105_2 c_120 c_147 c_183 c_193 | exact absurd c_183 (Int32.not_lt.mpr c_147) | exact absurd (Int32.not_lt.mp c_183) c_107) (by first | exact hm_23 | rfl | exact hi_105_1 | exact hi_105_2 | exact hi_105_3 | exact ⟨0, hi_23_0.mid0 (by omega) c_56 (ld_th c_66) c_83⟩ | exact hi_23_0.mid1 (by omega) c_56 | exact ld_P2 hM9 hv9 hi_105_1 hi_105_2 c_120 c_147 c_193 | exact ld_P3 hM9 hv9 hi_105_1 hi_105_2 c_120 c_147 c_174 c_193 | exact ld_P4 hM9 hv9 hi_105_1 hi_105_2 c_120 c_147 c_174 | exact ld_P7 wx.1 hu9 hM9 hv9 hi_105_1 hi_105_2 c_120 c_147 c_183 | exact ld_P8 wx.1 hu9 hM9 hv9 hi_105_1 hi_105_2 c_120 c_147 c_183 c_193 | exact ld_P9 wx.1 hu9 hM9 hv9 hi_105_1 hi_105_2 c_120 c_147 c_183 c_193 | exact absurd c_183 (Int32.not_lt.mpr c_147) | exact absurd (Int32.not_lt.mp c_183) c_107) (lv_sub hl [0, 2, 3, 4, 5, 6, 7, 8, 9] rfl) hE
              · skip
                have hE := (if_neg c_147).symm.trans hE
                refine lv_aload_n hx hb dX5_loaded_150 rfl (lv_at hl 7 rfl) ?_
                refine va_get (D := D) (ci := 5) (v := .ref (a 4)) (C := RX5) (T := TX5) (N := 21) hx hb hts (fun w9 h9 => List.mem_cons_of_mem _ (inT_X5 w9 h9)) hown hK hP 0 rfl rfl 3 (by decide) (hts (.fieldLink RX5 20 "LinkPredictorModel" "above" "[I") (List.mem_cons_of_mem _ mw_3_69)) (fun _ h9 => h9) rfl dX5_loaded_151 ?_
                refine lv_iload hx hb dX5_loaded_154 (lv_at hl 2 rfl) ?_
                refine ro_ald hx hb hEV hP 4 (j := n7) rfl (by omega) (by decide) dX5_loaded_156 ?_
                refine lv_istore (lv' := [(8, .int (x 3 n7)), (9, .int (y 1 (n3 - 1) + 1)), (7, .int (nI n7)), (6, .int (nI n6)), (5, .int v5), (4, .int v4), (3, .int (nI n3)), (0, .ref (a 0)), (1, .int (nI w)), (2, .int (nI t))]) hx hb dX5_loaded_157 hl (by decide) rfl (fun ls hl => ?_)
                refine lv_goto (tgt := 181) hx hb dX5_loaded_159 (by decide) ?_
                refine lv_iload hx hb dX5_loaded_181 (lv_at hl 0 rfl) ?_
                refine lv_if_lt (tgt := 199) hx hb dX5_loaded_183 (by decide) (fun c_183 => ?_) (fun c_183 => ?_)
                · skip
                  have hE := (if_pos c_183).symm.trans hE
                  refine lv_goto (tgt := 105) hx hb dX5_loaded_199 (by decide) ?_
                  exact ih_105 (x 3 n7) n7 n6 v5 v4 n3 (st2 y 1 (n3 - 1) ((y 1 (n3 - 1)) + (1 : Int32))) ls _ _ hP hD hS (by first | (unfold mS; omega) | exact ld_ms hM9 c_120 hm_105) (by first | exact hm_23 | rfl | exact hi_105_1 | exact hi_105_2 | exact hi_105_3 | exact ⟨0, hi_23_0.mid0 (by omega) c_56 (ld_th c_66) c_83⟩ | exact hi_23_0.mid1 (by omega) c_56 | exact ld_P2 hM9 hv9 hi_105_1 hi_105_2 c_120 c_147 c_193 | exact ld_P3 hM9 hv9 hi_105_1 hi_105_2 c_120 c_147 c_174 c_193 | exact ld_P4 hM9 hv9 hi_105_1 hi_105_2 c_120 c_147 c_174 | exact ld_P7 wx.1 hu9 hM9 hv9 hi_105_1 hi_105_2 c_120 c_147 c_183 | exact ld_P8 wx.1 hu9 hM9 hv9 hi_105_1 hi_105_2 c_120 c_147 c_183 c_193 | exact ld_P9 wx.1 hu9 hM9 hv9 hi_105_1 hi_105_2 c_120 c_147 c_183 c_193 | exact absurd c_183 (Int32.not_lt.mpr c_147) | exact absurd (Int32.not_lt.mp c_183) c_107) (by first | exact hm_23 | rfl | exact hi_105_1 | exact hi_105_2 | exact hi_105_3 | exact ⟨0, hi_23_0.mid0 (by omega) c_56 (ld_th c_66) c_83⟩ | exact hi_23_0.mid1 (by omega) c_56 | exact ld_P2 hM9 hv9 hi_105_1 hi_105_2 c_120 c_147 c_193 | exact ld_P3 hM9 hv9 hi_105_1 hi_105_2 c_120 c_147 c_174 c_193 | exact ld_P4 hM9 hv9 hi_105_1 hi_105_2 c_120 c_147 c_174 | exact ld_P7 wx.1 hu9 hM9 hv9 hi_105_1 hi_105_2 c_120 c_147 c_183 | exact ld_P8 wx.1 hu9 hM9 hv9 hi_105_1 hi_105_2 c_120 c_147 c_183 c_193 | exact ld_P9 wx.1 hu9 hM9 hv9 hi_105_1 hi_105_2 c_120 c_147 c_183 c_193 | exact absurd c_183 (Int32.not_lt.mpr c_147) | exact absurd (Int32.not_lt.mp c_183) c_107) (by first | exact hm_23 | rfl | exact hi_105_1 | exact hi_105_2 | exact hi_105_3 | exact ⟨0, hi_23_0.mid0 (by omega) c_56 (ld_th c_66) c_83⟩ | exact hi_23_0.mid1 (by omega) c_56 | exact ld_P2 hM9 hv9 hi_105_1 hi_105_2 c_120 c_147 c_193 | exact ld_P3 hM9 hv9 hi_105_1 hi_105_2 c_120 c_147 c_174 c_193 | exact ld_P4 hM9 hv9 hi_105_1 hi_105_2 c_120 c_147 c_174 | exact ld_P7 wx.1 hu9 hM9 hv9 hi_105_1 hi_105_2 c_120 c_147 c_183 | exact ld_P8 wx.1 hu9 hM9 hv9 hi_105_1 hi_105_2 c_120 c_147 c_183 c_193 | exact ld_P9 wx.1 hu9 hM9 hv9 hi_105_1 hi_105_2 c_120 c_147 c_183 c_193 | exact absurd c_183 (Int32.not_lt.mpr c_147) | exact absurd (Int32.not_lt.mp c_183) c_107) (by first | exact hm_23 | rfl | exact hi_105_1 | exact hi_105_2 | exact hi_105_3 | exact ⟨0, hi_23_0.mid0 (by omega) c_56 (ld_th c_66) c_83⟩ | exact hi_23_0.mid1 (by omega) c_56 | exact ld_P2 hM9 hv9 hi_105_1 hi_105_2 c_120 c_147 c_193 | exact ld_P3 hM9 hv9 hi_105_1 hi_105_2 c_120 c_147 c_174 c_193 | exact ld_P4 hM9 hv9 hi_105_1 hi_105_2 c_120 c_147 c_174 | exact ld_P7 wx.1 hu9 hM9 hv9 hi_105_1 hi_105_2 c_120 c_147 c_183 | exact ld_P8 wx.1 hu9 hM9 hv9 hi_105_1 hi_105_2 c_120 c_147 c_183 c_193 | exact ld_P9 wx.1 hu9 hM9 hv9 hi_105_1 hi_105_2 c_120 c_147 c_183 c_193 | exact absurd c_183 (Int32.not_lt.mpr c_147) | exact absurd (Int32.not_lt.mp c_183) c_107) (lv_sub hl [0, 2, 3, 4, 5, 6, 7, 8, 9] rfl) hE
                · skip
                  have hE := (if_neg c_183).symm.trans hE
                  have hx9 : sN (x 3 n7) < 12 := by first | exact ld_k hs9 h1_9 c_120 c_147 | exact ld_a wx.1 hu9 hi_105_2 c_183 | exact absurd (Int32.not_lt.mp c_183) c_107
                  refine lv_iload hx hb dX5_loaded_186 (lv_at hl 4 rfl) ?_
                  refine lv_iload hx hb dX5_loaded_188 (lv_at hl 0 rfl) ?_
                  refine top_eq (nn_sN c_183) ?_
                  refine ro_S [.int v5, .int (nI (sN (x 3 n7)))] [] ⟨hx, hb, hml, hown, hts⟩ (c_X5_has l D cI cZ cB cR v5 (sN (x 3 n7)) (by omega)) (va_cwS 2 hts (goodP (ps := [.methodLink RX5 94 yX5_has, .static yX5_has, .initialized RX5]) (all3 mw_3_201 mw_3_202 mw_1_6) mw_3_203) rfl rfl rfl (by decide +kernel) ⟨Nat.le_of_ble_eq_true rfl, Nat.le_of_ble_eq_true rfl⟩) hEV va_P0 rfl hl.1 rfl (Nat.le_of_ble_eq_true rfl) dX5_loaded_190 ⟨Nat.zero_le _, Nat.zero_le _⟩ ?_
                  refine lv_if_eq (tgt := 199) hx hb dX5_loaded_193 (by decide) (fun c_193 => ?_) (fun c_193 => ?_)
                  · have c_193 : ¬ ((bt v5 (sN (x 3 n7))) = true) := b2i_f c_193
                    have hE := (if_neg c_193).symm.trans hE
                    refine lv_goto (tgt := 105) hx hb dX5_loaded_199 (by decide) ?_
                    exact ih_105 (x 3 n7) n7 n6 v5 v4 n3 (st2 y 1 (n3 - 1) ((y 1 (n3 - 1)) + (1 : Int32))) ls _ _ hP hD hS (by first | (unfold mS; omega) | exact ld_ms hM9 c_120 hm_105) (by first | exact hm_23 | rfl | exact hi_105_1 | exact hi_105_2 | exact hi_105_3 | exact ⟨0, hi_23_0.mid0 (by omega) c_56 (ld_th c_66) c_83⟩ | exact hi_23_0.mid1 (by omega) c_56 | exact ld_P2 hM9 hv9 hi_105_1 hi_105_2 c_120 c_147 c_193 | exact ld_P3 hM9 hv9 hi_105_1 hi_105_2 c_120 c_147 c_174 c_193 | exact ld_P4 hM9 hv9 hi_105_1 hi_105_2 c_120 c_147 c_174 | exact ld_P7 wx.1 hu9 hM9 hv9 hi_105_1 hi_105_2 c_120 c_147 c_183 | exact ld_P8 wx.1 hu9 hM9 hv9 hi_105_1 hi_105_2 c_120 c_147 c_183 c_193 | exact ld_P9 wx.1 hu9 hM9 hv9 hi_105_1 hi_105_2 c_120 c_147 c_183 c_193 | exact absurd c_183 (Int32.not_lt.mpr c_147) | exact absurd (Int32.not_lt.mp c_183) c_107) (by first | exact hm_23 | rfl | exact hi_105_1 | exact hi_105_2 | exact hi_105_3 | exact ⟨0, hi_23_0.mid0 (by omega) c_56 (ld_th c_66) c_83⟩ | exact hi_23_0.mid1 (by omega) c_56 | exact ld_P2 hM9 hv9 hi_105_1 hi_105_2 c_120 c_147 c_193 | exact ld_P3 hM9 hv9 hi_105_1 hi_105_2 c_120 c_147 c_174 c_193 | exact ld_P4 hM9 hv9 hi_105_1 hi_105_2 c_120 c_147 c_174 | exact ld_P7 wx.1 hu9 hM9 hv9 hi_105_1 hi_105_2 c_120 c_147 c_183 | exact ld_P8 wx.1 hu9 hM9 hv9 hi_105_1 hi_105_2 c_120 c_147 c_183 c_193 | exact ld_P9 wx.1 hu9 hM9 hv9 hi_105_1 hi_105_2 c_120 c_147 c_183 c_193 | exact absurd c_183 (Int32.not_lt.mpr c_147) | exact absurd (Int32.not_lt.mp c_183) c_107) (by first | exact hm_23 | rfl | exact hi_105_1 | exact hi_105_2 | exact hi_105_3 | exact ⟨0, hi_23_0.mid0 (by omega) c_56 (ld_th c_66) c_83⟩ | exact hi_23_0.mid1 (by omega) c_56 | exact ld_P2 hM9 hv9 hi_105_1 hi_105_2 c_120 c_147 c_193 | exact ld_P3 hM9 hv9 hi_105_1 hi_105_2 c_120 c_147 c_174 c_193 | exact ld_P4 hM9 hv9 hi_105_1 hi_105_2 c_120 c_147 c_174 | exact ld_P7 wx.1 hu9 hM9 hv9 hi_105_1 hi_105_2 c_120 c_147 c_183 | exact ld_P8 wx.1 hu9 hM9 hv9 hi_105_1 hi_105_2 c_120 c_147 c_183 c_193 | exact ld_P9 wx.1 hu9 hM9 hv9 hi_105_1 hi_105_2 c_120 c_147 c_183 c_193 | exact absurd c_183 (Int32.not_lt.mpr c_147) | exact absurd (Int32.not_lt.mp c_183) c_107) (by first | exact hm_23 | rfl | exact hi_105_1 | exact hi_105_2 | exact hi_105_3 | exact ⟨0, hi_23_0.mid0 (by omega) c_56 (ld_th c_66) c_83⟩ | exact hi_23_0.mid1 (by omega) c_56 | exact ld_P2 hM9 hv9 hi_105_1 hi_105_2 c_120 c_147 c_193 | exact ld_P3 hM9 hv9 hi_105_1 hi_105_2 c_120 c_147 c_174 c_193 | exact ld_P4 hM9 hv9 hi_105_1 hi_105_2 c_120 c_147 c_174 | exact ld_P7 wx.1 hu9 hM9 hv9 hi_105_1 hi_105_2 c_120 c_147 c_183 | exact ld_P8 wx.1 hu9 hM9 hv9 hi_105_1 hi_105_2 c_120 c_147 c_183 c_193 | exact ld_P9 wx.1 hu9 hM9 hv9 hi_105_1 hi_105_2 c_120 c_147 c_183 c_193 | exact absurd c_183 (Int32.not_lt.mpr c_147) | exact absurd (Int32.not_lt.mp c_183) c_107) (lv_sub hl [0, 2, 3, 4, 5, 6, 7, 8, 9] rfl) hE
                  · have c_193 : (bt v5 (sN (x 3 n7))) = true := b2i_t c_193
                    have hE := (if_pos c_193).symm.trans hE
                    refine lv_iconst (v := (-1 : Int32)) hx hb dX5_loaded_196 (by decide) ?_
                    refine lv_istore (lv' := [(8, .int (-1 : Int32)), (9, .int (y 1 (n3 - 1) + 1)), (7, .int (nI n7)), (6, .int (nI n6)), (5, .int v5), (4, .int v4), (3, .int (nI n3)), (0, .ref (a 0)), (1, .int (nI w)), (2, .int (nI t))]) hx hb dX5_loaded_197 hl (by decide) rfl (fun ls hl => ?_)
                    refine lv_goto (tgt := 105) hx hb dX5_loaded_199 (by decide) ?_
                    exact ih_105 (-1 : Int32) n7 n6 v5 v4 n3 (st2 y 1 (n3 - 1) ((y 1 (n3 - 1)) + (1 : Int32))) ls _ _ hP hD hS (by first | (unfold mS; omega) | exact ld_ms hM9 c_120 hm_105) (by first | exact hm_23 | rfl | exact hi_105_1 | exact hi_105_2 | exact hi_105_3 | exact ⟨0, hi_23_0.mid0 (by omega) c_56 (ld_th c_66) c_83⟩ | exact hi_23_0.mid1 (by omega) c_56 | exact ld_P2 hM9 hv9 hi_105_1 hi_105_2 c_120 c_147 c_193 | exact ld_P3 hM9 hv9 hi_105_1 hi_105_2 c_120 c_147 c_174 c_193 | exact ld_P4 hM9 hv9 hi_105_1 hi_105_2 c_120 c_147 c_174 | exact ld_P7 wx.1 hu9 hM9 hv9 hi_105_1 hi_105_2 c_120 c_147 c_183 | exact ld_P8 wx.1 hu9 hM9 hv9 hi_105_1 hi_105_2 c_120 c_147 c_183 c_193 | exact ld_P9 wx.1 hu9 hM9 hv9 hi_105_1 hi_105_2 c_120 c_147 c_183 c_193 | exact absurd c_183 (Int32.not_lt.mpr c_147) | exact absurd (Int32.not_lt.mp c_183) c_107) (by first | exact hm_23 | rfl | exact hi_105_1 | exact hi_105_2 | exact hi_105_3 | exact ⟨0, hi_23_0.mid0 (by omega) c_56 (ld_th c_66) c_83⟩ | exact hi_23_0.mid1 (by omega) c_56 | exact ld_P2 hM9 hv9 hi_105_1 hi_105_2 c_120 c_147 c_193 | exact ld_P3 hM9 hv9 hi_105_1 hi_105_2 c_120 c_147 c_174 c_193 | exact ld_P4 hM9 hv9 hi_105_1 hi_105_2 c_120 c_147 c_174 | exact ld_P7 wx.1 hu9 hM9 hv9 hi_105_1 hi_105_2 c_120 c_147 c_183 | exact ld_P8 wx.1 hu9 hM9 hv9 hi_105_1 hi_105_2 c_120 c_147 c_183 c_193 | exact ld_P9 wx.1 hu9 hM9 hv9 hi_105_1 hi_105_2 c_120 c_147 c_183 c_193 | exact absurd c_183 (Int32.not_lt.mpr c_147) | exact absurd (Int32.not_lt.mp c_183) c_107) (by first | exact hm_23 | rfl | exact hi_105_1 | exact hi_105_2 | exact hi_105_3 | exact ⟨0, hi_23_0.mid0 (by omega) c_56 (ld_th c_66) c_83⟩ | exact hi_23_0.mid1 (by omega) c_56 | exact ld_P2 hM9 hv9 hi_105_1 hi_105_2 c_120 c_147 c_193 | exact ld_P3 hM9 hv9 hi_105_1 hi_105_2 c_120 c_147 c_174 c_193 | exact ld_P4 hM9 hv9 hi_105_1 hi_105_2 c_120 c_147 c_174 | exact ld_P7 wx.1 hu9 hM9 hv9 hi_105_1 hi_105_2 c_120 c_147 c_183 | exact ld_P8 wx.1 hu9 hM9 hv9 hi_105_1 hi_105_2 c_120 c_147 c_183 c_193 | exact ld_P9 wx.1 hu9 hM9 hv9 hi_105_1 hi_105_2 c_120 c_147 c_183 c_193 | exact absurd c_183 (Int32.not_lt.mpr c_147) | exact absurd (Int32.not_lt.mp c_183) c_107) (by first | exact hm_23 | rfl | exact hi_105_1 | exact hi_105_2 | exact hi_105_3 | exact ⟨0, hi_23_0.mid0 (by omega) c_56 (ld_th c_66) c_83⟩ | exact hi_23_0.mid1 (by omega) c_56 | exact ld_P2 hM9 hv9 hi_105_1 hi_105_2 c_120 c_147 c_193 | exact ld_P3 hM9 hv9 hi_105_1 hi_105_2 c_120 c_147 c_174 c_193 | exact ld_P4 hM9 hv9 hi_105_1 hi_105_2 c_120 c_147 c_174 | exact ld_P7 wx.1 hu9 hM9 hv9 hi_105_1 hi_105_2 c_120 c_147 c_183 | exact ld_P8 wx.1 hu9 hM9 hv9 hi_105_1 hi_105_2 c_120 c_147 c_183 c_193 | exact ld_P9 wx.1 hu9 hM9 hv9 hi_105_1 hi_105_2 c_120 c_147 c_183 c_193 | exact absurd c_183 (Int32.not_lt.mpr c_147) | exact absurd (Int32.not_lt.mp c_183) c_107) (lv_sub hl [0, 2, 3, 4, 5, 6, 7, 8, 9] rfl) hE
      intro v5 v4 n3 y ls H locs hP hD hS hm_23 hi_23_0 hl hE
      rw [p_X5_loaded_23] at hE
      have hn13 := hi_23_0.n13
      refine lv_iload_n hx hb dX5_loaded_23 rfl (lv_at hl 2 rfl) ?_
      refine lv_if_le (tgt := 272) hx hb dX5_loaded_24 (by decide) (fun c_24 => ?_) (fun c_24 => ?_)
      · have c_24 : n3 ≤ 0 := (nI_leI (a := n3) (b := 0) (by omega) (by omega)).mp c_24
        have hE := (if_pos c_24).symm.trans hE
        refine lv_iconst (v := (0 : Int32)) hx hb dX5_loaded_272 (by decide) ?_
        refine lv_iload_n hx hb dX5_loaded_273 rfl (lv_at hl 5 rfl) ?_
        refine ro_S [.int (0 : Int32), .int (nI t)] [] ⟨hx, hb, hml, hown, hts⟩ (c_X5_verdict l D cI cZ cB cR 0 t (by omega) (by omega)) (va_cwS 2 hts (goodP (ps := [.methodLink RX5 97 yX5_verdict, .static yX5_verdict, .initialized RX5]) (all3 mw_3_198 mw_3_199 mw_1_6) mw_3_200) rfl rfl rfl (by decide +kernel) ⟨Nat.le_of_ble_eq_true rfl, Nat.le_of_ble_eq_true rfl⟩) hEV va_P0 rfl hl.1 rfl (Nat.le_of_ble_eq_true rfl) dX5_loaded_274 ⟨Nat.zero_le _, Nat.zero_le _⟩ ?_
        exact W.iret hx hb hr (fun t9 ht9 _ => ⟨⟨_, (), rfl, congrArg Prod.fst hE, by show va_P D vwCl _ t9.heap; rw [ht9, ← congrArg Prod.snd hE]; exact hP⟩, hS.F ht9⟩) hS.2.2 dX5_loaded_277
      · have c_24 : ¬ (n3 ≤ 0) := fun q9 => c_24 ((nI_leI (a := n3) (b := 0) (by omega) (by omega)).mpr q9)
        have hE := (if_neg c_24).symm.trans hE
        have hP9 := hi_23_0.pos (by omega)
        have hn9 := hP9.le
        have hT9 := hP9.2.1 (n3 - 1) (by omega)
        have hu9 : uS y (n3 - 1) < 12 := hT9.1
        refine lv_aload_n hx hb dX5_loaded_27 rfl (lv_at hl 3 rfl) ?_
        refine va_get (D := D) (ci := 5) (v := .ref (a 18)) (C := RX5) (T := TX5) (N := 21) hx hb hts (fun w9 h9 => List.mem_cons_of_mem _ (inT_X5 w9 h9)) hown hK hP 0 rfl rfl 19 (by decide) (hts (.fieldLink RX5 62 "LinkPredictorModel" "row" "[I") (List.mem_cons_of_mem _ mw_3_85)) (fun _ h9 => h9) rfl dX5_loaded_28 ?_
        refine lv_iload_n hx hb dX5_loaded_31 rfl (lv_at hl 2 rfl) ?_
        refine lv_iconst (v := (1 : Int32)) hx hb dX5_loaded_32 (by decide) ?_
        refine lv_isub hx hb dX5_loaded_33 ?_
        refine top_eq (pk_sub (a := n3) (b := 1) (by omega)) ?_
        refine ro_ald hx hb hEV hP 18 (j := (n3 - 1)) rfl (by omega) (by decide) dX5_loaded_34 ?_
        refine top_eq (hT9.2) ?_
        refine lv_istore (lv' := [(6, .int (nI (uS y (n3 - 1)))), (5, .int v5), (4, .int v4), (3, .int (nI n3)), (0, .ref (a 0)), (1, .int (nI w)), (2, .int (nI t))]) hx hb dX5_loaded_35 hl (by decide) rfl (fun ls hl => ?_)
        refine lv_bipush (v := (12 : Int32)) hx hb dX5_loaded_37 (by decide) ?_
        refine lv_iload_n hx hb dX5_loaded_39 rfl (lv_at hl 5 rfl) ?_
        refine lv_imul hx hb dX5_loaded_40 ?_
        refine top_eq (pk_mul 12 w) ?_
        refine lv_iload hx hb dX5_loaded_41 (lv_at hl 0 rfl) ?_
        refine lv_iadd hx hb dX5_loaded_43 ?_
        refine top_eq (nI_add (12 * w) (uS y (n3 - 1))) ?_
        refine lv_istore (lv' := [(7, .int (nI ((12 * w) + (uS y (n3 - 1))))), (6, .int (nI (uS y (n3 - 1)))), (5, .int v5), (4, .int v4), (3, .int (nI n3)), (0, .ref (a 0)), (1, .int (nI w)), (2, .int (nI t))]) hx hb dX5_loaded_44 hl (by decide) rfl (fun ls hl => ?_)
        refine lv_aload_n hx hb dX5_loaded_46 rfl (lv_at hl 5 rfl) ?_
        refine va_get (D := D) (ci := 5) (v := .ref (a 19)) (C := RX5) (T := TX5) (N := 21) hx hb hts (fun w9 h9 => List.mem_cons_of_mem _ (inT_X5 w9 h9)) hown hK hP 0 rfl rfl 20 (by decide) (hts (.fieldLink RX5 65 "LinkPredictorModel" "stage" "[I") (List.mem_cons_of_mem _ mw_3_86)) (fun _ h9 => h9) rfl dX5_loaded_47 ?_
        refine lv_iload_n hx hb dX5_loaded_50 rfl (lv_at hl 4 rfl) ?_
        refine lv_iconst (v := (1 : Int32)) hx hb dX5_loaded_51 (by decide) ?_
        refine lv_isub hx hb dX5_loaded_52 ?_
        refine top_eq (pk_sub (a := n3) (b := 1) (by omega)) ?_
        refine ro_ald hx hb hEV hP 19 (j := (n3 - 1)) rfl (by omega) (by decide) dX5_loaded_53 ?_
        refine lv_bipush (v := (-2 : Int32)) hx hb dX5_loaded_54 (by decide) ?_
        refine lv_icmp_ne (tgt := 102) hx hb dX5_loaded_56 (by decide) (fun c_56 => ?_) (fun c_56 => ?_)
        · skip
          have hE := (if_neg c_56).symm.trans hE
          refine lv_iconst (v := (-1 : Int32)) hx hb dX5_loaded_102 (by decide) ?_
          refine lv_istore (lv' := [(8, .int (-1 : Int32)), (7, .int (nI ((12 * w) + (uS y (n3 - 1))))), (6, .int (nI (uS y (n3 - 1)))), (5, .int v5), (4, .int v4), (3, .int (nI n3)), (0, .ref (a 0)), (1, .int (nI w)), (2, .int (nI t))]) hx hb dX5_loaded_103 hl (by decide) rfl (fun ls hl => ?_)
          exact key_105 14 (-1 : Int32) ((12 * w) + (uS y (n3 - 1))) (uS y (n3 - 1)) v5 v4 n3 y ls _ _ hP hD hS (by first | (unfold mS; omega) | exact ld_ms hM9 c_120 hm_105) (by first | exact hm_23 | rfl | exact hi_105_1 | exact hi_105_2 | exact hi_105_3 | exact ⟨0, hi_23_0.mid0 (by omega) c_56 (ld_th c_66) c_83⟩ | exact hi_23_0.mid1 (by omega) c_56 | exact ld_P2 hM9 hv9 hi_105_1 hi_105_2 c_120 c_147 c_193 | exact ld_P3 hM9 hv9 hi_105_1 hi_105_2 c_120 c_147 c_174 c_193 | exact ld_P4 hM9 hv9 hi_105_1 hi_105_2 c_120 c_147 c_174 | exact ld_P7 wx.1 hu9 hM9 hv9 hi_105_1 hi_105_2 c_120 c_147 c_183 | exact ld_P8 wx.1 hu9 hM9 hv9 hi_105_1 hi_105_2 c_120 c_147 c_183 c_193 | exact ld_P9 wx.1 hu9 hM9 hv9 hi_105_1 hi_105_2 c_120 c_147 c_183 c_193 | exact absurd c_183 (Int32.not_lt.mpr c_147) | exact absurd (Int32.not_lt.mp c_183) c_107) (by first | exact hm_23 | rfl | exact hi_105_1 | exact hi_105_2 | exact hi_105_3 | exact ⟨0, hi_23_0.mid0 (by omega) c_56 (ld_th c_66) c_83⟩ | exact hi_23_0.mid1 (by omega) c_56 | exact ld_P2 hM9 hv9 hi_105_1 hi_105_2 c_120 c_147 c_193 | exact ld_P3 hM9 hv9 hi_105_1 hi_105_2 c_120 c_147 c_174 c_193 | exact ld_P4 hM9 hv9 hi_105_1 hi_105_2 c_120 c_147 c_174 | exact ld_P7 wx.1 hu9 hM9 hv9 hi_105_1 hi_105_2 c_120 c_147 c_183 | exact ld_P8 wx.1 hu9 hM9 hv9 hi_105_1 hi_105_2 c_120 c_147 c_183 c_193 | exact ld_P9 wx.1 hu9 hM9 hv9 hi_105_1 hi_105_2 c_120 c_147 c_183 c_193 | exact absurd c_183 (Int32.not_lt.mpr c_147) | exact absurd (Int32.not_lt.mp c_183) c_107) (by first | exact hm_23 | rfl | exact hi_105_1 | exact hi_105_2 | exact hi_105_3 | exact ⟨0, hi_23_0.mid0 (by omega) c_56 (ld_th c_66) c_83⟩ | exact hi_23_0.mid1 (by omega) c_56 | exact ld_P2 hM9 hv9 hi_105_1 hi_105_2 c_120 c_147 c_193 | exact ld_P3 hM9 hv9 hi_105_1 hi_105_2 c_120 c_147 c_174 c_193 | exact ld_P4 hM9 hv9 hi_105_1 hi_105_2 c_120 c_147 c_174 | exact ld_P7 wx.1 hu9 hM9 hv9 hi_105_1 hi_105_2 c_120 c_147 c_183 | exact ld_P8 wx.1 hu9 hM9 hv9 hi_105_1 hi_105_2 c_120 c_147 c_183 c_193 | exact ld_P9 wx.1 hu9 hM9 hv9 hi_105_1 hi_105_2 c_120 c_147 c_183 c_193 | exact absurd c_183 (Int32.not_lt.mpr c_147) | exact absurd (Int32.not_lt.mp c_183) c_107) (by first | exact hm_23 | rfl | exact hi_105_1 | exact hi_105_2 | exact hi_105_3 | exact ⟨0, hi_23_0.mid0 (by omega) c_56 (ld_th c_66) c_83⟩ | exact hi_23_0.mid1 (by omega) c_56 | exact ld_P2 hM9 hv9 hi_105_1 hi_105_2 c_120 c_147 c_193 | exact ld_P3 hM9 hv9 hi_105_1 hi_105_2 c_120 c_147 c_174 c_193 | exact ld_P4 hM9 hv9 hi_105_1 hi_105_2 c_120 c_147 c_174 | exact ld_P7 wx.1 hu9 hM9 hv9 hi_105_1 hi_105_2 c_120 c_147 c_183 | exact ld_P8 wx.1 hu9 hM9 hv9 hi_105_1 hi_105_2 c_120 c_147 c_183 c_193 | exact ld_P9 wx.1 hu9 hM9 hv9 hi_105_1 hi_105_2 c_120 c_147 c_183 c_193 | exact absurd c_183 (Int32.not_lt.mpr c_147) | exact absurd (Int32.not_lt.mp c_183) c_107) (lv_sub hl [0, 1, 2, 3, 4, 5, 6, 7, 8] rfl) hE
        · skip
          have hE := (if_pos c_56).symm.trans hE
          refine lv_aload_n hx hb dX5_loaded_59 rfl (lv_at hl 5 rfl) ?_
          refine va_get (D := D) (ci := 5) (v := .ref (a 1)) (C := RX5) (T := TX5) (N := 21) hx hb hts (fun w9 h9 => List.mem_cons_of_mem _ (inT_X5 w9 h9)) hown hK hP 0 rfl rfl 0 (by decide) (hts (.fieldLink RX5 7 "LinkPredictorModel" "there" "[Z") (List.mem_cons_of_mem _ mw_3_66)) (fun _ h9 => h9) rfl dX5_loaded_60 ?_
          refine lv_iload hx hb dX5_loaded_63 (lv_at hl 0 rfl) ?_
          refine ro_zld hx hb hEV hP 1 (j := ((12 * w) + (uS y (n3 - 1)))) rfl (by omega) (by decide) dX5_loaded_65 ?_
          refine lv_if_ne (tgt := 76) hx hb dX5_loaded_66 (by decide) (fun c_66 => ?_) (fun c_66 => ?_)
          · skip
            have hE := (if_neg c_66).symm.trans hE
            refine lv_iload hx hb dX5_loaded_76 (lv_at hl 3 rfl) ?_
            refine lv_iload hx hb dX5_loaded_78 (lv_at hl 1 rfl) ?_
            refine ro_S [.int v4, .int (nI (uS y (n3 - 1)))] [] ⟨hx, hb, hml, hown, hts⟩ (c_X5_has l D cI cZ cB cR v4 (uS y (n3 - 1)) (by omega)) (va_cwS 2 hts (goodP (ps := [.methodLink RX5 94 yX5_has, .static yX5_has, .initialized RX5]) (all3 mw_3_201 mw_3_202 mw_1_6) mw_3_203) rfl rfl rfl (by decide +kernel) ⟨Nat.le_of_ble_eq_true rfl, Nat.le_of_ble_eq_true rfl⟩) hEV va_P0 rfl hl.1 rfl (Nat.le_of_ble_eq_true rfl) dX5_loaded_80 ⟨Nat.zero_le _, Nat.zero_le _⟩ ?_
            refine lv_if_eq (tgt := 93) hx hb dX5_loaded_83 (by decide) (fun c_83 => ?_) (fun c_83 => ?_)
            · have c_83 : ¬ ((bt v4 (uS y (n3 - 1))) = true) := b2i_f c_83
              have hE := (if_neg c_83).symm.trans hE
              refine lv_iload hx hb dX5_loaded_93 (lv_at hl 3 rfl) ?_
              refine lv_iconst (v := (1 : Int32)) hx hb dX5_loaded_95 (by decide) ?_
              refine lv_iload hx hb dX5_loaded_96 (lv_at hl 1 rfl) ?_
              refine lv_ishl hx hb dX5_loaded_98 ?_
              refine lv_ior hx hb dX5_loaded_99 ?_
              refine lv_istore (lv' := [(4, .int (v4 ||| ((1 : Int32) <<< ((nI (uS y (n3 - 1))) &&& 31)))), (7, .int (nI ((12 * w) + (uS y (n3 - 1))))), (6, .int (nI (uS y (n3 - 1)))), (5, .int v5), (3, .int (nI n3)), (0, .ref (a 0)), (1, .int (nI w)), (2, .int (nI t))]) hx hb dX5_loaded_100 hl (by decide) rfl (fun ls hl => ?_)
              refine lv_iconst (v := (-1 : Int32)) hx hb dX5_loaded_102 (by decide) ?_
              refine lv_istore (lv' := [(8, .int (-1 : Int32)), (4, .int (v4 ||| ((1 : Int32) <<< ((nI (uS y (n3 - 1))) &&& 31)))), (7, .int (nI ((12 * w) + (uS y (n3 - 1))))), (6, .int (nI (uS y (n3 - 1)))), (5, .int v5), (3, .int (nI n3)), (0, .ref (a 0)), (1, .int (nI w)), (2, .int (nI t))]) hx hb dX5_loaded_103 hl (by decide) rfl (fun ls hl => ?_)
              exact key_105 14 (-1 : Int32) ((12 * w) + (uS y (n3 - 1))) (uS y (n3 - 1)) v5 (v4 ||| ((1 : Int32) <<< ((nI (uS y (n3 - 1))) &&& 31))) n3 y ls _ _ hP hD hS (by first | (unfold mS; omega) | exact ld_ms hM9 c_120 hm_105) (by first | exact hm_23 | rfl | exact hi_105_1 | exact hi_105_2 | exact hi_105_3 | exact ⟨0, hi_23_0.mid0 (by omega) c_56 (ld_th c_66) c_83⟩ | exact hi_23_0.mid1 (by omega) c_56 | exact ld_P2 hM9 hv9 hi_105_1 hi_105_2 c_120 c_147 c_193 | exact ld_P3 hM9 hv9 hi_105_1 hi_105_2 c_120 c_147 c_174 c_193 | exact ld_P4 hM9 hv9 hi_105_1 hi_105_2 c_120 c_147 c_174 | exact ld_P7 wx.1 hu9 hM9 hv9 hi_105_1 hi_105_2 c_120 c_147 c_183 | exact ld_P8 wx.1 hu9 hM9 hv9 hi_105_1 hi_105_2 c_120 c_147 c_183 c_193 | exact ld_P9 wx.1 hu9 hM9 hv9 hi_105_1 hi_105_2 c_120 c_147 c_183 c_193 | exact absurd c_183 (Int32.not_lt.mpr c_147) | exact absurd (Int32.not_lt.mp c_183) c_107) (by first | exact hm_23 | rfl | exact hi_105_1 | exact hi_105_2 | exact hi_105_3 | exact ⟨0, hi_23_0.mid0 (by omega) c_56 (ld_th c_66) c_83⟩ | exact hi_23_0.mid1 (by omega) c_56 | exact ld_P2 hM9 hv9 hi_105_1 hi_105_2 c_120 c_147 c_193 | exact ld_P3 hM9 hv9 hi_105_1 hi_105_2 c_120 c_147 c_174 c_193 | exact ld_P4 hM9 hv9 hi_105_1 hi_105_2 c_120 c_147 c_174 | exact ld_P7 wx.1 hu9 hM9 hv9 hi_105_1 hi_105_2 c_120 c_147 c_183 | exact ld_P8 wx.1 hu9 hM9 hv9 hi_105_1 hi_105_2 c_120 c_147 c_183 c_193 | exact ld_P9 wx.1 hu9 hM9 hv9 hi_105_1 hi_105_2 c_120 c_147 c_183 c_193 | exact absurd c_183 (Int32.not_lt.mpr c_147) | exact absurd (Int32.not_lt.mp c_183) c_107) (by first | exact hm_23 | rfl | exact hi_105_1 | exact hi_105_2 | exact hi_105_3 | exact ⟨0, hi_23_0.mid0 (by omega) c_56 (ld_th c_66) c_83⟩ | exact hi_23_0.mid1 (by omega) c_56 | exact ld_P2 hM9 hv9 hi_105_1 hi_105_2 c_120 c_147 c_193 | exact ld_P3 hM9 hv9 hi_105_1 hi_105_2 c_120 c_147 c_174 c_193 | exact ld_P4 hM9 hv9 hi_105_1 hi_105_2 c_120 c_147 c_174 | exact ld_P7 wx.1 hu9 hM9 hv9 hi_105_1 hi_105_2 c_120 c_147 c_183 | exact ld_P8 wx.1 hu9 hM9 hv9 hi_105_1 hi_105_2 c_120 c_147 c_183 c_193 | exact ld_P9 wx.1 hu9 hM9 hv9 hi_105_1 hi_105_2 c_120 c_147 c_183 c_193 | exact absurd c_183 (Int32.not_lt.mpr c_147) | exact absurd (Int32.not_lt.mp c_183) c_107) (by first | exact hm_23 | rfl | exact hi_105_1 | exact hi_105_2 | exact hi_105_3 | exact ⟨0, hi_23_0.mid0 (by omega) c_56 (ld_th c_66) c_83⟩ | exact hi_23_0.mid1 (by omega) c_56 | exact ld_P2 hM9 hv9 hi_105_1 hi_105_2 c_120 c_147 c_193 | exact ld_P3 hM9 hv9 hi_105_1 hi_105_2 c_120 c_147 c_174 c_193 | exact ld_P4 hM9 hv9 hi_105_1 hi_105_2 c_120 c_147 c_174 | exact ld_P7 wx.1 hu9 hM9 hv9 hi_105_1 hi_105_2 c_120 c_147 c_183 | exact ld_P8 wx.1 hu9 hM9 hv9 hi_105_1 hi_105_2 c_120 c_147 c_183 c_193 | exact ld_P9 wx.1 hu9 hM9 hv9 hi_105_1 hi_105_2 c_120 c_147 c_183 c_193 | exact absurd c_183 (Int32.not_lt.mpr c_147) | exact absurd (Int32.not_lt.mp c_183) c_107) (lv_sub hl [0, 2, 3, 4, 1, 5, 6, 7, 8] rfl) hE
            · have c_83 : (bt v4 (uS y (n3 - 1))) = true := b2i_t c_83
              have hE := (if_pos c_83).symm.trans hE
              refine lv_iconst (v := (2 : Int32)) hx hb dX5_loaded_86 (by decide) ?_
              refine lv_iload hx hb dX5_loaded_87 (lv_at hl 1 rfl) ?_
              refine ro_S [.int (2 : Int32), .int (nI (uS y (n3 - 1)))] [] ⟨hx, hb, hml, hown, hts⟩ (c_X5_verdict l D cI cZ cB cR 2 (uS y (n3 - 1)) (by omega) (by omega)) (va_cwS 2 hts (goodP (ps := [.methodLink RX5 97 yX5_verdict, .static yX5_verdict, .initialized RX5]) (all3 mw_3_198 mw_3_199 mw_1_6) mw_3_200) rfl rfl rfl (by decide +kernel) ⟨Nat.le_of_ble_eq_true rfl, Nat.le_of_ble_eq_true rfl⟩) hEV va_P0 rfl hl.1 rfl (Nat.le_of_ble_eq_true rfl) dX5_loaded_89 ⟨Nat.zero_le _, Nat.zero_le _⟩ ?_
              exact W.iret hx hb hr (fun t9 ht9 _ => ⟨⟨_, (), rfl, congrArg Prod.fst hE, by show va_P D vwCl _ t9.heap; rw [ht9, ← congrArg Prod.snd hE]; exact hP⟩, hS.F ht9⟩) hS.2.2 dX5_loaded_92
          · skip
            have hE := (if_pos c_66).symm.trans hE
            refine lv_iconst (v := (1 : Int32)) hx hb dX5_loaded_69 (by decide) ?_
            refine lv_iload hx hb dX5_loaded_70 (lv_at hl 1 rfl) ?_
            refine ro_S [.int (1 : Int32), .int (nI (uS y (n3 - 1)))] [] ⟨hx, hb, hml, hown, hts⟩ (c_X5_verdict l D cI cZ cB cR 1 (uS y (n3 - 1)) (by omega) (by omega)) (va_cwS 2 hts (goodP (ps := [.methodLink RX5 97 yX5_verdict, .static yX5_verdict, .initialized RX5]) (all3 mw_3_198 mw_3_199 mw_1_6) mw_3_200) rfl rfl rfl (by decide +kernel) ⟨Nat.le_of_ble_eq_true rfl, Nat.le_of_ble_eq_true rfl⟩) hEV va_P0 rfl hl.1 rfl (Nat.le_of_ble_eq_true rfl) dX5_loaded_72 ⟨Nat.zero_le _, Nat.zero_le _⟩ ?_
            exact W.iret hx hb hr (fun t9 ht9 _ => ⟨⟨_, (), rfl, congrArg Prod.fst hE, by show va_P D vwCl _ t9.heap; rw [ht9, ← congrArg Prod.snd hE]; exact hP⟩, hS.F ht9⟩) hS.2.2 dX5_loaded_75
  refine lv_iconst (v := (1 : Int32)) hx hb dX5_loaded_0 (by decide) ?_
  refine lv_istore_n (lv' := [(3, .int (1 : Int32)), (0, .ref (a 0)), (1, .int (nI w)), (2, .int (nI t))]) hx hb dX5_loaded_1 rfl hl (by decide) rfl (fun ls hl => ?_)
  refine lv_iconst (v := (0 : Int32)) hx hb dX5_loaded_2 (by decide) ?_
  refine lv_istore (lv' := [(4, .int (0 : Int32)), (3, .int (1 : Int32)), (0, .ref (a 0)), (1, .int (nI w)), (2, .int (nI t))]) hx hb dX5_loaded_3 hl (by decide) rfl (fun ls hl => ?_)
  refine lv_iconst (v := (0 : Int32)) hx hb dX5_loaded_5 (by decide) ?_
  refine lv_istore (lv' := [(5, .int (0 : Int32)), (4, .int (0 : Int32)), (3, .int (1 : Int32)), (0, .ref (a 0)), (1, .int (nI w)), (2, .int (nI t))]) hx hb dX5_loaded_6 hl (by decide) rfl (fun ls hl => ?_)
  refine lv_aload_n hx hb dX5_loaded_8 rfl (lv_at hl 3 rfl) ?_
  refine va_get (D := D) (ci := 5) (v := .ref (a 18)) (C := RX5) (T := TX5) (N := 21) hx hb hts (fun w9 h9 => List.mem_cons_of_mem _ (inT_X5 w9 h9)) hown hK hP 0 rfl rfl 19 (by decide) (hts (.fieldLink RX5 62 "LinkPredictorModel" "row" "[I") (List.mem_cons_of_mem _ mw_3_85)) (fun _ h9 => h9) rfl dX5_loaded_9 ?_
  refine lv_iconst (v := (0 : Int32)) hx hb dX5_loaded_12 (by decide) ?_
  refine lv_iload_n hx hb dX5_loaded_13 rfl (lv_at hl 5 rfl) ?_
  refine mu_ast hx hb hEV hP hD hS 18 (j := 0) (v := nI t) (w2 := wX cI cZ a x ((st2 y 0 0 (nI t)) 0) ((st2 y 0 0 (nI t)) 1)) rfl (by omega) (by decide) rfl dX5_loaded_14 (fun H locs hP hD hS => ?_)
  refine lv_aload_n hx hb dX5_loaded_15 rfl (lv_at hl 3 rfl) ?_
  refine va_get (D := D) (ci := 5) (v := .ref (a 19)) (C := RX5) (T := TX5) (N := 21) hx hb hts (fun w9 h9 => List.mem_cons_of_mem _ (inT_X5 w9 h9)) hown hK hP 0 rfl rfl 20 (by decide) (hts (.fieldLink RX5 65 "LinkPredictorModel" "stage" "[I") (List.mem_cons_of_mem _ mw_3_86)) (fun _ h9 => h9) rfl dX5_loaded_16 ?_
  refine lv_iconst (v := (0 : Int32)) hx hb dX5_loaded_19 (by decide) ?_
  refine lv_bipush (v := (-2 : Int32)) hx hb dX5_loaded_20 (by decide) ?_
  refine mu_ast hx hb hEV hP hD hS 19 (j := 0) (v := (-2 : Int32)) (w2 := wX cI cZ a x ((st2 (st2 y 0 0 (nI t)) 1 0 (-2 : Int32)) 0) ((st2 (st2 y 0 0 (nI t)) 1 0 (-2 : Int32)) 1)) rfl (by omega) (by decide) rfl dX5_loaded_22 (fun H locs hP hD hS => ?_)
  exact key_23 40 (0 : Int32) (0 : Int32) 1 (st2 (st2 y 0 0 (nI t)) 1 0 (-2 : Int32)) ls _ _ hP hD hS (by first | (rw [cN_0]; omega) | omega | exact ld_pm hM9 hs9 c_204 hnt hi_202_1 c_236 hi_202_2) (by first | exact IV.init hnt y | exact hM9.push c_204 | (rw [hi_202_1]; exact (MD.pop (ld_13 hM9 hs9 c_204) hnt (by rw [← hi_202_1]; exact c_236)).1)) (lv_sub hl [0, 1, 2, 3, 4, 5] rfl) hE
theorem pl_ld202 {x : Nat → Nat → Int32} {w n t k s n3 n6 : Nat} {K : Int32 → Int32 → Nat → (Nat → Nat → Int32) → Int32 × (Nat → Nat → Int32)} {v4 v5 v8 : Int32} {y : Nat → Nat → Int32} (ht : t < 12) (hK : ∀ v5 v4 n3 y, 2 * cN v5 + (13 - n3) < k → IV (vwX x w) t n3 v4 v5 y → (K v5 v4 n3 y).1 = LV (vwX x w) t) (hM : MD (vwX x w) t n3 v4 v5 y s v8) (hs : v8 < 0 → s = 13) (e6 : n6 = uS y (n3 - 1)) (hk : 2 * cN v5 + (13 - n3) < k + 1) : (p_X5_loaded_202 x w n t K v8 n6 v5 v4 n3 y).1 = LV (vwX x w) t := by
  rw [p_X5_loaded_202]
  by_cases c : v8 < 0
  · rw [if_pos c]
    by_cases c2 : wrB (vwX x w) n6 = true
    · rw [if_pos c2, e6]; exact (ld_13 hM hs c).changed ht (by rw [← e6]; exact c2)
    · rw [if_neg c2]
      refine hK _ _ _ _ (ld_pm hM hs c ht e6 c2 hk) ?_
      rw [e6]; exact (MD.pop (ld_13 hM hs c) ht (by rw [← e6]; exact c2)).1
  · rw [if_neg c]
    have := hM.le
    exact hK _ _ _ _ (by omega) (hM.push c)
theorem pl_ld105 {x : Nat → Nat → Int32} {w n t k n3 n6 n7 : Nat} {K : Int32 → Int32 → Nat → (Nat → Nat → Int32) → Int32 × (Nat → Nat → Int32)} {v4 v5 : Int32} (wf : WFT (vwX x w)) (ht : t < 12) (hK : ∀ v5 v4 n3 y, 2 * cN v5 + (13 - n3) < k → IV (vwX x w) t n3 v4 v5 y → (K v5 v4 n3 y).1 = LV (vwX x w) t) (h6 : n6 < 12) (e7 : n7 = 12 * w + n6) (hk : 2 * cN v5 + (13 - n3) < k + 1) : ∀ j v8 y, mS y n3 < j → (∃ s, MD (vwX x w) t n3 v4 v5 y s v8) → n6 = uS y (n3 - 1) → (p_X5_loaded_105 x w n t K j v8 n7 n6 v5 v4 n3 y).1 = LV (vwX x w) t := by
  intro j
  induction j with
  | zero => intro v8 y h; omega
  | succ j ih =>
    intro v8 y hj hM e6
    rw [p_X5_loaded_105]
    by_cases c1 : 0 ≤ v8
    · rw [if_pos c1]
      obtain ⟨s, h1, h2⟩ := ld_e1 hM c1
      exact pl_ld202 ht hK h1 h2 e6 hk
    · rw [if_neg c1]
      obtain ⟨s, hM⟩ := hM
      have hv := hM.m1 c1
      by_cases c2 : 11 ≤ y 1 (n3 - 1)
      · rw [if_pos c2]
        obtain ⟨s, h1, h2⟩ := ld_e2 hM c2
        exact pl_ld202 ht hK h1 h2 e6 hk
      · rw [if_neg c2]
        have hm := ld_ms hM c2 hj
        have e6' : n6 = uS (st2 y 1 (n3 - 1) (y 1 (n3 - 1) + 1)) (n3 - 1) := e6
        by_cases c3 : 0 ≤ y 1 (n3 - 1) + 1
        · rw [if_pos c3]
          by_cases c4 : bt (x 4 n7) (sN (y 1 (n3 - 1) + 1)) = true
          · rw [if_pos c4]
            by_cases c5 : y 1 (n3 - 1) + 1 < 0
            · exact absurd c5 (Int32.not_lt.mpr c3)
            · rw [if_neg c5]
              by_cases c6 : bt v5 (sN (y 1 (n3 - 1) + 1)) = true
              · rw [if_pos c6]; exact ih _ _ hm (ld_P2 hM hv e6 e7 c2 c3 c6) e6'
              · rw [if_neg c6]; exact ih _ _ hm (ld_P3 hM hv e6 e7 c2 c3 c4 c6) e6'
          · rw [if_neg c4, if_pos (Int32.not_le.mp c1)]; exact ih _ _ hm (ld_P4 hM hv e6 e7 c2 c3 c4) e6'
        · rw [if_neg c3]
          by_cases c5 : x 3 n7 < 0
          · rw [if_pos c5]; exact ih _ _ hm (ld_P7 wf h6 hM hv e6 e7 c2 c3 c5) e6'
          · rw [if_neg c5]
            by_cases c6 : bt v5 (sN (x 3 n7)) = true
            · rw [if_pos c6]; exact ih _ _ hm (ld_P8 wf h6 hM hv e6 e7 c2 c3 c5 c6) e6'
            · rw [if_neg c6]; exact ih _ _ hm (ld_P9 wf h6 hM hv e6 e7 c2 c3 c5 c6) e6'
theorem pl_ld23 {x : Nat → Nat → Int32} {w n t : Nat} (wf : WFT (vwX x w)) (ht : t < 12) : ∀ k v5 v4 n3 y, 2 * cN v5 + (13 - n3) < k → IV (vwX x w) t n3 v4 v5 y → (p_X5_loaded_23 x w n t k v5 v4 n3 y).1 = LV (vwX x w) t := by
  intro k
  induction k with
  | zero => intro v5 v4 n3 y h; omega
  | succ k ih =>
    intro v5 v4 n3 y hk hI
    rw [p_X5_loaded_23]
    by_cases c : n3 ≤ 0
    · rw [if_pos c]
      have g : Gd (vwX x w) t := by
        rcases hI with h | h | ⟨s, -, h⟩
        · exact h.2
        · omega
        · have := h.1; omega
      rw [LV_good g]; show nI (64 * 0 + t) = nI t; rw [Nat.mul_zero, Nat.zero_add]
    · rw [if_neg c]
      have hu : uS y (n3 - 1) < 12 := ((hI.pos (by omega)).2.1 (n3 - 1) (by omega)).1
      by_cases c1 : y 1 (n3 - 1) = -2
      · rw [if_pos c1]
        by_cases c2 : x 0 (12 * w + uS y (n3 - 1)) = 0
        · rw [if_pos c2]; exact hI.missing (by omega) ht (by show ¬ (!decide (x 0 (12 * w + uS y (n3 - 1)) = 0)) = true; simp [c2])
        · rw [if_neg c2]
          by_cases c3 : bt v4 (uS y (n3 - 1)) = true
          · rw [if_pos c3]; exact hI.circular (by omega) ht c1 (ld_th c2) c3
          · rw [if_neg c3]
            exact pl_ld105 wf ht (fun v5 v4 n3 y h1 h2 => ih v5 v4 n3 y h1 h2) hu rfl hk 14 _ _ (by unfold mS; omega) ⟨0, hI.mid0 (by omega) c1 (ld_th c2) c3⟩ rfl
      · rw [if_neg c1]
        exact pl_ld105 wf ht (fun v5 v4 n3 y h1 h2 => ih v5 v4 n3 y h1 h2) hu rfl hk 14 _ _ (by unfold mS; omega) (hI.mid1 (by omega) c1) rfl
theorem pe_X5_loaded (x y : Nat → Nat → Int32) (w n t : Nat) (wx : WX x w n) (ht : t < 12) : (p_X5_loaded x w n t y).1 = LV (vwX x w) t := by
  rw [p_X5_loaded]
  exact pl_ld23 wx.1 ht 40 _ _ _ _ (by rw [cN_0]; omega) (IV.init ht y)

