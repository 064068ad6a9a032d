/-! ===== class and reference: two tables that differ in the hosts alone ===== -/
def SE (τ σ : Nat → Nat → Int32) : Prop := ∀ k, k ≠ 5 → τ k = σ k
section SEC
variable {τ σ γ : Nat → Nat → Int32}
theorem se_th (e : SE τ σ) : thB τ = thB σ := by funext t; unfold thB; rw [e 0 (by decide)]
theorem se_wr (e : SE τ σ) : wrB τ = wrB σ := by funext t; unfold wrB; rw [e 1 (by decide), e 3 (by decide), e 4 (by decide)]
theorem se_gN (e : SE τ σ) : ∀ n, gN τ n = gN σ n
  | 0 => by funext t; rw [gN, gN]
  | n + 1 => by
    have ih := se_gN e n
    funext t
    rw [gN, gN, ih, se_th e, se_wr e, e 3 (by decide), e 4 (by decide)]
theorem se_Gd (e : SE τ σ) : Gd τ = Gd σ := by
  funext t
  unfold Gd
  simp only [se_gN e]
theorem se_gdB (e : SE τ σ) : gdB τ = gdB σ := by
  funext t
  rw [Bool.eq_iff_iff, gdB_iff, gdB_iff, se_Gd e]
theorem se_vN (e : SE τ σ) : ∀ n, vN τ n = vN σ n
  | 0 => by funext o t; rw [vN, vN]
  | n + 1 => by
    have ih := se_vN e n
    funext o t
    rw [vN, vN, ih, se_th e, se_wr e, se_gdB e, e 3 (by decide), e 4 (by decide)]
theorem se_LV (e : SE τ σ) : LV τ = LV σ := by funext t; unfold LV; rw [se_vN e]
theorem se_abN (e : SE τ σ) : ∀ n, abN τ n = abN σ n
  | 0 => by funext t w; rw [abN, abN]
  | n + 1 => by
    have ih := se_abN e n
    funext t w
    rw [abN, abN, ih, e 3 (by decide)]
theorem se_fcN (e : SE τ σ) : ∀ n, fcN τ n = fcN σ n
  | 0 => by funext t w; rw [fcN, fcN]
  | n + 1 => by
    have ih := se_fcN e n
    funext t w
    rw [fcN, fcN, ih, e 3 (by decide), e 4 (by decide)]
theorem se_abB (e : SE τ σ) : abB τ = abB σ := by
  funext t w
  rw [Bool.eq_iff_iff, abB_iff, abB_iff]
  simp only [se_abN e]
theorem se_fcB (e : SE τ σ) : fcB τ = fcB σ := by
  funext t w
  rw [Bool.eq_iff_iff, fcB_iff, fcB_iff]
  simp only [se_fcN e]
theorem se_fR (e : SE τ σ) (n : Nat) (key : Int32) : ∀ d, fR τ γ n key d = fR σ γ n key d
  | 0 => by funext t; rw [fR, fR]
  | d + 1 => by
    have ih := se_fR e n key d
    funext t
    rw [fR, fR, ih, e 3 (by decide), e 4 (by decide)]
theorem se_FR (e : SE τ σ) (n : Nat) (key : Int32) (t : Nat) : FR τ γ n key t = FR σ γ n key t := by unfold FR; rw [se_fR e]
theorem se_rcI (e : SE τ σ) (x y : Nat) : rcI τ x y = rcI σ x y := by unfold rcI rcF; rw [se_LV e, e 1 (by decide), e 2 (by decide)]
theorem se_spI (e : SE τ σ) (n r : Nat) (key : Int32) : spI τ γ n r key = spI σ γ n r key := by
  have h1 : hoB τ γ n r key = hoB σ γ n r key := by funext f; unfold hoB; rw [se_fcB e]
  have h2 : msB τ γ n r key = msB σ γ n r key := by funext f; unfold msB; rw [h1, se_fcB e, se_abB e]
  unfold spI
  rw [h2]
/-- the hosts are the same where a type is there -/
def HA (τ σ : Nat → Nat → Int32) : Prop := ∀ t, t < 12 → thB τ t = true → τ 5 t = σ 5 t
theorem se_nsN (e : SE τ σ) (ha : HA τ σ) (wf : WFT τ) {x : Nat} (hx : x < 12) (ht : thB τ x = true) : nsN τ x = nsN σ x := by
  have h5 := ha x hx ht
  have hT := ((wf.1 x hx).2.1).1
  unfold nsN
  rw [h5] at hT ⊢
  rw [← se_th e, ← e 2 (by decide)]
  by_cases c : thB τ (sN (σ 5 x)) = true
  · rw [if_pos c, if_pos c, ha _ hT c]
  · rw [if_neg c, if_neg c]
theorem exB_cong {p q : Nat → Bool} {n : Nat} (h : ∀ j, j < n → p j = q j) : exB p n = exB q n := by unfold exB; rw [fst_cong h]
theorem orF_cong {p q : Nat → Bool} {f : Nat → Nat} : ∀ {n : Nat}, (∀ j, j < n → p j = q j) → orF p f n = orF q f n
  | 0, _ => rfl
  | n + 1, h => by rw [orF, orF, orF_cong (n := n) (fun j hj => h j (by omega)), h n (by omega)]
theorem se_mt (e : SE τ σ) (ha : HA τ σ) (wf : WFT τ) {t u : Nat} (ht : t < 12) (hu : u < 12) : mtB τ t u = mtB σ t u := by
  unfold mtB
  rw [← se_th e]
  cases h1 : thB τ t with
  | false => simp only [Bool.false_and]
  | true =>
    cases h2 : thB τ u with
    | false => simp only [Bool.and_false, Bool.false_and]
    | true => rw [se_nsN e ha wf ht h1, se_nsN e ha wf hu h2]
theorem se_shI (e : SE τ σ) (ha : HA τ σ) (wf : WFT τ) : shI τ = shI σ := by
  unfold shI
  refine orF_cong (fun t ht => ?_)
  unfold shB
  refine exB_cong (fun u hu => ?_)
  rw [se_mt e ha wf ht hu]
end SEC
/-! ===== what the members keep ===== -/
/-- no type has two members of one key -/
def UQ (γ : Nat → Nat → Int32) (n : Nat) : Prop := ∀ m m', m < n → m' < n → goB γ m = false → goB γ m' = false → γ 0 m = γ 0 m' → γ 1 m = γ 1 m' → m = m'
/-- a member that is not gone is of a type that is there -/
def OT (τ γ : Nat → Nat → Int32) (n : Nat) : Prop := ∀ m, m < n → goB γ m = false → thB τ (sN (γ 0 m)) = true
theorem fd_spec {γ : Nat → Nat → Int32} {n t : Nat} {key : Int32} (h : fdN γ n t key < n) : γ 1 (fdN γ n t key) = key ∧ γ 0 (fdN γ n t key) = nI t ∧ goB γ (fdN γ n t key) = false := by
  have := fst_yes (ownP γ t key) n h
  have e : fst (ownP γ t key) n = fdN γ n t key := rfl
  rw [e] at this
  unfold ownP at this
  simp only [Bool.and_eq_true, decide_eq_true_eq, Bool.not_eq_true'] at this
  exact ⟨this.1.1, this.1.2, this.2⟩
theorem fd_uq {γ : Nat → Nat → Int32} {n m : Nat} {key : Int32} (uq : UQ γ n) (wm : WFM γ n) (hm : m < n) (hg : goB γ m = false) (hk : γ 1 m = key) : fdN γ n (sN (γ 0 m)) key = m := by
  have hT := wm m hm
  unfold fdN
  refine fst_at hm ?_ (fun j hj => ?_)
  · unfold ownP
    simp only [Bool.and_eq_true, decide_eq_true_eq, Bool.not_eq_true']
    exact ⟨⟨hk, hT.2⟩, hg⟩
  · cases e : ownP γ (sN (γ 0 m)) key j with
    | false => rfl
    | true =>
      unfold ownP at e
      simp only [Bool.and_eq_true, decide_eq_true_eq, Bool.not_eq_true'] at e
      have := uq j m (by omega) hm e.2 hg (by rw [e.1.2, ← hT.2]) (by rw [e.1.1, hk])
      omega
/-- one build: the class's h and g, the reference's x at w, n members -/
def BR (h g x τ : Nat → Nat → Int32) (w n : Nat) : Prop := OKH h τ ∧ WFT τ ∧ SE τ (vwX x w) ∧ HA τ (vwX x w) ∧ OKM g (vmX x w) n ∧ WX x w n ∧ UQ (vmX x w) n ∧ OT τ (vmX x w) n
section BRS
variable {h g x τ : Nat → Nat → Int32} {w n : Nat}
theorem BR.okh (b : BR h g x τ w n) : OKH h τ := b.1
theorem BR.wf (b : BR h g x τ w n) : WFT τ := b.2.1
theorem BR.se (b : BR h g x τ w n) : SE τ (vwX x w) := b.2.2.1
theorem BR.ha (b : BR h g x τ w n) : HA τ (vwX x w) := b.2.2.2.1
theorem BR.okm (b : BR h g x τ w n) : OKM g (vmX x w) n := b.2.2.2.2.1
theorem BR.wx (b : BR h g x τ w n) : WX x w n := b.2.2.2.2.2.1
theorem BR.uq (b : BR h g x τ w n) : UQ (vmX x w) n := b.2.2.2.2.2.2.1
theorem BR.ot (b : BR h g x τ w n) : OT τ (vmX x w) n := b.2.2.2.2.2.2.2
theorem BR.wm (b : BR h g x τ w n) : WFM (vmX x w) n := b.wx.wm
theorem BR.n30 (b : BR h g x τ w n) : n ≤ 30 := b.wx.2.2.1
/-! ===== the faces that hold a method ===== -/
theorem ho_bt (b : BR h g x τ w n) {t : Nat} (ht : t < 12) (gt : Gd τ t) (key : Int32) {f : Nat} (hf : f < 32) : bt (h 7 t &&& owI (vmX x w) n key) f = true ↔ f < 12 ∧ hoB τ (vmX x w) n t key f = true := by
  have wm := b.wm
  rw [b_and, Bool.and_eq_true]
  unfold owI hoB offB
  rw [orF_bt _ _ hf n (fun m hm => by have := (wm m hm).1; omega)]
  simp only [Bool.and_eq_true, decide_eq_true_eq, Bool.not_eq_true']
  constructor
  · rintro ⟨h1, m, hm, ⟨⟨hk, hg⟩, hi⟩, hs⟩
    have hf12 : f < 12 := by have := (wm m hm).1; omega
    have e : fdN (vmX x w) n f key = m := by rw [← hs]; exact fd_uq b.uq wm hm hg hk
    rw [e]
    exact ⟨hf12, by rw [← b.okh.fc ht gt hf12]; exact h1, hm, hi⟩
  · rintro ⟨hf12, h1, h2, h3⟩
    obtain ⟨q1, q2, q3⟩ := fd_spec h2
    exact ⟨by rw [b.okh.fc ht gt hf12]; exact h1, _, h2, ⟨⟨q1, q3⟩, h3⟩, by rw [q2, sN_nI (by omega)]⟩
/-- what lies among the faces of a loaded type lies lower -/
theorem abN_low {τ : Nat → Nat → Int32} : ∀ {n t u : Nat}, abN τ n t u = true → u = t ∨ lowr τ u t
  | 0, t, u, q => by rw [abN] at q; exact absurd q (by decide)
  | n + 1, t, u, q => by
    rw [abN] at q
    simp only [Bool.or_eq_true, Bool.and_eq_true, decide_eq_true_eq, Bool.not_eq_true', decide_eq_false_iff_not] at q
    rcases q with q | ⟨q1, q2⟩
    · exact Or.inl q
    · rcases abN_low q2 with e | e
      · exact Or.inr (by rw [e]; exact lowr.sup q1)
      · exact Or.inr (e.trans (lowr.sup q1))
theorem fcN_low {τ : Nat → Nat → Int32} {u : Nat} (hu : u < 12) : ∀ {n t : Nat}, fcN τ n t u = true → lowr τ u t
  | 0, t, q => by rw [fcN] at q; exact absurd q (by decide)
  | n + 1, t, q => by
    rw [fcN] at q
    simp only [Bool.or_eq_true, Bool.and_eq_true, Bool.not_eq_true', decide_eq_false_iff_not] at q
    rcases q with (q | ⟨q1, q2⟩) | q
    · exact lowr.face hu q
    · exact (fcN_low hu q2).trans (lowr.sup q1)
    · obtain ⟨v, hv, q⟩ := exB_iff.mp q
      simp only [Bool.and_eq_true] at q
      exact (fcN_low hu q.2).trans (lowr.face hv q.1)
theorem fcB_irr {τ : Nat → Nat → Int32} {t : Nat} (ht : t < 12) (gt : Gd τ t) : ¬ fcB τ t t = true := by
  intro q
  obtain ⟨k, q⟩ := fcB_iff.mp q
  exact (fcN_low ht q).irr gt
theorem root_nif {τ : Nat → Nat → Int32} (wf : WFT τ) : bt (τ 1 0) 1 = false := by rw [wf.2.2.1]; decide
/-- of an interface that is loaded: itself and the root -/
theorem if_ab {τ : Nat → Nat → Int32} (wf : WFT τ) {t u : Nat} (gt : Gd τ t) (hi : bt (τ 1 t) 1 = true) (q : abB τ t u = true) : u = t ∨ u = 0 := by
  rw [abB_eq] at q
  simp only [Bool.or_eq_true, Bool.and_eq_true, decide_eq_true_eq, Bool.not_eq_true', decide_eq_false_iff_not] at q
  rcases q with q | ⟨q1, q2⟩
  · exact Or.inl q
  · rw [if_sup gt hi, isT_root, abB_eq, wf.2.2.2.1] at q2
    simp only [Bool.or_eq_true, Bool.and_eq_true, decide_eq_true_eq, Bool.not_eq_true', decide_eq_false_iff_not] at q2
    rcases q2 with q2 | ⟨q2, _⟩
    · exact Or.inr q2
    · exact (q2 trivial).elim
theorem ms_eq (b : BR h g x τ w n) {t : Nat} (ht : t < 12) (gt : Gd τ t) (key : Int32) : msI h (h 7 t &&& owI (vmX x w) n key) = spI τ (vmX x w) n t key := by
  apply b_ext
  intro f hf
  rw [Bool.eq_iff_iff, msI_bt h _ hf]
  unfold spI
  rw [or12_bt hf]
  unfold msB
  simp only [Bool.and_eq_true, Bool.not_eq_true']
  rw [ho_bt b ht gt key hf]
  constructor
  · rintro ⟨⟨hf12, h1⟩, h2⟩
    refine ⟨hf12, h1, ?_⟩
    cases e : exB (fun g => !decide (g = f) && hoB τ (vmX x w) n t key g && (abB τ g f || fcB τ g f)) 12 with
    | false => rfl
    | true =>
      exfalso
      obtain ⟨u, hu, q⟩ := exB_iff.mp e
      simp only [Bool.and_eq_true, Bool.or_eq_true, Bool.not_eq_true', decide_eq_false_iff_not] at q
      obtain ⟨⟨q1, q2⟩, q3⟩ := q
      apply h2
      have hu3 : fcB τ t u = true := by unfold hoB at q2; simp only [Bool.and_eq_true] at q2; exact q2.1
      have hf3 : fcB τ t f = true := by unfold hoB at h1; simp only [Bool.and_eq_true] at h1; exact h1.1
      have gu := fc_good hu gt hu3
      refine ⟨u, hu, (ho_bt b ht gt key (by omega)).mpr ⟨hu, q2⟩, ?_⟩
      rw [b.okh.fc hu gu.1 hf12]
      rcases q3 with q3 | q3
      · rcases if_ab b.wf gu.1 gu.2 q3 with z | z
        · exact absurd z.symm q1
        · have := (fc_good hf12 gt hf3).2
          rw [z, root_nif b.wf] at this
          exact absurd this (by decide)
      · exact q3
  · rintro ⟨hf12, h1, h2⟩
    refine ⟨⟨hf12, h1⟩, ?_⟩
    rintro ⟨u, hu, q1, q2⟩
    have hq := ((ho_bt b ht gt key (f := u) (by omega)).mp q1).2
    have hu3 : fcB τ t u = true := by unfold hoB at hq; simp only [Bool.and_eq_true] at hq; exact hq.1
    have gu := fc_good hu gt hu3
    rw [b.okh.fc hu gu.1 hf12] at q2
    have : exB (fun g => !decide (g = f) && hoB τ (vmX x w) n t key g && (abB τ g f || fcB τ g f)) 12 = true := by
      refine exB_iff.mpr ⟨u, hu, ?_⟩
      simp only [Bool.and_eq_true, Bool.or_eq_true, Bool.not_eq_true', decide_eq_false_iff_not]
      refine ⟨⟨fun z => ?_, hq⟩, Or.inr q2⟩
      subst z
      exact fcB_irr hu gu.1 q2
    rw [this] at h2
    exact absurd h2 (by decide)
/-- none, several, or one: as the class and as the reference tell it -/
def crO (γ : Nat → Nat → Int32) (n : Nat) (v v' : Int32) : Prop := (v = -2 ∧ v' = -1) ∨ (v = -4 ∧ v' = -2) ∨ ∃ j, j < n ∧ goB γ j = false ∧ v = nI j ∧ v' = nI j
theorem ob6 (w n u : Nat) (hn : n ≤ 30) (mk : Int32) (hm : ∀ f, f < 12 → bt mk f = true → fdN (vmX x w) n f (kyF true (nI u)) < n) : ∀ k i v v', 12 - i < k → crO (vmX x w) n v v' → crO (vmX x w) n (p_X0_findOnlyWithBody_6 h τ g (vmX x w) n mk (nI u) k i v) (p_X5_bodied_6 x w n mk u k i v') := by
  intro k
  induction k with
  | zero => intro i v v' q; omega
  | succ k ih =>
    intro i v v' hk hc
    rw [p_X0_findOnlyWithBody_6, p_X5_bodied_6]
    by_cases c : 12 ≤ i
    · rw [if_pos c, if_pos c]; exact hc
    · rw [if_neg c, if_neg c]
      by_cases c1 : bt mk i = true
      · have hlt := hm i (by omega) c1
        have e1 : fdI (vmX x w) n i (kyF true (nI u)) = nI (fdN (vmX x w) n i (kyF true (nI u))) := by unfold fdI; rw [if_pos hlt]
        have e2 : odI (vmX x w) n i (kyF true (nI u)) = nI (fdN (vmX x w) n i (kyF true (nI u))) := odI_of hlt
        have e3 : x 12 (30 * w + fdN (vmX x w) n i (kyF true (nI u))) = vmX x w 3 (fdN (vmX x w) n i (kyF true (nI u))) := rfl
        rw [if_pos c1, if_pos c1, e1, e2, e3, if_neg (nI_nn (by omega))]
        by_cases c2 : bt (vmX x w 3 (fdN (vmX x w) n i (kyF true (nI u)))) 1 = true
        · rw [if_pos c2, if_neg (fun z => and2_eq.mp z c2)]
          exact ih _ _ _ (by omega) hc
        · rw [if_neg c2, if_pos (and2_eq.mpr c2)]
          rcases hc with ⟨h1, h2⟩ | ⟨h1, h2⟩ | ⟨j, hj, hg, h1, h2⟩
          · rw [if_pos h1, if_pos h2]
            exact ih _ _ _ (by omega) (Or.inr (Or.inr ⟨_, hlt, (fd_spec hlt).2.2, rfl, rfl⟩))
          · rw [if_neg (by rw [h1]; decide), if_neg (by rw [h2]; decide)]
            exact ih _ _ _ (by omega) (Or.inr (Or.inl ⟨rfl, rfl⟩))
          · rw [if_neg (by rw [h1]; exact nI_nn (by omega)), if_neg (by rw [h2]; intro z; have := nI_pos (n := j) (by omega); rw [z] at this; exact this (by decide))]
            exact ih _ _ _ (by omega) (Or.inr (Or.inl ⟨rfl, rfl⟩))
      · rw [if_neg c1, if_neg c1]
        exact ih _ _ _ (by omega) hc
theorem ob_eq (b : BR h g x τ w n) {t : Nat} (ht : t < 12) (gt : Gd τ t) (u : Nat) : crO (vmX x w) n (p_X0_findOnlyWithBody h τ g (vmX x w) n (msI h (h 7 t &&& owI (vmX x w) n (kyF true (nI u)))) (nI u)) (p_X5_bodied x w n (spI (vwX x w) (vmX x w) n t (kyF true (nI u))) u) := by
  rw [ms_eq b ht gt, ← se_spI b.se]
  exact ob6 w n u b.n30 _ (fun f hf q => spI_fd hf q) 13 0 (-2) (-1) (by omega) (Or.inl ⟨rfl, rfl⟩)
/-! ===== the least one ===== -/
noncomputable def fbP (τ γ : Nat → Nat → Int32) (t : Nat) (key : Int32) (m : Nat) : Bool := !(goB γ m) && decide (γ 1 m = key) && fcB τ t (sN (γ 0 m)) && inhB γ m
theorem pl_find148 (wx : WX x w n) {t u : Nat} (hu : u < 15) : ∀ k i, 30 - i < k → i ≤ n → (∀ j, j < i → fbP (vwX x w) (vmX x w) t (kyF true (nI u)) j = false) → p_X5_find_148 x w n t u k i = av n (fst (fbP (vwX x w) (vmX x w) t (kyF true (nI u))) n) := by
  intro k
  induction k with
  | zero => intro i q; omega
  | succ k ih =>
    intro i hk hi hj
    have hn := wx.2.2.1
    rw [p_X5_find_148]
    by_cases c : n ≤ i
    · rw [if_pos c, fst_none (fun j q => hj j (by omega))]
      unfold av
      rw [if_neg (Nat.lt_irrefl n)]
    · rw [if_neg c]
      obtain ⟨hT, hS, hZ, hA⟩ := wx.2.2.2 i (by omega)
      have hgo : goB (vmX x w) i = !decide (x 7 (30 * w + i) = 0) := rfl
      have hky : vmX x w 1 i = kyF true (nI u) ↔ (!decide (x 6 (30 * w + i) = 0)) = true ∧ x 10 (30 * w + i) = nI u := ky_eq (z := true) hS hu
      have hfc : bt (facI (vwX x w) t) (sN (x 9 (30 * w + i))) = fcB (vwX x w) t (sN (vmX x w 0 i)) := by
        have e : vmX x w 0 i = x 9 (30 * w + i) := rfl
        rw [e, Bool.eq_iff_iff]
        unfold facI
        rw [or12_bt (by have := hT.1; omega)]
        exact ⟨fun q => q.2, fun q => ⟨hT.1, q⟩⟩
      have hin : inhB (vmX x w) i = (!decide (x 11 (30 * w + i) = 0) && !(bt (x 12 (30 * w + i)) 0)) := rfl
      have no : fbP (vwX x w) (vmX x w) t (kyF true (nI u)) i = false → p_X5_find_148 x w n t u k (i + 1) = av n (fst (fbP (vwX x w) (vmX x w) t (kyF true (nI u))) n) := by
        intro z
        refine ih (i + 1) (by omega) (by omega) (fun j q => ?_)
        rcases Nat.lt_or_ge j i with y | y
        · exact hj j y
        · have e : j = i := by omega
          rw [e]; exact z
      by_cases c1 : x 7 (30 * w + i) = 0
      · rw [if_pos c1]
        by_cases c2 : x 6 (30 * w + i) = 0
        · rw [if_pos c2]
          apply no
          have : decide (vmX x w 1 i = kyF true (nI u)) = false := by rw [decide_eq_false_iff_not, hky]; simp [c2]
          unfold fbP; rw [this]; simp
        · rw [if_neg c2]
          by_cases c3 : x 10 (30 * w + i) = nI u
          · rw [if_pos c3, hfc]
            have hk1 : decide (vmX x w 1 i = kyF true (nI u)) = true := by rw [decide_eq_true_iff, hky]; simp [c2, c3]
            by_cases c4 : fcB (vwX x w) t (sN (vmX x w 0 i)) = true
            · rw [if_pos c4]
              by_cases c5 : x 11 (30 * w + i) = 0
              · rw [if_pos c5]
                apply no
                unfold fbP; rw [hin]; simp [c5]
              · rw [if_neg c5]
                by_cases c6 : bt (x 12 (30 * w + i)) 0 = true
                · rw [if_neg (fun z => and1_eq.mp z c6)]
                  apply no
                  unfold fbP; rw [hin]; simp [c6]
                · rw [if_pos (and1_eq.mpr c6), fst_at (i := i) (by omega) (by unfold fbP; rw [hk1, c4, hin, hgo]; simp [c1, c5, c6]) hj]
                  unfold av
                  rw [if_pos (by omega)]
            · rw [if_neg c4]
              apply no
              unfold fbP; simp [c4]
          · rw [if_neg c3]
            apply no
            have : decide (vmX x w 1 i = kyF true (nI u)) = false := by rw [decide_eq_false_iff_not, hky]; simp [c3]
            unfold fbP; rw [this]; simp
      · rw [if_neg c1]
        apply no
        unfold fbP; rw [hgo]; simp [c1]
def lsV (γ : Nat → Nat → Int32) (n : Nat) (mk key : Int32) (i : Nat) (v : Int32) : Prop := (v = -2 ∧ ∀ f, f < i → ¬ bt mk f = true) ∨ ∃ j, j < n ∧ v = nI j ∧ (∃ f, f < i ∧ bt mk f = true ∧ fdN γ n f key = j) ∧ ∀ f, f < i → bt mk f = true → j ≤ fdN γ n f key
theorem lsV_no {γ : Nat → Nat → Int32} {n : Nat} {mk key : Int32} {i : Nat} {v : Int32} (q : lsV γ n mk key i v) (c : ¬ bt mk i = true) : lsV γ n mk key (i + 1) v := by
  have up : ∀ f, f < i + 1 → bt mk f = true → f < i := fun f h1 h2 => by
    rcases Nat.lt_or_ge f i with z | z
    · exact z
    · have e : f = i := by omega
      rw [e] at h2; exact absurd h2 c
  rcases q with ⟨h1, h2⟩ | ⟨j, hj, h1, ⟨f, h3, h4, h5⟩, h6⟩
  · exact Or.inl ⟨h1, fun f q1 q2 => h2 f (up f q1 q2) q2⟩
  · exact Or.inr ⟨j, hj, h1, ⟨f, by omega, h4, h5⟩, fun f q1 q2 => h6 f (up f q1 q2) q2⟩
theorem fl6 {γ : Nat → Nat → Int32} (n : Nat) (hn : n ≤ 30) (mk y : Int32) (hm : ∀ f, f < 12 → bt mk f = true → fdN γ n f (kyF true y) < n) : ∀ k i v, 12 - i < k → i ≤ 12 → lsV γ n mk (kyF true y) i v → lsV γ n mk (kyF true y) 12 (p_X0_findLeast_6 h τ g γ n mk y k i v) := by
  intro k
  induction k with
  | zero => intro i v q; omega
  | succ k ih =>
    intro i v hk hi hv
    rw [p_X0_findLeast_6]
    by_cases c : 12 ≤ i
    · have e : i = 12 := by omega
      rw [if_pos c]; rw [e] at hv; exact hv
    · rw [if_neg c]
      by_cases c1 : bt mk i = true
      · have hlt := hm i (by omega) c1
        have e1 : fdI γ n i (kyF true y) = nI (fdN γ n i (kyF true y)) := by unfold fdI; rw [if_pos hlt]
        rw [if_pos c1, e1]
        rcases hv with ⟨h1, h2⟩ | ⟨j, hj, h1, ⟨f, h3, h4, h5⟩, h6⟩
        · rw [if_pos h1]
          refine ih _ _ (by omega) (by omega) (Or.inr ⟨_, hlt, rfl, ⟨i, by omega, c1, rfl⟩, fun f q1 q2 => ?_⟩)
          rcases Nat.lt_or_ge f i with z | z
          · exact absurd q2 (h2 f z)
          · have e : f = i := by omega
            rw [e]; exact Nat.le_refl _
        · subst h1
          rw [if_neg (nI_nn (by omega))]
          by_cases c2 : fdN γ n i (kyF true y) < j
          · rw [if_pos (nI_lt c2 (by omega))]
            refine ih _ _ (by omega) (by omega) (Or.inr ⟨_, hlt, rfl, ⟨i, by omega, c1, rfl⟩, fun f q1 q2 => ?_⟩)
            rcases Nat.lt_or_ge f i with z | z
            · have := h6 f z q2; omega
            · have e : f = i := by omega
              rw [e]; exact Nat.le_refl _
          · rw [if_neg (nI_nlt (by omega) (by omega))]
            refine ih _ _ (by omega) (by omega) (Or.inr ⟨j, hj, rfl, ⟨f, by omega, h4, h5⟩, fun f q1 q2 => ?_⟩)
            rcases Nat.lt_or_ge f i with z | z
            · exact h6 f z q2
            · have e : f = i := by omega
              rw [e]; omega
      · rw [if_neg c1]
        exact ih _ _ (by omega) (by omega) (lsV_no hv c1)
/-- none: -2 here, -1 there -/
def crN (γ : Nat → Nat → Int32) (n : Nat) (v v' : Int32) : Prop := (v = -2 ∧ v' = -1) ∨ ∃ j, j < n ∧ goB γ j = false ∧ v = nI j ∧ v' = nI j
theorem least_eq (b : BR h g x τ w n) {t u : Nat} (ht : t < 12) (hu : u < 15) (gt : Gd τ t) : crN (vmX x w) n (p_X0_findLeast h τ g (vmX x w) n (h 7 t &&& owI (vmX x w) n (kyF true (nI u))) (nI u)) (p_X5_find_148 x w n t u 31 0) := by
  rw [pl_find148 b.wx hu 31 0 (by omega) (by omega) (fun j q => absurd q (Nat.not_lt_zero j))]
  unfold p_X0_findLeast
  have hb := fun (f : Nat) (hf : f < 12) => ho_bt b ht gt (kyF true (nI u)) (f := f) (by omega)
  have hq := fl6 (h := h) (τ := τ) (g := g) (γ := vmX x w) n b.n30 (h 7 t &&& owI (vmX x w) n (kyF true (nI u))) (nI u) (fun f hf q => by
    have := ((hb f hf).mp q).2
    unfold hoB offB at this
    simp only [Bool.and_eq_true, decide_eq_true_eq] at this
    exact this.2.1) 13 0 (-2) (by omega) (by omega) (Or.inl ⟨rfl, fun f q => absurd q (Nat.not_lt_zero f)⟩)
  have hP : ∀ m, m < n → fbP (vwX x w) (vmX x w) t (kyF true (nI u)) m = true → bt (h 7 t &&& owI (vmX x w) n (kyF true (nI u))) (sN (vmX x w 0 m)) = true ∧ fdN (vmX x w) n (sN (vmX x w 0 m)) (kyF true (nI u)) = m := by
    intro m hm q
    unfold fbP at q
    simp only [Bool.and_eq_true, decide_eq_true_eq, Bool.not_eq_true'] at q
    have hT := (b.wm m hm).1
    have e := fd_uq b.uq b.wm hm q.1.1.1 q.1.1.2
    refine ⟨(hb _ hT).mpr ⟨hT, ?_⟩, e⟩
    unfold hoB offB
    rw [e, se_fcB b.se]
    simp only [Bool.and_eq_true, decide_eq_true_eq]
    exact ⟨q.1.2, hm, q.2⟩
  have hQ : ∀ f, f < 12 → bt (h 7 t &&& owI (vmX x w) n (kyF true (nI u))) f = true → fdN (vmX x w) n f (kyF true (nI u)) < n ∧ fbP (vwX x w) (vmX x w) t (kyF true (nI u)) (fdN (vmX x w) n f (kyF true (nI u))) = true := by
    intro f hf q
    have q2 := ((hb f hf).mp q).2
    unfold hoB offB at q2
    simp only [Bool.and_eq_true, decide_eq_true_eq] at q2
    obtain ⟨s1, s2, s3⟩ := fd_spec q2.2.1
    refine ⟨q2.2.1, ?_⟩
    unfold fbP
    simp only [Bool.and_eq_true, decide_eq_true_eq, Bool.not_eq_true']
    exact ⟨⟨⟨s3, s1⟩, by rw [s2, sN_nI (by omega), ← se_fcB b.se]; exact q2.1⟩, q2.2.2⟩
  rcases hq with ⟨h1, h2⟩ | ⟨j, hj, h1, ⟨f, h3, h4, h5⟩, h6⟩
  · refine Or.inl ⟨h1, ?_⟩
    rw [fst_none (fun m hm => by
      cases e : fbP (vwX x w) (vmX x w) t (kyF true (nI u)) m with
      | false => rfl
      | true => exact absurd (hP m hm e).1 (h2 _ (b.wm m hm).1))]
    unfold av
    rw [if_neg (Nat.lt_irrefl n)]
  · have q1 := hQ f h3 h4
    have q0 := (fd_spec q1.1).2.2
    rw [h5] at q1 q0
    refine Or.inr ⟨j, hj, q0, h1, ?_⟩
    rw [fst_at hj q1.2 (fun m hm => by
      cases e : fbP (vwX x w) (vmX x w) t (kyF true (nI u)) m with
      | false => rfl
      | true =>
        have r := hP m (by omega) e
        have := h6 _ (b.wm m (by omega)).1 r.1
        rw [r.2] at this
        omega)]
    unfold av
    rw [if_pos hj]
noncomputable def bestR (x : Nat → Nat → Int32) (w n t u : Nat) : Int32 := if p_X5_bodied x w n (spI (vwX x w) (vmX x w) n t (kyF true (nI u))) u < 0 then p_X5_find_148 x w n t u 31 0 else p_X5_bodied x w n (spI (vwX x w) (vmX x w) n t (kyF true (nI u))) u
theorem best_eq (b : BR h g x τ w n) {t u : Nat} (ht : t < 12) (hu : u < 15) (gt : Gd τ t) : crN (vmX x w) n (p_X0_findBest h τ g (vmX x w) n t (nI u)) (bestR x w n t u) := by
  unfold p_X0_findBest bestR
  have hn := b.n30
  rcases ob_eq b ht gt u with ⟨h1, h2⟩ | ⟨h1, h2⟩ | ⟨j, hj, hg, h1, h2⟩
  · rw [h1, h2, if_pos (by decide), if_pos (by decide)]
    exact least_eq b ht hu gt
  · rw [h1, h2, if_pos (by decide), if_pos (by decide)]
    exact least_eq b ht hu gt
  · rw [h1, h2, if_neg (nI_pos (by omega)), if_neg (nI_pos (by omega))]
    exact Or.inr ⟨j, hj, hg, rfl, rfl⟩
end BRS
