/-! ===== Hierarchy.loadInside, as it runs, and what it comes to ===== -/
def pLI (τ : Nat → Nat → Int32) : Nat → (Nat → Nat → Int32) → Nat → Int32 → Int32 × (Nat → Nat → Int32)
  | 0, h, _, _ => (0, h)
  | d + 1, h, t, o => p_X1_loadInside τ (fun h t o => p_X1_loadParents τ (fun h t o => pLI τ d h t o) t o h) t o h
theorem vwH_LP33 (τ : Nat → Nat → Int32) (F : (Nat → Nat → Int32) → Nat → Int32 → Int32 × (Nat → Nat → Int32)) (hF : ∀ h t o, vwH (F h t o).2 = vwH h) (x : Nat) (y : Int32) : ∀ (k n : Nat) (h : Nat → Nat → Int32), vwH (p_X1_loadParents_33 τ F x y k n h).2 = vwH h := by
  intro k
  induction k with
  | zero => intro n h; rfl
  | succ k ih =>
    intro n h
    rw [p_X1_loadParents_33]
    split
    · rfl
    · split
      · rw [p_X1_loadParents_58]
        split
        · rw [ih]; exact hF _ _ _
        · exact hF _ _ _
      · exact ih _ _
theorem vwH_LP (τ : Nat → Nat → Int32) (F : (Nat → Nat → Int32) → Nat → Int32 → Int32 × (Nat → Nat → Int32)) (hF : ∀ h t o, vwH (F h t o).2 = vwH h) (x : Nat) (y : Int32) (h : Nat → Nat → Int32) : vwH (p_X1_loadParents τ F x y h).2 = vwH h := by
  have h31 : ∀ h, vwH (p_X1_loadParents_31 τ F x y h).2 = vwH h := fun h => by rw [p_X1_loadParents_31]; exact vwH_LP33 τ F hF x y _ _ _
  rw [p_X1_loadParents]
  split
  · exact h31 _
  · rw [p_X1_loadParents_21]
    split
    · rw [h31]; exact hF _ _ _
    · exact hF _ _ _
theorem vwH_LI (τ : Nat → Nat → Int32) : ∀ (d : Nat) (h : Nat → Nat → Int32) (t : Nat) (o : Int32), vwH (pLI τ d h t o).2 = vwH h := by
  intro d
  induction d with
  | zero => intro h t o; rfl
  | succ d ih =>
    intro h t o
    have hG : ∀ h t o, vwH (p_X1_loadParents τ (fun h t o => pLI τ d h t o) t o h).2 = vwH h := fun h t o => vwH_LP τ _ (fun h t o => ih h t o) t o h
    rw [pLI, p_X1_loadInside]
    split
    · split
      · rfl
      · split
        · rfl
        · rw [p_X1_loadInside_51]
          split
          · split
            · exact hG _ _ _
            · rw [p_X1_loadInside_80]
              show vwH (st2 _ 8 1 _) = _
              rw [vwH_s8, vwH_gather]
              exact hG _ _ _
          · exact hG _ _ _
    · rfl
/-- the contract of loadInside, by induction on the depth -/
theorem c_LI (l : Launch) (D : va_G) (cI cZ cB cR : ClassId) (a : Nat → Nat) (τ : Nat → Nat → Int32) (wf : WFT τ) : ∀ (d : Nat) (h : Nat → Nat → Int32) (t : Nat) (o : Int32), vwH h = τ → t < 12 → cN o < d → MUi l yX1_loadInside wsX1_loadInside ({ frames := 2 * d + 10, cells := 0, slots := 0, locals := 60 * d + 200 } : Room) D cI cZ cB cR (wH cI a h) [.ref (a 0), .int (nI t), .int o] (fun (_ : Unit) => wH cI a (pLI τ d h t o).2) (fun r _ => r = (pLI τ d h t o).1) := by
  intro d
  induction d with
  | zero => intro h t o _ _ hc; exact absurd hc (Nat.not_lt_zero _)
  | succ d ih =>
    intro h t o hT ht hc
    exact c_X1_loadInside l D cI cZ cB cR a d h τ (fun h t o => p_X1_loadParents τ (fun h t o => pLI τ d h t o) t o h) t o hT wf ht hc
      (fun h' t' o' hT' ht' hc' => c_X1_loadParents l D cI cZ cB cR a d h' τ (fun h t o => pLI τ d h t o) t' o' hT' wf ht' hc' (fun h2 t2 o2 q1 q2 q3 => ih h2 t2 o2 q1 q2 q3) (fun h2 t2 o2 => vwH_LI τ d h2 t2 o2))
      (fun h' t' o' => vwH_LP τ _ (fun h2 t2 o2 => vwH_LI τ d h2 t2 o2) t' o' h')
/-- what is kept of types that are settled -/
def CI (τ h : Nat → Nat → Int32) : Prop := vwH h = τ ∧ (∀ u, u < 12 → bt (h 8 1) u = true → Gd τ u ∧ ∀ w, w < 12 → bt (h 6 u) w = abB τ u w ∧ bt (h 7 u) w = fcB τ u w) ∧ ∀ u, 12 ≤ u → u < 32 → bt (h 8 1) u = false
def SM (h h' : Nat → Nat → Int32) : Prop := ∀ u, u < 12 → bt (h 8 1) u = true → bt (h' 8 1) u = true
theorem SM.rf {h : Nat → Nat → Int32} : SM h h := fun _ _ q => q
theorem SM.tr {h g k : Nat → Nat → Int32} (a : SM h g) (b : SM g k) : SM h k := fun u hu q => b u hu (a u hu q)
def OC (τ : Nat → Nat → Int32) (o : Int32) (t : Nat) : Prop := ∀ u, u < 12 → bt o u = true → lowr τ t u
theorem OC.out {τ : Nat → Nat → Int32} {o : Int32} {t : Nat} (h : OC τ o t) (ht : t < 12) (hg : Gd τ t) : bt o t = false := by
  cases e : bt o t with
  | false => rfl
  | true => exact absurd hg (h t ht e).irr
theorem OC.step {τ : Nat → Nat → Int32} {o : Int32} {t p : Nat} (h : OC τ o t) (ht : t < 12) (hp : lowr τ p t) : OC τ (o ||| bm t) p := by
  intro u hu hb
  rw [b_or, b_bm (by omega) (by omega), Bool.or_eq_true] at hb
  rcases hb with hb | hb
  · exact hp.trans (h u hu hb)
  · have e : u = t := by simpa using hb
    subst e
    exact hp
/-- what loadInside comes to -/
def LIok (τ : Nat → Nat → Int32) (d : Nat) (F : (Nat → Nat → Int32) → Nat → Int32 → Int32 × (Nat → Nat → Int32)) : Prop := ∀ h t o, CI τ h → t < 12 → cN o < d → OC τ o t → (F h t o).1 = vN τ d o t ∧ CI τ (F h t o).2 ∧ SM h (F h t o).2 ∧ (Gd τ t → bt ((F h t o).2 8 1) t = true)
theorem gather67 (τ : Nat → Nat → Int32) (x : Nat) (h : Nat → Nat → Int32) : ∀ (k i : Nat) (v : Int32), 12 - i < k → i ≤ 12 → ∃ v', p_X1_gatherSets_67 τ x k i v h = st2 h 7 x v' ∧ ∀ w, w < 12 → (bt v' w = true ↔ bt v w = true ∨ ∃ u, i ≤ u ∧ u < 12 ∧ bt (h 3 x) u = true ∧ bt (h 7 u) w = true) := by
  intro k
  induction k with
  | zero => intro i v h1; omega
  | succ k ih =>
    intro i v hk hi
    rw [p_X1_gatherSets_67]
    by_cases c : 12 ≤ i
    · rw [if_pos c]
      refine ⟨v, rfl, fun w hw => ⟨Or.inl, ?_⟩⟩
      rintro (q | ⟨u, q1, q2, -⟩)
      · exact q
      · omega
    · rw [if_neg c]
      by_cases c1 : bt (h 3 x) i = true
      · rw [if_pos c1]
        obtain ⟨v', e, hv⟩ := ih (i + 1) (v ||| h 7 i) (by omega) (by omega)
        refine ⟨v', e, fun w hw => ?_⟩
        rw [hv w hw, b_or, Bool.or_eq_true]
        constructor
        · rintro ((q | q) | ⟨u, q1, q2, q3⟩)
          · exact Or.inl q
          · exact Or.inr ⟨i, Nat.le_refl i, by omega, c1, q⟩
          · exact Or.inr ⟨u, by omega, q2, q3⟩
        · rintro (q | ⟨u, q1, q2, q3, q4⟩)
          · exact Or.inl (Or.inl q)
          · rcases Nat.lt_or_ge i u with z | z
            · exact Or.inr ⟨u, z, q2, q3, q4⟩
            · have e : u = i := by omega
              subst e
              exact Or.inl (Or.inr q4)
      · rw [if_neg c1]
        obtain ⟨v', e, hv⟩ := ih (i + 1) v (by omega) (by omega)
        refine ⟨v', e, fun w hw => ?_⟩
        rw [hv w hw]
        constructor
        · rintro (q | ⟨u, q1, q2, q3⟩)
          · exact Or.inl q
          · exact Or.inr ⟨u, by omega, q2, q3⟩
        · rintro (q | ⟨u, q1, q2, q3, q4⟩)
          · exact Or.inl q
          · rcases Nat.lt_or_ge i u with z | z
            · exact Or.inr ⟨u, z, q2, q3, q4⟩
            · have e : u = i := by omega
              subst e
              exact absurd q3 c1
/-- the sets of a type all of whose parents are settled -/
theorem gather_ok {τ h : Nat → Nat → Int32} {x : Nat} (ci : CI τ h) (wf : WFT τ) (hx : x < 12) (hs : ¬ τ 3 x = -1 → bt (h 8 1) (sN (τ 3 x)) = true) (hf : ∀ u, u < 12 → bt (τ 4 x) u = true → bt (h 8 1) u = true) :
    ∃ v6 v7, p_X1_gatherSets τ x h = st2 (st2 h 6 x v6) 7 x v7 ∧ ∀ w, w < 12 → bt v6 w = abB τ x w ∧ bt v7 w = fcB τ x w := by
  have ok := OKB_of ci.1
  have h63 : ∀ v6 v, ∃ v7, p_X1_gatherSets_63 τ x v (st2 h 6 x v6) = st2 (st2 h 6 x v6) 7 x v7 ∧ ∀ w, w < 12 → (bt v7 w = true ↔ bt v w = true ∨ ∃ u, u < 12 ∧ bt (τ 4 x) u = true ∧ fcB τ u w = true) := by
    intro v6 v
    rw [p_X1_gatherSets_63]
    obtain ⟨v7, e, hv⟩ := gather67 τ x (st2 h 6 x v6) 13 0 v (by omega) (by omega)
    refine ⟨v7, e, fun w hw => ?_⟩
    rw [hv w hw]
    have e3 : (st2 h 6 x v6) 3 x = τ 4 x := by rw [st2_n (by omega)]; exact ok.fa hx
    have e7 : (st2 h 6 x v6) 7 = h 7 := st2_n (by omega)
    rw [e3, e7]
    constructor
    · rintro (q | ⟨u, -, q2, q3, q4⟩)
      · exact Or.inl q
      · exact Or.inr ⟨u, q2, q3, by rw [← ((ci.2.1 u q2 (hf u q2 q3)).2 w hw).2]; exact q4⟩
    · rintro (q | ⟨u, q2, q3, q4⟩)
      · exact Or.inl q
      · exact Or.inr ⟨u, Nat.zero_le u, q2, q3, by rw [((ci.2.1 u q2 (hf u q2 q3)).2 w hw).2]; exact q4⟩
  rw [p_X1_gatherSets]
  by_cases c : τ 3 x = -1
  · rw [if_pos c, p_X1_gatherSets_35, if_pos c]
    obtain ⟨v7, e, hv⟩ := h63 (bm x) ((st2 h 6 x (bm x)) 3 x)
    refine ⟨bm x, v7, e, fun w hw => ⟨?_, ?_⟩⟩
    · rw [abB_eq, b_bm (by omega) (by omega)]; simp [c]
    · rw [Bool.eq_iff_iff, hv w hw, fcB_eq, st2_n (by omega), ok.fa hx]
      simp only [c, decide_true, Bool.not_true, Bool.false_and, Bool.or_false, Bool.or_eq_true]
      refine or_congr Iff.rfl ?_
      rw [exB_iff]
      constructor
      · rintro ⟨u, q1, q2, q3⟩; exact ⟨u, q1, by simp [q2, q3]⟩
      · rintro ⟨u, q1, q2⟩; simp only [Bool.and_eq_true] at q2; exact ⟨u, q1, q2.1, q2.2⟩
  · rw [if_neg c, p_X1_gatherSets_35, if_neg c]
    have hT := ((wf.1 x hx).1.resolve_left c).1
    have hS := ci.2.1 _ hT (hs c)
    obtain ⟨v7, e, hv⟩ := h63 (bm x ||| h 6 (sN (τ 3 x))) ((st2 h 6 x (bm x ||| h 6 (sN (τ 3 x)))) 3 x ||| (st2 h 6 x (bm x ||| h 6 (sN (τ 3 x)))) 7 (sN (τ 3 x)))
    refine ⟨_, v7, e, fun w hw => ⟨?_, ?_⟩⟩
    · rw [abB_eq, b_or, b_bm (by omega) (by omega), (hS.2 w hw).1]; simp [c]
    · rw [Bool.eq_iff_iff, hv w hw, fcB_eq, b_or, st2_n (q := 3) (by omega), st2_n (q := 7) (by omega), ok.fa hx, (hS.2 w hw).2]
      simp only [c, decide_false, Bool.not_false, Bool.true_and, Bool.or_eq_true]
      refine or_congr Iff.rfl ?_
      rw [exB_iff]
      constructor
      · rintro ⟨u, q1, q2, q3⟩; exact ⟨u, q1, by simp [q2, q3]⟩
      · rintro ⟨u, q1, q2⟩; simp only [Bool.and_eq_true] at q2; exact ⟨u, q1, q2.1, q2.2⟩
/-- what loadParents comes to -/
theorem LP33_ok {τ : Nat → Nat → Int32} (wf : WFT τ) {d : Nat} {F : (Nat → Nat → Int32) → Nat → Int32 → Int32 × (Nat → Nat → Int32)} (hF : LIok τ (d + 1) F) {x : Nat} {y : Int32} (hc : cN y < d + 1) (hx : x < 12) (hO : ∀ u, u < 12 → bt (τ 4 x) u = true → OC τ y u) :
    ∀ k i h, 12 - i < k → i ≤ 12 → CI τ h → (∀ j, j < i → bt (τ 4 x) j = true → Gd τ j ∧ bt (h 8 1) j = true) → CI τ (p_X1_loadParents_33 τ F x y k i h).2 ∧ SM h (p_X1_loadParents_33 τ F x y k i h).2 ∧ (if fst (fun u => bt (τ 4 x) u && !(gdB τ u)) 12 < 12 then (p_X1_loadParents_33 τ F x y k i h).1 = vN τ (d + 1) y (fst (fun u => bt (τ 4 x) u && !(gdB τ u)) 12) else (p_X1_loadParents_33 τ F x y k i h).1 = nI x ∧ ∀ u, u < 12 → bt (τ 4 x) u = true → bt ((p_X1_loadParents_33 τ F x y k i h).2 8 1) u = true) := by
  intro k
  induction k with
  | zero => intro i h h1; omega
  | succ k ih =>
    intro i h hk hi ci hj
    have h0 : ∀ j, j < i → (bt (τ 4 x) j && !(gdB τ j)) = false := by
      intro j q
      by_cases z : bt (τ 4 x) j = true
      · simp [gdB_iff.mpr (hj j q z).1]
      · simp at z; simp [z]
    rw [p_X1_loadParents_33]
    by_cases c : 12 ≤ i
    · rw [if_pos c]
      have e : i = 12 := by omega
      subst e
      refine ⟨ci, SM.rf, ?_⟩
      rw [fst_none h0, if_neg (by omega)]
      exact ⟨rfl, fun u hu hb => (hj u hu hb).2⟩
    · rw [if_neg c]
      have hi2 : i < 12 := by omega
      by_cases c1 : bt (τ 4 x) i = true
      · rw [if_pos c1, p_X1_loadParents_58]
        obtain ⟨f1, f2, f3, f4⟩ := hF h i y ci hi2 hc (hO i hi2 c1)
        by_cases hg : Gd τ i
        · have e1 : (F h i y).1 = nI i := by rw [f1]; exact vN_good hg ((hO i hi2 c1).out hi2 hg)
          have e2 : gd (F h i y).1 = true := by rw [e1, gd_nI (by omega), decide_eq_true (by omega)]
          rw [if_pos e2]
          obtain ⟨g1, g2, g3⟩ := ih (i + 1) (F h i y).2 (by omega) (by omega) f2 (fun j q z => by
            rcases Nat.lt_or_ge j i with w | w
            · exact ⟨(hj j w z).1, f3 j (by omega) (hj j w z).2⟩
            · have e : j = i := by omega
              subst e
              exact ⟨hg, f4 hg⟩)
          exact ⟨g1, f3.tr g2, g3⟩
        · have e2 : gd (F h i y).1 = false := by rw [f1]; exact vN_bad wf hi2 hc hg
          rw [if_neg (by rw [e2]; decide)]
          refine ⟨f2, f3, ?_⟩
          have e3 : fst (fun u => bt (τ 4 x) u && !(gdB τ u)) 12 = i := fst_at hi2 (by simp [c1, gdB_f.mpr hg]) h0
          rw [e3, if_pos hi2]
          exact f1
      · rw [if_neg c1]
        exact ih (i + 1) h (by omega) (by omega) ci (fun j q z => by
          rcases Nat.lt_or_ge j i with w | w
          · exact hj j w z
          · have e : j = i := by omega
            subst e
            exact absurd z c1)
theorem LI_ok {τ : Nat → Nat → Int32} (wf : WFT τ) : ∀ d, LIok τ d (fun h t o => pLI τ d h t o) := by
  intro d
  induction d with
  | zero => intro h t o _ _ hc; exact absurd hc (Nat.not_lt_zero _)
  | succ d ih =>
    intro h t o ci ht hc oc
    show (pLI τ (d + 1) h t o).1 = _ ∧ CI τ (pLI τ (d + 1) h t o).2 ∧ SM h (pLI τ (d + 1) h t o).2 ∧ (Gd τ t → bt ((pLI τ (d + 1) h t o).2 8 1) t = true)
    rw [pLI, p_X1_loadInside, vN]
    by_cases c1 : thB τ t = true
    · rw [if_pos c1, if_pos c1]
      by_cases c2 : bt o t = true
      · rw [if_pos c2, if_pos c2]
        exact ⟨rfl, ci, SM.rf, fun hg => absurd (oc.out ht hg) (by simp [c2])⟩
      · rw [if_neg c2, if_neg c2]
        have c2' : bt o t = false := by simpa using c2
        have hc2 : cN (o ||| bm t) < d := by have := cN_or ht c2'; omega
        by_cases c3 : bt (h 8 1) t = true
        · rw [if_pos c3]
          have hg := (ci.2.1 t ht c3).1
          have := vN_good (n := d) hg c2'
          rw [vN, if_pos c1, if_neg c2] at this
          exact ⟨this.symm, ci, SM.rf, fun _ => c3⟩
        · rw [if_neg c3]
          cases d with
          | zero => exact absurd hc2 (Nat.not_lt_zero _)
          | succ d =>
          -- the parents
          have key : CI τ (p_X1_loadParents τ (fun h t o => pLI τ (d + 1) h t o) t (o ||| bm t) h).2 ∧ SM h (p_X1_loadParents τ (fun h t o => pLI τ (d + 1) h t o) t (o ||| bm t) h).2 ∧ (if (!decide (τ 3 t = -1) && !(gdB τ (sN (τ 3 t)))) = true then (p_X1_loadParents τ (fun h t o => pLI τ (d + 1) h t o) t (o ||| bm t) h).1 = vN τ (d + 1) (o ||| bm t) (sN (τ 3 t)) else if fst (fun u => bt (τ 4 t) u && !(gdB τ u)) 12 < 12 then (p_X1_loadParents τ (fun h t o => pLI τ (d + 1) h t o) t (o ||| bm t) h).1 = vN τ (d + 1) (o ||| bm t) (fst (fun u => bt (τ 4 t) u && !(gdB τ u)) 12) else (p_X1_loadParents τ (fun h t o => pLI τ (d + 1) h t o) t (o ||| bm t) h).1 = nI t ∧ (¬ τ 3 t = -1 → bt ((p_X1_loadParents τ (fun h t o => pLI τ (d + 1) h t o) t (o ||| bm t) h).2 8 1) (sN (τ 3 t)) = true) ∧ ∀ u, u < 12 → bt (τ 4 t) u = true → bt ((p_X1_loadParents τ (fun h t o => pLI τ (d + 1) h t o) t (o ||| bm t) h).2 8 1) u = true) := by
            have hO : ∀ u, u < 12 → bt (τ 4 t) u = true → OC τ (o ||| bm t) u := fun u hu hb => oc.step ht (lowr.face hu hb)
            rw [p_X1_loadParents]
            by_cases d1 : τ 3 t = -1
            · rw [if_pos d1, p_X1_loadParents_31]
              obtain ⟨g1, g2, g3⟩ := LP33_ok wf ih hc2 ht hO 13 0 h (by omega) (by omega) ci (fun j q => absurd q (Nat.not_lt_zero j))
              refine ⟨g1, g2, ?_⟩
              rw [if_neg (by simp [d1])]
              by_cases d2 : fst (fun u => bt (τ 4 t) u && !(gdB τ u)) 12 < 12
              · rw [if_pos d2] at g3 ⊢; exact g3
              · rw [if_neg d2] at g3 ⊢; exact ⟨g3.1, fun q => absurd d1 q, g3.2⟩
            · rw [if_neg d1, p_X1_loadParents_21]
              have hT := ((wf.1 t ht).1.resolve_left d1).1
              have hOs : OC τ (o ||| bm t) (sN (τ 3 t)) := oc.step ht (lowr.sup d1)
              obtain ⟨f1, f2, f3, f4⟩ := ih h (sN (τ 3 t)) (o ||| bm t) ci hT hc2 hOs
              by_cases hg : Gd τ (sN (τ 3 t))
              · have e1 : (pLI τ (d + 1) h (sN (τ 3 t)) (o ||| bm t)).1 = nI (sN (τ 3 t)) := by
                  show _ = _
                  have := f1
                  rw [this]; exact vN_good hg (hOs.out hT hg)
                have e2 : gd (pLI τ (d + 1) h (sN (τ 3 t)) (o ||| bm t)).1 = true := by rw [e1, gd_nI (by omega), decide_eq_true (by omega)]
                rw [if_pos e2, p_X1_loadParents_31]
                obtain ⟨g1, g2, g3⟩ := LP33_ok wf ih hc2 ht hO 13 0 (pLI τ (d + 1) h (sN (τ 3 t)) (o ||| bm t)).2 (by omega) (by omega) f2 (fun j q => absurd q (Nat.not_lt_zero j))
                refine ⟨g1, f3.tr g2, ?_⟩
                rw [if_neg (by simp [gdB_iff.mpr hg])]
                by_cases d2 : fst (fun u => bt (τ 4 t) u && !(gdB τ u)) 12 < 12
                · rw [if_pos d2] at g3 ⊢; exact g3
                · rw [if_neg d2] at g3 ⊢; exact ⟨g3.1, fun _ => g2 _ hT (f4 hg), g3.2⟩
              · have e2 : gd (pLI τ (d + 1) h (sN (τ 3 t)) (o ||| bm t)).1 = false := by
                  have := f1
                  rw [this]; exact vN_bad wf hT hc2 hg
                rw [if_neg (by rw [e2]; decide)]
                refine ⟨f2, f3, ?_⟩
                rw [if_pos (by simp [d1, gdB_f.mpr hg])]
                exact f1
          obtain ⟨r, h1, e⟩ : ∃ r h1, (p_X1_loadParents τ (fun h t o => pLI τ (d + 1) h t o) t (o ||| bm t) h) = (r, h1) := ⟨_, _, rfl⟩
          rw [e] at key ⊢
          obtain ⟨k1, k2, k3⟩ := key
          dsimp only at k1 k2 k3
          show (p_X1_loadInside_51 τ _ t o r h1).1 = _ ∧ CI τ (p_X1_loadInside_51 τ _ t o r h1).2 ∧ SM h (p_X1_loadInside_51 τ _ t o r h1).2 ∧ (Gd τ t → bt ((p_X1_loadInside_51 τ _ t o r h1).2 8 1) t = true)
          rw [p_X1_loadInside_51]
          by_cases d1 : (!decide (τ 3 t = -1) && !(gdB τ (sN (τ 3 t)))) = true
          · rw [if_pos d1] at k3 ⊢
            simp only [Bool.and_eq_true, Bool.not_eq_true', decide_eq_false_iff_not] at d1
            have hT := ((wf.1 t ht).1.resolve_left d1.1).1
            have nb := gdB_f.mp d1.2
            rw [if_neg (by rw [k3, vN_bad wf hT hc2 nb]; decide)]
            exact ⟨k3, k1, k2, fun hg => absurd (hg.sup d1.1) nb⟩
          · rw [if_neg d1] at k3 ⊢
            by_cases d2 : fst (fun u => bt (τ 4 t) u && !(gdB τ u)) 12 < 12
            · rw [if_pos d2] at k3 ⊢
              have hy := fst_yes _ _ d2
              simp only [Bool.and_eq_true, Bool.not_eq_true'] at hy
              have nb := gdB_f.mp hy.2
              rw [if_neg (by rw [k3, vN_bad wf d2 hc2 nb]; decide)]
              exact ⟨k3, k1, k2, fun hg => absurd (hg.face d2 hy.1) nb⟩
            · rw [if_neg d2] at k3 ⊢
              obtain ⟨q1, q2, q3⟩ := k3
              rw [if_pos (by rw [q1, gd_nI (by omega), decide_eq_true (by omega)])]
              by_cases d3 : wrB τ t = true
              · rw [if_pos d3, if_pos d3]
                exact ⟨rfl, k1, k2, fun hg => absurd hg.right (by simp [d3])⟩
              · rw [if_neg d3, if_neg d3, p_X1_loadInside_80]
                have hg : Gd τ t := by
                  refine Gd.mk c1 ?_ (fun u hu hb => (k1.2.1 u hu (q3 u hu hb)).1) (by simpa using d3)
                  by_cases z : τ 3 t = -1
                  · exact Or.inl z
                  · exact Or.inr (k1.2.1 _ ((wf.1 t ht).1.resolve_left z).1 (q2 z)).1
                obtain ⟨v6, v7, eg, hv⟩ := gather_ok k1 wf ht q2 q3
                rw [eg]
                have e8 : ∀ j, (st2 (st2 h1 6 t v6) 7 t v7) 8 j = h1 8 j := fun j => by rw [st2_n (by omega), st2_n (by omega)]
                have eb : ∀ u, u < 32 → bt (h1 8 1 ||| bm t) u = (bt (h1 8 1) u || decide (u = t)) := fun u hu => by rw [b_or, b_bm (by omega) hu]
                refine ⟨rfl, ⟨?_, ?_, ?_⟩, ?_, ?_⟩
                · show vwH (st2 _ 8 1 _) = τ
                  rw [vwH_s8, vwH_s7, vwH_s6]; exact k1.1
                · intro u hu hb
                  show Gd τ u ∧ ∀ w, w < 12 → bt ((st2 (st2 (st2 h1 6 t v6) 7 t v7) 8 1 ((st2 (st2 h1 6 t v6) 7 t v7) 8 1 ||| bm t)) 6 u) w = abB τ u w ∧ bt ((st2 (st2 (st2 h1 6 t v6) 7 t v7) 8 1 ((st2 (st2 h1 6 t v6) 7 t v7) 8 1 ||| bm t)) 7 u) w = fcB τ u w
                  have hb2 : bt ((st2 (st2 (st2 h1 6 t v6) 7 t v7) 8 1 ((st2 (st2 h1 6 t v6) 7 t v7) 8 1 ||| bm t)) 8 1) u = true := hb
                  rw [st2_k, pk_us, e8, eb u (by omega)] at hb2
                  rw [st2_n (q := 6) (by omega), st2_n (q := 6) (by omega), st2_k, st2_n (q := 7) (by omega), st2_k, st2_n (q := 7) (by omega)]
                  by_cases z : u = t
                  · subst z
                    rw [pk_us, pk_us]
                    exact ⟨hg, hv⟩
                  · rw [pk_un z, pk_un z]
                    simp [z] at hb2
                    exact k1.2.1 u hu hb2
                · intro u h5 h6
                  show bt ((st2 (st2 (st2 h1 6 t v6) 7 t v7) 8 1 ((st2 (st2 h1 6 t v6) 7 t v7) 8 1 ||| bm t)) 8 1) u = false
                  rw [st2_k, pk_us, e8, eb u h6, k1.2.2 u h5 h6]
                  simp
                  omega
                · intro u hu hb
                  show bt ((st2 (st2 (st2 h1 6 t v6) 7 t v7) 8 1 ((st2 (st2 h1 6 t v6) 7 t v7) 8 1 ||| bm t)) 8 1) u = true
                  rw [st2_k, pk_us, e8, eb u (by omega), k2 u hu hb]
                  rfl
                · intro _
                  show bt ((st2 (st2 (st2 h1 6 t v6) 7 t v7) 8 1 ((st2 (st2 h1 6 t v6) 7 t v7) 8 1 ||| bm t)) 8 1) t = true
                  rw [st2_k, pk_us, e8, eb t (by omega)]
                  simp
    · rw [if_neg c1, if_neg c1]
      exact ⟨rfl, ci, SM.rf, fun hg => absurd hg.there c1⟩
/-! the row of verdicts stays too -/
def rv5 (h : Nat → Nat → Int32) : Nat → Int32 := h 5
theorem rv5_s6 {h : Nat → Nat → Int32} {j : Nat} {v : Int32} : rv5 (st2 h 6 j v) = rv5 h := st2_n (by omega)
theorem rv5_s7 {h : Nat → Nat → Int32} {j : Nat} {v : Int32} : rv5 (st2 h 7 j v) = rv5 h := st2_n (by omega)
theorem rv5_s8 {h : Nat → Nat → Int32} {v : Int32} : rv5 (st2 h 8 1 v) = rv5 h := st2_n (by omega)
theorem rv5_gather67 (τ : Nat → Nat → Int32) (x : Nat) : ∀ (k n : Nat) (v : Int32) (h : Nat → Nat → Int32), rv5 (p_X1_gatherSets_67 τ x k n v h) = rv5 h := by
  intro k
  induction k with
  | zero => intro n v h; rfl
  | succ k ih =>
    intro n v h
    rw [p_X1_gatherSets_67]
    split
    · exact rv5_s7
    · split
      · exact ih _ _ _
      · exact ih _ _ _
theorem rv5_gather (τ : Nat → Nat → Int32) (x : Nat) (h : Nat → Nat → Int32) : rv5 (p_X1_gatherSets τ x h) = rv5 h := by
  have h63 : ∀ v h, rv5 (p_X1_gatherSets_63 τ x v h) = rv5 h := fun v h => by
    rw [p_X1_gatherSets_63]; exact rv5_gather67 _ _ _ _ _ _
  have h35 : ∀ v h, rv5 (p_X1_gatherSets_35 τ x v h) = rv5 h := fun v h => by
    rw [p_X1_gatherSets_35]
    split
    · rw [h63]; exact rv5_s6
    · rw [h63]; exact rv5_s6
  rw [p_X1_gatherSets]
  split <;> exact h35 _ _
theorem rv5_LP33 (τ : Nat → Nat → Int32) (F : (Nat → Nat → Int32) → Nat → Int32 → Int32 × (Nat → Nat → Int32)) (hF : ∀ h t o, rv5 (F h t o).2 = rv5 h) (x : Nat) (y : Int32) : ∀ (k n : Nat) (h : Nat → Nat → Int32), rv5 (p_X1_loadParents_33 τ F x y k n h).2 = rv5 h := by
  intro k
  induction k with
  | zero => intro n h; rfl
  | succ k ih =>
    intro n h
    rw [p_X1_loadParents_33]
    split
    · rfl
    · split
      · rw [p_X1_loadParents_58]
        split
        · rw [ih]; exact hF _ _ _
        · exact hF _ _ _
      · exact ih _ _
theorem rv5_LP (τ : Nat → Nat → Int32) (F : (Nat → Nat → Int32) → Nat → Int32 → Int32 × (Nat → Nat → Int32)) (hF : ∀ h t o, rv5 (F h t o).2 = rv5 h) (x : Nat) (y : Int32) (h : Nat → Nat → Int32) : rv5 (p_X1_loadParents τ F x y h).2 = rv5 h := by
  have h31 : ∀ h, rv5 (p_X1_loadParents_31 τ F x y h).2 = rv5 h := fun h => by rw [p_X1_loadParents_31]; exact rv5_LP33 τ F hF x y _ _ _
  rw [p_X1_loadParents]
  split
  · exact h31 _
  · rw [p_X1_loadParents_21]
    split
    · rw [h31]; exact hF _ _ _
    · exact hF _ _ _
theorem rv5_LI (τ : Nat → Nat → Int32) : ∀ (d : Nat) (h : Nat → Nat → Int32) (t : Nat) (o : Int32), rv5 (pLI τ d h t o).2 = rv5 h := by
  intro d
  induction d with
  | zero => intro h t o; rfl
  | succ d ih =>
    intro h t o
    have hG : ∀ h t o, rv5 (p_X1_loadParents τ (fun h t o => pLI τ d h t o) t o h).2 = rv5 h := fun h t o => rv5_LP τ _ (fun h t o => ih h t o) t o h
    rw [pLI, p_X1_loadInside]
    split
    · split
      · rfl
      · split
        · rfl
        · rw [p_X1_loadInside_51]
          split
          · split
            · exact hG _ _ _
            · rw [p_X1_loadInside_80]
              show rv5 (st2 _ 8 1 _) = _
              rw [rv5_s8, rv5_gather]
              exact hG _ _ _
          · exact hG _ _ _
    · rfl
