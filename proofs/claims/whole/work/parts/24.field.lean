/-! ===== the field that is found ===== -/
def fR (τ γ : Nat → Nat → Int32) (n : Nat) (key : Int32) : Nat → Nat → Nat
  | 0, _ => n
  | d + 1, t => if fdN γ n t key < n then fdN γ n t key else if fst (fun u => bt (τ 4 t) u && decide (fR τ γ n key d u < n)) 12 < 12 then fR τ γ n key d (fst (fun u => bt (τ 4 t) u && decide (fR τ γ n key d u < n)) 12) else if τ 3 t = -1 then n else fR τ γ n key d (sN (τ 3 t))
theorem fR_stab {τ γ : Nat → Nat → Int32} {n : Nat} {key : Int32} : ∀ {d t : Nat}, gN τ d t = true → ∀ {e : Nat}, d ≤ e → fR τ γ n key e t = fR τ γ n key d t
  | 0, t, h, _, _ => by simp [gN] at h
  | d + 1, t, h, e, he => by
    obtain ⟨e', rfl⟩ : ∃ e', e = e' + 1 := ⟨e - 1, by omega⟩
    obtain ⟨-, h2, h3, -⟩ := gN_iff.mp h
    have hf : fst (fun u => bt (τ 4 t) u && decide (fR τ γ n key e' u < n)) 12 = fst (fun u => bt (τ 4 t) u && decide (fR τ γ n key d u < n)) 12 := by
      refine fst_cong (fun u hu => ?_)
      by_cases c : bt (τ 4 t) u = true
      · rw [fR_stab (h3 u hu c) (show d ≤ e' by omega)]
      · simp only [Bool.not_eq_true] at c; rw [c]; rfl
    rw [fR, fR, hf]
    by_cases c1 : fdN γ n t key < n
    · rw [if_pos c1, if_pos c1]
    · rw [if_neg c1, if_neg c1]
      by_cases c2 : fst (fun u => bt (τ 4 t) u && decide (fR τ γ n key d u < n)) 12 < 12
      · rw [if_pos c2, if_pos c2]
        have := fst_yes _ _ c2
        rw [Bool.and_eq_true] at this
        exact fR_stab (h3 _ c2 this.1) (by omega)
      · rw [if_neg c2, if_neg c2]
        by_cases c3 : τ 3 t = -1
        · rw [if_pos c3, if_pos c3]
        · rw [if_neg c3, if_neg c3]
          exact fR_stab (h2.resolve_left c3) (by omega)
theorem fR_le {τ γ : Nat → Nat → Int32} {n : Nat} {key : Int32} : ∀ d t, fR τ γ n key d t ≤ n := by
  intro d
  induction d with
  | zero => intro t; exact Nat.le_refl n
  | succ d ih =>
    intro t
    rw [fR]
    split
    · omega
    · split
      · exact ih _
      · split
        · exact Nat.le_refl n
        · exact ih _
def FR (τ γ : Nat → Nat → Int32) (n : Nat) (key : Int32) (t : Nat) : Nat := fR τ γ n key 12 t
theorem FR_eq {τ γ : Nat → Nat → Int32} {n : Nat} {key : Int32} {t : Nat} (wf : WFT τ) (ht : t < 12) (g : Gd τ t) : FR τ γ n key t = if fdN γ n t key < n then fdN γ n t key else if fst (fun u => bt (τ 4 t) u && decide (FR τ γ n key u < n)) 12 < 12 then FR τ γ n key (fst (fun u => bt (τ 4 t) u && decide (FR τ γ n key u < n)) 12) else if τ 3 t = -1 then n else FR τ γ n key (sN (τ 3 t)) := by
  have h := fR_stab (γ := γ) (n := n) (key := key) (gN12 wf ht g) (show 12 ≤ 12 + 1 by omega)
  rw [fR] at h
  exact h.symm
theorem FR_le {τ γ : Nat → Nat → Int32} {n : Nat} {key : Int32} (t : Nat) : FR τ γ n key t ≤ n := fR_le 12 t
/-- as the class tells it -/
def cv (n k : Nat) : Int32 := if k < n then nI k else -2
theorem cv_n {n : Nat} : cv n n = -2 := if_neg (Nat.lt_irrefl n)
theorem cv_ne {n k : Nat} (hn : n ≤ 30) (h : k < n) : ¬ cv n k = -2 := by unfold cv; rw [if_pos h]; exact nI_nn (by omega)
theorem fdI_cv {γ : Nat → Nat → Int32} {n t : Nat} {key : Int32} : fdI γ n t key = cv n (fdN γ n t key) := rfl
theorem FF_ok (h τ g γ : Nat → Nat → Int32) (n : Nat) (hn : n ≤ 30) (s : Int32) (wf : WFT τ) : ∀ d se t, t < 12 → gN τ d t = true → (∀ u, u < 12 → bt se u = true → FR τ γ n (kyF false s) u = n ∨ lowr τ t u) →
    (pFF h τ g γ n d se t s).1 = cv n (FR τ γ n (kyF false s) t) ∧ (FR τ γ n (kyF false s) t = n → ∀ u, u < 12 → bt (pFF h τ g γ n d se t s).2 u = true → bt se u = true ∨ FR τ γ n (kyF false s) u = n) := by
  intro d
  induction d with
  | zero => intro se t _ g; simp [gN] at g
  | succ d ih =>
    intro se t ht hg hse
    have gt : Gd τ t := ⟨_, hg⟩
    have he := FR_eq (γ := γ) (n := n) (key := kyF false s) wf ht gt
    obtain ⟨-, g2, g3, -⟩ := gN_iff.mp hg
    rw [pFF, p_X0_findField]
    by_cases c0 : bt se t = true
    · rw [if_pos c0]
      have e : FR τ γ n (kyF false s) t = n := by
        rcases hse t ht c0 with q | q
        · exact q
        · exact absurd gt q.irr
      rw [e, cv_n]
      exact ⟨rfl, fun _ u _ q => Or.inl q⟩
    · rw [if_neg c0]
      have h108 : ∀ v se', v = cv n (FR τ γ n (kyF false s) t) → (FR τ γ n (kyF false s) t = n → ∀ u, u < 12 → bt se' u = true → bt se u = true ∨ u = t ∨ FR τ γ n (kyF false s) u = n) → (p_X0_findField_108 h τ g γ n (fun se t s => pFF h τ g γ n d se t s) t s v se').1 = cv n (FR τ γ n (kyF false s) t) ∧ (FR τ γ n (kyF false s) t = n → ∀ u, u < 12 → bt (p_X0_findField_108 h τ g γ n (fun se t s => pFF h τ g γ n d se t s) t s v se').2 u = true → bt se u = true ∨ FR τ γ n (kyF false s) u = n) := by
        intro v se' hv hi
        rw [p_X0_findField_108]
        refine ⟨hv, fun q u hu z => ?_⟩
        rcases hi q u hu z with z | z | z
        · exact Or.inl z
        · rw [z]; exact Or.inr q
        · exact Or.inr z
      have pre : ∀ c se', lowr τ c t → (∀ u, u < 12 → bt se' u = true → bt se u = true ∨ u = t ∨ FR τ γ n (kyF false s) u = n) → ∀ u, u < 12 → bt se' u = true → FR τ γ n (kyF false s) u = n ∨ lowr τ c u := by
        intro c se' hl hi u hu z
        rcases hi u hu z with z | z | z
        · rcases hse u hu z with q | q
          · exact Or.inl q
          · exact Or.inr (hl.trans q)
        · rw [z]; exact Or.inr hl
        · exact Or.inl z
      have h84 : ∀ v se', (∀ u, u < 12 → bt se' u = true → bt se u = true ∨ u = t ∨ FR τ γ n (kyF false s) u = n) → (v = -2 → ¬ fdN γ n t (kyF false s) < n ∧ ∀ f, f < 12 → bt (τ 4 t) f = true → FR τ γ n (kyF false s) f = n) → (¬ v = -2 → v = cv n (FR τ γ n (kyF false s) t)) → (p_X0_findField_84 h τ g γ n (fun se t s => pFF h τ g γ n d se t s) t s v se').1 = cv n (FR τ γ n (kyF false s) t) ∧ (FR τ γ n (kyF false s) t = n → ∀ u, u < 12 → bt (p_X0_findField_84 h τ g γ n (fun se t s => pFF h τ g γ n d se t s) t s v se').2 u = true → bt se u = true ∨ FR τ γ n (kyF false s) u = n) := by
        intro v se' hi h1 h2
        rw [p_X0_findField_84]
        by_cases c : v = -2
        · rw [if_pos c]
          obtain ⟨q1, q2⟩ := h1 c
          have hf : ¬ fst (fun u => bt (τ 4 t) u && decide (FR τ γ n (kyF false s) u < n)) 12 < 12 := by
            rw [fst_none]
            · omega
            · intro f hf
              by_cases z : bt (τ 4 t) f = true
              · rw [q2 f hf z]; simp
              · simp at z; simp [z]
          rw [if_neg q1, if_neg hf] at he
          by_cases c2 : t = 0
          · rw [if_pos c2]
            have e3 : τ 3 t = -1 := by rw [c2]; exact wf.2.2.2.1
            rw [if_pos e3] at he
            exact h108 v se' (by rw [he, cv_n]; exact c) (fun _ => hi)
          · rw [if_neg c2]
            have e3 := (wf.1 t ht).2.2.1 c2
            rw [if_neg e3] at he
            have hT := ((wf.1 t ht).1.resolve_left e3).1
            obtain ⟨r1, r2⟩ := ih se' (sN (τ 3 t)) hT (g2.resolve_left e3) (pre _ se' (lowr.sup e3) hi)
            rw [p_X0_findField_107]
            refine h108 _ _ (by rw [he]; exact r1) (fun q u hu z => ?_)
            rw [he] at q
            rcases r2 q u hu z with z | z
            · exact hi u hu z
            · exact Or.inr (Or.inr z)
        · rw [if_neg c]
          exact h108 v se' (h2 c) (fun _ => hi)
      have h41 : ∀ k i v se', 12 - i < k → i ≤ 12 → (∀ u, u < 12 → bt se' u = true → bt se u = true ∨ u = t ∨ FR τ γ n (kyF false s) u = n) → (v = -2 → ¬ fdN γ n t (kyF false s) < n ∧ ∀ f, f < i → bt (τ 4 t) f = true → FR τ γ n (kyF false s) f = n) → (¬ v = -2 → v = cv n (FR τ γ n (kyF false s) t) ∧ FR τ γ n (kyF false s) t < n) → (p_X0_findField_41 h τ g γ n (fun se t s => pFF h τ g γ n d se t s) t s k i v se').1 = cv n (FR τ γ n (kyF false s) t) ∧ (FR τ γ n (kyF false s) t = n → ∀ u, u < 12 → bt (p_X0_findField_41 h τ g γ n (fun se t s => pFF h τ g γ n d se t s) t s k i v se').2 u = true → bt se u = true ∨ FR τ γ n (kyF false s) u = n) := by
        intro k
        induction k with
        | zero => intro i v se' h1; omega
        | succ k ih2 =>
          intro i v se' hk hi12 hi h1 h2
          rw [p_X0_findField_41]
          by_cases c : 12 ≤ i
          · rw [if_pos c]
            exact h84 v se' hi (fun q => ⟨(h1 q).1, fun f hf => (h1 q).2 f (by omega)⟩) (fun q => (h2 q).1)
          · rw [if_neg c]
            by_cases c1 : v = -2
            · rw [if_pos c1]
              obtain ⟨q1, q2⟩ := h1 c1
              by_cases c2 : bt (τ 4 t) i = true
              · rw [if_pos c2, p_X0_findField_77]
                obtain ⟨r1, r2⟩ := ih se' i (by omega) (g3 i (by omega) c2) (pre _ se' (lowr.face (by omega) c2) hi)
                by_cases c3 : FR τ γ n (kyF false s) i < n
                · have hf : fst (fun u => bt (τ 4 t) u && decide (FR τ γ n (kyF false s) u < n)) 12 = i := by
                    refine fst_at (by omega) (by rw [c2, decide_eq_true c3]; rfl) (fun f hf => ?_)
                    by_cases z : bt (τ 4 t) f = true
                    · rw [q2 f hf z]; simp
                    · simp at z; simp [z]
                  rw [if_neg q1, hf, if_pos (by omega)] at he
                  -- found: the loop stops at once
                  have hv : ¬ (pFF h τ g γ n d se' i s).1 = -2 := by rw [r1]; exact cv_ne hn c3
                  have hb : (pFF h τ g γ n d se' i s).1 = cv n (FR τ γ n (kyF false s) t) := by rw [r1, he]
                  have hlt : FR τ γ n (kyF false s) t < n := by rw [he]; exact c3
                  have fin : ∀ k i v se', ¬ v = -2 → v = cv n (FR τ γ n (kyF false s) t) → 12 - i < k → (p_X0_findField_41 h τ g γ n (fun se t s => pFF h τ g γ n d se t s) t s k i v se').1 = cv n (FR τ γ n (kyF false s) t) := by
                    intro k i v se' z1 z2 z3
                    cases k with
                    | zero => omega
                    | succ k =>
                      rw [p_X0_findField_41, if_neg z1, p_X0_findField_84, if_neg z1, p_X0_findField_108]
                      split <;> exact z2
                  exact ⟨fin k (i + 1) _ _ hv hb (by omega), fun q => by omega⟩
                · have e : FR τ γ n (kyF false s) i = n := by have := FR_le (τ := τ) (γ := γ) (n := n) (key := kyF false s) i; omega
                  refine ih2 (i + 1) _ _ (by omega) (by omega) (fun u hu z => ?_) (fun _ => ⟨q1, fun f hf hb => ?_⟩) (fun z => absurd (by rw [r1, e, cv_n]) z)
                  · rcases r2 e u hu z with z | z
                    · exact hi u hu z
                    · exact Or.inr (Or.inr z)
                  · rcases Nat.lt_or_ge f i with z | z
                    · exact q2 f z hb
                    · have : f = i := by omega
                      rw [this]; exact e
              · rw [if_neg c2]
                refine ih2 (i + 1) v se' (by omega) (by omega) hi (fun _ => ⟨q1, fun f hf hb => ?_⟩) h2
                rcases Nat.lt_or_ge f i with z | z
                · exact q2 f z hb
                · have : f = i := by omega
                  rw [this] at hb; exact absurd hb c2
            · rw [if_neg c1]
              exact h84 v se' hi (fun q => absurd q c1) (fun q => (h2 q).1)
      refine h41 13 0 _ _ (by omega) (by omega) (fun u hu z => ?_) (fun q => ⟨fun z => cv_ne hn z q, fun f hf => absurd hf (Nat.not_lt_zero f)⟩) (fun q => ?_)
      · rw [b_or, b_bm (by omega) (by omega), Bool.or_eq_true, decide_eq_true_eq] at z
        rcases z with z | z
        · exact Or.inl z
        · exact Or.inr (Or.inl z)
      · have q2 : fdN γ n t (kyF false s) < n := (fdI_nat q).1
        rw [if_pos q2] at he
        rw [he]
        exact ⟨rfl, q2⟩
theorem FF_top (h τ g γ : Nat → Nat → Int32) (n : Nat) (hn : n ≤ 30) (s : Int32) (wf : WFT τ) {t : Nat} (ht : t < 12) (gt : Gd τ t) : (pFF h τ g γ n 13 0 t s).1 = cv n (FR τ γ n (kyF false s) t) :=
  (FF_ok h τ g γ n hn s wf 13 0 t ht (gN_mono (gN12 wf ht gt)) (fun u _ q => by rw [b_0] at q; exact absurd q (by decide))).1

noncomputable def p_X5_lay_5 (x : Nat → Nat → Int32) (w n : Nat) (t : Nat) (u : Nat) : Nat → Nat → Nat → (Nat → Nat → Int32) → Int32 × (Nat → Nat → Int32)
  | 0, _, _, y => (0, y)
  | k + 1, n4, n3, y => if t ≤ n4 then ((nI (n3 + 1), st2 y 0 n3 (nI u))) else (if (y 0 n4) = (nI u) then (p_X5_lay_5 x w n t u k (n4 + 1) n3 y) else (p_X5_lay_5 x w n t u k (n4 + 1) (n3 + 1) (st2 y 0 n3 (y 0 n4))))
noncomputable def p_X5_lay (x : Nat → Nat → Int32) (w n : Nat) (t : Nat) (u : Nat) (y : (Nat → Nat → Int32)) : Int32 × (Nat → Nat → Int32) := p_X5_lay_5 x w n t u 15 0 0 y
set_option maxHeartbeats 4000000 in
set_option maxRecDepth 100000 in
theorem c_X5_lay (l : Launch) (D : va_G) (cI cZ cB cR : ClassId) (a : Nat → Nat) (x y : Nat → Nat → Int32) (w n : Nat) (t : Nat) (u : Nat)  (hnt : t < 14) (hnu : u < 12)  : MUi l yX5_lay wsX5_lay ({ frames := 0, cells := 0, slots := 0, locals := 0 } : Room) D cI cZ cB cR (wX cI cZ a x (y 0) (y 1)) [.ref (a 0), .int (nI t), .int (nI u)] (fun (_ : Unit) => wX cI cZ a x (((p_X5_lay x w n t u y).2) 0) (((p_X5_lay x w n t u y).2) 1)) (fun r _ => r = (p_X5_lay x w n t u y).1) := by
  generalize hE : p_X5_lay x w n t u y = tgt
  intro sz
  refine Met.ofW (cc := cX5_lay) (maxL := 5) (ret := (some .int)) (by decide) rfl ?_
  intro p e s m args below meth c s₁ B hml hv
  obtain ⟨hargs, hsz, hP, hEV, hD0⟩ := hv
  have hx := B.exec
  have hb := B.bytes
  have hr := B.returns
  have hts := atoms_spec (ws := wsX5_lay) B.pre
  have hown : s.vm.findClass RX5 = some m.cls := findClass_of_methodNamed B.named
  have hlocks := B.notSynchronized
  have hK := hEV.1
  have hl := lv_entry ([.ref (a 0), .int (nI t), .int (nI u)]) (n := 5) (Nat.le_of_ble_eq_true rfl)
  rw [show entryFrame m args 5 = entryFrame m ([.ref (a 0), .int (nI t), .int (nI u)] : List Value).toArray 5 from by rw [hargs], lg_entry_eq]
  generalize (lg_sl ([.ref (a 0), .int (nI t), .int (nI u)]) ++ List.replicate (5 - (lg_sl ([.ref (a 0), .int (nI t), .int (nI u)])).length) Slot.unset).toArray = ls at hl ⊢
  have hl : lv_has ls 5 [(0, .ref (a 0)), (1, .int (nI t)), (2, .int (nI u))] := hl
  subst hsz
  have hD := hD0.self (sz := s.heap.size)
  generalize hAe : va_A (wX cI cZ a x (y 0) (y 1)) s.heap.size = A at hD ⊢
  have hA : ∀ q : Nat, s.heap.size ≤ q → A q := fun q h9 => by rw [← hAe]; exact Or.inr h9
  have hS : va_S A s.heap s.heap [] := va_S.rf
  rw [p_X5_lay] at hE
  have key_5 : ∀ (k_5 : Nat) (n4 : Nat) (n3 : Nat) (y : (Nat → Nat → Int32)) (ls : Array Slot) (H : Heap) (locs : List Loc) (hP : va_P D vwCl (wX cI cZ a x (y 0) (y 1)) H) (hD : va_D A (wX cI cZ a x (y 0) (y 1))) (hS : va_S A s.heap H locs), (t - n4) < k_5 → n3 ≤ n4 → n4 ≤ t → lv_has ls 5 [(4, .int (nI n4)), (3, .int (nI n3)), (0, .ref (a 0)), (1, .int (nI t)), (2, .int (nI u))] → p_X5_lay_5 x w n t u k_5 n4 n3 y = tgt → W p l e (headSpec wsX5_lay ({ frames := 0, cells := 0, slots := 0, locals := 0 } : Room)).room s m args below meth c H locs 0 0 (MQ below (va_Qi (fun r (_ : Unit) => r = tgt.1) (fun _ t => va_P D vwCl (wX cI cZ a x (tgt.2 0) (tgt.2 1)) t.heap) A) args s 0 0 A) (F0 m 5 ls []) := by
    intro k_5
    induction k_5 with
    | zero => intro n4 n3 y ls H locs hP hD hS hm; exact absurd hm (Nat.not_lt_zero _)
    | succ k_5 ih_5 =>
      intro n4 n3 y ls H locs hP hD hS hm_5 hi_5_0 hi_5_1 hl hE
      rw [p_X5_lay_5] at hE
      refine lv_iload hx hb dX5_lay_5 (lv_at hl 0 rfl) ?_
      refine lv_iload_n hx hb dX5_lay_7 rfl (lv_at hl 3 rfl) ?_
      refine lv_icmp_ge (tgt := 47) hx hb dX5_lay_8 (by decide) (fun c_8 => ?_) (fun c_8 => ?_)
      · have c_8 : t ≤ n4 := (nI_leI (a := t) (b := n4) (by omega) (by omega)).mp c_8
        have hE := (if_pos c_8).symm.trans hE
        refine lv_aload_n hx hb dX5_lay_47 rfl (lv_at hl 2 rfl) ?_
        refine va_get (D := D) (ci := 5) (v := .ref (a 18)) (C := RX5) (T := TX5) (N := 21) hx hb hts (fun w9 h9 => List.mem_cons_of_mem _ (inT_X5 w9 h9)) hown hK hP 0 rfl rfl 19 (by decide) (hts (.fieldLink RX5 62 "LinkPredictorModel" "row" "[I") (List.mem_cons_of_mem _ mw_3_85)) (fun _ h9 => h9) rfl dX5_lay_48 ?_
        refine lv_iload_n hx hb dX5_lay_51 rfl (lv_at hl 1 rfl) ?_
        refine lv_iload_n hx hb dX5_lay_52 rfl (lv_at hl 4 rfl) ?_
        refine mu_ast hx hb hEV hP hD hS 18 (j := n3) (v := nI u) (w2 := wX cI cZ a x ((st2 y 0 n3 (nI u)) 0) ((st2 y 0 n3 (nI u)) 1)) rfl (by omega) (by decide) rfl dX5_lay_53 (fun H locs hP hD hS => ?_)
        refine lv_iload_n hx hb dX5_lay_54 rfl (lv_at hl 1 rfl) ?_
        refine lv_iconst (v := (1 : Int32)) hx hb dX5_lay_55 (by decide) ?_
        refine lv_iadd hx hb dX5_lay_56 ?_
        refine top_eq (nI_add n3 1) ?_
        exact W.iret hx hb hr (fun t9 ht9 _ => ⟨⟨_, (), rfl, congrArg Prod.fst hE, by show va_P D vwCl _ t9.heap; rw [ht9, ← congrArg Prod.snd hE]; exact hP⟩, hS.F ht9⟩) hS.2.2 dX5_lay_57
      · have c_8 : ¬ (t ≤ n4) := fun q9 => c_8 ((nI_leI (a := t) (b := n4) (by omega) (by omega)).mpr q9)
        have hE := (if_neg c_8).symm.trans hE
        refine lv_aload_n hx hb dX5_lay_11 rfl (lv_at hl 2 rfl) ?_
        refine va_get (D := D) (ci := 5) (v := .ref (a 18)) (C := RX5) (T := TX5) (N := 21) hx hb hts (fun w9 h9 => List.mem_cons_of_mem _ (inT_X5 w9 h9)) hown hK hP 0 rfl rfl 19 (by decide) (hts (.fieldLink RX5 62 "LinkPredictorModel" "row" "[I") (List.mem_cons_of_mem _ mw_3_85)) (fun _ h9 => h9) rfl dX5_lay_12 ?_
        refine lv_iload hx hb dX5_lay_15 (lv_at hl 0 rfl) ?_
        refine ro_ald hx hb hEV hP 18 (j := n4) rfl (by omega) (by decide) dX5_lay_17 ?_
        refine lv_iload_n hx hb dX5_lay_18 rfl (lv_at hl 4 rfl) ?_
        refine lv_icmp_ne (tgt := 25) hx hb dX5_lay_19 (by decide) (fun c_19 => ?_) (fun c_19 => ?_)
        · skip
          have hE := (if_neg c_19).symm.trans hE
          refine lv_aload_n hx hb dX5_lay_25 rfl (lv_at hl 2 rfl) ?_
          refine va_get (D := D) (ci := 5) (v := .ref (a 18)) (C := RX5) (T := TX5) (N := 21) hx hb hts (fun w9 h9 => List.mem_cons_of_mem _ (inT_X5 w9 h9)) hown hK hP 0 rfl rfl 19 (by decide) (hts (.fieldLink RX5 62 "LinkPredictorModel" "row" "[I") (List.mem_cons_of_mem _ mw_3_85)) (fun _ h9 => h9) rfl dX5_lay_26 ?_
          refine lv_iload_n hx hb dX5_lay_29 rfl (lv_at hl 1 rfl) ?_
          refine lv_aload_n hx hb dX5_lay_30 rfl (lv_at hl 2 rfl) ?_
          refine va_get (D := D) (ci := 5) (v := .ref (a 18)) (C := RX5) (T := TX5) (N := 21) hx hb hts (fun w9 h9 => List.mem_cons_of_mem _ (inT_X5 w9 h9)) hown hK hP 0 rfl rfl 19 (by decide) (hts (.fieldLink RX5 62 "LinkPredictorModel" "row" "[I") (List.mem_cons_of_mem _ mw_3_85)) (fun _ h9 => h9) rfl dX5_lay_31 ?_
          refine lv_iload hx hb dX5_lay_34 (lv_at hl 0 rfl) ?_
          refine ro_ald hx hb hEV hP 18 (j := n4) rfl (by omega) (by decide) dX5_lay_36 ?_
          refine mu_ast hx hb hEV hP hD hS 18 (j := n3) (v := y 0 n4) (w2 := wX cI cZ a x ((st2 y 0 n3 (y 0 n4)) 0) ((st2 y 0 n3 (y 0 n4)) 1)) rfl (by omega) (by decide) rfl dX5_lay_37 (fun H locs hP hD hS => ?_)
          refine lv_iinc (v := nI (n3 + 1)) (lv' := [(3, .int (nI (n3 + 1))), (4, .int (nI n4)), (0, .ref (a 0)), (1, .int (nI t)), (2, .int (nI u))]) hx hb dX5_lay_38 hl (k := 1) rfl (nI_1 _) (by decide) rfl (fun ls hl => ?_)
          refine lv_iinc (v := nI (n4 + 1)) (lv' := [(4, .int (nI (n4 + 1))), (3, .int (nI (n3 + 1))), (0, .ref (a 0)), (1, .int (nI t)), (2, .int (nI u))]) hx hb dX5_lay_41 hl (k := 1) rfl (nI_1 _) (by decide) rfl (fun ls hl => ?_)
          refine lv_goto (tgt := 5) hx hb dX5_lay_44 (by decide) ?_
          exact ih_5 (n4 + 1) (n3 + 1) (st2 y 0 n3 (y 0 n4)) ls _ _ hP hD hS (by omega) (by omega) (by omega) (lv_sub hl [0, 1, 2, 3, 4] rfl) hE
        · skip
          have hE := (if_pos c_19).symm.trans hE
          refine lv_goto (tgt := 41) hx hb dX5_lay_22 (by decide) ?_
          refine lv_iinc (v := nI (n4 + 1)) (lv' := [(4, .int (nI (n4 + 1))), (3, .int (nI n3)), (0, .ref (a 0)), (1, .int (nI t)), (2, .int (nI u))]) hx hb dX5_lay_41 hl (k := 0) rfl (nI_1 _) (by decide) rfl (fun ls hl => ?_)
          refine lv_goto (tgt := 5) hx hb dX5_lay_44 (by decide) ?_
          exact ih_5 (n4 + 1) n3 y ls _ _ hP hD hS (by omega) (by omega) (by omega) (lv_sub hl [0, 1, 2, 3, 4] rfl) hE
  refine lv_iconst (v := (0 : Int32)) hx hb dX5_lay_0 (by decide) ?_
  refine lv_istore_n (lv' := [(3, .int (0 : Int32)), (0, .ref (a 0)), (1, .int (nI t)), (2, .int (nI u))]) hx hb dX5_lay_1 rfl hl (by decide) rfl (fun ls hl => ?_)
  refine lv_iconst (v := (0 : Int32)) hx hb dX5_lay_2 (by decide) ?_
  refine lv_istore (lv' := [(4, .int (0 : Int32)), (3, .int (0 : Int32)), (0, .ref (a 0)), (1, .int (nI t)), (2, .int (nI u))]) hx hb dX5_lay_3 hl (by decide) rfl (fun ls hl => ?_)
  exact key_5 15 0 0 y ls _ _ hP hD hS (by omega) (by omega) (by omega) (lv_sub hl [0, 1, 2, 3, 4] rfl) hE
/-! ===== a row as a stack ===== -/
def sk (y : Nat → Nat → Int32) : Nat → List Nat
  | 0 => []
  | n + 1 => uS y n :: sk y n
theorem sk_mem {y : Nat → Nat → Int32} {u : Nat} : ∀ {n : Nat}, u ∈ sk y n ↔ ∃ i, i < n ∧ uS y i = u
  | 0 => by simp [sk]
  | n + 1 => by
    rw [sk, List.mem_cons, sk_mem]
    constructor
    · rintro (h | ⟨i, h1, h2⟩)
      · exact ⟨n, by omega, h.symm⟩
      · exact ⟨i, by omega, h2⟩
    · rintro ⟨i, h1, h2⟩
      rcases Nat.lt_or_ge i n with z | z
      · exact Or.inr ⟨i, z, h2⟩
      · have e : i = n := by omega
        rw [e] at h2; exact Or.inl h2.symm
theorem sk_len (y : Nat → Nat → Int32) : ∀ n, (sk y n).length = n
  | 0 => rfl
  | n + 1 => by rw [sk, List.length_cons, sk_len y n]
theorem sk_cong {y z : Nat → Nat → Int32} : ∀ {n : Nat}, (∀ i, i < n → y 0 i = z 0 i) → sk y n = sk z n
  | 0, _ => rfl
  | n + 1, h => by
    rw [sk, sk, sk_cong (fun i hi => h i (by omega))]
    unfold uS
    rw [h n (by omega)]
def mL : List Nat → Int32
  | [] => 0
  | t :: L => mL L ||| bm t
theorem mL_bt : ∀ {L : List Nat} {u : Nat}, (∀ t ∈ L, t < 12) → u < 32 → (bt (mL L) u = true ↔ u ∈ L)
  | [], u, _, _ => by rw [mL, b_0]; simp
  | t :: L, u, h, hu => by
    have ht := h t (List.mem_cons_self ..)
    rw [mL, b_or, b_bm (by omega) hu, Bool.or_eq_true, mL_bt (fun t q => h t (List.mem_cons_of_mem _ q)) hu, decide_eq_true_eq, List.mem_cons]
    exact Or.comm
theorem nd_len : ∀ {L : List Nat}, L.Nodup → (∀ t ∈ L, t < 12) → cN (mL L) + L.length = 12
  | [], _, _ => by rw [mL, cN_0]; rfl
  | t :: L, h, hb => by
    obtain ⟨h1, h2⟩ := List.nodup_cons.mp h
    have ht := hb t (List.mem_cons_self ..)
    have ih := nd_len h2 (fun t q => hb t (List.mem_cons_of_mem _ q))
    have hf : bt (mL L) t = false := by
      cases q : bt (mL L) t with
      | false => rfl
      | true => exact absurd ((mL_bt (fun t q => hb t (List.mem_cons_of_mem _ q)) (by omega)).mp q) h1
    have := cN_or ht hf
    rw [mL, List.length_cons]
    omega
/-- the stack's numbers are types, each once -/
def FD (n : Nat) (y : Nat → Nat → Int32) : Prop := (∀ i, i < n → isT (y 0 i)) ∧ (sk y n).Nodup
theorem FD.lt {n : Nat} {y : Nat → Nat → Int32} (h : FD n y) : ∀ t ∈ sk y n, t < 12 := fun t q => by
  obtain ⟨i, h1, h2⟩ := sk_mem.mp q
  rw [← h2]; exact (h.1 i h1).1
theorem FD.le {n : Nat} {y : Nat → Nat → Int32} (h : FD n y) : n ≤ 12 := by
  have := nd_len h.2 h.lt
  rw [sk_len] at this
  omega
theorem FD.pop {n : Nat} {y : Nat → Nat → Int32} (h : FD n y) : FD (n - 1) y := by
  cases n with
  | zero => exact h
  | succ n => exact ⟨fun i hi => h.1 i (by omega), (List.nodup_cons.mp h.2).2⟩
theorem FD.init {t : Nat} (ht : t < 12) (y : Nat → Nat → Int32) : FD 1 (st2 y 0 0 (nI t)) := by
  refine ⟨fun i hi => ?_, by simp [sk]⟩
  have e : i = 0 := by omega
  rw [e, st2_kk]; exact isT_nI ht
theorem lay5 (x : Nat → Nat → Int32) (w n t u : Nat) (hu : u < 12) (y0 : Nat → Nat → Int32) (hT : ∀ i, i < t → isT (y0 0 i)) : ∀ k i m y, t - i < k → i ≤ t → m ≤ i → sk y m = (sk y0 i).filter (fun q => !decide (q = u)) → (∀ j, j < m → isT (y 0 j)) → (∀ j, i ≤ j → y 0 j = y0 0 j) →
    ∃ m', m' ≤ t ∧ (p_X5_lay_5 x w n t u k i m y).1 = nI (m' + 1) ∧ sk (p_X5_lay_5 x w n t u k i m y).2 (m' + 1) = u :: (sk y0 t).filter (fun q => !decide (q = u)) ∧ ∀ j, j < m' + 1 → isT ((p_X5_lay_5 x w n t u k i m y).2 0 j) := by
  intro k
  induction k with
  | zero => intro i m y h; omega
  | succ k ih =>
    intro i m y hk hi hm hs hm2 hy
    rw [p_X5_lay_5]
    by_cases c : t ≤ i
    · rw [if_pos c]
      have e : i = t := by omega
      subst e
      refine ⟨m, by omega, rfl, ?_, fun j hj => ?_⟩
      · show sk (st2 y 0 m (nI u)) (m + 1) = _
        rw [sk, sk_cong (z := y) (fun j hj => st2_kn (by omega)), hs]
        unfold uS
        rw [st2_kk, sN_nI (by omega)]
      · show isT (st2 y 0 m (nI u) 0 j)
        rcases Nat.lt_or_ge j m with z | z
        · rw [st2_kn (by omega)]; exact hm2 j z
        · have e : j = m := by omega
          rw [e, st2_kk]; exact isT_nI hu
    · rw [if_neg c]
      have hTi := hT i (by omega)
      have ei := hy i (Nat.le_refl i)
      by_cases c1 : y 0 i = nI u
      · rw [if_pos c1]
        refine ih (i + 1) m y (by omega) (by omega) (by omega) ?_ hm2 (fun j hj => hy j (by omega))
        have : uS y0 i = u := by unfold uS; rw [← ei, c1, sN_nI (by omega)]
        rw [sk, List.filter_cons, this]
        simpa using hs
      · rw [if_neg c1]
        have hne : ¬ uS y0 i = u := fun q => c1 (by rw [ei, hTi.2]; exact congrArg nI q)
        refine ih (i + 1) (m + 1) _ (by omega) (by omega) (by omega) ?_ (fun j hj => ?_) (fun j hj => ?_)
        · rw [sk, sk, List.filter_cons, sk_cong (z := y) (fun j hj => st2_kn (by omega)), hs]
          have : uS (st2 y 0 m (y 0 i)) m = uS y0 i := by unfold uS; rw [st2_kk, ei]
          rw [this]
          simp [hne]
        · rcases Nat.lt_or_ge j m with z | z
          · rw [st2_kn (by omega)]; exact hm2 j z
          · have e : j = m := by omega
            rw [e, st2_kk, ei]; exact hTi
        · rw [st2_kn (by omega)]; exact hy j (by omega)
theorem lay_ok (x y : Nat → Nat → Int32) (w n t u : Nat) (ht : t < 14) (hu : u < 12) (hT : ∀ i, i < t → isT (y 0 i)) : (p_X5_lay x w n t u y).1 = nI (sN (p_X5_lay x w n t u y).1) ∧ sk (p_X5_lay x w n t u y).2 (sN (p_X5_lay x w n t u y).1) = u :: (sk y t).filter (fun q => !decide (q = u)) ∧ ∀ j, j < sN (p_X5_lay x w n t u y).1 → isT ((p_X5_lay x w n t u y).2 0 j) := by
  obtain ⟨m', h1, h2, h3, h4⟩ := lay5 x w n t u hu y hT 15 0 0 y (by omega) (by omega) (by omega) rfl (fun j h => absurd h (Nat.not_lt_zero j)) (fun j _ => rfl)
  rw [p_X5_lay]
  have e : sN (p_X5_lay_5 x w n t u 15 0 0 y).1 = m' + 1 := by rw [h2, sN_nI (by omega)]
  rw [e]
  exact ⟨h2, h3, h4⟩
theorem FD.lay {x y : Nat → Nat → Int32} {w n t u : Nat} (h : FD t y) (hu : u < 12) : FD (sN (p_X5_lay x w n t u y).1) (p_X5_lay x w n t u y).2 := by
  have hl := h.le
  obtain ⟨h1, h2, h3⟩ := lay_ok x y w n t u (by omega) hu h.1
  refine ⟨h3, ?_⟩
  rw [h2, List.nodup_cons]
  refine ⟨fun q => ?_, h.2.filter _⟩
  have := (List.mem_filter.mp q).2
  simp at this
/-- the first of a stack that finds something -/
def fsL (F : Nat → Nat) (n : Nat) : List Nat → Nat
  | [] => n
  | t :: L => if F t < n then F t else fsL F n L
theorem fsL_app {F : Nat → Nat} {n : Nat} : ∀ {A B : List Nat}, fsL F n (A ++ B) = if fsL F n A < n then fsL F n A else fsL F n B
  | [], B => by rw [List.nil_append, fsL, if_neg (Nat.lt_irrefl n)]
  | t :: A, B => by
    rw [List.cons_append, fsL, fsL]
    by_cases c : F t < n
    · rw [if_pos c, if_pos c, if_pos c]
    · rw [if_neg c, if_neg c]; exact fsL_app
def dI (v : Int32) : Prop := v = -1 ∨ isT v
def mD (v : Int32) : Nat := if v < 0 then 0 else sN v + 1
theorem dI_nn {v : Int32} (h : dI v) (c : ¬ v < 0) : isT v := h.resolve_left (fun e => c (by rw [e]; decide))
theorem dI_pred {v : Int32} (h : isT v) : dI (v + (-1)) ∧ mD (v + (-1)) = sN v := by
  have h1 := h.1
  by_cases c : sN v = 0
  · rw [h.2, c]; exact ⟨Or.inl (by decide), by decide⟩
  · have e : v + (-1) = nI (sN v - 1) := (congrArg (· + (-1)) h.2).trans (pk_dec (by omega))
    rw [e]
    refine ⟨Or.inr (isT_nI (by omega)), ?_⟩
    unfold mD
    rw [if_neg (nI_pos (by omega)), sN_nI (by omega)]; omega
theorem mD_le {v : Int32} (h : dI v) : mD v ≤ 12 := by
  unfold mD
  split
  · omega
  · rename_i c; have := (dI_nn h c).1; omega
theorem mD_11 : mD 11 < 13 := by decide
theorem dI_11 : dI 11 := Or.inr (by unfold isT; decide)

noncomputable def p_X5_field_147 (x : Nat → Nat → Int32) (w n : Nat) (t : Nat) (u : Nat) (K13 : Int32 → Nat → (Nat → Nat → Int32) → Int32 × (Nat → Nat → Int32)) (K109 : Int32 → Int32 → Nat → Nat → (Nat → Nat → Int32) → Int32 × (Nat → Nat → Int32)) (v9 : Int32) (v5 : Int32) (n7 : Nat) (ns0 : Nat) (y : (Nat → Nat → Int32)) : Int32 × (Nat → Nat → Int32) := K109 (v9 + (-1)) v5 n7 ns0 y
noncomputable def p_X5_field_109 (x : Nat → Nat → Int32) (w n : Nat) (t : Nat) (u : Nat) (K13 : Int32 → Nat → (Nat → Nat → Int32) → Int32 × (Nat → Nat → Int32)) : Nat → Int32 → Int32 → Nat → Nat → (Nat → Nat → Int32) → Int32 × (Nat → Nat → Int32)
  | 0, _, _, _, _, y => (0, y)
  | k + 1, v9, v5, n7, n4, y => if v9 < (0 : Int32) then (K13 v5 n4 y) else (if (bt (x 4 n7) (sN v9)) = true then (if (bt v5 (sN v9)) = true then (p_X5_field_109 x w n t u K13 k (v9 + (-1)) v5 n7 n4 y) else (p_X5_field_147 x w n t u K13 (fun v9 v5 n7 n4 y => p_X5_field_109 x w n t u K13 k v9 v5 n7 n4 y) v9 v5 n7 (sN ((p_X5_lay x w n n4 (sN v9) y).1)) ((p_X5_lay x w n n4 (sN v9) y).2))) else (p_X5_field_109 x w n t u K13 k (v9 + (-1)) v5 n7 n4 y))
noncomputable def p_X5_field_103 (x : Nat → Nat → Int32) (w n : Nat) (t : Nat) (u : Nat) (K13 : Int32 → Nat → (Nat → Nat → Int32) → Int32 × (Nat → Nat → Int32)) (v5 : Int32) (n7 : Nat) (ns0 : Nat) (y : (Nat → Nat → Int32)) : Int32 × (Nat → Nat → Int32) := p_X5_field_109 x w n t u K13 13 (11 : Int32) v5 n7 ns0 y
noncomputable def p_X5_field_13 (x : Nat → Nat → Int32) (w n : Nat) (t : Nat) (u : Nat) : Nat → Int32 → Nat → (Nat → Nat → Int32) → Int32 × (Nat → Nat → Int32)
  | 0, _, _, y => (0, y)
  | k + 1, v5, n4, y => if n4 ≤ 0 then (((-1 : Int32), y)) else (if (bt v5 (uS y (n4 - 1))) = true then (p_X5_field_13 x w n t u k v5 (n4 - 1) y) else (if (odI (vmX x w) n (uS y (n4 - 1)) (kyF false (nI u))) < (0 : Int32) then (if (x 3 ((12 * w) + (uS y (n4 - 1)))) < (0 : Int32) then (p_X5_field_109 x w n t u (fun v5 n4 y => p_X5_field_13 x w n t u k v5 n4 y) 13 (11 : Int32) (v5 ||| ((1 : Int32) <<< ((nI (uS y (n4 - 1))) &&& 31))) ((12 * w) + (uS y (n4 - 1))) (n4 - 1) y) else (p_X5_field_103 x w n t u (fun v5 n4 y => p_X5_field_13 x w n t u k v5 n4 y) (v5 ||| ((1 : Int32) <<< ((nI (uS y (n4 - 1))) &&& 31))) ((12 * w) + (uS y (n4 - 1))) (sN ((p_X5_lay x w n (n4 - 1) (sN (x 3 ((12 * w) + (uS y (n4 - 1))))) y).1)) ((p_X5_lay x w n (n4 - 1) (sN (x 3 ((12 * w) + (uS y (n4 - 1))))) y).2))) else ((odI (vmX x w) n (uS y (n4 - 1)) (kyF false (nI u)), y))))
noncomputable def p_X5_field (x : Nat → Nat → Int32) (w n : Nat) (t : Nat) (u : Nat) (y : (Nat → Nat → Int32)) : Int32 × (Nat → Nat → Int32) := p_X5_field_13 x w n t u 170 (0 : Int32) 1 (st2 y 0 0 (nI t))
set_option maxHeartbeats 4000000 in
set_option maxRecDepth 100000 in
theorem c_X5_field (l : Launch) (D : va_G) (cI cZ cB cR : ClassId) (a : Nat → Nat) (x y : Nat → Nat → Int32) (w n : Nat) (t : Nat) (u : Nat) (hw : w < 2) (wx : WX x w n) (hnt : t < 12) (hnu : u < 15)  : MUi l yX5_field wsX5_field ({ frames := 1, cells := 0, slots := 0, locals := 26 } : Room) D cI cZ cB cR (wX cI cZ a x (y 0) (y 1)) [.ref (a 0), .int (nI w), .int (nI t), .int (nI u)] (fun (_ : Unit) => wX cI cZ a x (((p_X5_field x w n t u y).2) 0) (((p_X5_field x w n t u y).2) 1)) (fun r _ => r = (p_X5_field x w n t u y).1) := by
  generalize hE : p_X5_field x w n t u y = tgt
  intro sz
  refine Met.ofW (cc := cX5_field) (maxL := 10) (ret := (some .int)) (by decide) rfl ?_
  intro p e s m args below meth c s₁ B hml hv
  obtain ⟨hargs, hsz, hP, hEV, hD0⟩ := hv
  have hx := B.exec
  have hb := B.bytes
  have hr := B.returns
  have hts := atoms_spec (ws := wsX5_field) B.pre
  have hown : s.vm.findClass RX5 = some m.cls := findClass_of_methodNamed B.named
  have hlocks := B.notSynchronized
  have hK := hEV.1
  have hl := lv_entry ([.ref (a 0), .int (nI w), .int (nI t), .int (nI u)]) (n := 10) (Nat.le_of_ble_eq_true rfl)
  rw [show entryFrame m args 10 = entryFrame m ([.ref (a 0), .int (nI w), .int (nI t), .int (nI u)] : List Value).toArray 10 from by rw [hargs], lg_entry_eq]
  generalize (lg_sl ([.ref (a 0), .int (nI w), .int (nI t), .int (nI u)]) ++ List.replicate (10 - (lg_sl ([.ref (a 0), .int (nI w), .int (nI t), .int (nI u)])).length) Slot.unset).toArray = ls at hl ⊢
  have hl : lv_has ls 10 [(0, .ref (a 0)), (1, .int (nI w)), (2, .int (nI t)), (3, .int (nI u))] := hl
  subst hsz
  have hD := hD0.self (sz := s.heap.size)
  generalize hAe : va_A (wX cI cZ a x (y 0) (y 1)) s.heap.size = A at hD ⊢
  have hA : ∀ q : Nat, s.heap.size ≤ q → A q := fun q h9 => by rw [← hAe]; exact Or.inr h9
  have hS : va_S A s.heap s.heap [] := va_S.rf
  rw [p_X5_field] at hE
  have hn30 := wx.2.2.1
  have key_13 : ∀ (k_13 : Nat) (v5 : Int32) (n4 : Nat) (y : (Nat → Nat → Int32)) (ls : Array Slot) (H : Heap) (locs : List Loc) (hP : va_P D vwCl (wX cI cZ a x (y 0) (y 1)) H) (hD : va_D A (wX cI cZ a x (y 0) (y 1))) (hS : va_S A s.heap H locs), (13 * cN v5 + n4) < k_13 → FD n4 y → lv_has ls 10 [(5, .int v5), (4, .int (nI n4)), (0, .ref (a 0)), (1, .int (nI w)), (3, .int (nI u))] → p_X5_field_13 x w n t u k_13 v5 n4 y = tgt → W p l e (headSpec wsX5_field ({ frames := 1, cells := 0, slots := 0, locals := 26 } : Room)).room s m args below meth c H locs 0 0 (MQ below (va_Qi (fun r (_ : Unit) => r = tgt.1) (fun _ t => va_P D vwCl (wX cI cZ a x (tgt.2 0) (tgt.2 1)) t.heap) A) args s 0 0 A) (F0 m 13 ls []) := by
    intro k_13
    induction k_13 with
    | zero => intro v5 n4 y ls H locs hP hD hS hm; exact absurd hm (Nat.not_lt_zero _)
    | succ k_13 ih_13 =>
      have key_109 : ∀ (k_109 : Nat) (v9 : Int32) (v5 : Int32) (n7 : Nat) (n4 : Nat) (y : (Nat → Nat → Int32)) (ls : Array Slot) (H : Heap) (locs : List Loc) (hP : va_P D vwCl (wX cI cZ a x (y 0) (y 1)) H) (hD : va_D A (wX cI cZ a x (y 0) (y 1))) (hS : va_S A s.heap H locs), (mD v9) < k_109 → FD n4 y → dI v9 → n7 < 24 → 13 * cN v5 + 12 < k_13 → lv_has ls 10 [(9, .int v9), (5, .int v5), (7, .int (nI n7)), (4, .int (nI n4)), (0, .ref (a 0)), (1, .int (nI w)), (3, .int (nI u))] → p_X5_field_109 x w n t u (fun v5 n4 y => p_X5_field_13 x w n t u k_13 v5 n4 y) k_109 v9 v5 n7 n4 y = tgt → W p l e (headSpec wsX5_field ({ frames := 1, cells := 0, slots := 0, locals := 26 } : Room)).room s m args below meth c H locs 0 0 (MQ below (va_Qi (fun r (_ : Unit) => r = tgt.1) (fun _ t => va_P D vwCl (wX cI cZ a x (tgt.2 0) (tgt.2 1)) t.heap) A) args s 0 0 A) (F0 m 109 ls []) := by
        intro k_109
        induction k_109 with
        | zero => intro v9 v5 n7 n4 y ls H locs hP hD hS hm; exact absurd hm (Nat.not_lt_zero _)
        | succ k_109 ih_109 =>
          have key_147 : ∀ (v9 : Int32) (v5 : Int32) (n7 : Nat) (ns0 : Nat) (y : (Nat → Nat → Int32)) (ls : Array Slot) (H : Heap) (locs : List Loc) (hP : va_P D vwCl (wX cI cZ a x (y 0) (y 1)) H) (hD : va_D A (wX cI cZ a x (y 0) (y 1))) (hS : va_S A s.heap H locs), FD ns0 y → isT v9 → n7 < 24 → 13 * cN v5 + 12 < k_13 → sN v9 < k_109 → (mD v9) < k_109 + 1 → lv_has ls 10 [(9, .int v9), (5, .int v5), (7, .int (nI n7)), (0, .ref (a 0)), (1, .int (nI w)), (3, .int (nI u))] → p_X5_field_147 x w n t u (fun v5 n4 y => p_X5_field_13 x w n t u k_13 v5 n4 y) (fun v9 v5 n7 n4 y => p_X5_field_109 x w n t u (fun v5 n4 y => p_X5_field_13 x w n t u k_13 v5 n4 y) k_109 v9 v5 n7 n4 y) v9 v5 n7 ns0 y = tgt → W p l e (headSpec wsX5_field ({ frames := 1, cells := 0, slots := 0, locals := 26 } : Room)).room s m args below meth c H locs 0 0 (MQ below (va_Qi (fun r (_ : Unit) => r = tgt.1) (fun _ t => va_P D vwCl (wX cI cZ a x (tgt.2 0) (tgt.2 1)) t.heap) A) args s 0 0 A) (F0 m 147 ls [.int (nI ns0)]) := by
            intro v9 v5 n7 ns0 y ls H locs hP hD hS hi_147_0 hi_147_1 hi_147_2 hi_147_3 hi_147_4 hi_147_5 hl hE
            rw [p_X5_field_147] at hE
            refine lv_istore (lv' := [(4, .int (nI ns0)), (9, .int v9), (5, .int v5), (7, .int (nI n7)), (0, .ref (a 0)), (1, .int (nI w)), (3, .int (nI u))]) hx hb dX5_field_147 hl (by decide) rfl (fun ls hl => ?_)
            refine lv_iinc (v := v9 + (-1)) (lv' := [(9, .int (v9 + (-1))), (4, .int (nI ns0)), (5, .int v5), (7, .int (nI n7)), (0, .ref (a 0)), (1, .int (nI w)), (3, .int (nI u))]) hx hb dX5_field_149 hl (k := 1) rfl rfl (by decide) rfl (fun ls hl => ?_)
            refine lv_goto (tgt := 109) hx hb dX5_field_152 (by decide) ?_
            exact ih_109 (v9 + (-1)) v5 n7 ns0 y ls _ _ hP hD hS (by first | (have := (dI_pred hv9).2; unfold mD at hm_109; rw [if_neg c_111] at hm_109; omega) | (have := (dI_pred hi_147_1).2; omega) | exact mD_11) (by first | omega | exact FD.init hnt y | exact FD.pop hi_13_0 | exact FD.lay hF9 (by omega) | exact FD.lay hi_109_0 (by omega) | exact hi_103_0 | exact hi_147_0 | exact hi_109_0 | exact hF9 | exact hv9 | exact (dI_pred hv9).1 | exact (dI_pred hi_147_1).1 | exact hi_109_1 | exact dI_11) (by first | omega | exact FD.init hnt y | exact FD.pop hi_13_0 | exact FD.lay hF9 (by omega) | exact FD.lay hi_109_0 (by omega) | exact hi_103_0 | exact hi_147_0 | exact hi_109_0 | exact hF9 | exact hv9 | exact (dI_pred hv9).1 | exact (dI_pred hi_147_1).1 | exact hi_109_1 | exact dI_11) (by first | omega | exact FD.init hnt y | exact FD.pop hi_13_0 | exact FD.lay hF9 (by omega) | exact FD.lay hi_109_0 (by omega) | exact hi_103_0 | exact hi_147_0 | exact hi_109_0 | exact hF9 | exact hv9 | exact (dI_pred hv9).1 | exact (dI_pred hi_147_1).1 | exact hi_109_1 | exact dI_11) (by first | omega | exact FD.init hnt y | exact FD.pop hi_13_0 | exact FD.lay hF9 (by omega) | exact FD.lay hi_109_0 (by omega) | exact hi_103_0 | exact hi_147_0 | exact hi_109_0 | exact hF9 | exact hv9 | exact (dI_pred hv9).1 | exact (dI_pred hi_147_1).1 | exact hi_109_1 | exact dI_11) (lv_sub hl [0, 2, 3, 1, 4, 5, 6] rfl) hE
          intro v9 v5 n7 n4 y ls H locs hP hD hS hm_109 hi_109_0 hi_109_1 hi_109_2 hi_109_3 hl hE
          rw [p_X5_field_109] at hE
          refine lv_iload hx hb dX5_field_109 (lv_at hl 0 rfl) ?_
          refine lv_if_lt (tgt := 155) hx hb dX5_field_111 (by decide) (fun c_111 => ?_) (fun c_111 => ?_)
          · skip
            have hE := (if_pos c_111).symm.trans hE
            refine lv_goto (tgt := 13) hx hb dX5_field_155 (by decide) ?_
            exact ih_13 v5 n4 y ls _ _ hP hD hS (by first | (rw [cN_0]; omega) | (have := hi_109_0.le; omega) | omega) (by first | omega | exact FD.init hnt y | exact FD.pop hi_13_0 | exact FD.lay hF9 (by omega) | exact FD.lay hi_109_0 (by omega) | exact hi_103_0 | exact hi_147_0 | exact hi_109_0 | exact hF9 | exact hv9 | exact (dI_pred hv9).1 | exact (dI_pred hi_147_1).1 | exact hi_109_1 | exact dI_11) (lv_sub hl [1, 3, 4, 5, 6] rfl) hE
          · skip
            have hE := (if_neg c_111).symm.trans hE
            have hv9 := dI_nn hi_109_1 c_111
            have hv8 := hv9.1
            have hn9 := hi_109_0.le
            refine lv_aload_n hx hb dX5_field_114 rfl (lv_at hl 4 rfl) ?_
            refine va_get (D := D) (ci := 5) (v := .ref (a 5)) (C := RX5) (T := TX5) (N := 21) hx hb hts (fun w9 h9 => List.mem_cons_of_mem _ (inT_X5 w9 h9)) hown hK hP 0 rfl rfl 4 (by decide) (hts (.fieldLink RX5 23 "LinkPredictorModel" "faces" "[I") (List.mem_cons_of_mem _ mw_3_70)) (fun _ h9 => h9) rfl dX5_field_115 ?_
            refine lv_iload hx hb dX5_field_118 (lv_at hl 2 rfl) ?_
            refine ro_ald hx hb hEV hP 5 (j := n7) rfl (by omega) (by decide) dX5_field_120 ?_
            refine lv_iload hx hb dX5_field_121 (lv_at hl 0 rfl) ?_
            refine top_eq (hv9.2) ?_
            refine ro_S [.int (x 4 n7), .int (nI (sN v9))] [] ⟨hx, hb, hml, hown, hts⟩ (c_X5_has l D cI cZ cB cR (x 4 n7) (sN v9) (by omega)) (va_cwS 2 hts (goodP (ps := [.methodLink RX5 94 yX5_has, .static yX5_has, .initialized RX5]) (all3 mw_3_201 mw_3_202 mw_1_6) mw_3_203) rfl rfl rfl (by decide +kernel) ⟨Nat.le_of_ble_eq_true rfl, Nat.le_of_ble_eq_true rfl⟩) hEV va_P0 rfl hl.1 rfl (Nat.le_of_ble_eq_true rfl) dX5_field_123 ⟨Nat.zero_le _, Nat.zero_le _⟩ ?_
            refine lv_if_eq (tgt := 149) hx hb dX5_field_126 (by decide) (fun c_126 => ?_) (fun c_126 => ?_)
            · have c_126 : ¬ ((bt (x 4 n7) (sN v9)) = true) := b2i_f c_126
              have hE := (if_neg c_126).symm.trans hE
              refine lv_iinc (v := v9 + (-1)) (lv' := [(9, .int (v9 + (-1))), (5, .int v5), (7, .int (nI n7)), (4, .int (nI n4)), (0, .ref (a 0)), (1, .int (nI w)), (3, .int (nI u))]) hx hb dX5_field_149 hl (k := 0) rfl rfl (by decide) rfl (fun ls hl => ?_)
              refine lv_goto (tgt := 109) hx hb dX5_field_152 (by decide) ?_
              exact ih_109 (v9 + (-1)) v5 n7 n4 y ls _ _ hP hD hS (by first | (have := (dI_pred hv9).2; unfold mD at hm_109; rw [if_neg c_111] at hm_109; omega) | (have := (dI_pred hi_147_1).2; omega) | exact mD_11) (by first | omega | exact FD.init hnt y | exact FD.pop hi_13_0 | exact FD.lay hF9 (by omega) | exact FD.lay hi_109_0 (by omega) | exact hi_103_0 | exact hi_147_0 | exact hi_109_0 | exact hF9 | exact hv9 | exact (dI_pred hv9).1 | exact (dI_pred hi_147_1).1 | exact hi_109_1 | exact dI_11) (by first | omega | exact FD.init hnt y | exact FD.pop hi_13_0 | exact FD.lay hF9 (by omega) | exact FD.lay hi_109_0 (by omega) | exact hi_103_0 | exact hi_147_0 | exact hi_109_0 | exact hF9 | exact hv9 | exact (dI_pred hv9).1 | exact (dI_pred hi_147_1).1 | exact hi_109_1 | exact dI_11) (by first | omega | exact FD.init hnt y | exact FD.pop hi_13_0 | exact FD.lay hF9 (by omega) | exact FD.lay hi_109_0 (by omega) | exact hi_103_0 | exact hi_147_0 | exact hi_109_0 | exact hF9 | exact hv9 | exact (dI_pred hv9).1 | exact (dI_pred hi_147_1).1 | exact hi_109_1 | exact dI_11) (by first | omega | exact FD.init hnt y | exact FD.pop hi_13_0 | exact FD.lay hF9 (by omega) | exact FD.lay hi_109_0 (by omega) | exact hi_103_0 | exact hi_147_0 | exact hi_109_0 | exact hF9 | exact hv9 | exact (dI_pred hv9).1 | exact (dI_pred hi_147_1).1 | exact hi_109_1 | exact dI_11) (lv_sub hl [0, 1, 2, 3, 4, 5, 6] rfl) hE
            · have c_126 : (bt (x 4 n7) (sN v9)) = true := b2i_t c_126
              have hE := (if_pos c_126).symm.trans hE
              refine lv_iload hx hb dX5_field_129 (lv_at hl 1 rfl) ?_
              refine lv_iload hx hb dX5_field_131 (lv_at hl 0 rfl) ?_
              refine top_eq (hv9.2) ?_
              refine ro_S [.int v5, .int (nI (sN v9))] [] ⟨hx, hb, hml, hown, hts⟩ (c_X5_has l D cI cZ cB cR v5 (sN v9) (by omega)) (va_cwS 2 hts (goodP (ps := [.methodLink RX5 94 yX5_has, .static yX5_has, .initialized RX5]) (all3 mw_3_201 mw_3_202 mw_1_6) mw_3_203) rfl rfl rfl (by decide +kernel) ⟨Nat.le_of_ble_eq_true rfl, Nat.le_of_ble_eq_true rfl⟩) hEV va_P0 rfl hl.1 rfl (Nat.le_of_ble_eq_true rfl) dX5_field_133 ⟨Nat.zero_le _, Nat.zero_le _⟩ ?_
              refine lv_if_ne (tgt := 149) hx hb dX5_field_136 (by decide) (fun c_136 => ?_) (fun c_136 => ?_)
              · have c_136 : (bt v5 (sN v9)) = true := b2i_t c_136
                have hE := (if_pos c_136).symm.trans hE
                refine lv_iinc (v := v9 + (-1)) (lv' := [(9, .int (v9 + (-1))), (5, .int v5), (7, .int (nI n7)), (4, .int (nI n4)), (0, .ref (a 0)), (1, .int (nI w)), (3, .int (nI u))]) hx hb dX5_field_149 hl (k := 0) rfl rfl (by decide) rfl (fun ls hl => ?_)
                refine lv_goto (tgt := 109) hx hb dX5_field_152 (by decide) ?_
                exact ih_109 (v9 + (-1)) v5 n7 n4 y ls _ _ hP hD hS (by first | (have := (dI_pred hv9).2; unfold mD at hm_109; rw [if_neg c_111] at hm_109; omega) | (have := (dI_pred hi_147_1).2; omega) | exact mD_11) (by first | omega | exact FD.init hnt y | exact FD.pop hi_13_0 | exact FD.lay hF9 (by omega) | exact FD.lay hi_109_0 (by omega) | exact hi_103_0 | exact hi_147_0 | exact hi_109_0 | exact hF9 | exact hv9 | exact (dI_pred hv9).1 | exact (dI_pred hi_147_1).1 | exact hi_109_1 | exact dI_11) (by first | omega | exact FD.init hnt y | exact FD.pop hi_13_0 | exact FD.lay hF9 (by omega) | exact FD.lay hi_109_0 (by omega) | exact hi_103_0 | exact hi_147_0 | exact hi_109_0 | exact hF9 | exact hv9 | exact (dI_pred hv9).1 | exact (dI_pred hi_147_1).1 | exact hi_109_1 | exact dI_11) (by first | omega | exact FD.init hnt y | exact FD.pop hi_13_0 | exact FD.lay hF9 (by omega) | exact FD.lay hi_109_0 (by omega) | exact hi_103_0 | exact hi_147_0 | exact hi_109_0 | exact hF9 | exact hv9 | exact (dI_pred hv9).1 | exact (dI_pred hi_147_1).1 | exact hi_109_1 | exact dI_11) (by first | omega | exact FD.init hnt y | exact FD.pop hi_13_0 | exact FD.lay hF9 (by omega) | exact FD.lay hi_109_0 (by omega) | exact hi_103_0 | exact hi_147_0 | exact hi_109_0 | exact hF9 | exact hv9 | exact (dI_pred hv9).1 | exact (dI_pred hi_147_1).1 | exact hi_109_1 | exact dI_11) (lv_sub hl [0, 1, 2, 3, 4, 5, 6] rfl) hE
              · have c_136 : ¬ ((bt v5 (sN v9)) = true) := b2i_f c_136
                have hE := (if_neg c_136).symm.trans hE
                refine lv_aload_n hx hb dX5_field_139 rfl (lv_at hl 4 rfl) ?_
                refine lv_iload hx hb dX5_field_140 (lv_at hl 3 rfl) ?_
                refine lv_iload hx hb dX5_field_142 (lv_at hl 0 rfl) ?_
                refine top_eq (hv9.2) ?_
                refine mu_V [.int (nI n4), .int (nI (sN v9))] [] ⟨hx, hb, hml, hown, hts⟩ (c_X5_lay l D cI cZ cB cR a x y w n n4 (sN v9) (by omega) (by omega)) (cwV (C := RX5) 2 hts (goodP (ps := [.methodLink RX5 120 yX5_lay, .instanceMethod yX5_lay, .selects RX5 yX5_lay yX5_lay, .initialized RX5]) (all4 mw_3_224 mw_3_226 ms_34 mw_1_6) mw_3_227) rfl rfl rfl (by decide +kernel) ⟨Nat.le_of_ble_eq_true rfl, Nat.le_of_ble_eq_true rfl⟩) hEV hP hD hS hA 0 rfl rfl rfl hl.1 rfl (Nat.le_of_ble_eq_true rfl) dX5_field_144 ⟨Nat.zero_le _, Nat.zero_le _⟩ (fun r9 u9 H1 locs hw hP1 hk1 hS => ?_)
                subst hw
                have hP : va_P D vwCl (wX cI cZ a x (((p_X5_lay x w n n4 (sN v9) y).2) 0) (((p_X5_lay x w n n4 (sN v9) y).2) 1)) H1 := hP1
                have hD : va_D A (wX cI cZ a x (((p_X5_lay x w n n4 (sN v9) y).2) 0) (((p_X5_lay x w n n4 (sN v9) y).2) 1)) := hD.adr rfl
                generalize H1 = H at hP hS ⊢
                refine top_eq ((lay_ok _ _ _ _ _ _ (by omega) (by omega) (by first | exact hF9.1 | exact hi_109_0.1)).1) ?_
                exact key_147 v9 v5 n7 (sN ((p_X5_lay x w n n4 (sN v9) y).1)) ((p_X5_lay x w n n4 (sN v9) y).2) ls _ _ hP hD hS (by first | (unfold mD at hm_109; rw [if_neg c_111] at hm_109; omega) | omega | exact FD.init hnt y | exact FD.pop hi_13_0 | exact FD.lay hF9 (by omega) | exact FD.lay hi_109_0 (by omega) | exact hi_103_0 | exact hi_147_0 | exact hi_109_0 | exact hF9 | exact hv9 | exact (dI_pred hv9).1 | exact (dI_pred hi_147_1).1 | exact hi_109_1 | exact dI_11) (by first | (unfold mD at hm_109; rw [if_neg c_111] at hm_109; omega) | omega | exact FD.init hnt y | exact FD.pop hi_13_0 | exact FD.lay hF9 (by omega) | exact FD.lay hi_109_0 (by omega) | exact hi_103_0 | exact hi_147_0 | exact hi_109_0 | exact hF9 | exact hv9 | exact (dI_pred hv9).1 | exact (dI_pred hi_147_1).1 | exact hi_109_1 | exact dI_11) (by first | (unfold mD at hm_109; rw [if_neg c_111] at hm_109; omega) | omega | exact FD.init hnt y | exact FD.pop hi_13_0 | exact FD.lay hF9 (by omega) | exact FD.lay hi_109_0 (by omega) | exact hi_103_0 | exact hi_147_0 | exact hi_109_0 | exact hF9 | exact hv9 | exact (dI_pred hv9).1 | exact (dI_pred hi_147_1).1 | exact hi_109_1 | exact dI_11) (by first | (unfold mD at hm_109; rw [if_neg c_111] at hm_109; omega) | omega | exact FD.init hnt y | exact FD.pop hi_13_0 | exact FD.lay hF9 (by omega) | exact FD.lay hi_109_0 (by omega) | exact hi_103_0 | exact hi_147_0 | exact hi_109_0 | exact hF9 | exact hv9 | exact (dI_pred hv9).1 | exact (dI_pred hi_147_1).1 | exact hi_109_1 | exact dI_11) (by first | (unfold mD at hm_109; rw [if_neg c_111] at hm_109; omega) | omega | exact FD.init hnt y | exact FD.pop hi_13_0 | exact FD.lay hF9 (by omega) | exact FD.lay hi_109_0 (by omega) | exact hi_103_0 | exact hi_147_0 | exact hi_109_0 | exact hF9 | exact hv9 | exact (dI_pred hv9).1 | exact (dI_pred hi_147_1).1 | exact hi_109_1 | exact dI_11) (by first | (unfold mD at hm_109; rw [if_neg c_111] at hm_109; omega) | omega | exact FD.init hnt y | exact FD.pop hi_13_0 | exact FD.lay hF9 (by omega) | exact FD.lay hi_109_0 (by omega) | exact hi_103_0 | exact hi_147_0 | exact hi_109_0 | exact hF9 | exact hv9 | exact (dI_pred hv9).1 | exact (dI_pred hi_147_1).1 | exact hi_109_1 | exact dI_11) (lv_sub hl [0, 1, 2, 4, 5, 6] rfl) hE
      have key_103 : ∀ (v5 : Int32) (n7 : Nat) (ns0 : Nat) (y : (Nat → Nat → Int32)) (ls : Array Slot) (H : Heap) (locs : List Loc) (hP : va_P D vwCl (wX cI cZ a x (y 0) (y 1)) H) (hD : va_D A (wX cI cZ a x (y 0) (y 1))) (hS : va_S A s.heap H locs), FD ns0 y → n7 < 24 → 13 * cN v5 + 12 < k_13 → lv_has ls 10 [(5, .int v5), (7, .int (nI n7)), (0, .ref (a 0)), (1, .int (nI w)), (3, .int (nI u))] → p_X5_field_103 x w n t u (fun v5 n4 y => p_X5_field_13 x w n t u k_13 v5 n4 y) v5 n7 ns0 y = tgt → W p l e (headSpec wsX5_field ({ frames := 1, cells := 0, slots := 0, locals := 26 } : Room)).room s m args below meth c H locs 0 0 (MQ below (va_Qi (fun r (_ : Unit) => r = tgt.1) (fun _ t => va_P D vwCl (wX cI cZ a x (tgt.2 0) (tgt.2 1)) t.heap) A) args s 0 0 A) (F0 m 103 ls [.int (nI ns0)]) := by
        intro v5 n7 ns0 y ls H locs hP hD hS hi_103_0 hi_103_1 hi_103_2 hl hE
        rw [p_X5_field_103] at hE
        refine lv_istore (lv' := [(4, .int (nI ns0)), (5, .int v5), (7, .int (nI n7)), (0, .ref (a 0)), (1, .int (nI w)), (3, .int (nI u))]) hx hb dX5_field_103 hl (by decide) rfl (fun ls hl => ?_)
        refine lv_bipush (v := (11 : Int32)) hx hb dX5_field_105 (by decide) ?_
        refine lv_istore (lv' := [(9, .int (11 : Int32)), (4, .int (nI ns0)), (5, .int v5), (7, .int (nI n7)), (0, .ref (a 0)), (1, .int (nI w)), (3, .int (nI u))]) hx hb dX5_field_107 hl (by decide) rfl (fun ls hl => ?_)
        exact key_109 13 (11 : Int32) v5 n7 ns0 y ls _ _ hP hD hS (by first | (have := (dI_pred hv9).2; unfold mD at hm_109; rw [if_neg c_111] at hm_109; omega) | (have := (dI_pred hi_147_1).2; omega) | exact mD_11) (by first | omega | exact FD.init hnt y | exact FD.pop hi_13_0 | exact FD.lay hF9 (by omega) | exact FD.lay hi_109_0 (by omega) | exact hi_103_0 | exact hi_147_0 | exact hi_109_0 | exact hF9 | exact hv9 | exact (dI_pred hv9).1 | exact (dI_pred hi_147_1).1 | exact hi_109_1 | exact dI_11) (by first | omega | exact FD.init hnt y | exact FD.pop hi_13_0 | exact FD.lay hF9 (by omega) | exact FD.lay hi_109_0 (by omega) | exact hi_103_0 | exact hi_147_0 | exact hi_109_0 | exact hF9 | exact hv9 | exact (dI_pred hv9).1 | exact (dI_pred hi_147_1).1 | exact hi_109_1 | exact dI_11) (by first | omega | exact FD.init hnt y | exact FD.pop hi_13_0 | exact FD.lay hF9 (by omega) | exact FD.lay hi_109_0 (by omega) | exact hi_103_0 | exact hi_147_0 | exact hi_109_0 | exact hF9 | exact hv9 | exact (dI_pred hv9).1 | exact (dI_pred hi_147_1).1 | exact hi_109_1 | exact dI_11) (by first | omega | exact FD.init hnt y | exact FD.pop hi_13_0 | exact FD.lay hF9 (by omega) | exact FD.lay hi_109_0 (by omega) | exact hi_103_0 | exact hi_147_0 | exact hi_109_0 | exact hF9 | exact hv9 | exact (dI_pred hv9).1 | exact (dI_pred hi_147_1).1 | exact hi_109_1 | exact dI_11) (lv_sub hl [0, 2, 3, 1, 4, 5, 6] rfl) hE
      intro v5 n4 y ls H locs hP hD hS hm_13 hi_13_0 hl hE
      rw [p_X5_field_13] at hE
      have hn13 := hi_13_0.le
      refine lv_iload hx hb dX5_field_13 (lv_at hl 1 rfl) ?_
      refine lv_if_le (tgt := 158) hx hb dX5_field_15 (by decide) (fun c_15 => ?_) (fun c_15 => ?_)
      · have c_15 : n4 ≤ 0 := (nI_leI (a := n4) (b := 0) (by omega) (by omega)).mp c_15
        have hE := (if_pos c_15).symm.trans hE
        refine lv_iconst (v := (-1 : Int32)) hx hb dX5_field_158 (by decide) ?_
        exact W.iret hx hb hr (fun t9 ht9 _ => ⟨⟨_, (), rfl, congrArg Prod.fst hE, by show va_P D vwCl _ t9.heap; rw [ht9, ← congrArg Prod.snd hE]; exact hP⟩, hS.F ht9⟩) hS.2.2 dX5_field_159
      · have c_15 : ¬ (n4 ≤ 0) := fun q9 => c_15 ((nI_leI (a := n4) (b := 0) (by omega) (by omega)).mpr q9)
        have hE := (if_neg c_15).symm.trans hE
        have hn9 := hi_13_0.le
        have hF9 := hi_13_0.pop
        have hT9 := hi_13_0.1 (n4 - 1) (by omega)
        have hu9 : uS y (n4 - 1) < 12 := hT9.1
        refine lv_iinc (v := nI (n4 - 1)) (lv' := [(4, .int (nI (n4 - 1))), (5, .int v5), (0, .ref (a 0)), (1, .int (nI w)), (3, .int (nI u))]) hx hb dX5_field_18 hl (k := 1) rfl (pk_dec (by omega)) (by decide) rfl (fun ls hl => ?_)
        refine lv_aload_n hx hb dX5_field_21 rfl (lv_at hl 2 rfl) ?_
        refine va_get (D := D) (ci := 5) (v := .ref (a 18)) (C := RX5) (T := TX5) (N := 21) hx hb hts (fun w9 h9 => List.mem_cons_of_mem _ (inT_X5 w9 h9)) hown hK hP 0 rfl rfl 19 (by decide) (hts (.fieldLink RX5 62 "LinkPredictorModel" "row" "[I") (List.mem_cons_of_mem _ mw_3_85)) (fun _ h9 => h9) rfl dX5_field_22 ?_
        refine lv_iload hx hb dX5_field_25 (lv_at hl 0 rfl) ?_
        refine ro_ald hx hb hEV hP 18 (j := (n4 - 1)) rfl (by omega) (by decide) dX5_field_27 ?_
        refine top_eq (hT9.2) ?_
        refine lv_istore (lv' := [(6, .int (nI (uS y (n4 - 1)))), (4, .int (nI (n4 - 1))), (5, .int v5), (0, .ref (a 0)), (1, .int (nI w)), (3, .int (nI u))]) hx hb dX5_field_28 hl (by decide) rfl (fun ls hl => ?_)
        refine lv_bipush (v := (12 : Int32)) hx hb dX5_field_30 (by decide) ?_
        refine lv_iload_n hx hb dX5_field_32 rfl (lv_at hl 4 rfl) ?_
        refine lv_imul hx hb dX5_field_33 ?_
        refine top_eq (pk_mul 12 w) ?_
        refine lv_iload hx hb dX5_field_34 (lv_at hl 0 rfl) ?_
        refine lv_iadd hx hb dX5_field_36 ?_
        refine top_eq (nI_add (12 * w) (uS y (n4 - 1))) ?_
        refine lv_istore (lv' := [(7, .int (nI ((12 * w) + (uS y (n4 - 1))))), (6, .int (nI (uS y (n4 - 1)))), (4, .int (nI (n4 - 1))), (5, .int v5), (0, .ref (a 0)), (1, .int (nI w)), (3, .int (nI u))]) hx hb dX5_field_37 hl (by decide) rfl (fun ls hl => ?_)
        refine lv_iload hx hb dX5_field_39 (lv_at hl 3 rfl) ?_
        refine lv_iload hx hb dX5_field_41 (lv_at hl 1 rfl) ?_
        refine ro_S [.int v5, .int (nI (uS y (n4 - 1)))] [] ⟨hx, hb, hml, hown, hts⟩ (c_X5_has l D cI cZ cB cR v5 (uS y (n4 - 1)) (by omega)) (va_cwS 2 hts (goodP (ps := [.methodLink RX5 94 yX5_has, .static yX5_has, .initialized RX5]) (all3 mw_3_201 mw_3_202 mw_1_6) mw_3_203) rfl rfl rfl (by decide +kernel) ⟨Nat.le_of_ble_eq_true rfl, Nat.le_of_ble_eq_true rfl⟩) hEV va_P0 rfl hl.1 rfl (Nat.le_of_ble_eq_true rfl) dX5_field_43 ⟨Nat.zero_le _, Nat.zero_le _⟩ ?_
        refine lv_if_eq (tgt := 52) hx hb dX5_field_46 (by decide) (fun c_46 => ?_) (fun c_46 => ?_)
        · have c_46 : ¬ ((bt v5 (uS y (n4 - 1))) = true) := b2i_f c_46
          have hE := (if_neg c_46).symm.trans hE
          refine lv_iload hx hb dX5_field_52 (lv_at hl 3 rfl) ?_
          refine lv_iconst (v := (1 : Int32)) hx hb dX5_field_54 (by decide) ?_
          refine lv_iload hx hb dX5_field_55 (lv_at hl 1 rfl) ?_
          refine lv_ishl hx hb dX5_field_57 ?_
          refine lv_ior hx hb dX5_field_58 ?_
          refine lv_istore (lv' := [(5, .int (v5 ||| ((1 : Int32) <<< ((nI (uS y (n4 - 1))) &&& 31)))), (7, .int (nI ((12 * w) + (uS y (n4 - 1))))), (6, .int (nI (uS y (n4 - 1)))), (4, .int (nI (n4 - 1))), (0, .ref (a 0)), (1, .int (nI w)), (3, .int (nI u))]) hx hb dX5_field_59 hl (by decide) rfl (fun ls hl => ?_)
          have hc9 := cN_or hu9 (show bt v5 (uS y (n4 - 1)) = false by simpa using c_46)
          have hc8 : cN (v5 ||| ((1 : Int32) <<< ((nI (uS y (n4 - 1))) &&& 31))) + 1 = cN v5 := hc9
          refine lv_aload_n hx hb dX5_field_61 rfl (lv_at hl 4 rfl) ?_
          refine lv_iload_n hx hb dX5_field_62 rfl (lv_at hl 5 rfl) ?_
          refine lv_iload hx hb dX5_field_63 (lv_at hl 2 rfl) ?_
          refine lv_iconst (v := (0 : Int32)) hx hb dX5_field_65 (by decide) ?_
          refine lv_iload_n hx hb dX5_field_66 rfl (lv_at hl 6 rfl) ?_
          refine ro_V [.int (nI w), .int (nI (uS y (n4 - 1))), .int (0 : Int32), .int (nI u)] [] ⟨hx, hb, hml, hown, hts⟩ (c_X5_own l D cI cZ cB cR a x (y 0) (y 1) w n (uS y (n4 - 1)) false u (by omega) wx (by omega) (by omega) ) (cwV (C := RX5) 4 hts (goodP (ps := [.methodLink RX5 84 yX5_own, .instanceMethod yX5_own, .selects RX5 yX5_own yX5_own, .initialized RX5]) (all4 mw_3_158 mw_3_160 ms_27 mw_1_6) mw_3_161) rfl rfl rfl (by decide +kernel) ⟨Nat.le_of_ble_eq_true rfl, Nat.le_of_ble_eq_true rfl⟩) hEV hP 0 rfl rfl rfl hl.1 rfl (Nat.le_of_ble_eq_true rfl) dX5_field_67 ⟨Nat.zero_le _, Nat.zero_le _⟩ ?_
          refine lv_istore (lv' := [(8, .int (odI (vmX x w) n (uS y (n4 - 1)) (kyF false (nI u)))), (5, .int (v5 ||| ((1 : Int32) <<< ((nI (uS y (n4 - 1))) &&& 31)))), (7, .int (nI ((12 * w) + (uS y (n4 - 1))))), (6, .int (nI (uS y (n4 - 1)))), (4, .int (nI (n4 - 1))), (0, .ref (a 0)), (1, .int (nI w)), (3, .int (nI u))]) hx hb dX5_field_70 hl (by decide) rfl (fun ls hl => ?_)
          refine lv_iload hx hb dX5_field_72 (lv_at hl 0 rfl) ?_
          refine lv_if_lt (tgt := 80) hx hb dX5_field_74 (by decide) (fun c_74 => ?_) (fun c_74 => ?_)
          · skip
            have hE := (if_pos c_74).symm.trans hE
            refine lv_aload_n hx hb dX5_field_80 rfl (lv_at hl 5 rfl) ?_
            refine va_get (D := D) (ci := 5) (v := .ref (a 4)) (C := RX5) (T := TX5) (N := 21) hx hb hts (fun w9 h9 => List.mem_cons_of_mem _ (inT_X5 w9 h9)) hown hK hP 0 rfl rfl 3 (by decide) (hts (.fieldLink RX5 20 "LinkPredictorModel" "above" "[I") (List.mem_cons_of_mem _ mw_3_69)) (fun _ h9 => h9) rfl dX5_field_81 ?_
            refine lv_iload hx hb dX5_field_84 (lv_at hl 2 rfl) ?_
            refine ro_ald hx hb hEV hP 4 (j := ((12 * w) + (uS y (n4 - 1)))) rfl (by omega) (by decide) dX5_field_86 ?_
            refine lv_if_lt (tgt := 105) hx hb dX5_field_87 (by decide) (fun c_87 => ?_) (fun c_87 => ?_)
            · skip
              have hE := (if_pos c_87).symm.trans hE
              refine lv_bipush (v := (11 : Int32)) hx hb dX5_field_105 (by decide) ?_
              refine lv_istore (lv' := [(9, .int (11 : Int32)), (8, .int (odI (vmX x w) n (uS y (n4 - 1)) (kyF false (nI u)))), (5, .int (v5 ||| ((1 : Int32) <<< ((nI (uS y (n4 - 1))) &&& 31)))), (7, .int (nI ((12 * w) + (uS y (n4 - 1))))), (6, .int (nI (uS y (n4 - 1)))), (4, .int (nI (n4 - 1))), (0, .ref (a 0)), (1, .int (nI w)), (3, .int (nI u))]) hx hb dX5_field_107 hl (by decide) rfl (fun ls hl => ?_)
              exact key_109 13 (11 : Int32) (v5 ||| ((1 : Int32) <<< ((nI (uS y (n4 - 1))) &&& 31))) ((12 * w) + (uS y (n4 - 1))) (n4 - 1) y ls _ _ hP hD hS (by first | (have := (dI_pred hv9).2; unfold mD at hm_109; rw [if_neg c_111] at hm_109; omega) | (have := (dI_pred hi_147_1).2; omega) | exact mD_11) (by first | omega | exact FD.init hnt y | exact FD.pop hi_13_0 | exact FD.lay hF9 (by omega) | exact FD.lay hi_109_0 (by omega) | exact hi_103_0 | exact hi_147_0 | exact hi_109_0 | exact hF9 | exact hv9 | exact (dI_pred hv9).1 | exact (dI_pred hi_147_1).1 | exact hi_109_1 | exact dI_11) (by first | omega | exact FD.init hnt y | exact FD.pop hi_13_0 | exact FD.lay hF9 (by omega) | exact FD.lay hi_109_0 (by omega) | exact hi_103_0 | exact hi_147_0 | exact hi_109_0 | exact hF9 | exact hv9 | exact (dI_pred hv9).1 | exact (dI_pred hi_147_1).1 | exact hi_109_1 | exact dI_11) (by first | omega | exact FD.init hnt y | exact FD.pop hi_13_0 | exact FD.lay hF9 (by omega) | exact FD.lay hi_109_0 (by omega) | exact hi_103_0 | exact hi_147_0 | exact hi_109_0 | exact hF9 | exact hv9 | exact (dI_pred hv9).1 | exact (dI_pred hi_147_1).1 | exact hi_109_1 | exact dI_11) (by first | omega | exact FD.init hnt y | exact FD.pop hi_13_0 | exact FD.lay hF9 (by omega) | exact FD.lay hi_109_0 (by omega) | exact hi_103_0 | exact hi_147_0 | exact hi_109_0 | exact hF9 | exact hv9 | exact (dI_pred hv9).1 | exact (dI_pred hi_147_1).1 | exact hi_109_1 | exact dI_11) (lv_sub hl [0, 2, 3, 5, 6, 7, 8] rfl) hE
            · skip
              have hE := (if_neg c_87).symm.trans hE
              have hs9 : isT (x 3 ((12 * w) + (uS y (n4 - 1)))) := (wx.1.1 _ hu9).1.resolve_left (fun e9 => c_87 (by rw [show x 3 ((12 * w) + (uS y (n4 - 1))) = -1 from e9]; decide))
              have hs8 := hs9.1
              refine lv_aload_n hx hb dX5_field_90 rfl (lv_at hl 5 rfl) ?_
              refine lv_iload hx hb dX5_field_91 (lv_at hl 4 rfl) ?_
              refine lv_aload_n hx hb dX5_field_93 rfl (lv_at hl 5 rfl) ?_
              refine va_get (D := D) (ci := 5) (v := .ref (a 4)) (C := RX5) (T := TX5) (N := 21) hx hb hts (fun w9 h9 => List.mem_cons_of_mem _ (inT_X5 w9 h9)) hown hK hP 0 rfl rfl 3 (by decide) (hts (.fieldLink RX5 20 "LinkPredictorModel" "above" "[I") (List.mem_cons_of_mem _ mw_3_69)) (fun _ h9 => h9) rfl dX5_field_94 ?_
              refine lv_iload hx hb dX5_field_97 (lv_at hl 2 rfl) ?_
              refine ro_ald hx hb hEV hP 4 (j := ((12 * w) + (uS y (n4 - 1)))) rfl (by omega) (by decide) dX5_field_99 ?_
              refine top_eq (hs9.2) ?_
              refine mu_V [.int (nI (n4 - 1)), .int (nI (sN (x 3 ((12 * w) + (uS y (n4 - 1))))))] [] ⟨hx, hb, hml, hown, hts⟩ (c_X5_lay l D cI cZ cB cR a x y w n (n4 - 1) (sN (x 3 ((12 * w) + (uS y (n4 - 1))))) (by omega) (by omega)) (cwV (C := RX5) 2 hts (goodP (ps := [.methodLink RX5 120 yX5_lay, .instanceMethod yX5_lay, .selects RX5 yX5_lay yX5_lay, .initialized RX5]) (all4 mw_3_224 mw_3_226 ms_34 mw_1_6) mw_3_227) rfl rfl rfl (by decide +kernel) ⟨Nat.le_of_ble_eq_true rfl, Nat.le_of_ble_eq_true rfl⟩) hEV hP hD hS hA 0 rfl rfl rfl hl.1 rfl (Nat.le_of_ble_eq_true rfl) dX5_field_100 ⟨Nat.zero_le _, Nat.zero_le _⟩ (fun r9 u9 H1 locs hw hP1 hk1 hS => ?_)
              subst hw
              have hP : va_P D vwCl (wX cI cZ a x (((p_X5_lay x w n (n4 - 1) (sN (x 3 ((12 * w) + (uS y (n4 - 1))))) y).2) 0) (((p_X5_lay x w n (n4 - 1) (sN (x 3 ((12 * w) + (uS y (n4 - 1))))) y).2) 1)) H1 := hP1
              have hD : va_D A (wX cI cZ a x (((p_X5_lay x w n (n4 - 1) (sN (x 3 ((12 * w) + (uS y (n4 - 1))))) y).2) 0) (((p_X5_lay x w n (n4 - 1) (sN (x 3 ((12 * w) + (uS y (n4 - 1))))) y).2) 1)) := hD.adr rfl
              generalize H1 = H at hP hS ⊢
              refine top_eq ((lay_ok _ _ _ _ _ _ (by omega) (by omega) (by first | exact hF9.1 | exact hi_109_0.1)).1) ?_
              exact key_103 (v5 ||| ((1 : Int32) <<< ((nI (uS y (n4 - 1))) &&& 31))) ((12 * w) + (uS y (n4 - 1))) (sN ((p_X5_lay x w n (n4 - 1) (sN (x 3 ((12 * w) + (uS y (n4 - 1))))) y).1)) ((p_X5_lay x w n (n4 - 1) (sN (x 3 ((12 * w) + (uS y (n4 - 1))))) y).2) ls _ _ hP hD hS (by first | omega | exact FD.init hnt y | exact FD.pop hi_13_0 | exact FD.lay hF9 (by omega) | exact FD.lay hi_109_0 (by omega) | exact hi_103_0 | exact hi_147_0 | exact hi_109_0 | exact hF9 | exact hv9 | exact (dI_pred hv9).1 | exact (dI_pred hi_147_1).1 | exact hi_109_1 | exact dI_11) (by first | omega | exact FD.init hnt y | exact FD.pop hi_13_0 | exact FD.lay hF9 (by omega) | exact FD.lay hi_109_0 (by omega) | exact hi_103_0 | exact hi_147_0 | exact hi_109_0 | exact hF9 | exact hv9 | exact (dI_pred hv9).1 | exact (dI_pred hi_147_1).1 | exact hi_109_1 | exact dI_11) (by first | omega | exact FD.init hnt y | exact FD.pop hi_13_0 | exact FD.lay hF9 (by omega) | exact FD.lay hi_109_0 (by omega) | exact hi_103_0 | exact hi_147_0 | exact hi_109_0 | exact hF9 | exact hv9 | exact (dI_pred hv9).1 | exact (dI_pred hi_147_1).1 | exact hi_109_1 | exact dI_11) (lv_sub hl [1, 2, 5, 6, 7] rfl) hE
          · skip
            have hE := (if_neg c_74).symm.trans hE
            refine lv_iload hx hb dX5_field_77 (lv_at hl 0 rfl) ?_
            exact W.iret hx hb hr (fun t9 ht9 _ => ⟨⟨_, (), rfl, congrArg Prod.fst hE, by show va_P D vwCl _ t9.heap; rw [ht9, ← congrArg Prod.snd hE]; exact hP⟩, hS.F ht9⟩) hS.2.2 dX5_field_79
        · have c_46 : (bt v5 (uS y (n4 - 1))) = true := b2i_t c_46
          have hE := (if_pos c_46).symm.trans hE
          refine lv_goto (tgt := 13) hx hb dX5_field_49 (by decide) ?_
          exact ih_13 v5 (n4 - 1) y ls _ _ hP hD hS (by first | (rw [cN_0]; omega) | (have := hi_109_0.le; omega) | omega) (by first | omega | exact FD.init hnt y | exact FD.pop hi_13_0 | exact FD.lay hF9 (by omega) | exact FD.lay hi_109_0 (by omega) | exact hi_103_0 | exact hi_147_0 | exact hi_109_0 | exact hF9 | exact hv9 | exact (dI_pred hv9).1 | exact (dI_pred hi_147_1).1 | exact hi_109_1 | exact dI_11) (lv_sub hl [3, 2, 4, 5, 6] rfl) hE
  refine lv_iconst (v := (1 : Int32)) hx hb dX5_field_0 (by decide) ?_
  refine lv_istore (lv' := [(4, .int (1 : Int32)), (0, .ref (a 0)), (1, .int (nI w)), (2, .int (nI t)), (3, .int (nI u))]) hx hb dX5_field_1 hl (by decide) rfl (fun ls hl => ?_)
  refine lv_iconst (v := (0 : Int32)) hx hb dX5_field_3 (by decide) ?_
  refine lv_istore (lv' := [(5, .int (0 : Int32)), (4, .int (1 : Int32)), (0, .ref (a 0)), (1, .int (nI w)), (2, .int (nI t)), (3, .int (nI u))]) hx hb dX5_field_4 hl (by decide) rfl (fun ls hl => ?_)
  refine lv_aload_n hx hb dX5_field_6 rfl (lv_at hl 2 rfl) ?_
  refine va_get (D := D) (ci := 5) (v := .ref (a 18)) (C := RX5) (T := TX5) (N := 21) hx hb hts (fun w9 h9 => List.mem_cons_of_mem _ (inT_X5 w9 h9)) hown hK hP 0 rfl rfl 19 (by decide) (hts (.fieldLink RX5 62 "LinkPredictorModel" "row" "[I") (List.mem_cons_of_mem _ mw_3_85)) (fun _ h9 => h9) rfl dX5_field_7 ?_
  refine lv_iconst (v := (0 : Int32)) hx hb dX5_field_10 (by decide) ?_
  refine lv_iload_n hx hb dX5_field_11 rfl (lv_at hl 4 rfl) ?_
  refine mu_ast hx hb hEV hP hD hS 18 (j := 0) (v := nI t) (w2 := wX cI cZ a x ((st2 y 0 0 (nI t)) 0) ((st2 y 0 0 (nI t)) 1)) rfl (by omega) (by decide) rfl dX5_field_12 (fun H locs hP hD hS => ?_)
  exact key_13 170 (0 : Int32) 1 (st2 y 0 0 (nI t)) ls _ _ hP hD hS (by first | (rw [cN_0]; omega) | (have := hi_109_0.le; omega) | omega) (by first | omega | exact FD.init hnt y | exact FD.pop hi_13_0 | exact FD.lay hF9 (by omega) | exact FD.lay hi_109_0 (by omega) | exact hi_103_0 | exact hi_147_0 | exact hi_109_0 | exact hF9 | exact hv9 | exact (dI_pred hv9).1 | exact (dI_pred hi_147_1).1 | exact hi_109_1 | exact dI_11) (lv_sub hl [0, 1, 2, 3, 5] rfl) hE
/-! ===== the reference's way to a field ===== -/
def av (n k : Nat) : Int32 := if k < n then nI k else -1
theorem fsL_drop {F : Nat → Nat} {n j : Nat} (h : ¬ F j < n) : ∀ L : List Nat, fsL F n (L.filter (fun q => !decide (q = j))) = fsL F n L
  | [] => rfl
  | t :: L => by
    rw [List.filter_cons, fsL]
    by_cases c : t = j
    · subst c; rw [if_neg h]; simpa using fsL_drop h L
    · rw [if_pos (by simp [c]), fsL, fsL_drop h L]
theorem fsL_le {F : Nat → Nat} {n : Nat} : ∀ L : List Nat, fsL F n L ≤ n
  | [] => Nat.le_refl n
  | t :: L => by
    rw [fsL]
    split
    · omega
    · exact fsL_le L
section FLD
variable {τ : Nat → Nat → Int32} {F : Nat → Nat} {n : Nat}
/-- what has been seen and finds something lies under something earlier that does -/
def IL (τ : Nat → Nat → Int32) (F : Nat → Nat) (n : Nat) (L : List Nat) (v : Int32) : Prop := ∀ A e B, L = A ++ e :: B → ∀ y, y < 12 → bt v y = true → F y < n → (y = e ∨ lowr τ y e) → ∃ z, z ∈ A ∧ F z < n
/-- what lies above t has been laid on B -/
def QL (τ : Nat → Nat → Int32) (t : Nat) (B L : List Nat) (S : Nat → Prop) : Prop := ∀ A e D, L = A ++ e :: D → lowr τ e t ∨ ∃ A0 D0, B = A0 ++ e :: D0 ∧ (∀ z, z ∈ A0 → z ∈ A) ∧ ∀ c, S c → c ∈ A
theorem QL.lay {t j : Nat} {B L : List Nat} {S : Nat → Prop} (h : QL τ t B L S) (hj : lowr τ j t) : QL τ t B (j :: L.filter (fun q => !decide (q = j))) (fun c => S c ∨ c = j) := by
  intro A e D hL
  cases A with
  | nil =>
    rw [List.nil_append] at hL
    have : j = e := (List.cons.inj hL).1
    rw [← this]; exact Or.inl hj
  | cons a A =>
    rw [List.cons_append] at hL
    obtain ⟨h1, h2⟩ := List.cons.inj hL
    obtain ⟨l1, l2, e1, e2, e3⟩ := List.filter_eq_append_iff.mp h2
    obtain ⟨m1, m2, f1, f2, f3, f4⟩ := List.filter_eq_cons_iff.mp e3
    have hL2 : L = (l1 ++ m1) ++ e :: m2 := by rw [e1, f1, List.append_assoc]
    rcases h (l1 ++ m1) e m2 hL2 with q | ⟨A0, D0, q1, q2, q3⟩
    · exact Or.inl q
    · have key : ∀ z, z ∈ l1 ++ m1 → z ∈ a :: A := by
        intro z hz
        by_cases c : z = j
        · rw [c, h1]; exact List.mem_cons_self ..
        · refine List.mem_cons_of_mem _ ?_
          rcases List.mem_append.mp hz with z1 | z1
          · rw [← e2]; exact List.mem_filter.mpr ⟨z1, by simp [c]⟩
          · exact absurd (by simp [c]) (f2 z z1)
      refine Or.inr ⟨A0, D0, q1, fun z hz => key z (q2 z hz), fun c hc => ?_⟩
      rcases hc with hc | hc
      · exact key c (q3 c hc)
      · rw [hc, h1]; exact List.mem_cons_self ..
/-- what is found from face j on, or above -/
def EF (τ : Nat → Nat → Int32) (F : Nat → Nat) (n t j : Nat) : Nat := if fsG (fun u => bt (τ 4 t) u && decide (F u < n)) (12 - j) j < 12 then F (fsG (fun u => bt (τ 4 t) u && decide (F u < n)) (12 - j) j) else if τ 3 t = -1 then n else F (sN (τ 3 t))
theorem EF_step {t j : Nat} (hj : j < 12) : EF τ F n t j = if (bt (τ 4 t) j && decide (F j < n)) = true then F j else EF τ F n t (j + 1) := by
  have e : 12 - j = (12 - (j + 1)) + 1 := by omega
  unfold EF
  rw [e, fsG]
  by_cases c : (bt (τ 4 t) j && decide (F j < n)) = true
  · simp only [c, if_true]; rw [if_pos hj]
  · simp only [c, if_false, Bool.false_eq_true]
theorem EF_12 {t : Nat} : EF τ F n t 12 = if τ 3 t = -1 then n else F (sN (τ 3 t)) := by
  unfold EF
  rw [Nat.sub_self, fsG, if_neg (Nat.lt_irrefl 12)]
/-- the loop over the faces: j and on are laid -/
def LQ (τ : Nat → Nat → Int32) (F : Nat → Nat) (n t : Nat) (v : Int32) (B : List Nat) (j : Nat) (L : List Nat) : Prop := (∀ e, e ∈ L → Gd τ e) ∧ QL τ t B L (fun c => (¬ τ 3 t = -1 ∧ c = sN (τ 3 t)) ∨ (j ≤ c ∧ c < 12 ∧ bt (τ 4 t) c = true ∧ ¬ bt v c = true)) ∧ fsL F n L = if EF τ F n t j < n then EF τ F n t j else fsL F n B
theorem LQ.skip {t j : Nat} {v : Int32} {B L : List Nat} (h : LQ τ F n t v B (j + 1) L) (hj : j < 12) (hb : bt (τ 4 t) j = true → bt v j = true ∧ ¬ F j < n) : LQ τ F n t v B j L := by
  obtain ⟨h1, h2, h3⟩ := h
  refine ⟨h1, fun A e D hL => ?_, ?_⟩
  · rcases h2 A e D hL with q | ⟨A0, D0, q1, q2, q3⟩
    · exact Or.inl q
    · refine Or.inr ⟨A0, D0, q1, q2, fun c hc => q3 c ?_⟩
      rcases hc with hc | ⟨c1, c2, c3, c4⟩
      · exact Or.inl hc
      · rcases Nat.lt_or_ge j c with z | z
        · exact Or.inr ⟨z, c2, c3, c4⟩
        · have e : c = j := by omega
          rw [e] at c3 c4
          exact absurd (hb c3).1 c4
  · have e : EF τ F n t j = EF τ F n t (j + 1) := by
      refine (EF_step hj).trans (if_neg (fun q => ?_))
      rw [Bool.and_eq_true, decide_eq_true_eq] at q
      exact (hb q.1).2 q.2
    rw [e]; exact h3
theorem LQ.lay {t j : Nat} {v : Int32} {B L : List Nat} (h : LQ τ F n t v B (j + 1) L) (gt : Gd τ t) (hj : j < 12) (hb : bt (τ 4 t) j = true) (hv : ¬ bt v j = true) : LQ τ F n t v B j (j :: L.filter (fun q => !decide (q = j))) := by
  obtain ⟨h1, h2, h3⟩ := h
  refine ⟨fun e he => ?_, fun A e D hL => ?_, ?_⟩
  · rcases List.mem_cons.mp he with q | q
    · rw [q]; exact gt.face hj hb
    · exact h1 e (List.mem_filter.mp q).1
  · rcases h2.lay (lowr.face hj hb) A e D hL with q | ⟨A0, D0, q1, q2, q3⟩
    · exact Or.inl q
    · refine Or.inr ⟨A0, D0, q1, q2, fun c hc => q3 c ?_⟩
      rcases hc with hc | ⟨c1, c2, c3, c4⟩
      · exact Or.inl (Or.inl hc)
      · rcases Nat.lt_or_ge j c with z | z
        · exact Or.inl (Or.inr ⟨z, c2, c3, c4⟩)
        · exact Or.inr (by omega)
  · rw [fsL, EF_step hj]
    by_cases c : F j < n
    · simp [hb, c]
    · rw [if_neg c, fsL_drop c, h3]; simp [c]
theorem LQ.start {t : Nat} {v : Int32} {B : List Nat} (hB : ∀ e, e ∈ B → Gd τ e) (h3 : τ 3 t = -1) : LQ τ F n t v B 12 B := by
  refine ⟨hB, fun A e D hL => Or.inr ⟨A, D, hL, fun z hz => hz, fun c hc => ?_⟩, ?_⟩
  · rcases hc with hc | hc
    · exact absurd h3 hc.1
    · omega
  · rw [EF_12, if_pos h3, if_neg (Nat.lt_irrefl n)]
theorem LQ.sup {t : Nat} {v : Int32} {B : List Nat} (hB : ∀ e, e ∈ B → Gd τ e) (gt : Gd τ t) (h3 : ¬ τ 3 t = -1) : LQ τ F n t v B 12 (sN (τ 3 t) :: B.filter (fun q => !decide (q = sN (τ 3 t)))) := by
  have h0 : QL τ t B B (fun _ => False) := fun A e D hL => Or.inr ⟨A, D, hL, fun z hz => hz, fun c hc => hc.elim⟩
  refine ⟨fun e he => ?_, fun A e D hL => ?_, ?_⟩
  · rcases List.mem_cons.mp he with q | q
    · rw [q]; exact gt.sup h3
    · exact hB e (List.mem_filter.mp q).1
  · rcases h0.lay (lowr.sup h3) A e D hL with q | ⟨A0, D0, q1, q2, q3⟩
    · exact Or.inl q
    · refine Or.inr ⟨A0, D0, q1, q2, fun c hc => q3 c ?_⟩
      rcases hc with hc | hc
      · exact Or.inr hc.2
      · omega
  · rw [fsL, EF_12, if_neg h3]
    by_cases c : F (sN (τ 3 t)) < n
    · rw [if_pos c, if_pos c]
    · rw [if_neg c, if_neg c, fsL_drop c]
/-- after the loop: the way goes on -/
theorem LQ.done {t : Nat} {v : Int32} {B L : List Nat} (ht : t < 12) (gt : Gd τ t) (hI : IL τ F n (t :: B) v) (hF : F t = EF τ F n t 0) (h : LQ τ F n t (v ||| bm t) B 0 L) : IL τ F n L (v ||| bm t) ∧ fsL F n L = fsL F n (t :: B) := by
  obtain ⟨h1, h2, h3⟩ := h
  have top : ∀ y, y < 12 → bt v y = true → F y < n → (y = t ∨ lowr τ y t) → False := by
    intro y hy q1 q2 q3
    obtain ⟨z, hz, -⟩ := hI [] t B rfl y hy q1 q2 q3
    exact absurd hz List.not_mem_nil
  have child : F t < n → ∃ c, ((¬ τ 3 t = -1 ∧ c = sN (τ 3 t)) ∨ (0 ≤ c ∧ c < 12 ∧ bt (τ 4 t) c = true ∧ ¬ bt (v ||| bm t) c = true)) ∧ F c < n := by
    intro q
    rw [hF] at q
    unfold EF at q
    by_cases c : fsG (fun u => bt (τ 4 t) u && decide (F u < n)) (12 - 0) 0 < 12
    · rw [if_pos c] at q
      have hy := fsG_yes (fun u => bt (τ 4 t) u && decide (F u < n)) (12 - 0) 0 (by omega)
      rw [Bool.and_eq_true] at hy
      refine ⟨_, Or.inr ⟨Nat.zero_le _, c, hy.1, fun z => ?_⟩, q⟩
      rw [b_or, b_bm (by omega) (by omega), Bool.or_eq_true, decide_eq_true_eq] at z
      rcases z with z | z
      · exact top _ c z q (Or.inr (lowr.face c hy.1))
      · have := lowr.face (τ := τ) (t := t) c hy.1
        rw [z] at this
        exact this.irr gt
    · rw [if_neg c] at q
      by_cases c2 : τ 3 t = -1
      · rw [if_pos c2] at q; omega
      · rw [if_neg c2] at q
        exact ⟨_, Or.inl ⟨c2, rfl⟩, q⟩
  refine ⟨fun A e D hL y hy q1 q2 q3 => ?_, ?_⟩
  · have hyv : y = t ∨ bt v y = true := by
      rw [b_or, b_bm (by omega) (by omega), Bool.or_eq_true, decide_eq_true_eq] at q1
      exact q1.symm
    rcases h2 A e D hL with hl | ⟨A0, D0, r1, r2, r3⟩
    · exfalso
      rcases hyv with e1 | e1
      · rw [e1] at q3
        rcases q3 with q3 | q3
        · rw [← q3] at hl; exact hl.irr gt
        · exact (q3.trans hl).irr gt
      · refine top y hy e1 q2 (Or.inr ?_)
        rcases q3 with q3 | q3
        · rw [q3]; exact hl
        · exact q3.trans hl
    · have viat : F t < n → ∃ z, z ∈ A ∧ F z < n := fun q => by
        obtain ⟨c, hc, hc2⟩ := child q
        exact ⟨c, r3 c hc, hc2⟩
      rcases hyv with e1 | e1
      · rw [e1] at q2; exact viat q2
      · obtain ⟨z, hz, hz2⟩ := hI (t :: A0) e D0 (by rw [r1]; rfl) y hy e1 q2 q3
        rcases List.mem_cons.mp hz with e2 | e2
        · rw [e2] at hz2; exact viat hz2
        · exact ⟨z, r2 z e2, hz2⟩
  · rw [h3, fsL, hF]
end FLD
theorem pl_fd109 {x : Nat → Nat → Int32} {w n r u t n7 : Nat} {K : Int32 → Nat → (Nat → Nat → Int32) → Int32 × (Nat → Nat → Int32)} {v5 : Int32} {B : List Nat} {F : Nat → Nat} {ans : Int32} (gt : Gd (vwX x w) t) (e7 : n7 = 12 * w + t) (hv : ∀ f, f < 12 → bt (vwX x w 4 t) f = true → bt v5 f = true → ¬ F f < n) (hK : ∀ n4 y, FD n4 y → LQ (vwX x w) F n t v5 B 0 (sk y n4) → (K v5 n4 y).1 = ans) : ∀ k v9 n4 y, mD v9 < k → dI v9 → FD n4 y → LQ (vwX x w) F n t v5 B (mD v9) (sk y n4) → (p_X5_field_109 x w n r u K k v9 v5 n7 n4 y).1 = ans := by
  intro k
  induction k with
  | zero => intro v9 n4 y h; omega
  | succ k ih =>
    intro v9 n4 y hk hd hF hL
    rw [p_X5_field_109]
    by_cases c : v9 < 0
    · rw [if_pos c]
      have : mD v9 = 0 := by unfold mD; rw [if_pos c]
      rw [this] at hL
      exact hK n4 y hF hL
    · rw [if_neg c]
      have hT := dI_nn hd c
      obtain ⟨d1, d2⟩ := dI_pred hT
      have em : mD v9 = sN v9 + 1 := by unfold mD; rw [if_neg c]
      rw [em] at hL hk
      have ex : x 4 n7 = vwX x w 4 t := by rw [e7]; rfl
      by_cases c1 : bt (x 4 n7) (sN v9) = true
      · rw [if_pos c1]
        rw [ex] at c1
        by_cases c2 : bt v5 (sN v9) = true
        · rw [if_pos c2]
          exact ih _ _ _ (by omega) d1 hF (by rw [d2]; exact hL.skip hT.1 (fun _ => ⟨c2, hv _ hT.1 c1 c2⟩))
        · rw [if_neg c2, p_X5_field_147]
          have hl := hF.le
          refine ih _ _ _ (by omega) d1 (hF.lay hT.1) ?_
          rw [d2, (lay_ok x y w n n4 (sN v9) (by omega) hT.1 hF.1).2.1]
          exact hL.lay gt hT.1 c1 c2
      · rw [if_neg c1]
        rw [ex] at c1
        exact ih _ _ _ (by omega) d1 hF (by rw [d2]; exact hL.skip hT.1 (fun q => absurd q c1))
theorem pl_fd13 {x : Nat → Nat → Int32} {w n r u : Nat} (wx : WX x w n) : ∀ k v5 n4 y, 13 * cN v5 + n4 < k → FD n4 y → (∀ e, e ∈ sk y n4 → Gd (vwX x w) e) → IL (vwX x w) (FR (vwX x w) (vmX x w) n (kyF false (nI u))) n (sk y n4) v5 → (p_X5_field_13 x w n r u k v5 n4 y).1 = av n (fsL (FR (vwX x w) (vmX x w) n (kyF false (nI u))) n (sk y n4)) := by
  intro k
  induction k with
  | zero => intro v5 n4 y h; omega
  | succ k ih =>
    intro v5 n4 y hk hF hG hI
    rw [p_X5_field_13]
    by_cases c : n4 ≤ 0
    · rw [if_pos c]
      have e : n4 = 0 := by omega
      rw [e, sk, fsL]; unfold av; rw [if_neg (Nat.lt_irrefl n)]
    · rw [if_neg c]
      obtain ⟨m, rfl⟩ : ∃ m, n4 = m + 1 := ⟨n4 - 1, by omega⟩
      have hle := hF.le
      rw [Nat.add_sub_cancel]
      have hT := hF.1 m (by omega)
      have ht : uS y m < 12 := hT.1
      have hgt : Gd (vwX x w) (uS y m) := hG _ (List.mem_cons_self ..)
      have he := FR_eq (γ := vmX x w) (n := n) (key := kyF false (nI u)) wx.1 ht hgt
      have hsk : sk y (m + 1) = uS y m :: sk y m := rfl
      rw [hsk] at hI hG ⊢
      have hGm : ∀ e, e ∈ sk y m → Gd (vwX x w) e := fun e q => hG e (List.mem_cons_of_mem _ q)
      have hFm : FD m y := hF.pop
      have top : ∀ q, q < 12 → bt v5 q = true → FR (vwX x w) (vmX x w) n (kyF false (nI u)) q < n → (q = uS y m ∨ lowr (vwX x w) q (uS y m)) → False := by
        intro q h1 h2 h3 h4
        obtain ⟨z, hz, -⟩ := hI [] _ _ rfl q h1 h2 h3 h4
        exact absurd hz List.not_mem_nil
      by_cases c1 : bt v5 (uS y m) = true
      · rw [if_pos c1]
        have hno : ¬ FR (vwX x w) (vmX x w) n (kyF false (nI u)) (uS y m) < n := fun q => top _ ht c1 q (Or.inl rfl)
        rw [fsL, if_neg hno]
        refine ih v5 m y (by omega) hFm hGm (fun A e B hL q h1 h2 h3 h4 => ?_)
        obtain ⟨z, hz, hz2⟩ := hI (uS y m :: A) e B (by rw [hL]; rfl) q h1 h2 h3 h4
        rcases List.mem_cons.mp hz with e1 | e1
        · rw [e1] at hz2; exact absurd hz2 hno
        · exact ⟨z, e1, hz2⟩
      · rw [if_neg c1]
        have hcn : cN (v5 ||| bm (uS y m)) + 1 = cN v5 := cN_or ht (by simpa using c1)
        by_cases c2 : odI (vmX x w) n (uS y m) (kyF false (nI u)) < 0
        · rw [if_pos c2]
          have hfd : ¬ fdN (vmX x w) n (uS y m) (kyF false (nI u)) < n := fun q => by
            have hn := wx.2.2.1
            unfold odI at c2
            rw [if_pos q] at c2
            exact absurd c2 (nI_pos (by omega))
          rw [if_neg hfd] at he
          have hF0 : FR (vwX x w) (vmX x w) n (kyF false (nI u)) (uS y m) = EF (vwX x w) (FR (vwX x w) (vmX x w) n (kyF false (nI u))) n (uS y m) 0 := he
          have hv : ∀ f, f < 12 → bt (vwX x w 4 (uS y m)) f = true → bt (v5 ||| bm (uS y m)) f = true → ¬ FR (vwX x w) (vmX x w) n (kyF false (nI u)) f < n := by
            intro f hf hb hq hlt
            rw [b_or, b_bm (by omega) (by omega), Bool.or_eq_true, decide_eq_true_eq] at hq
            rcases hq with hq | hq
            · exact top f hf hq hlt (Or.inr (lowr.face hf hb))
            · have := lowr.face (τ := vwX x w) (t := uS y m) hf hb
              rw [hq] at this
              exact this.irr hgt
          have hK : ∀ n4 z, FD n4 z → LQ (vwX x w) (FR (vwX x w) (vmX x w) n (kyF false (nI u))) n (uS y m) (v5 ||| bm (uS y m)) (sk y m) 0 (sk z n4) → (p_X5_field_13 x w n r u k (v5 ||| bm (uS y m)) n4 z).1 = av n (fsL (FR (vwX x w) (vmX x w) n (kyF false (nI u))) n (uS y m :: sk y m)) := by
            intro n4 z hz hL
            have hzl := hz.le
            obtain ⟨d1, d2⟩ := hL.done ht hgt hI hF0
            rw [← d2]
            exact ih _ n4 z (by omega) hz hL.1 d1
          by_cases c3 : x 3 (12 * w + uS y m) < 0
          · rw [if_pos c3]
            have e3 : vwX x w 3 (uS y m) = -1 := by
              rcases (wx.1.1 _ ht).1 with e | e
              · exact e
              · exact absurd c3 (isT_nn e)
            exact pl_fd109 (K := fun v5 n4 y => p_X5_field_13 x w n r u k v5 n4 y) hgt rfl hv hK 13 11 m y (by decide) (Or.inr (by unfold isT; decide)) hFm (LQ.start hGm e3)
          · rw [if_neg c3, p_X5_field_103]
            have hs : isT (vwX x w 3 (uS y m)) := (wx.1.1 _ ht).1.resolve_left (fun e => c3 (by rw [show x 3 (12 * w + uS y m) = -1 from e]; decide))
            have e3 : ¬ vwX x w 3 (uS y m) = -1 := fun e => c3 (by rw [show x 3 (12 * w + uS y m) = -1 from e]; decide)
            refine pl_fd109 (K := fun v5 n4 y => p_X5_field_13 x w n r u k v5 n4 y) hgt rfl hv hK 13 11 _ _ (by decide) (Or.inr (by unfold isT; decide)) (hFm.lay hs.1) ?_
            rw [(lay_ok x y w n m (sN (x 3 (12 * w + uS y m))) (by omega) hs.1 hFm.1).2.1]
            exact LQ.sup hGm hgt e3
        · rw [if_neg c2]
          obtain ⟨q1, q2⟩ := odI_nat c2
          rw [if_pos q1] at he
          show odI (vmX x w) n (uS y m) (kyF false (nI u)) = _
          rw [fsL, he, if_pos q1, q2]
          unfold av
          rw [if_pos q1]
theorem pe_X5_field (x y : Nat → Nat → Int32) (w n t u : Nat) (wx : WX x w n) (ht : t < 12) (gt : Gd (vwX x w) t) : (p_X5_field x w n t u y).1 = av n (FR (vwX x w) (vmX x w) n (kyF false (nI u)) t) := by
  rw [p_X5_field, pl_fd13 wx 170 0 1 _ (by rw [cN_0]; omega) (FD.init ht y)]
  · rw [sk, sk, fsL, fsL]
    have e : uS (st2 y 0 0 (nI t)) 0 = t := by unfold uS; rw [st2_kk, sN_nI (by omega)]
    rw [e]
    split
    · rfl
    · rename_i c
      have := FR_le (τ := vwX x w) (γ := vmX x w) (n := n) (key := kyF false (nI u)) t
      unfold av
      rw [if_neg (Nat.lt_irrefl n), if_neg c]
  · intro e he
    rw [sk, sk, List.mem_singleton] at he
    have e2 : uS (st2 y 0 0 (nI t)) 0 = t := by unfold uS; rw [st2_kk, sN_nI (by omega)]
    rw [he, e2]; exact gt
  · intro A e B _ q _ h2
    rw [b_0] at h2; exact absurd h2 (by decide)

