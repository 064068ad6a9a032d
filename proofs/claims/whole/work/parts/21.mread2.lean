theorem odI_of {γ : Nat → Nat → Int32} {n t : Nat} {key : Int32} (h : fdN γ n t key < n) : odI γ n t key = nI (fdN γ n t key) := by unfold odI; rw [if_pos h]
/-- a type itself has a method of a key that can be inherited -/
def offB (γ : Nat → Nat → Int32) (n t : Nat) (key : Int32) : Bool := decide (fdN γ n t key < n) && inhB γ (fdN γ n t key)
/-- the faces of r that have one, and the most specific of them -/
noncomputable def hoB (τ γ : Nat → Nat → Int32) (n r : Nat) (key : Int32) (f : Nat) : Bool := fcB τ r f && offB γ n f key
noncomputable def msB (τ γ : Nat → Nat → Int32) (n r : Nat) (key : Int32) (f : Nat) : Bool := hoB τ γ n r key f && !(exB (fun g => !decide (g = f) && hoB τ γ n r key g && (abB τ g f || fcB τ g f)) 12)
noncomputable def spI (τ γ : Nat → Nat → Int32) (n r : Nat) (key : Int32) : Int32 := orF (msB τ γ n r key) (fun f => f) 12
theorem spI_fd {τ γ : Nat → Nat → Int32} {n r : Nat} {key : Int32} {f : Nat} (hf : f < 12) (h : bt (spI τ γ n r key) f = true) : fdN γ n f key < n := by
  unfold spI at h
  have := ((or12_bt (by omega)).mp h).2
  unfold msB hoB offB at this
  simp only [Bool.and_eq_true, decide_eq_true_eq] at this
  exact this.1.2.1
noncomputable def p_X5_offers (x : Nat → Nat → Int32) (w n : Nat) (t : Nat) (u : Nat) : Int32 := if (odI (vmX x w) n t (kyF true (nI u))) < (0 : Int32) then ((0 : Int32)) else (if (x 11 ((30 * w) + (fdN (vmX x w) n t (kyF true (nI u))))) = (0 : Int32) then ((0 : Int32)) else (if ((x 12 ((30 * w) + (fdN (vmX x w) n t (kyF true (nI u))))) &&& (1 : Int32)) = (0 : Int32) then ((1 : Int32)) else ((0 : Int32))))
theorem pe_X5_offers (x : Nat → Nat → Int32) (w n : Nat) (t : Nat) (u : Nat) (hw : w < 2) (wx : WX x w n) (hnt : t < 12) (hnu : u < 15)  : p_X5_offers x w n t u = b2i (offB (vmX x w) n t (kyF true (nI u))) := by
  rw [p_X5_offers]
  unfold offB
  by_cases c : fdN (vmX x w) n t (kyF true (nI u)) < n
  · rw [odI_of c, if_neg (nI_pos (by have := wx.2.2.1; omega)), decide_eq_true c]
    unfold inhB
    show (if x 11 (30 * w + fdN (vmX x w) n t (kyF true (nI u))) = 0 then _ else if x 12 (30 * w + fdN (vmX x w) n t (kyF true (nI u))) &&& 1 = 0 then _ else _) = b2i (true && (!decide (x 11 (30 * w + fdN (vmX x w) n t (kyF true (nI u))) = 0) && !(bt (x 12 (30 * w + fdN (vmX x w) n t (kyF true (nI u)))) 0)))
    by_cases c1 : x 11 (30 * w + fdN (vmX x w) n t (kyF true (nI u))) = 0
    · rw [if_pos c1]; simp [c1, b2i]
    · rw [if_neg c1]
      by_cases c2 : x 12 (30 * w + fdN (vmX x w) n t (kyF true (nI u))) &&& 1 = 0
      · rw [if_pos c2]; simp [c1, and1_eq.mp c2, b2i]
      · rw [if_neg c2]
        have : bt (x 12 (30 * w + fdN (vmX x w) n t (kyF true (nI u)))) 0 = true := Classical.byContradiction (fun z => c2 (and1_eq.mpr z))
        simp [this, b2i]
  · have e : odI (vmX x w) n t (kyF true (nI u)) = -1 := by unfold odI; rw [if_neg c]
    rw [e, if_pos (by decide), decide_eq_false c]; rfl
set_option maxHeartbeats 4000000 in
set_option maxRecDepth 100000 in
theorem c_X5_offers (l : Launch) (D : va_G) (cI cZ cB cR : ClassId) (a : Nat → Nat) (x : Nat → Nat → Int32) (r1 r2 : Nat → Int32) (w n : Nat) (t : Nat) (u : Nat) (hw : w < 2) (wx : WX x w n) (hnt : t < 12) (hnu : u < 15)  : RO l yX5_offers wsX5_offers ({ frames := 1, cells := 0, slots := 0, locals := 26 } : Room) D cI cZ cB cR (wX cI cZ a x r1 r2) [.ref (a 0), .int (nI w), .int (nI t), .int (nI u)] (b2i (offB (vmX x w) n t (kyF true (nI u)))) := by
  have hE : p_X5_offers x w n t u = b2i (offB (vmX x w) n t (kyF true (nI u))) := pe_X5_offers x w n t u hw wx hnt hnu
  refine Met.ofW (cc := cX5_offers) (maxL := 5) (ret := (some .boolean)) (by decide) rfl ?_
  intro p e s m args below meth c s₁ B hml hv
  obtain ⟨hargs, hP, hEV⟩ := hv
  have hx := B.exec
  have hb := B.bytes
  have hr := B.returns
  have hts := atoms_spec (ws := wsX5_offers) B.pre
  have hown : s.vm.findClass RX5 = some m.cls := findClass_of_methodNamed B.named
  have hlocks := B.notSynchronized
  have hK := hEV.1
  have hl := lv_entry ([.ref (a 0), .int (nI w), .int (nI t), .int (nI u)]) (n := 5) (Nat.le_of_ble_eq_true rfl)
  rw [show entryFrame m args 5 = entryFrame m ([.ref (a 0), .int (nI w), .int (nI t), .int (nI u)] : List Value).toArray 5 from by rw [hargs], lg_entry_eq]
  generalize (lg_sl ([.ref (a 0), .int (nI w), .int (nI t), .int (nI u)]) ++ List.replicate (5 - (lg_sl ([.ref (a 0), .int (nI w), .int (nI t), .int (nI u)])).length) Slot.unset).toArray = ls at hl ⊢
  have hl : lv_has ls 5 [(0, .ref (a 0)), (1, .int (nI w)), (2, .int (nI t)), (3, .int (nI u))] := hl
  rw [p_X5_offers] at hE
  have hn30 := wx.2.2.1
  refine lv_aload_n hx hb dX5_offers_0 rfl (lv_at hl 0 rfl) ?_
  refine lv_iload_n hx hb dX5_offers_1 rfl (lv_at hl 1 rfl) ?_
  refine lv_iload_n hx hb dX5_offers_2 rfl (lv_at hl 2 rfl) ?_
  refine lv_iconst (v := (1 : Int32)) hx hb dX5_offers_3 (by decide) ?_
  refine lv_iload_n hx hb dX5_offers_4 rfl (lv_at hl 3 rfl) ?_
  refine ro_V [.int (nI w), .int (nI t), .int (1 : Int32), .int (nI u)] [] ⟨hx, hb, hml, hown, hts⟩ (c_X5_own l D cI cZ cB cR a x r1 r2 w n t true u (by omega) wx (by omega) (by omega) ) (cwV (C := RX5) 4 hts (goodP (ps := [.methodLink RX5 84 yX5_own, .instanceMethod yX5_own, .selects RX5 yX5_own yX5_own, .initialized RX5]) (all4 mw_3_158 mw_3_160 ms_27 mw_1_6) mw_3_161) rfl rfl rfl (by decide +kernel) ⟨Nat.le_of_ble_eq_true rfl, Nat.le_of_ble_eq_true rfl⟩) hEV hP 0 rfl rfl rfl hl.1 rfl (Nat.le_of_ble_eq_true rfl) dX5_offers_5 ⟨Nat.zero_le _, Nat.zero_le _⟩ ?_
  refine lv_istore (lv' := [(4, .int (odI (vmX x w) n t (kyF true (nI u)))), (0, .ref (a 0)), (1, .int (nI w)), (2, .int (nI t)), (3, .int (nI u))]) hx hb dX5_offers_8 hl (by decide) rfl (fun ls hl => ?_)
  refine lv_iload hx hb dX5_offers_10 (lv_at hl 0 rfl) ?_
  refine lv_if_lt (tgt := 51) hx hb dX5_offers_12 (by decide) (fun c_12 => ?_) (fun c_12 => ?_)
  · skip
    have hE := (if_pos c_12).symm.trans hE
    refine lv_iconst (v := (0 : Int32)) hx hb dX5_offers_51 (by decide) ?_
    exact W.zret hx hb hr rfl (fun t9 ht9 _ => ⟨_, rfl, hE, ht9⟩) (fun _ h9 => by cases h9) dX5_offers_52
  · skip
    have hE := (if_neg c_12).symm.trans hE
    have hk9 := (odI_nat c_12).1
    refine lv_aload_n hx hb dX5_offers_15 rfl (lv_at hl 1 rfl) ?_
    refine va_get (D := D) (ci := 5) (v := .ref (a 12)) (C := RX5) (T := TX5) (N := 21) hx hb hts (fun w9 h9 => List.mem_cons_of_mem _ (inT_X5 w9 h9)) hown hK hP 0 rfl rfl 11 (by decide) (hts (.fieldLink RX5 44 "LinkPredictorModel" "access" "[I") (List.mem_cons_of_mem _ mw_3_77)) (fun _ h9 => h9) rfl dX5_offers_16 ?_
    refine lv_bipush (v := (30 : Int32)) hx hb dX5_offers_19 (by decide) ?_
    refine lv_iload_n hx hb dX5_offers_21 rfl (lv_at hl 2 rfl) ?_
    refine lv_imul hx hb dX5_offers_22 ?_
    refine top_eq (pk_mul 30 w) ?_
    refine lv_iload hx hb dX5_offers_23 (lv_at hl 0 rfl) ?_
    refine top_eq ((odI_nat c_12).2) ?_
    refine lv_iadd hx hb dX5_offers_25 ?_
    refine top_eq (nI_add (30 * w) (fdN (vmX x w) n t (kyF true (nI u)))) ?_
    refine ro_ald hx hb hEV hP 12 (j := ((30 * w) + (fdN (vmX x w) n t (kyF true (nI u))))) rfl (by omega) (by decide) dX5_offers_26 ?_
    refine lv_if_eq (tgt := 51) hx hb dX5_offers_27 (by decide) (fun c_27 => ?_) (fun c_27 => ?_)
    · skip
      have hE := (if_pos c_27).symm.trans hE
      refine lv_iconst (v := (0 : Int32)) hx hb dX5_offers_51 (by decide) ?_
      exact W.zret hx hb hr rfl (fun t9 ht9 _ => ⟨_, rfl, hE, ht9⟩) (fun _ h9 => by cases h9) dX5_offers_52
    · skip
      have hE := (if_neg c_27).symm.trans hE
      refine lv_aload_n hx hb dX5_offers_30 rfl (lv_at hl 1 rfl) ?_
      refine va_get (D := D) (ci := 5) (v := .ref (a 13)) (C := RX5) (T := TX5) (N := 21) hx hb hts (fun w9 h9 => List.mem_cons_of_mem _ (inT_X5 w9 h9)) hown hK hP 0 rfl rfl 12 (by decide) (hts (.fieldLink RX5 47 "LinkPredictorModel" "marks" "[I") (List.mem_cons_of_mem _ mw_3_78)) (fun _ h9 => h9) rfl dX5_offers_31 ?_
      refine lv_bipush (v := (30 : Int32)) hx hb dX5_offers_34 (by decide) ?_
      refine lv_iload_n hx hb dX5_offers_36 rfl (lv_at hl 2 rfl) ?_
      refine lv_imul hx hb dX5_offers_37 ?_
      refine top_eq (pk_mul 30 w) ?_
      refine lv_iload hx hb dX5_offers_38 (lv_at hl 0 rfl) ?_
      refine top_eq ((odI_nat c_12).2) ?_
      refine lv_iadd hx hb dX5_offers_40 ?_
      refine top_eq (nI_add (30 * w) (fdN (vmX x w) n t (kyF true (nI u)))) ?_
      refine ro_ald hx hb hEV hP 13 (j := ((30 * w) + (fdN (vmX x w) n t (kyF true (nI u))))) rfl (by omega) (by decide) dX5_offers_41 ?_
      refine lv_iconst (v := (1 : Int32)) hx hb dX5_offers_42 (by decide) ?_
      refine lv_iand hx hb dX5_offers_43 ?_
      refine lv_if_ne (tgt := 51) hx hb dX5_offers_44 (by decide) (fun c_44 => ?_) (fun c_44 => ?_)
      · skip
        have hE := (if_neg c_44).symm.trans hE
        refine lv_iconst (v := (0 : Int32)) hx hb dX5_offers_51 (by decide) ?_
        exact W.zret hx hb hr rfl (fun t9 ht9 _ => ⟨_, rfl, hE, ht9⟩) (fun _ h9 => by cases h9) dX5_offers_52
      · skip
        have hE := (if_pos c_44).symm.trans hE
        refine lv_iconst (v := (1 : Int32)) hx hb dX5_offers_47 (by decide) ?_
        refine lv_goto (tgt := 52) hx hb dX5_offers_48 (by decide) ?_
        exact W.zret hx hb hr rfl (fun t9 ht9 _ => ⟨_, rfl, hE, ht9⟩) (fun _ h9 => by cases h9) dX5_offers_52
noncomputable def p_X5_specific_82 (x : Nat → Nat → Int32) (w n : Nat) (t : Nat) (u : Nat) (K63 : Nat → Int32 → Int32 → Int32) : Nat → Nat → Bool → Nat → Int32 → Int32 → Int32
  | 0, _, _, _, _, _ => 0
  | k + 1, n9, z8, n7, v5, v4 => if 12 ≤ n9 then (if z8 = true then (K63 (n7 + 1) (v5 ||| ((1 : Int32) <<< ((nI n7) &&& 31))) v4) else (K63 (n7 + 1) v5 v4)) else (if n9 = n7 then (p_X5_specific_82 x w n t u K63 k (n9 + 1) z8 n7 v5 v4) else (if (bt v4 n9) = true then (if (abB (vwX x w) n9 n7 || fcB (vwX x w) n9 n7) = true then (p_X5_specific_82 x w n t u K63 k (n9 + 1) false n7 v5 v4) else (p_X5_specific_82 x w n t u K63 k (n9 + 1) z8 n7 v5 v4)) else (p_X5_specific_82 x w n t u K63 k (n9 + 1) z8 n7 v5 v4)))
noncomputable def p_X5_specific_63 (x : Nat → Nat → Int32) (w n : Nat) (t : Nat) (u : Nat) : Nat → Nat → Int32 → Int32 → Int32
  | 0, _, _, _ => 0
  | k + 1, n7, v5, v4 => if 12 ≤ n7 then (v5) else (p_X5_specific_82 x w n t u (fun n7 v5 v4 => p_X5_specific_63 x w n t u k n7 v5 v4) 13 0 (bt v4 n7) n7 v5 v4)
noncomputable def p_X5_specific_17 (x : Nat → Nat → Int32) (w n : Nat) (t : Nat) (u : Nat) : Nat → Nat → Int32 → Int32
  | 0, _, _ => 0
  | k + 1, n7, v4 => if 12 ≤ n7 then (p_X5_specific_63 x w n t u 13 0 (0 : Int32) v4) else (if (bt (facI (vwX x w) t) n7) = true then (if (offB (vmX x w) n n7 (kyF true (nI u))) = true then (p_X5_specific_17 x w n t u k (n7 + 1) (v4 ||| ((1 : Int32) <<< ((nI n7) &&& 31)))) else (p_X5_specific_17 x w n t u k (n7 + 1) v4)) else (p_X5_specific_17 x w n t u k (n7 + 1) v4))
noncomputable def p_X5_specific (x : Nat → Nat → Int32) (w n : Nat) (t : Nat) (u : Nat) : Int32 := p_X5_specific_17 x w n t u 13 0 (0 : Int32)
theorem gd_or {τ : Nat → Nat → Int32} {v : Int32} {k : Nat} (hk : k < 12) (h : ∀ u, u < 12 → bt v u = true → Gd τ u) (g : Gd τ k) : ∀ u, u < 12 → bt (v ||| bm k) u = true → Gd τ u := fun u hu q => by
  rw [b_or, b_bm (by omega) (by omega), Bool.or_eq_true] at q
  rcases q with q | q
  · exact h u hu q
  · have e : u = k := by simpa using q
    rw [e]; exact g
theorem pl_X5_sp17 (x : Nat → Nat → Int32) (w n t u : Nat) : ∀ k i v4, 12 - i < k → i ≤ 12 → ∃ v, p_X5_specific_17 x w n t u k i v4 = p_X5_specific_63 x w n t u 13 0 0 v ∧ ∀ f, f < 32 → (bt v f = true ↔ bt v4 f = true ∨ (i ≤ f ∧ f < 12 ∧ hoB (vwX x w) (vmX x w) n t (kyF true (nI u)) f = true)) := by
  intro k
  induction k with
  | zero => intro i v4 h1; omega
  | succ k ih =>
    intro i v4 hk hi
    rw [p_X5_specific_17]
    by_cases c : 12 ≤ i
    · rw [if_pos c]
      refine ⟨v4, rfl, fun f _ => ⟨Or.inl, ?_⟩⟩
      rintro (q | ⟨q1, q2, -⟩)
      · exact q
      · omega
    · rw [if_neg c]
      have hb : bt (facI (vwX x w) t) i = fcB (vwX x w) t i := by
        rw [Bool.eq_iff_iff]; unfold facI; rw [or12_bt (by omega)]; simp; omega
      have skip : hoB (vwX x w) (vmX x w) n t (kyF true (nI u)) i = false → ∃ v, p_X5_specific_17 x w n t u k (i + 1) v4 = p_X5_specific_63 x w n t u 13 0 0 v ∧ ∀ f, f < 32 → (bt v f = true ↔ bt v4 f = true ∨ (i ≤ f ∧ f < 12 ∧ hoB (vwX x w) (vmX x w) n t (kyF true (nI u)) f = true)) := by
        intro q
        obtain ⟨v, e, hv⟩ := ih (i + 1) v4 (by omega) (by omega)
        refine ⟨v, e, fun f hf => ?_⟩
        rw [hv f hf]
        constructor
        · rintro (z | ⟨z1, z2, z3⟩)
          · exact Or.inl z
          · exact Or.inr ⟨by omega, z2, z3⟩
        · rintro (z | ⟨z1, z2, z3⟩)
          · exact Or.inl z
          · rcases Nat.lt_or_ge i f with y | y
            · exact Or.inr ⟨y, z2, z3⟩
            · have e : f = i := by omega
              rw [e, q] at z3
              exact absurd z3 (by decide)
      by_cases c1 : bt (facI (vwX x w) t) i = true
      · rw [if_pos c1]
        by_cases c2 : offB (vmX x w) n i (kyF true (nI u)) = true
        · rw [if_pos c2]
          have hq : hoB (vwX x w) (vmX x w) n t (kyF true (nI u)) i = true := by unfold hoB; rw [← hb, c1, c2]; rfl
          obtain ⟨v, e, hv⟩ := ih (i + 1) (v4 ||| bm i) (by omega) (by omega)
          refine ⟨v, e, fun f hf => ?_⟩
          rw [hv f hf, b_or, b_bm (by omega) hf, Bool.or_eq_true, decide_eq_true_eq]
          constructor
          · rintro ((z | z) | ⟨z1, z2, z3⟩)
            · exact Or.inl z
            · rw [z]; exact Or.inr ⟨Nat.le_refl i, by omega, hq⟩
            · exact Or.inr ⟨by omega, z2, z3⟩
          · rintro (z | ⟨z1, z2, z3⟩)
            · exact Or.inl (Or.inl z)
            · rcases Nat.lt_or_ge i f with y | y
              · exact Or.inr ⟨y, z2, z3⟩
              · exact Or.inl (Or.inr (by omega))
        · rw [if_neg c2]; exact skip (by unfold hoB; simp [c2])
      · rw [if_neg c1]; exact skip (by unfold hoB; rw [← hb]; simp [c1])
theorem pl_X5_sp82 (x : Nat → Nat → Int32) (w n t u : Nat) (K : Nat → Int32 → Int32 → Int32) (f : Nat) (v4 v5 : Int32) : ∀ k i z, 12 - i < k → i ≤ 12 → p_X5_specific_82 x w n t u K k i z f v5 v4 = if (z && !(exB (fun g => decide (i ≤ g) && !decide (g = f) && bt v4 g && (abB (vwX x w) g f || fcB (vwX x w) g f)) 12)) = true then K (f + 1) (v5 ||| bm f) v4 else K (f + 1) v5 v4 := by
  intro k
  induction k with
  | zero => intro i z h1; omega
  | succ k ih =>
    intro i z hk hi
    rw [p_X5_specific_82]
    by_cases c : 12 ≤ i
    · rw [if_pos c]
      have e : exB (fun g => decide (i ≤ g) && !decide (g = f) && bt v4 g && (abB (vwX x w) g f || fcB (vwX x w) g f)) 12 = false := by
        cases q : exB (fun g => decide (i ≤ g) && !decide (g = f) && bt v4 g && (abB (vwX x w) g f || fcB (vwX x w) g f)) 12 with
        | false => rfl
        | true =>
          obtain ⟨g, g1, g2⟩ := exB_iff.mp q
          simp only [Bool.and_eq_true, decide_eq_true_eq] at g2
          omega
      rw [e]
      cases z <;> rfl
    · rw [if_neg c]
      have ext : ∀ b : Bool, (!decide (i = f) && bt v4 i && (abB (vwX x w) i f || fcB (vwX x w) i f)) = b → exB (fun g => decide (i ≤ g) && !decide (g = f) && bt v4 g && (abB (vwX x w) g f || fcB (vwX x w) g f)) 12 = (b || exB (fun g => decide (i + 1 ≤ g) && !decide (g = f) && bt v4 g && (abB (vwX x w) g f || fcB (vwX x w) g f)) 12) := by
        intro b hb
        rw [Bool.eq_iff_iff, Bool.or_eq_true, exB_iff, exB_iff]
        constructor
        · rintro ⟨g, g1, g2⟩
          simp only [Bool.and_eq_true, decide_eq_true_eq] at g2
          obtain ⟨⟨⟨q1, q2⟩, q3⟩, q4⟩ := g2
          rcases Nat.lt_or_ge i g with y | y
          · exact Or.inr ⟨g, g1, by simp only [Bool.and_eq_true, decide_eq_true_eq]; exact ⟨⟨⟨y, q2⟩, q3⟩, q4⟩⟩
          · have e : g = i := by omega
            subst e
            exact Or.inl (by rw [← hb]; simp only [Bool.and_eq_true]; exact ⟨⟨q2, q3⟩, q4⟩)
        · rintro (q | ⟨g, g1, g2⟩)
          · rw [← hb] at q
            simp only [Bool.and_eq_true] at q
            exact ⟨i, by omega, by simp only [Bool.and_eq_true, decide_eq_true_eq]; exact ⟨⟨⟨Nat.le_refl i, q.1.1⟩, q.1.2⟩, q.2⟩⟩
          · simp only [Bool.and_eq_true, decide_eq_true_eq] at g2
            exact ⟨g, g1, by simp only [Bool.and_eq_true, decide_eq_true_eq]; exact ⟨⟨⟨by omega, g2.1.1.2⟩, g2.1.2⟩, g2.2⟩⟩
      by_cases c1 : i = f
      · rw [if_pos c1, ih _ _ (by omega) (by omega), ext false (by simp [c1]), Bool.false_or]
      · rw [if_neg c1]
        by_cases c2 : bt v4 i = true
        · rw [if_pos c2]
          by_cases c3 : (abB (vwX x w) i f || fcB (vwX x w) i f) = true
          · rw [if_pos c3, ih _ _ (by omega) (by omega), ext true (by simp [c1, c2, c3])]; simp
          · rw [if_neg c3, ih _ _ (by omega) (by omega), ext false (by simp [c3]), Bool.false_or]
        · rw [if_neg c2, ih _ _ (by omega) (by omega), ext false (by simp [c2]), Bool.false_or]
theorem pl_X5_sp63 (x : Nat → Nat → Int32) (w n t u : Nat) (v4 : Int32) (hv : ∀ f, f < 32 → (bt v4 f = true ↔ f < 12 ∧ hoB (vwX x w) (vmX x w) n t (kyF true (nI u)) f = true)) : ∀ k i v5, 12 - i < k → i ≤ 12 → v5 = orF (msB (vwX x w) (vmX x w) n t (kyF true (nI u))) (fun f => f) i → p_X5_specific_63 x w n t u k i v5 v4 = spI (vwX x w) (vmX x w) n t (kyF true (nI u)) := by
  intro k
  induction k with
  | zero => intro i v5 h1; omega
  | succ k ih =>
    intro i v5 hk hi h5
    rw [p_X5_specific_63]
    by_cases c : 12 ≤ i
    · rw [if_pos c]
      have e : i = 12 := by omega
      subst e
      exact h5
    · rw [if_neg c, pl_X5_sp82 x w n t u _ i v4 v5 13 0 _ (by omega) (by omega)]
      have e1 : bt v4 i = hoB (vwX x w) (vmX x w) n t (kyF true (nI u)) i := by rw [Bool.eq_iff_iff, hv i (by omega)]; simp; omega
      have e2 : exB (fun g => decide (0 ≤ g) && !decide (g = i) && bt v4 g && (abB (vwX x w) g i || fcB (vwX x w) g i)) 12 = exB (fun g => !decide (g = i) && hoB (vwX x w) (vmX x w) n t (kyF true (nI u)) g && (abB (vwX x w) g i || fcB (vwX x w) g i)) 12 := by
        unfold exB
        rw [fst_cong (fun j hj => ?_)]
        have e1 : bt v4 j = hoB (vwX x w) (vmX x w) n t (kyF true (nI u)) j := by rw [Bool.eq_iff_iff, hv j (by omega)]; simp; omega
        rw [e1]; simp
      rw [e1, e2]
      show (if msB (vwX x w) (vmX x w) n t (kyF true (nI u)) i = true then _ else _) = _
      by_cases c1 : msB (vwX x w) (vmX x w) n t (kyF true (nI u)) i = true
      · rw [if_pos c1]; exact ih _ _ (by omega) (by omega) (by rw [orF_t c1, h5])
      · rw [if_neg c1]; exact ih _ _ (by omega) (by omega) (by rw [orF_f c1, h5])
theorem pe_X5_specific (x : Nat → Nat → Int32) (w n : Nat) (t : Nat) (u : Nat) (hw : w < 2) (wx : WX x w n) (hnt : t < 12) (hnu : u < 15) (gt : Gd (vwX x w) t) : p_X5_specific x w n t u = spI (vwX x w) (vmX x w) n t (kyF true (nI u)) := by
  rw [p_X5_specific]
  obtain ⟨v, e, hv⟩ := pl_X5_sp17 x w n t u 13 0 0 (by omega) (by omega)
  rw [e]
  exact pl_X5_sp63 x w n t u v (fun f hf => by rw [hv f hf, b_0]; simp) 13 0 0 (by omega) (by omega) rfl
set_option maxHeartbeats 4000000 in
set_option maxRecDepth 100000 in
theorem c_X5_specific (l : Launch) (D : va_G) (cI cZ cB cR : ClassId) (a : Nat → Nat) (x : Nat → Nat → Int32) (r1 r2 : Nat → Int32) (w n : Nat) (t : Nat) (u : Nat) (hw : w < 2) (wx : WX x w n) (hnt : t < 12) (hnu : u < 15) (gt : Gd (vwX x w) t) : RO l yX5_specific wsX5_specific ({ frames := 3, cells := 0, slots := 0, locals := 73 } : Room) D cI cZ cB cR (wX cI cZ a x r1 r2) [.ref (a 0), .int (nI w), .int (nI t), .int (nI u)] (spI (vwX x w) (vmX x w) n t (kyF true (nI u))) := by
  have hE : p_X5_specific x w n t u = spI (vwX x w) (vmX x w) n t (kyF true (nI u)) := pe_X5_specific x w n t u hw wx hnt hnu gt
  refine Met.ofW (cc := cX5_specific) (maxL := 10) (ret := (some .int)) (by decide) rfl ?_
  intro p e s m args below meth c s₁ B hml hv
  obtain ⟨hargs, hP, hEV⟩ := hv
  have hx := B.exec
  have hb := B.bytes
  have hr := B.returns
  have hts := atoms_spec (ws := wsX5_specific) B.pre
  have hown : s.vm.findClass RX5 = some m.cls := findClass_of_methodNamed B.named
  have hlocks := B.notSynchronized
  have hK := hEV.1
  have hl := lv_entry ([.ref (a 0), .int (nI w), .int (nI t), .int (nI u)]) (n := 10) (Nat.le_of_ble_eq_true rfl)
  rw [show entryFrame m args 10 = entryFrame m ([.ref (a 0), .int (nI w), .int (nI t), .int (nI u)] : List Value).toArray 10 from by rw [hargs], lg_entry_eq]
  generalize (lg_sl ([.ref (a 0), .int (nI w), .int (nI t), .int (nI u)]) ++ List.replicate (10 - (lg_sl ([.ref (a 0), .int (nI w), .int (nI t), .int (nI u)])).length) Slot.unset).toArray = ls at hl ⊢
  have hl : lv_has ls 10 [(0, .ref (a 0)), (1, .int (nI w)), (2, .int (nI t)), (3, .int (nI u))] := hl
  rw [p_X5_specific] at hE
  have hn30 := wx.2.2.1
  have key_63 : ∀ (k_63 : Nat) (n7 : Nat) (v5 : Int32) (v4 : Int32) (ls : Array Slot), (12 - n7) < k_63 → n7 ≤ 12 → (∀ u9, u9 < 12 → bt v4 u9 = true → Gd (vwX x w) u9) → lv_has ls 10 [(7, .int (nI n7)), (5, .int v5), (4, .int v4), (0, .ref (a 0)), (1, .int (nI w))] → p_X5_specific_63 x w n t u k_63 n7 v5 v4 = spI (vwX x w) (vmX x w) n t (kyF true (nI u)) → W p l e (headSpec wsX5_specific ({ frames := 3, cells := 0, slots := 0, locals := 73 } : Room)).room s m args below meth c s.heap [] 0 0 (MQ below (vp_Si (fun r => r = spI (vwX x w) (vmX x w) n t (kyF true (nI u)))) args s 0 0 (fun _ => False)) (F0 m 63 ls []) := by
    intro k_63
    induction k_63 with
    | zero => intro n7 v5 v4 ls hm; exact absurd hm (Nat.not_lt_zero _)
    | succ k_63 ih_63 =>
      have key_82 : ∀ (k_82 : Nat) (n9 : Nat) (z8 : Bool) (n7 : Nat) (v5 : Int32) (v4 : Int32) (ls : Array Slot), (12 - n9) < k_82 → n7 < 12 → (∀ u9, u9 < 12 → bt v4 u9 = true → Gd (vwX x w) u9) → n9 ≤ 12 → (12 - n7) < k_63 + 1 → lv_has ls 10 [(9, .int (nI n9)), (8, .int (b2i z8)), (7, .int (nI n7)), (5, .int v5), (4, .int v4), (0, .ref (a 0)), (1, .int (nI w))] → p_X5_specific_82 x w n t u (fun n7 v5 v4 => p_X5_specific_63 x w n t u k_63 n7 v5 v4) k_82 n9 z8 n7 v5 v4 = spI (vwX x w) (vmX x w) n t (kyF true (nI u)) → W p l e (headSpec wsX5_specific ({ frames := 3, cells := 0, slots := 0, locals := 73 } : Room)).room s m args below meth c s.heap [] 0 0 (MQ below (vp_Si (fun r => r = spI (vwX x w) (vmX x w) n t (kyF true (nI u)))) args s 0 0 (fun _ => False)) (F0 m 82 ls []) := by
        intro k_82
        induction k_82 with
        | zero => intro n9 z8 n7 v5 v4 ls hm; exact absurd hm (Nat.not_lt_zero _)
        | succ k_82 ih_82 =>
          intro n9 z8 n7 v5 v4 ls hm_82 hi_82_0 hi_82_1 hi_82_2 hi_82_3 hl hE
          rw [p_X5_specific_82] at hE
          refine lv_iload hx hb dX5_specific_82 (lv_at hl 0 rfl) ?_
          refine lv_bipush (v := (12 : Int32)) hx hb dX5_specific_84 (by decide) ?_
          refine lv_icmp_ge (tgt := 127) hx hb dX5_specific_86 (by decide) (fun c_86 => ?_) (fun c_86 => ?_)
          · have c_86 : 12 ≤ n9 := (nI_leI (a := 12) (b := n9) (by omega) (by omega)).mp c_86
            have hE := (if_pos c_86).symm.trans hE
            refine lv_iload hx hb dX5_specific_127 (lv_at hl 1 rfl) ?_
            refine lv_if_eq (tgt := 141) hx hb dX5_specific_129 (by decide) (fun c_129 => ?_) (fun c_129 => ?_)
            · have c_129 : ¬ (z8 = true) := b2i_f c_129
              have hE := (if_neg c_129).symm.trans hE
              refine lv_iinc (v := nI (n7 + 1)) (lv' := [(7, .int (nI (n7 + 1))), (9, .int (nI n9)), (8, .int (b2i z8)), (5, .int v5), (4, .int v4), (0, .ref (a 0)), (1, .int (nI w))]) hx hb dX5_specific_141 hl (k := 2) rfl (nI_1 _) (by decide) rfl (fun ls hl => ?_)
              refine lv_goto (tgt := 63) hx hb dX5_specific_144 (by decide) ?_
              exact ih_63 (n7 + 1) v5 v4 ls (by omega) (by first | omega | exact hi_17_1 | exact hi_63_1 | exact hi_82_1) (by first | omega | exact hi_17_1 | exact hi_63_1 | exact hi_82_1) (lv_sub hl [0, 3, 4, 5, 6] rfl) hE
            · have c_129 : z8 = true := b2i_t c_129
              have hE := (if_pos c_129).symm.trans hE
              refine lv_iload hx hb dX5_specific_132 (lv_at hl 3 rfl) ?_
              refine lv_iconst (v := (1 : Int32)) hx hb dX5_specific_134 (by decide) ?_
              refine lv_iload hx hb dX5_specific_135 (lv_at hl 2 rfl) ?_
              refine lv_ishl hx hb dX5_specific_137 ?_
              refine lv_ior hx hb dX5_specific_138 ?_
              refine lv_istore (lv' := [(5, .int (v5 ||| ((1 : Int32) <<< ((nI n7) &&& 31)))), (9, .int (nI n9)), (8, .int (b2i z8)), (7, .int (nI n7)), (4, .int v4), (0, .ref (a 0)), (1, .int (nI w))]) hx hb dX5_specific_139 hl (by decide) rfl (fun ls hl => ?_)
              refine lv_iinc (v := nI (n7 + 1)) (lv' := [(7, .int (nI (n7 + 1))), (5, .int (v5 ||| ((1 : Int32) <<< ((nI n7) &&& 31)))), (9, .int (nI n9)), (8, .int (b2i z8)), (4, .int v4), (0, .ref (a 0)), (1, .int (nI w))]) hx hb dX5_specific_141 hl (k := 3) rfl (nI_1 _) (by decide) rfl (fun ls hl => ?_)
              refine lv_goto (tgt := 63) hx hb dX5_specific_144 (by decide) ?_
              exact ih_63 (n7 + 1) (v5 ||| ((1 : Int32) <<< ((nI n7) &&& 31))) v4 ls (by omega) (by first | omega | exact hi_17_1 | exact hi_63_1 | exact hi_82_1) (by first | omega | exact hi_17_1 | exact hi_63_1 | exact hi_82_1) (lv_sub hl [0, 1, 4, 5, 6] rfl) hE
          · have c_86 : ¬ (12 ≤ n9) := fun q9 => c_86 ((nI_leI (a := 12) (b := n9) (by omega) (by omega)).mpr q9)
            have hE := (if_neg c_86).symm.trans hE
            refine lv_iload hx hb dX5_specific_89 (lv_at hl 0 rfl) ?_
            refine lv_iload hx hb dX5_specific_91 (lv_at hl 2 rfl) ?_
            refine lv_icmp_eq (tgt := 121) hx hb dX5_specific_93 (by decide) (fun c_93 => ?_) (fun c_93 => ?_)
            · have c_93 : n9 = n7 := (nI_eq (a := n9) (b := n7) (by omega) (by omega)).mp c_93
              have hE := (if_pos c_93).symm.trans hE
              refine lv_iinc (v := nI (n9 + 1)) (lv' := [(9, .int (nI (n9 + 1))), (8, .int (b2i z8)), (7, .int (nI n7)), (5, .int v5), (4, .int v4), (0, .ref (a 0)), (1, .int (nI w))]) hx hb dX5_specific_121 hl (k := 0) rfl (nI_1 _) (by decide) rfl (fun ls hl => ?_)
              refine lv_goto (tgt := 82) hx hb dX5_specific_124 (by decide) ?_
              exact ih_82 (n9 + 1) z8 n7 v5 v4 ls (by omega) (by first | omega | exact hi_63_1 | exact hi_82_1) (by first | omega | exact hi_63_1 | exact hi_82_1) (by first | omega | exact hi_63_1 | exact hi_82_1) (by first | omega | exact hi_63_1 | exact hi_82_1) (lv_sub hl [0, 1, 2, 3, 4, 5, 6] rfl) hE
            · have c_93 : ¬ (n9 = n7) := fun q9 => c_93 ((nI_eq (a := n9) (b := n7) (by omega) (by omega)).mpr q9)
              have hE := (if_neg c_93).symm.trans hE
              refine lv_iload hx hb dX5_specific_96 (lv_at hl 4 rfl) ?_
              refine lv_iload hx hb dX5_specific_98 (lv_at hl 0 rfl) ?_
              refine ro_S [.int v4, .int (nI n9)] [] ⟨hx, hb, hml, hown, hts⟩ (c_X5_has l D cI cZ cB cR v4 n9 (by omega)) (va_cwS 2 hts (goodP (ps := [.methodLink RX5 94 yX5_has, .static yX5_has, .initialized RX5]) (all3 mw_3_201 mw_3_202 mw_1_6) mw_3_203) rfl rfl rfl (by decide +kernel) ⟨Nat.le_of_ble_eq_true rfl, Nat.le_of_ble_eq_true rfl⟩) hEV va_P0 rfl hl.1 rfl (Nat.le_of_ble_eq_true rfl) dX5_specific_100 ⟨Nat.zero_le _, Nat.zero_le _⟩ ?_
              refine lv_if_eq (tgt := 121) hx hb dX5_specific_103 (by decide) (fun c_103 => ?_) (fun c_103 => ?_)
              · have c_103 : ¬ ((bt v4 n9) = true) := b2i_f c_103
                have hE := (if_neg c_103).symm.trans hE
                refine lv_iinc (v := nI (n9 + 1)) (lv' := [(9, .int (nI (n9 + 1))), (8, .int (b2i z8)), (7, .int (nI n7)), (5, .int v5), (4, .int v4), (0, .ref (a 0)), (1, .int (nI w))]) hx hb dX5_specific_121 hl (k := 0) rfl (nI_1 _) (by decide) rfl (fun ls hl => ?_)
                refine lv_goto (tgt := 82) hx hb dX5_specific_124 (by decide) ?_
                exact ih_82 (n9 + 1) z8 n7 v5 v4 ls (by omega) (by first | omega | exact hi_63_1 | exact hi_82_1) (by first | omega | exact hi_63_1 | exact hi_82_1) (by first | omega | exact hi_63_1 | exact hi_82_1) (by first | omega | exact hi_63_1 | exact hi_82_1) (lv_sub hl [0, 1, 2, 3, 4, 5, 6] rfl) hE
              · have c_103 : (bt v4 n9) = true := b2i_t c_103
                have hE := (if_pos c_103).symm.trans hE
                refine lv_aload_n hx hb dX5_specific_106 rfl (lv_at hl 5 rfl) ?_
                refine lv_iload_n hx hb dX5_specific_107 rfl (lv_at hl 6 rfl) ?_
                refine lv_iload hx hb dX5_specific_108 (lv_at hl 0 rfl) ?_
                refine lv_iload hx hb dX5_specific_110 (lv_at hl 2 rfl) ?_
                refine ro_V [.int (nI w), .int (nI n9), .int (nI n7)] [] ⟨hx, hb, hml, hown, hts⟩ (c_X5_under l D cI cZ cB cR a x r1 r2 w n n9 n7 (by omega) wx (by omega) (by omega) (hi_82_1 n9 (by omega) c_103)) (cwV (C := RX5) 3 hts (goodP (ps := [.methodLink RX5 116 yX5_under, .instanceMethod yX5_under, .selects RX5 yX5_under yX5_under, .initialized RX5]) (all4 mw_4_8 mw_4_10 ms_40 mw_1_6) mw_4_11) rfl rfl rfl (by decide +kernel) ⟨Nat.le_of_ble_eq_true rfl, Nat.le_of_ble_eq_true rfl⟩) hEV hP 0 rfl rfl rfl hl.1 rfl (Nat.le_of_ble_eq_true rfl) dX5_specific_112 ⟨Nat.zero_le _, Nat.zero_le _⟩ ?_
                refine lv_if_eq (tgt := 121) hx hb dX5_specific_115 (by decide) (fun c_115 => ?_) (fun c_115 => ?_)
                · have c_115 : ¬ ((abB (vwX x w) n9 n7 || fcB (vwX x w) n9 n7) = true) := b2i_f c_115
                  have hE := (if_neg c_115).symm.trans hE
                  refine lv_iinc (v := nI (n9 + 1)) (lv' := [(9, .int (nI (n9 + 1))), (8, .int (b2i z8)), (7, .int (nI n7)), (5, .int v5), (4, .int v4), (0, .ref (a 0)), (1, .int (nI w))]) hx hb dX5_specific_121 hl (k := 0) rfl (nI_1 _) (by decide) rfl (fun ls hl => ?_)
                  refine lv_goto (tgt := 82) hx hb dX5_specific_124 (by decide) ?_
                  exact ih_82 (n9 + 1) z8 n7 v5 v4 ls (by omega) (by first | omega | exact hi_63_1 | exact hi_82_1) (by first | omega | exact hi_63_1 | exact hi_82_1) (by first | omega | exact hi_63_1 | exact hi_82_1) (by first | omega | exact hi_63_1 | exact hi_82_1) (lv_sub hl [0, 1, 2, 3, 4, 5, 6] rfl) hE
                · have c_115 : (abB (vwX x w) n9 n7 || fcB (vwX x w) n9 n7) = true := b2i_t c_115
                  have hE := (if_pos c_115).symm.trans hE
                  refine lv_iconst (v := (0 : Int32)) hx hb dX5_specific_118 (by decide) ?_
                  refine lv_istore (lv' := [(8, .int (0 : Int32)), (9, .int (nI n9)), (7, .int (nI n7)), (5, .int v5), (4, .int v4), (0, .ref (a 0)), (1, .int (nI w))]) hx hb dX5_specific_119 hl (by decide) rfl (fun ls hl => ?_)
                  refine lv_iinc (v := nI (n9 + 1)) (lv' := [(9, .int (nI (n9 + 1))), (8, .int (0 : Int32)), (7, .int (nI n7)), (5, .int v5), (4, .int v4), (0, .ref (a 0)), (1, .int (nI w))]) hx hb dX5_specific_121 hl (k := 1) rfl (nI_1 _) (by decide) rfl (fun ls hl => ?_)
                  refine lv_goto (tgt := 82) hx hb dX5_specific_124 (by decide) ?_
                  exact ih_82 (n9 + 1) false n7 v5 v4 ls (by omega) (by first | omega | exact hi_63_1 | exact hi_82_1) (by first | omega | exact hi_63_1 | exact hi_82_1) (by first | omega | exact hi_63_1 | exact hi_82_1) (by first | omega | exact hi_63_1 | exact hi_82_1) (lv_sub hl [0, 1, 2, 3, 4, 5, 6] rfl) hE
      intro n7 v5 v4 ls hm_63 hi_63_0 hi_63_1 hl hE
      rw [p_X5_specific_63] at hE
      refine lv_iload hx hb dX5_specific_63 (lv_at hl 0 rfl) ?_
      refine lv_bipush (v := (12 : Int32)) hx hb dX5_specific_65 (by decide) ?_
      refine lv_icmp_ge (tgt := 147) hx hb dX5_specific_67 (by decide) (fun c_67 => ?_) (fun c_67 => ?_)
      · have c_67 : 12 ≤ n7 := (nI_leI (a := 12) (b := n7) (by omega) (by omega)).mp c_67
        have hE := (if_pos c_67).symm.trans hE
        refine lv_iload hx hb dX5_specific_147 (lv_at hl 1 rfl) ?_
        exact W.iret hx hb hr (fun t9 ht9 _ => ⟨_, rfl, hE, ht9⟩) (fun _ h9 => by cases h9) dX5_specific_149
      · have c_67 : ¬ (12 ≤ n7) := fun q9 => c_67 ((nI_leI (a := 12) (b := n7) (by omega) (by omega)).mpr q9)
        have hE := (if_neg c_67).symm.trans hE
        refine lv_iload hx hb dX5_specific_70 (lv_at hl 2 rfl) ?_
        refine lv_iload hx hb dX5_specific_72 (lv_at hl 0 rfl) ?_
        refine ro_S [.int v4, .int (nI n7)] [] ⟨hx, hb, hml, hown, hts⟩ (c_X5_has l D cI cZ cB cR v4 n7 (by omega)) (va_cwS 2 hts (goodP (ps := [.methodLink RX5 94 yX5_has, .static yX5_has, .initialized RX5]) (all3 mw_3_201 mw_3_202 mw_1_6) mw_3_203) rfl rfl rfl (by decide +kernel) ⟨Nat.le_of_ble_eq_true rfl, Nat.le_of_ble_eq_true rfl⟩) hEV va_P0 rfl hl.1 rfl (Nat.le_of_ble_eq_true rfl) dX5_specific_74 ⟨Nat.zero_le _, Nat.zero_le _⟩ ?_
        refine lv_istore (lv' := [(8, .int (b2i (bt v4 n7))), (7, .int (nI n7)), (5, .int v5), (4, .int v4), (0, .ref (a 0)), (1, .int (nI w))]) hx hb dX5_specific_77 hl (by decide) rfl (fun ls hl => ?_)
        refine lv_iconst (v := (0 : Int32)) hx hb dX5_specific_79 (by decide) ?_
        refine lv_istore (lv' := [(9, .int (0 : Int32)), (8, .int (b2i (bt v4 n7))), (7, .int (nI n7)), (5, .int v5), (4, .int v4), (0, .ref (a 0)), (1, .int (nI w))]) hx hb dX5_specific_80 hl (by decide) rfl (fun ls hl => ?_)
        exact key_82 13 0 (bt v4 n7) n7 v5 v4 ls (by omega) (by first | omega | exact hi_63_1 | exact hi_82_1) (by first | omega | exact hi_63_1 | exact hi_82_1) (by first | omega | exact hi_63_1 | exact hi_82_1) (by first | omega | exact hi_63_1 | exact hi_82_1) (lv_sub hl [0, 1, 2, 3, 4, 5, 6] rfl) hE
  have key_17 : ∀ (k_17 : Nat) (n7 : Nat) (v4 : Int32) (ls : Array Slot), (12 - n7) < k_17 → n7 ≤ 12 → (∀ u9, u9 < 12 → bt v4 u9 = true → Gd (vwX x w) u9) → lv_has ls 10 [(7, .int (nI n7)), (6, .int (facI (vwX x w) t)), (5, .int (0 : Int32)), (4, .int v4), (0, .ref (a 0)), (1, .int (nI w)), (3, .int (nI u))] → p_X5_specific_17 x w n t u k_17 n7 v4 = spI (vwX x w) (vmX x w) n t (kyF true (nI u)) → W p l e (headSpec wsX5_specific ({ frames := 3, cells := 0, slots := 0, locals := 73 } : Room)).room s m args below meth c s.heap [] 0 0 (MQ below (vp_Si (fun r => r = spI (vwX x w) (vmX x w) n t (kyF true (nI u)))) args s 0 0 (fun _ => False)) (F0 m 17 ls []) := by
    intro k_17
    induction k_17 with
    | zero => intro n7 v4 ls hm; exact absurd hm (Nat.not_lt_zero _)
    | succ k_17 ih_17 =>
      intro n7 v4 ls hm_17 hi_17_0 hi_17_1 hl hE
      rw [p_X5_specific_17] at hE
      refine lv_iload hx hb dX5_specific_17 (lv_at hl 0 rfl) ?_
      refine lv_bipush (v := (12 : Int32)) hx hb dX5_specific_19 (by decide) ?_
      refine lv_icmp_ge (tgt := 60) hx hb dX5_specific_21 (by decide) (fun c_21 => ?_) (fun c_21 => ?_)
      · have c_21 : 12 ≤ n7 := (nI_leI (a := 12) (b := n7) (by omega) (by omega)).mp c_21
        have hE := (if_pos c_21).symm.trans hE
        refine lv_iconst (v := (0 : Int32)) hx hb dX5_specific_60 (by decide) ?_
        refine lv_istore (lv' := [(7, .int (0 : Int32)), (6, .int (facI (vwX x w) t)), (5, .int (0 : Int32)), (4, .int v4), (0, .ref (a 0)), (1, .int (nI w)), (3, .int (nI u))]) hx hb dX5_specific_61 hl (by decide) rfl (fun ls hl => ?_)
        exact key_63 13 0 (0 : Int32) v4 ls (by omega) (by first | omega | exact hi_17_1 | exact hi_63_1 | exact hi_82_1) (by first | omega | exact hi_17_1 | exact hi_63_1 | exact hi_82_1) (lv_sub hl [0, 2, 3, 4, 5] rfl) hE
      · have c_21 : ¬ (12 ≤ n7) := fun q9 => c_21 ((nI_leI (a := 12) (b := n7) (by omega) (by omega)).mpr q9)
        have hE := (if_neg c_21).symm.trans hE
        refine lv_iload hx hb dX5_specific_24 (lv_at hl 1 rfl) ?_
        refine lv_iload hx hb dX5_specific_26 (lv_at hl 0 rfl) ?_
        refine ro_S [.int (facI (vwX x w) t), .int (nI n7)] [] ⟨hx, hb, hml, hown, hts⟩ (c_X5_has l D cI cZ cB cR (facI (vwX x w) t) n7 (by omega)) (va_cwS 2 hts (goodP (ps := [.methodLink RX5 94 yX5_has, .static yX5_has, .initialized RX5]) (all3 mw_3_201 mw_3_202 mw_1_6) mw_3_203) rfl rfl rfl (by decide +kernel) ⟨Nat.le_of_ble_eq_true rfl, Nat.le_of_ble_eq_true rfl⟩) hEV va_P0 rfl hl.1 rfl (Nat.le_of_ble_eq_true rfl) dX5_specific_28 ⟨Nat.zero_le _, Nat.zero_le _⟩ ?_
        refine lv_if_eq (tgt := 54) hx hb dX5_specific_31 (by decide) (fun c_31 => ?_) (fun c_31 => ?_)
        · have c_31 : ¬ ((bt (facI (vwX x w) t) n7) = true) := b2i_f c_31
          have hE := (if_neg c_31).symm.trans hE
          refine lv_iinc (v := nI (n7 + 1)) (lv' := [(7, .int (nI (n7 + 1))), (6, .int (facI (vwX x w) t)), (5, .int (0 : Int32)), (4, .int v4), (0, .ref (a 0)), (1, .int (nI w)), (3, .int (nI u))]) hx hb dX5_specific_54 hl (k := 0) rfl (nI_1 _) (by decide) rfl (fun ls hl => ?_)
          refine lv_goto (tgt := 17) hx hb dX5_specific_57 (by decide) ?_
          exact ih_17 (n7 + 1) v4 ls (by omega) (by first | omega | exact hi_17_1 | exact fun u9 _ q9 => absurd q9 (by rw [b_0]; decide) | exact gd_or (by omega) hi_17_1 hgn) (by first | omega | exact hi_17_1 | exact fun u9 _ q9 => absurd q9 (by rw [b_0]; decide) | exact gd_or (by omega) hi_17_1 hgn) (lv_sub hl [0, 1, 2, 3, 4, 5, 6] rfl) hE
        · have c_31 : (bt (facI (vwX x w) t) n7) = true := b2i_t c_31
          have hE := (if_pos c_31).symm.trans hE
          refine lv_aload_n hx hb dX5_specific_34 rfl (lv_at hl 4 rfl) ?_
          refine lv_iload_n hx hb dX5_specific_35 rfl (lv_at hl 5 rfl) ?_
          refine lv_iload hx hb dX5_specific_36 (lv_at hl 0 rfl) ?_
          refine lv_iload_n hx hb dX5_specific_38 rfl (lv_at hl 6 rfl) ?_
          refine ro_V [.int (nI w), .int (nI n7), .int (nI u)] [] ⟨hx, hb, hml, hown, hts⟩ (c_X5_offers l D cI cZ cB cR a x r1 r2 w n n7 u (by omega) wx (by omega) (by omega) ) (cwV (C := RX5) 3 hts (goodP (ps := [.methodLink RX5 123 yX5_offers, .instanceMethod yX5_offers, .selects RX5 yX5_offers yX5_offers, .initialized RX5]) (all4 mw_4_4 mw_4_6 ms_39 mw_1_6) mw_4_7) rfl rfl rfl (by decide +kernel) ⟨Nat.le_of_ble_eq_true rfl, Nat.le_of_ble_eq_true rfl⟩) hEV hP 0 rfl rfl rfl hl.1 rfl (Nat.le_of_ble_eq_true rfl) dX5_specific_39 ⟨Nat.zero_le _, Nat.zero_le _⟩ ?_
          refine lv_if_eq (tgt := 54) hx hb dX5_specific_42 (by decide) (fun c_42 => ?_) (fun c_42 => ?_)
          · have c_42 : ¬ ((offB (vmX x w) n n7 (kyF true (nI u))) = true) := b2i_f c_42
            have hE := (if_neg c_42).symm.trans hE
            refine lv_iinc (v := nI (n7 + 1)) (lv' := [(7, .int (nI (n7 + 1))), (6, .int (facI (vwX x w) t)), (5, .int (0 : Int32)), (4, .int v4), (0, .ref (a 0)), (1, .int (nI w)), (3, .int (nI u))]) hx hb dX5_specific_54 hl (k := 0) rfl (nI_1 _) (by decide) rfl (fun ls hl => ?_)
            refine lv_goto (tgt := 17) hx hb dX5_specific_57 (by decide) ?_
            exact ih_17 (n7 + 1) v4 ls (by omega) (by first | omega | exact hi_17_1 | exact fun u9 _ q9 => absurd q9 (by rw [b_0]; decide) | exact gd_or (by omega) hi_17_1 hgn) (by first | omega | exact hi_17_1 | exact fun u9 _ q9 => absurd q9 (by rw [b_0]; decide) | exact gd_or (by omega) hi_17_1 hgn) (lv_sub hl [0, 1, 2, 3, 4, 5, 6] rfl) hE
          · have c_42 : (offB (vmX x w) n n7 (kyF true (nI u))) = true := b2i_t c_42
            have hE := (if_pos c_42).symm.trans hE
            have hgn : Gd (vwX x w) n7 := (fc_good (by omega) gt (by have q9 := c_31; unfold facI at q9; exact ((or12_bt (by omega)).mp q9).2)).1
            refine lv_iload hx hb dX5_specific_45 (lv_at hl 3 rfl) ?_
            refine lv_iconst (v := (1 : Int32)) hx hb dX5_specific_47 (by decide) ?_
            refine lv_iload hx hb dX5_specific_48 (lv_at hl 0 rfl) ?_
            refine lv_ishl hx hb dX5_specific_50 ?_
            refine lv_ior hx hb dX5_specific_51 ?_
            refine lv_istore (lv' := [(4, .int (v4 ||| ((1 : Int32) <<< ((nI n7) &&& 31)))), (7, .int (nI n7)), (6, .int (facI (vwX x w) t)), (5, .int (0 : Int32)), (0, .ref (a 0)), (1, .int (nI w)), (3, .int (nI u))]) hx hb dX5_specific_52 hl (by decide) rfl (fun ls hl => ?_)
            refine lv_iinc (v := nI (n7 + 1)) (lv' := [(7, .int (nI (n7 + 1))), (4, .int (v4 ||| ((1 : Int32) <<< ((nI n7) &&& 31)))), (6, .int (facI (vwX x w) t)), (5, .int (0 : Int32)), (0, .ref (a 0)), (1, .int (nI w)), (3, .int (nI u))]) hx hb dX5_specific_54 hl (k := 1) rfl (nI_1 _) (by decide) rfl (fun ls hl => ?_)
            refine lv_goto (tgt := 17) hx hb dX5_specific_57 (by decide) ?_
            exact ih_17 (n7 + 1) (v4 ||| ((1 : Int32) <<< ((nI n7) &&& 31))) ls (by omega) (by first | omega | exact hi_17_1 | exact fun u9 _ q9 => absurd q9 (by rw [b_0]; decide) | exact gd_or (by omega) hi_17_1 hgn) (by first | omega | exact hi_17_1 | exact fun u9 _ q9 => absurd q9 (by rw [b_0]; decide) | exact gd_or (by omega) hi_17_1 hgn) (lv_sub hl [0, 2, 3, 1, 4, 5, 6] rfl) hE
  refine lv_iconst (v := (0 : Int32)) hx hb dX5_specific_0 (by decide) ?_
  refine lv_istore (lv' := [(4, .int (0 : Int32)), (0, .ref (a 0)), (1, .int (nI w)), (2, .int (nI t)), (3, .int (nI u))]) hx hb dX5_specific_1 hl (by decide) rfl (fun ls hl => ?_)
  refine lv_iconst (v := (0 : Int32)) hx hb dX5_specific_3 (by decide) ?_
  refine lv_istore (lv' := [(5, .int (0 : Int32)), (4, .int (0 : Int32)), (0, .ref (a 0)), (1, .int (nI w)), (2, .int (nI t)), (3, .int (nI u))]) hx hb dX5_specific_4 hl (by decide) rfl (fun ls hl => ?_)
  refine lv_aload_n hx hb dX5_specific_6 rfl (lv_at hl 2 rfl) ?_
  refine lv_iload_n hx hb dX5_specific_7 rfl (lv_at hl 3 rfl) ?_
  refine lv_iload_n hx hb dX5_specific_8 rfl (lv_at hl 4 rfl) ?_
  refine ro_V [.int (nI w), .int (nI t)] [] ⟨hx, hb, hml, hown, hts⟩ (c_X5_facesOf l D cI cZ cB cR a x r1 r2 w n t (by omega) wx (by omega) gt) (cwV (C := RX5) 2 hts (goodP (ps := [.methodLink RX5 110 yX5_facesOf, .instanceMethod yX5_facesOf, .selects RX5 yX5_facesOf yX5_facesOf, .initialized RX5]) (all4 mw_3_236 mw_3_238 ms_37 mw_1_6) mw_3_239) rfl rfl rfl (by decide +kernel) ⟨Nat.le_of_ble_eq_true rfl, Nat.le_of_ble_eq_true rfl⟩) hEV hP 0 rfl rfl rfl hl.1 rfl (Nat.le_of_ble_eq_true rfl) dX5_specific_9 ⟨Nat.zero_le _, Nat.zero_le _⟩ ?_
  refine lv_istore (lv' := [(6, .int (facI (vwX x w) t)), (5, .int (0 : Int32)), (4, .int (0 : Int32)), (0, .ref (a 0)), (1, .int (nI w)), (2, .int (nI t)), (3, .int (nI u))]) hx hb dX5_specific_12 hl (by decide) rfl (fun ls hl => ?_)
  refine lv_iconst (v := (0 : Int32)) hx hb dX5_specific_14 (by decide) ?_
  refine lv_istore (lv' := [(7, .int (0 : Int32)), (6, .int (facI (vwX x w) t)), (5, .int (0 : Int32)), (4, .int (0 : Int32)), (0, .ref (a 0)), (1, .int (nI w)), (2, .int (nI t)), (3, .int (nI u))]) hx hb dX5_specific_15 hl (by decide) rfl (fun ls hl => ?_)
  exact key_17 13 0 (0 : Int32) ls (by omega) (by first | omega | exact hi_17_1 | exact fun u9 _ q9 => absurd q9 (by rw [b_0]; decide) | exact gd_or (by omega) hi_17_1 hgn) (by first | omega | exact hi_17_1 | exact fun u9 _ q9 => absurd q9 (by rw [b_0]; decide) | exact gd_or (by omega) hi_17_1 hgn) (lv_sub hl [0, 1, 2, 3, 4, 5, 7] rfl) hE
noncomputable def p_X5_bodied_6 (x : Nat → Nat → Int32) (w n : Nat) (t : Int32) (u : Nat) : Nat → Nat → Int32 → Int32
  | 0, _, _ => 0
  | k + 1, n5, v4 => if 12 ≤ n5 then (v4) else (if (bt t n5) = true then (if ((x 12 ((30 * w) + (fdN (vmX x w) n n5 (kyF true (nI u))))) &&& (2 : Int32)) = (0 : Int32) then (if v4 = (-1 : Int32) then (p_X5_bodied_6 x w n t u k (n5 + 1) (odI (vmX x w) n n5 (kyF true (nI u)))) else (p_X5_bodied_6 x w n t u k (n5 + 1) (-2 : Int32))) else (p_X5_bodied_6 x w n t u k (n5 + 1) v4)) else (p_X5_bodied_6 x w n t u k (n5 + 1) v4))
noncomputable def p_X5_bodied (x : Nat → Nat → Int32) (w n : Nat) (t : Int32) (u : Nat) : Int32 := p_X5_bodied_6 x w n t u 13 0 (-1 : Int32)
set_option maxHeartbeats 4000000 in
set_option maxRecDepth 100000 in
theorem c_X5_bodied (l : Launch) (D : va_G) (cI cZ cB cR : ClassId) (a : Nat → Nat) (x : Nat → Nat → Int32) (r1 r2 : Nat → Int32) (w n : Nat) (t : Int32) (u : Nat) (hw : w < 2) (wx : WX x w n) (hnu : u < 15) (hs : ∀ f, f < 12 → bt t f = true → fdN (vmX x w) n f (kyF true (nI u)) < n) : RO l yX5_bodied wsX5_bodied ({ frames := 1, cells := 0, slots := 0, locals := 26 } : Room) D cI cZ cB cR (wX cI cZ a x r1 r2) [.ref (a 0), .int (nI w), .int t, .int (nI u)] (p_X5_bodied x w n t u) := by
  generalize hE : p_X5_bodied x w n t u = tgt
  refine Met.ofW (cc := cX5_bodied) (maxL := 7) (ret := (some .int)) (by decide) rfl ?_
  intro p e s m args below meth c s₁ B hml hv
  obtain ⟨hargs, hP, hEV⟩ := hv
  have hx := B.exec
  have hb := B.bytes
  have hr := B.returns
  have hts := atoms_spec (ws := wsX5_bodied) B.pre
  have hown : s.vm.findClass RX5 = some m.cls := findClass_of_methodNamed B.named
  have hlocks := B.notSynchronized
  have hK := hEV.1
  have hl := lv_entry ([.ref (a 0), .int (nI w), .int t, .int (nI u)]) (n := 7) (Nat.le_of_ble_eq_true rfl)
  rw [show entryFrame m args 7 = entryFrame m ([.ref (a 0), .int (nI w), .int t, .int (nI u)] : List Value).toArray 7 from by rw [hargs], lg_entry_eq]
  generalize (lg_sl ([.ref (a 0), .int (nI w), .int t, .int (nI u)]) ++ List.replicate (7 - (lg_sl ([.ref (a 0), .int (nI w), .int t, .int (nI u)])).length) Slot.unset).toArray = ls at hl ⊢
  have hl : lv_has ls 7 [(0, .ref (a 0)), (1, .int (nI w)), (2, .int t), (3, .int (nI u))] := hl
  rw [p_X5_bodied] at hE
  have hn30 := wx.2.2.1
  have key_6 : ∀ (k_6 : Nat) (n5 : Nat) (v4 : Int32) (ls : Array Slot), (12 - n5) < k_6 → n5 ≤ 12 → lv_has ls 7 [(5, .int (nI n5)), (4, .int v4), (0, .ref (a 0)), (1, .int (nI w)), (2, .int t), (3, .int (nI u))] → p_X5_bodied_6 x w n t u k_6 n5 v4 = tgt → W p l e (headSpec wsX5_bodied ({ frames := 1, cells := 0, slots := 0, locals := 26 } : Room)).room s m args below meth c s.heap [] 0 0 (MQ below (vp_Si (fun r => r = tgt)) args s 0 0 (fun _ => False)) (F0 m 6 ls []) := by
    intro k_6
    induction k_6 with
    | zero => intro n5 v4 ls hm; exact absurd hm (Nat.not_lt_zero _)
    | succ k_6 ih_6 =>
      intro n5 v4 ls hm_6 hi_6_0 hl hE
      rw [p_X5_bodied_6] at hE
      refine lv_iload hx hb dX5_bodied_6 (lv_at hl 0 rfl) ?_
      refine lv_bipush (v := (12 : Int32)) hx hb dX5_bodied_8 (by decide) ?_
      refine lv_icmp_ge (tgt := 77) hx hb dX5_bodied_10 (by decide) (fun c_10 => ?_) (fun c_10 => ?_)
      · have c_10 : 12 ≤ n5 := (nI_leI (a := 12) (b := n5) (by omega) (by omega)).mp c_10
        have hE := (if_pos c_10).symm.trans hE
        refine lv_iload hx hb dX5_bodied_77 (lv_at hl 1 rfl) ?_
        exact W.iret hx hb hr (fun t9 ht9 _ => ⟨_, rfl, hE, ht9⟩) (fun _ h9 => by cases h9) dX5_bodied_79
      · have c_10 : ¬ (12 ≤ n5) := fun q9 => c_10 ((nI_leI (a := 12) (b := n5) (by omega) (by omega)).mpr q9)
        have hE := (if_neg c_10).symm.trans hE
        refine lv_iload_n hx hb dX5_bodied_13 rfl (lv_at hl 4 rfl) ?_
        refine lv_iload hx hb dX5_bodied_14 (lv_at hl 0 rfl) ?_
        refine ro_S [.int t, .int (nI n5)] [] ⟨hx, hb, hml, hown, hts⟩ (c_X5_has l D cI cZ cB cR t n5 (by omega)) (va_cwS 2 hts (goodP (ps := [.methodLink RX5 94 yX5_has, .static yX5_has, .initialized RX5]) (all3 mw_3_201 mw_3_202 mw_1_6) mw_3_203) rfl rfl rfl (by decide +kernel) ⟨Nat.le_of_ble_eq_true rfl, Nat.le_of_ble_eq_true rfl⟩) hEV va_P0 rfl hl.1 rfl (Nat.le_of_ble_eq_true rfl) dX5_bodied_16 ⟨Nat.zero_le _, Nat.zero_le _⟩ ?_
        refine lv_if_ne (tgt := 25) hx hb dX5_bodied_19 (by decide) (fun c_19 => ?_) (fun c_19 => ?_)
        · have c_19 : (bt t n5) = true := b2i_t c_19
          have hE := (if_pos c_19).symm.trans hE
          have hk9 := hs n5 (by omega) c_19
          refine lv_aload_n hx hb dX5_bodied_25 rfl (lv_at hl 2 rfl) ?_
          refine lv_iload_n hx hb dX5_bodied_26 rfl (lv_at hl 3 rfl) ?_
          refine lv_iload hx hb dX5_bodied_27 (lv_at hl 0 rfl) ?_
          refine lv_iconst (v := (1 : Int32)) hx hb dX5_bodied_29 (by decide) ?_
          refine lv_iload_n hx hb dX5_bodied_30 rfl (lv_at hl 5 rfl) ?_
          refine ro_V [.int (nI w), .int (nI n5), .int (1 : Int32), .int (nI u)] [] ⟨hx, hb, hml, hown, hts⟩ (c_X5_own l D cI cZ cB cR a x r1 r2 w n n5 true u (by omega) wx (by omega) (by omega) ) (cwV (C := RX5) 4 hts (goodP (ps := [.methodLink RX5 84 yX5_own, .instanceMethod yX5_own, .selects RX5 yX5_own yX5_own, .initialized RX5]) (all4 mw_3_158 mw_3_160 ms_27 mw_1_6) mw_3_161) rfl rfl rfl (by decide +kernel) ⟨Nat.le_of_ble_eq_true rfl, Nat.le_of_ble_eq_true rfl⟩) hEV hP 0 rfl rfl rfl hl.1 rfl (Nat.le_of_ble_eq_true rfl) dX5_bodied_31 ⟨Nat.zero_le _, Nat.zero_le _⟩ ?_
          refine lv_istore (lv' := [(6, .int (odI (vmX x w) n n5 (kyF true (nI u)))), (5, .int (nI n5)), (4, .int v4), (0, .ref (a 0)), (1, .int (nI w)), (2, .int t), (3, .int (nI u))]) hx hb dX5_bodied_34 hl (by decide) rfl (fun ls hl => ?_)
          refine lv_aload_n hx hb dX5_bodied_36 rfl (lv_at hl 3 rfl) ?_
          refine va_get (D := D) (ci := 5) (v := .ref (a 13)) (C := RX5) (T := TX5) (N := 21) hx hb hts (fun w9 h9 => List.mem_cons_of_mem _ (inT_X5 w9 h9)) hown hK hP 0 rfl rfl 12 (by decide) (hts (.fieldLink RX5 47 "LinkPredictorModel" "marks" "[I") (List.mem_cons_of_mem _ mw_3_78)) (fun _ h9 => h9) rfl dX5_bodied_37 ?_
          refine lv_bipush (v := (30 : Int32)) hx hb dX5_bodied_40 (by decide) ?_
          refine lv_iload_n hx hb dX5_bodied_42 rfl (lv_at hl 4 rfl) ?_
          refine lv_imul hx hb dX5_bodied_43 ?_
          refine top_eq (pk_mul 30 w) ?_
          refine lv_iload hx hb dX5_bodied_44 (lv_at hl 0 rfl) ?_
          refine top_eq (odI_of hk9) ?_
          refine lv_iadd hx hb dX5_bodied_46 ?_
          refine top_eq (nI_add (30 * w) (fdN (vmX x w) n n5 (kyF true (nI u)))) ?_
          refine ro_ald hx hb hEV hP 13 (j := ((30 * w) + (fdN (vmX x w) n n5 (kyF true (nI u))))) rfl (by omega) (by decide) dX5_bodied_47 ?_
          refine lv_iconst (v := (2 : Int32)) hx hb dX5_bodied_48 (by decide) ?_
          refine lv_iand hx hb dX5_bodied_49 ?_
          refine lv_if_eq (tgt := 56) hx hb dX5_bodied_50 (by decide) (fun c_50 => ?_) (fun c_50 => ?_)
          · skip
            have hE := (if_pos c_50).symm.trans hE
            refine lv_iload hx hb dX5_bodied_56 (lv_at hl 2 rfl) ?_
            refine lv_iconst (v := (-1 : Int32)) hx hb dX5_bodied_58 (by decide) ?_
            refine lv_icmp_ne (tgt := 67) hx hb dX5_bodied_59 (by decide) (fun c_59 => ?_) (fun c_59 => ?_)
            · skip
              have hE := (if_neg c_59).symm.trans hE
              refine lv_bipush (v := (-2 : Int32)) hx hb dX5_bodied_67 (by decide) ?_
              refine lv_istore (lv' := [(4, .int (-2 : Int32)), (6, .int (odI (vmX x w) n n5 (kyF true (nI u)))), (5, .int (nI n5)), (0, .ref (a 0)), (1, .int (nI w)), (2, .int t), (3, .int (nI u))]) hx hb dX5_bodied_69 hl (by decide) rfl (fun ls hl => ?_)
              refine lv_iinc (v := nI (n5 + 1)) (lv' := [(5, .int (nI (n5 + 1))), (4, .int (-2 : Int32)), (6, .int (odI (vmX x w) n n5 (kyF true (nI u)))), (0, .ref (a 0)), (1, .int (nI w)), (2, .int t), (3, .int (nI u))]) hx hb dX5_bodied_71 hl (k := 2) rfl (nI_1 _) (by decide) rfl (fun ls hl => ?_)
              refine lv_goto (tgt := 6) hx hb dX5_bodied_74 (by decide) ?_
              exact ih_6 (n5 + 1) (-2 : Int32) ls (by omega) (by omega) (lv_sub hl [0, 1, 3, 4, 5, 6] rfl) hE
            · skip
              have hE := (if_pos c_59).symm.trans hE
              refine lv_iload hx hb dX5_bodied_62 (lv_at hl 0 rfl) ?_
              refine lv_goto (tgt := 69) hx hb dX5_bodied_64 (by decide) ?_
              refine lv_istore (lv' := [(4, .int (odI (vmX x w) n n5 (kyF true (nI u)))), (6, .int (odI (vmX x w) n n5 (kyF true (nI u)))), (5, .int (nI n5)), (0, .ref (a 0)), (1, .int (nI w)), (2, .int t), (3, .int (nI u))]) hx hb dX5_bodied_69 hl (by decide) rfl (fun ls hl => ?_)
              refine lv_iinc (v := nI (n5 + 1)) (lv' := [(5, .int (nI (n5 + 1))), (4, .int (odI (vmX x w) n n5 (kyF true (nI u)))), (6, .int (odI (vmX x w) n n5 (kyF true (nI u)))), (0, .ref (a 0)), (1, .int (nI w)), (2, .int t), (3, .int (nI u))]) hx hb dX5_bodied_71 hl (k := 2) rfl (nI_1 _) (by decide) rfl (fun ls hl => ?_)
              refine lv_goto (tgt := 6) hx hb dX5_bodied_74 (by decide) ?_
              exact ih_6 (n5 + 1) (odI (vmX x w) n n5 (kyF true (nI u))) ls (by omega) (by omega) (lv_sub hl [0, 1, 3, 4, 5, 6] rfl) hE
          · skip
            have hE := (if_neg c_50).symm.trans hE
            refine lv_goto (tgt := 71) hx hb dX5_bodied_53 (by decide) ?_
            refine lv_iinc (v := nI (n5 + 1)) (lv' := [(5, .int (nI (n5 + 1))), (6, .int (odI (vmX x w) n n5 (kyF true (nI u)))), (4, .int v4), (0, .ref (a 0)), (1, .int (nI w)), (2, .int t), (3, .int (nI u))]) hx hb dX5_bodied_71 hl (k := 1) rfl (nI_1 _) (by decide) rfl (fun ls hl => ?_)
            refine lv_goto (tgt := 6) hx hb dX5_bodied_74 (by decide) ?_
            exact ih_6 (n5 + 1) v4 ls (by omega) (by omega) (lv_sub hl [0, 2, 3, 4, 5, 6] rfl) hE
        · have c_19 : ¬ ((bt t n5) = true) := b2i_f c_19
          have hE := (if_neg c_19).symm.trans hE
          refine lv_goto (tgt := 71) hx hb dX5_bodied_22 (by decide) ?_
          refine lv_iinc (v := nI (n5 + 1)) (lv' := [(5, .int (nI (n5 + 1))), (4, .int v4), (0, .ref (a 0)), (1, .int (nI w)), (2, .int t), (3, .int (nI u))]) hx hb dX5_bodied_71 hl (k := 0) rfl (nI_1 _) (by decide) rfl (fun ls hl => ?_)
          refine lv_goto (tgt := 6) hx hb dX5_bodied_74 (by decide) ?_
          exact ih_6 (n5 + 1) v4 ls (by omega) (by omega) (lv_sub hl [0, 1, 2, 3, 4, 5] rfl) hE
  refine lv_iconst (v := (-1 : Int32)) hx hb dX5_bodied_0 (by decide) ?_
  refine lv_istore (lv' := [(4, .int (-1 : Int32)), (0, .ref (a 0)), (1, .int (nI w)), (2, .int t), (3, .int (nI u))]) hx hb dX5_bodied_1 hl (by decide) rfl (fun ls hl => ?_)
  refine lv_iconst (v := (0 : Int32)) hx hb dX5_bodied_3 (by decide) ?_
  refine lv_istore (lv' := [(5, .int (0 : Int32)), (4, .int (-1 : Int32)), (0, .ref (a 0)), (1, .int (nI w)), (2, .int t), (3, .int (nI u))]) hx hb dX5_bodied_4 hl (by decide) rfl (fun ls hl => ?_)
  exact key_6 13 0 (-1 : Int32) ls (by omega) (by omega) (lv_sub hl [0, 1, 2, 3, 4, 5] rfl) hE
