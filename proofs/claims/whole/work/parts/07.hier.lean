def nsN (τ : Nat → Nat → Int32) (x : Nat) : Nat := if thB τ (sN (τ 5 x)) = true then (if decide (τ 2 (sN (τ 5 x)) = τ 2 x) = true then (if τ 5 (sN (τ 5 x)) = τ 5 x then sN (τ 5 x) else x) else x) else x
theorem nsN_lt {τ : Nat → Nat → Int32} (wf : WFT τ) {x : Nat} (hx : x < 12) : nsN τ x < 12 := by
  unfold nsN
  have := (wf.1 x hx).2.1.1
  split
  · split
    · split <;> omega
    · omega
  · omega
def p_X1_nestOf (h : Nat → Nat → Int32) (τ : Nat → Nat → Int32) (x : Nat) : Int32 := if (thB τ (sN (τ 5 x))) = true then (if (decide (τ 2 (sN (τ 5 x)) = τ 2 x)) = true then (if (h 4 (sN (τ 5 x))) = (nI (sN (τ 5 x))) then (nI (sN (τ 5 x))) else (nI x)) else (nI x)) else (nI x)
theorem pe_X1_nestOf (h : Nat → Nat → Int32) (τ : Nat → Nat → Int32) (x : Nat) (ok : OKB h τ) (wf : WFT τ) (hnx : x < 12) : p_X1_nestOf h τ x = nI (nsN τ x) := by
  have hT := (wf.1 x hnx).2.1
  rw [p_X1_nestOf]
  unfold nsN
  rw [ok.ho hT.1, ← hT.2]
  by_cases c1 : thB τ (sN (τ 5 x)) = true
  · rw [if_pos c1, if_pos c1]
    by_cases c2 : decide (τ 2 (sN (τ 5 x)) = τ 2 x) = true
    · rw [if_pos c2, if_pos c2]
      by_cases c3 : τ 5 (sN (τ 5 x)) = τ 5 x
      · rw [if_pos c3, if_pos c3]; exact hT.2
      · rw [if_neg c3, if_neg c3]
    · rw [if_neg c2, if_neg c2]
  · rw [if_neg c1, if_neg c1]
set_option maxHeartbeats 4000000 in
set_option maxRecDepth 100000 in
theorem c_X1_nestOf (l : Launch) (D : va_G) (cI cZ cB cR : ClassId) (a : Nat → Nat) (h : Nat → Nat → Int32) (τ : Nat → Nat → Int32) (x : Nat) (ok : OKB h τ) (wf : WFT τ) (hnx : x < 12) : RO l yX1_nestOf wsX1_nestOf ({ frames := 2, cells := 0, slots := 0, locals := 42 } : Room) D cI cZ cB cR (wH cI a h) [.ref (a 0), .int (nI x)] (nI (nsN τ x)) := by
  have hE : p_X1_nestOf h τ x = nI (nsN τ x) := pe_X1_nestOf h τ x ok wf hnx
  refine Met.ofW (cc := cX1_nestOf) (maxL := 3) (ret := (some .int)) (by decide) rfl ?_
  intro p e s m args below meth c s₁ B hml hv
  obtain ⟨hargs, hP, hEV⟩ := hv
  have hx := B.exec
  have hb := B.bytes
  have hr := B.returns
  have hts := atoms_spec (ws := wsX1_nestOf) B.pre
  have hown : s.vm.findClass RX1 = some m.cls := findClass_of_methodNamed B.named
  have hlocks := B.notSynchronized
  have hK := hEV.1
  have hl := lv_entry ([.ref (a 0), .int (nI x)]) (n := 3) (Nat.le_of_ble_eq_true rfl)
  rw [show entryFrame m args 3 = entryFrame m ([.ref (a 0), .int (nI x)] : List Value).toArray 3 from by rw [hargs], lg_entry_eq]
  generalize (lg_sl ([.ref (a 0), .int (nI x)]) ++ List.replicate (3 - (lg_sl ([.ref (a 0), .int (nI x)])).length) Slot.unset).toArray = ls at hl ⊢
  have hl : lv_has ls 3 [(0, .ref (a 0)), (1, .int (nI x))] := hl
  rw [p_X1_nestOf] at hE
  have hT1 := (wf.1 x hnx).2.1.1
  refine lv_aload_n hx hb dX1_nestOf_0 rfl (lv_at hl 0 rfl) ?_
  refine va_get (D := D) (ci := 1) (v := .ref (a 5)) (C := RX1) (T := TX1) (N := 10) hx hb hts (fun w9 h9 => List.mem_cons_of_mem _ (inT_X1 w9 h9)) hown hK hP 0 rfl rfl 5 (by decide) (hts (.fieldLink RX1 24 "LinkPredictor$Hierarchy" "hosts" "[I") (List.mem_cons_of_mem _ mw_1_76)) (fun _ h9 => h9) rfl dX1_nestOf_1 ?_
  refine lv_iload_n hx hb dX1_nestOf_4 rfl (lv_at hl 1 rfl) ?_
  refine ro_ald hx hb hEV hP 5 (j := x) rfl (by omega) (by decide) dX1_nestOf_5 ?_
  refine top_eq ((ok.ho hnx).trans (wf.1 x hnx).2.1.2) ?_
  refine lv_istore_n (lv' := [(2, .int (nI (sN (τ 5 x)))), (0, .ref (a 0)), (1, .int (nI x))]) hx hb dX1_nestOf_6 rfl hl (by decide) rfl (fun ls hl => ?_)
  refine lv_aload_n hx hb dX1_nestOf_7 rfl (lv_at hl 1 rfl) ?_
  refine lv_iload_n hx hb dX1_nestOf_8 rfl (lv_at hl 0 rfl) ?_
  refine ro_V [.int (nI (sN (τ 5 x)))] [] ⟨hx, hb, hml, hown, hts⟩ (c_X1_isThere l D cI cZ cB cR a h τ (sN (τ 5 x)) ok (by omega)) (cwV (C := RX1) 1 hts (goodP (ps := [.methodLink RX1 47 yX1_isThere, .instanceMethod yX1_isThere, .selects RX1 yX1_isThere yX1_isThere, .initialized RX1]) (all4 mw_1_42 mw_1_43 mw_1_44 mw_1_3) mw_1_45) rfl rfl rfl (by decide +kernel) ⟨Nat.le_of_ble_eq_true rfl, Nat.le_of_ble_eq_true rfl⟩) hEV hP 0 rfl rfl rfl hl.1 rfl (Nat.le_of_ble_eq_true rfl) dX1_nestOf_9 ⟨Nat.zero_le _, Nat.zero_le _⟩ ?_
  refine lv_if_eq (tgt := 38) hx hb dX1_nestOf_12 (by decide) (fun c_12 => ?_) (fun c_12 => ?_)
  · have c_12 : ¬ ((thB τ (sN (τ 5 x))) = true) := b2i_f c_12
    have hE := (if_neg c_12).symm.trans hE
    refine lv_iload_n hx hb dX1_nestOf_38 rfl (lv_at hl 2 rfl) ?_
    exact W.iret hx hb hr (fun t9 ht9 _ => ⟨_, rfl, hE, ht9⟩) (fun _ h9 => by cases h9) dX1_nestOf_39
  · have c_12 : (thB τ (sN (τ 5 x))) = true := b2i_t c_12
    have hE := (if_pos c_12).symm.trans hE
    refine lv_aload_n hx hb dX1_nestOf_15 rfl (lv_at hl 1 rfl) ?_
    refine lv_iload_n hx hb dX1_nestOf_16 rfl (lv_at hl 0 rfl) ?_
    refine lv_iload_n hx hb dX1_nestOf_17 rfl (lv_at hl 2 rfl) ?_
    refine ro_V [.int (nI (sN (τ 5 x))), .int (nI x)] [] ⟨hx, hb, hml, hown, hts⟩ (c_X1_isSamePackage l D cI cZ cB cR a h τ (sN (τ 5 x)) x ok (by omega) (by omega)) (cwV (C := RX1) 2 hts (goodP (ps := [.methodLink RX1 64 yX1_isSamePackage, .instanceMethod yX1_isSamePackage, .selects RX1 yX1_isSamePackage yX1_isSamePackage, .initialized RX1]) (all4 mw_2_83 mw_2_84 mw_2_85 mw_1_3) mw_2_86) rfl rfl rfl (by decide +kernel) ⟨Nat.le_of_ble_eq_true rfl, Nat.le_of_ble_eq_true rfl⟩) hEV hP 0 rfl rfl rfl hl.1 rfl (Nat.le_of_ble_eq_true rfl) dX1_nestOf_18 ⟨Nat.zero_le _, Nat.zero_le _⟩ ?_
    refine lv_if_eq (tgt := 38) hx hb dX1_nestOf_21 (by decide) (fun c_21 => ?_) (fun c_21 => ?_)
    · have c_21 : ¬ ((decide (τ 2 (sN (τ 5 x)) = τ 2 x)) = true) := b2i_f c_21
      have hE := (if_neg c_21).symm.trans hE
      refine lv_iload_n hx hb dX1_nestOf_38 rfl (lv_at hl 2 rfl) ?_
      exact W.iret hx hb hr (fun t9 ht9 _ => ⟨_, rfl, hE, ht9⟩) (fun _ h9 => by cases h9) dX1_nestOf_39
    · have c_21 : (decide (τ 2 (sN (τ 5 x)) = τ 2 x)) = true := b2i_t c_21
      have hE := (if_pos c_21).symm.trans hE
      refine lv_aload_n hx hb dX1_nestOf_24 rfl (lv_at hl 1 rfl) ?_
      refine va_get (D := D) (ci := 1) (v := .ref (a 5)) (C := RX1) (T := TX1) (N := 10) hx hb hts (fun w9 h9 => List.mem_cons_of_mem _ (inT_X1 w9 h9)) hown hK hP 0 rfl rfl 5 (by decide) (hts (.fieldLink RX1 24 "LinkPredictor$Hierarchy" "hosts" "[I") (List.mem_cons_of_mem _ mw_1_76)) (fun _ h9 => h9) rfl dX1_nestOf_25 ?_
      refine lv_iload_n hx hb dX1_nestOf_28 rfl (lv_at hl 0 rfl) ?_
      refine ro_ald hx hb hEV hP 5 (j := (sN (τ 5 x))) rfl (by omega) (by decide) dX1_nestOf_29 ?_
      refine lv_iload_n hx hb dX1_nestOf_30 rfl (lv_at hl 0 rfl) ?_
      refine lv_icmp_ne (tgt := 38) hx hb dX1_nestOf_31 (by decide) (fun c_31 => ?_) (fun c_31 => ?_)
      · skip
        have hE := (if_neg c_31).symm.trans hE
        refine lv_iload_n hx hb dX1_nestOf_38 rfl (lv_at hl 2 rfl) ?_
        exact W.iret hx hb hr (fun t9 ht9 _ => ⟨_, rfl, hE, ht9⟩) (fun _ h9 => by cases h9) dX1_nestOf_39
      · skip
        have hE := (if_pos c_31).symm.trans hE
        refine lv_iload_n hx hb dX1_nestOf_34 rfl (lv_at hl 0 rfl) ?_
        refine lv_goto (tgt := 39) hx hb dX1_nestOf_35 (by decide) ?_
        exact W.iret hx hb hr (fun t9 ht9 _ => ⟨_, rfl, hE, ht9⟩) (fun _ h9 => by cases h9) dX1_nestOf_39
def p_X1_hasWrongParents_42 (h : Nat → Nat → Int32) (τ : Nat → Nat → Int32) (x : Nat) : Nat → Nat → Int32
  | 0, _ => 0
  | k + 1, n3 => if 12 ≤ n3 then ((0 : Int32)) else (if (bt (h 3 x) n3) = true then (if (bt (τ 1 n3) 1) = true then (p_X1_hasWrongParents_42 h τ x k (n3 + 1)) else ((1 : Int32))) else (p_X1_hasWrongParents_42 h τ x k (n3 + 1)))
def p_X1_hasWrongParents_26 (h : Nat → Nat → Int32) (τ : Nat → Nat → Int32) (x : Nat) : Int32 := if (bt (τ 1 x) 1) = true then (if (h 2 x) = (0 : Int32) then (p_X1_hasWrongParents_42 h τ x 13 0) else ((1 : Int32))) else (p_X1_hasWrongParents_42 h τ x 13 0)
def p_X1_hasWrongParents (h : Nat → Nat → Int32) (τ : Nat → Nat → Int32) (x : Nat) : Int32 := if (h 2 x) = (-1 : Int32) then (p_X1_hasWrongParents_26 h τ x ) else (if ((h 0 (h 2 x).toNatClampNeg) &&& (10 : Int32)) = (0 : Int32) then (p_X1_hasWrongParents_26 h τ x ) else ((1 : Int32)))
theorem pl_X1_hwp (h τ : Nat → Nat → Int32) (x : Nat) (ok : OKB h τ) (wf : WFT τ) (hnx : x < 12) : ∀ k i, 12 - i < k → i ≤ 12 → (∀ j, j < i → (bt (τ 4 x) j && !(bt (τ 1 j) 1)) = false) → p_X1_hasWrongParents_42 h τ x k i = b2i (exB (fun u => bt (τ 4 x) u && !(bt (τ 1 u) 1)) 12) := by
  intro k
  induction k with
  | zero => intro i h1; omega
  | succ k ih =>
    intro i hk hi h0
    rw [p_X1_hasWrongParents_42]
    by_cases c : 12 ≤ i
    · rw [if_pos c]
      have e : i = 12 := by omega
      subst e
      unfold exB
      rw [fst_none h0]
      rfl
    · rw [if_neg c, ok.fa hnx]
      have step : (bt (τ 4 x) i && !(bt (τ 1 i) 1)) = false → p_X1_hasWrongParents_42 h τ x k (i + 1) = b2i (exB (fun u => bt (τ 4 x) u && !(bt (τ 1 u) 1)) 12) := fun q => ih (i + 1) (by omega) (by omega) (fun j hj => by
        rcases Nat.lt_or_ge j i with z9 | z9
        · exact h0 j z9
        · have e : j = i := by omega
          subst e
          exact q)
      by_cases c1 : bt (τ 4 x) i = true
      · rw [if_pos c1]
        by_cases c2 : bt (τ 1 i) 1 = true
        · rw [if_pos c2]; exact step (by simp [c2])
        · rw [if_neg c2, exB_iff.mpr ⟨i, by omega, by simp [c1, c2]⟩]; rfl
      · rw [if_neg c1]; exact step (by simp [c1])
theorem pe_X1_hasWrongParents (h : Nat → Nat → Int32) (τ : Nat → Nat → Int32) (x : Nat) (ok : OKB h τ) (wf : WFT τ) (hnx : x < 12) : p_X1_hasWrongParents h τ x = b2i (wrB τ x) := by
  have hl := pl_X1_hwp h τ x ok wf hnx 13 0 (by omega) (by omega) (fun j q => absurd q (Nat.not_lt_zero j))
  have hk : p_X1_hasWrongParents_26 h τ x = b2i ((bt (τ 1 x) 1 && !decide (τ 3 x = 0)) || exB (fun u => bt (τ 4 x) u && !(bt (τ 1 u) 1)) 12) := by
    rw [p_X1_hasWrongParents_26, ok.su hnx]
    by_cases c1 : bt (τ 1 x) 1 = true
    · rw [if_pos c1]
      by_cases c2 : τ 3 x = 0
      · rw [if_pos c2, hl]; simp [c1, c2]
      · rw [if_neg c2]; simp [c1, c2, b2i]
    · rw [if_neg c1, hl]; simp [c1]
  rw [p_X1_hasWrongParents, ok.su hnx, hk]
  unfold wrB
  by_cases c1 : τ 3 x = -1
  · rw [if_pos c1]; simp [c1]
  · rw [if_neg c1]
    have hs := (wf.1 x hnx).1.resolve_left c1
    show (if h 0 (sN (τ 3 x)) &&& 10 = 0 then _ else _) = _
    rw [ok.fl hs.1]
    by_cases c2 : τ 1 (sN (τ 3 x)) &&& 10 = 0
    · rw [if_pos c2]
      have := and10_eq.mp c2
      simp only [not_or, Bool.not_eq_true] at this
      simp [c1, this.1, this.2]
    · rw [if_neg c2]
      have e : bt (τ 1 (sN (τ 3 x))) 1 = true ∨ bt (τ 1 (sN (τ 3 x))) 3 = true := Classical.byContradiction (fun z => c2 (and10_eq.mpr z))
      rcases e with e | e <;> simp [c1, e, b2i]
set_option maxHeartbeats 4000000 in
set_option maxRecDepth 100000 in
theorem c_X1_hasWrongParents (l : Launch) (D : va_G) (cI cZ cB cR : ClassId) (a : Nat → Nat) (h : Nat → Nat → Int32) (τ : Nat → Nat → Int32) (x : Nat) (ok : OKB h τ) (wf : WFT τ) (hnx : x < 12) : RO l yX1_hasWrongParents wsX1_hasWrongParents ({ frames := 1, cells := 0, slots := 0, locals := 21 } : Room) D cI cZ cB cR (wH cI a h) [.ref (a 0), .int (nI x)] (b2i (wrB τ x)) := by
  have hE : p_X1_hasWrongParents h τ x = b2i (wrB τ x) := pe_X1_hasWrongParents h τ x ok wf hnx
  refine Met.ofW (cc := cX1_hasWrongParents) (maxL := 4) (ret := (some .boolean)) (by decide) rfl ?_
  intro p e s m args below meth c s₁ B hml hv
  obtain ⟨hargs, hP, hEV⟩ := hv
  have hx := B.exec
  have hb := B.bytes
  have hr := B.returns
  have hts := atoms_spec (ws := wsX1_hasWrongParents) B.pre
  have hown : s.vm.findClass RX1 = some m.cls := findClass_of_methodNamed B.named
  have hlocks := B.notSynchronized
  have hK := hEV.1
  have hl := lv_entry ([.ref (a 0), .int (nI x)]) (n := 4) (Nat.le_of_ble_eq_true rfl)
  rw [show entryFrame m args 4 = entryFrame m ([.ref (a 0), .int (nI x)] : List Value).toArray 4 from by rw [hargs], lg_entry_eq]
  generalize (lg_sl ([.ref (a 0), .int (nI x)]) ++ List.replicate (4 - (lg_sl ([.ref (a 0), .int (nI x)])).length) Slot.unset).toArray = ls at hl ⊢
  have hl : lv_has ls 4 [(0, .ref (a 0)), (1, .int (nI x))] := hl
  rw [p_X1_hasWrongParents] at hE
  have key_42 : ∀ (k_42 : Nat) (n3 : Nat) (ls : Array Slot), (12 - n3) < k_42 → n3 ≤ 12 → lv_has ls 4 [(3, .int (nI n3)), (0, .ref (a 0)), (1, .int (nI x))] → p_X1_hasWrongParents_42 h τ x k_42 n3 = b2i (wrB τ x) → W p l e (headSpec wsX1_hasWrongParents ({ frames := 1, cells := 0, slots := 0, locals := 21 } : Room)).room s m args below meth c s.heap [] 0 0 (MQ below (vp_Si (fun r => r = b2i (wrB τ x))) args s 0 0 (fun _ => False)) (F0 m 42 ls []) := by
    intro k_42
    induction k_42 with
    | zero => intro n3 ls hm; exact absurd hm (Nat.not_lt_zero _)
    | succ k_42 ih_42 =>
      intro n3 ls hm_42 hi_42_0 hl hE
      rw [p_X1_hasWrongParents_42] at hE
      refine lv_iload_n hx hb dX1_hasWrongParents_42 rfl (lv_at hl 0 rfl) ?_
      refine lv_bipush (v := (12 : Int32)) hx hb dX1_hasWrongParents_43 (by decide) ?_
      refine lv_icmp_ge (tgt := 77) hx hb dX1_hasWrongParents_45 (by decide) (fun c_45 => ?_) (fun c_45 => ?_)
      · have c_45 : 12 ≤ n3 := (nI_leI (a := 12) (b := n3) (by omega) (by omega)).mp c_45
        have hE := (if_pos c_45).symm.trans hE
        refine lv_iconst (v := (0 : Int32)) hx hb dX1_hasWrongParents_77 (by decide) ?_
        exact W.zret hx hb hr rfl (fun t9 ht9 _ => ⟨_, rfl, hE, ht9⟩) (fun _ h9 => by cases h9) dX1_hasWrongParents_78
      · have c_45 : ¬ (12 ≤ n3) := fun q9 => c_45 ((nI_leI (a := 12) (b := n3) (by omega) (by omega)).mpr q9)
        have hE := (if_neg c_45).symm.trans hE
        refine lv_aload_n hx hb dX1_hasWrongParents_48 rfl (lv_at hl 1 rfl) ?_
        refine va_get (D := D) (ci := 1) (v := .ref (a 4)) (C := RX1) (T := TX1) (N := 10) hx hb hts (fun w9 h9 => List.mem_cons_of_mem _ (inT_X1 w9 h9)) hown hK hP 0 rfl rfl 4 (by decide) (hts (.fieldLink RX1 21 "LinkPredictor$Hierarchy" "directFaces" "[I") (List.mem_cons_of_mem _ mw_1_75)) (fun _ h9 => h9) rfl dX1_hasWrongParents_49 ?_
        refine lv_iload_n hx hb dX1_hasWrongParents_52 rfl (lv_at hl 2 rfl) ?_
        refine ro_ald hx hb hEV hP 4 (j := x) rfl (by omega) (by decide) dX1_hasWrongParents_53 ?_
        refine lv_iload_n hx hb dX1_hasWrongParents_54 rfl (lv_at hl 0 rfl) ?_
        refine ro_SN [.int (h 3 x), .int (nI n3)] [] ⟨hx, hb, hml, hown, hts⟩ (c_X4_contains l D cI cZ cB cR (h 3 x) n3 (by omega)) (va_cnB (host := "LinkPredictor") 2 hts (goodC mw_1_48) rfl rfl rfl (hEV.2 (.methodLinkNest RX1 57 yX4_contains "LinkPredictor") (by decide +kernel)) (hts (.initialized RX4) (List.mem_cons_of_mem _ mw_1_1)) (by decide +kernel) ⟨Nat.le_of_ble_eq_true rfl, Nat.le_of_ble_eq_true rfl⟩) (hts (.static yX4_contains) (List.mem_cons_of_mem _ mw_1_47)) hEV va_P0 rfl hl.1 rfl (Nat.le_of_ble_eq_true rfl) dX1_hasWrongParents_55 ⟨Nat.zero_le _, Nat.zero_le _⟩ ?_
        refine lv_if_eq (tgt := 71) hx hb dX1_hasWrongParents_58 (by decide) (fun c_58 => ?_) (fun c_58 => ?_)
        · have c_58 : ¬ ((bt (h 3 x) n3) = true) := b2i_f c_58
          have hE := (if_neg c_58).symm.trans hE
          refine lv_iinc (v := nI (n3 + 1)) (lv' := [(3, .int (nI (n3 + 1))), (0, .ref (a 0)), (1, .int (nI x))]) hx hb dX1_hasWrongParents_71 hl (k := 0) rfl (nI_1 _) (by decide) rfl (fun ls hl => ?_)
          refine lv_goto (tgt := 42) hx hb dX1_hasWrongParents_74 (by decide) ?_
          exact ih_42 (n3 + 1) ls (by omega) (by omega) (lv_sub hl [0, 1, 2] rfl) hE
        · have c_58 : (bt (h 3 x) n3) = true := b2i_t c_58
          have hE := (if_pos c_58).symm.trans hE
          refine lv_aload_n hx hb dX1_hasWrongParents_61 rfl (lv_at hl 1 rfl) ?_
          refine lv_iload_n hx hb dX1_hasWrongParents_62 rfl (lv_at hl 0 rfl) ?_
          refine ro_V [.int (nI n3)] [] ⟨hx, hb, hml, hown, hts⟩ (c_X1_isInterface l D cI cZ cB cR a h τ n3 ok (by omega)) (cwV (C := RX1) 1 hts (goodP (ps := [.methodLink RX1 92 yX1_isInterface, .instanceMethod yX1_isInterface, .selects RX1 yX1_isInterface yX1_isInterface, .initialized RX1]) (all4 mw_1_63 mw_1_64 mw_1_65 mw_1_3) mw_1_66) rfl rfl rfl (by decide +kernel) ⟨Nat.le_of_ble_eq_true rfl, Nat.le_of_ble_eq_true rfl⟩) hEV hP 0 rfl rfl rfl hl.1 rfl (Nat.le_of_ble_eq_true rfl) dX1_hasWrongParents_63 ⟨Nat.zero_le _, Nat.zero_le _⟩ ?_
          refine lv_if_ne (tgt := 71) hx hb dX1_hasWrongParents_66 (by decide) (fun c_66 => ?_) (fun c_66 => ?_)
          · have c_66 : (bt (τ 1 n3) 1) = true := b2i_t c_66
            have hE := (if_pos c_66).symm.trans hE
            refine lv_iinc (v := nI (n3 + 1)) (lv' := [(3, .int (nI (n3 + 1))), (0, .ref (a 0)), (1, .int (nI x))]) hx hb dX1_hasWrongParents_71 hl (k := 0) rfl (nI_1 _) (by decide) rfl (fun ls hl => ?_)
            refine lv_goto (tgt := 42) hx hb dX1_hasWrongParents_74 (by decide) ?_
            exact ih_42 (n3 + 1) ls (by omega) (by omega) (lv_sub hl [0, 1, 2] rfl) hE
          · have c_66 : ¬ ((bt (τ 1 n3) 1) = true) := b2i_f c_66
            have hE := (if_neg c_66).symm.trans hE
            refine lv_iconst (v := (1 : Int32)) hx hb dX1_hasWrongParents_69 (by decide) ?_
            exact W.zret hx hb hr rfl (fun t9 ht9 _ => ⟨_, rfl, hE, ht9⟩) (fun _ h9 => by cases h9) dX1_hasWrongParents_70
  have key_26 : ∀ (ls : Array Slot), lv_has ls 4 [(2, .int (h 2 x)), (0, .ref (a 0)), (1, .int (nI x))] → p_X1_hasWrongParents_26 h τ x  = b2i (wrB τ x) → W p l e (headSpec wsX1_hasWrongParents ({ frames := 1, cells := 0, slots := 0, locals := 21 } : Room)).room s m args below meth c s.heap [] 0 0 (MQ below (vp_Si (fun r => r = b2i (wrB τ x))) args s 0 0 (fun _ => False)) (F0 m 26 ls []) := by
    intro  ls  hl hE
    rw [p_X1_hasWrongParents_26] at hE
    refine lv_aload_n hx hb dX1_hasWrongParents_26 rfl (lv_at hl 1 rfl) ?_
    refine lv_iload_n hx hb dX1_hasWrongParents_27 rfl (lv_at hl 2 rfl) ?_
    refine ro_V [.int (nI x)] [] ⟨hx, hb, hml, hown, hts⟩ (c_X1_isInterface l D cI cZ cB cR a h τ x ok (by omega)) (cwV (C := RX1) 1 hts (goodP (ps := [.methodLink RX1 92 yX1_isInterface, .instanceMethod yX1_isInterface, .selects RX1 yX1_isInterface yX1_isInterface, .initialized RX1]) (all4 mw_1_63 mw_1_64 mw_1_65 mw_1_3) mw_1_66) rfl rfl rfl (by decide +kernel) ⟨Nat.le_of_ble_eq_true rfl, Nat.le_of_ble_eq_true rfl⟩) hEV hP 0 rfl rfl rfl hl.1 rfl (Nat.le_of_ble_eq_true rfl) dX1_hasWrongParents_28 ⟨Nat.zero_le _, Nat.zero_le _⟩ ?_
    refine lv_if_eq (tgt := 40) hx hb dX1_hasWrongParents_31 (by decide) (fun c_31 => ?_) (fun c_31 => ?_)
    · have c_31 : ¬ ((bt (τ 1 x) 1) = true) := b2i_f c_31
      have hE := (if_neg c_31).symm.trans hE
      refine lv_iconst (v := (0 : Int32)) hx hb dX1_hasWrongParents_40 (by decide) ?_
      refine lv_istore_n (lv' := [(3, .int (0 : Int32)), (2, .int (h 2 x)), (0, .ref (a 0)), (1, .int (nI x))]) hx hb dX1_hasWrongParents_41 rfl hl (by decide) rfl (fun ls hl => ?_)
      exact key_42 13 0 ls (by omega) (by omega) (lv_sub hl [0, 2, 3] rfl) hE
    · have c_31 : (bt (τ 1 x) 1) = true := b2i_t c_31
      have hE := (if_pos c_31).symm.trans hE
      refine lv_iload_n hx hb dX1_hasWrongParents_34 rfl (lv_at hl 0 rfl) ?_
      refine lv_if_eq (tgt := 40) hx hb dX1_hasWrongParents_35 (by decide) (fun c_35 => ?_) (fun c_35 => ?_)
      · skip
        have hE := (if_pos c_35).symm.trans hE
        refine lv_iconst (v := (0 : Int32)) hx hb dX1_hasWrongParents_40 (by decide) ?_
        refine lv_istore_n (lv' := [(3, .int (0 : Int32)), (2, .int (h 2 x)), (0, .ref (a 0)), (1, .int (nI x))]) hx hb dX1_hasWrongParents_41 rfl hl (by decide) rfl (fun ls hl => ?_)
        exact key_42 13 0 ls (by omega) (by omega) (lv_sub hl [0, 2, 3] rfl) hE
      · skip
        have hE := (if_neg c_35).symm.trans hE
        refine lv_iconst (v := (1 : Int32)) hx hb dX1_hasWrongParents_38 (by decide) ?_
        exact W.zret hx hb hr rfl (fun t9 ht9 _ => ⟨_, rfl, hE, ht9⟩) (fun _ h9 => by cases h9) dX1_hasWrongParents_39
  refine lv_aload_n hx hb dX1_hasWrongParents_0 rfl (lv_at hl 0 rfl) ?_
  refine va_get (D := D) (ci := 1) (v := .ref (a 3)) (C := RX1) (T := TX1) (N := 10) hx hb hts (fun w9 h9 => List.mem_cons_of_mem _ (inT_X1 w9 h9)) hown hK hP 0 rfl rfl 3 (by decide) (hts (.fieldLink RX1 18 "LinkPredictor$Hierarchy" "supers" "[I") (List.mem_cons_of_mem _ mw_1_74)) (fun _ h9 => h9) rfl dX1_hasWrongParents_1 ?_
  refine lv_iload_n hx hb dX1_hasWrongParents_4 rfl (lv_at hl 1 rfl) ?_
  refine ro_ald hx hb hEV hP 3 (j := x) rfl (by omega) (by decide) dX1_hasWrongParents_5 ?_
  refine lv_istore_n (lv' := [(2, .int (h 2 x)), (0, .ref (a 0)), (1, .int (nI x))]) hx hb dX1_hasWrongParents_6 rfl hl (by decide) rfl (fun ls hl => ?_)
  refine lv_iload_n hx hb dX1_hasWrongParents_7 rfl (lv_at hl 0 rfl) ?_
  refine lv_iconst (v := (-1 : Int32)) hx hb dX1_hasWrongParents_8 (by decide) ?_
  refine lv_icmp_eq (tgt := 26) hx hb dX1_hasWrongParents_9 (by decide) (fun c_9 => ?_) (fun c_9 => ?_)
  · skip
    have hE := (if_pos c_9).symm.trans hE
    exact key_26  ls  (lv_sub hl [0, 1, 2] rfl) hE
  · skip
    have hE := (if_neg c_9).symm.trans hE
    refine lv_aload_n hx hb dX1_hasWrongParents_12 rfl (lv_at hl 1 rfl) ?_
    refine va_get (D := D) (ci := 1) (v := .ref (a 1)) (C := RX1) (T := TX1) (N := 10) hx hb hts (fun w9 h9 => List.mem_cons_of_mem _ (inT_X1 w9 h9)) hown hK hP 0 rfl rfl 1 (by decide) (hts (.fieldLink RX1 9 "LinkPredictor$Hierarchy" "flags" "[I") (List.mem_cons_of_mem _ mw_1_72)) (fun _ h9 => h9) rfl dX1_hasWrongParents_13 ?_
    refine lv_iload_n hx hb dX1_hasWrongParents_16 rfl (lv_at hl 0 rfl) ?_
    refine ro_aldI hx hb hEV hP 1 rfl (vp_of_isT (ok.su hnx) ((wf.1 x hnx).1.resolve_left (fun z9 => c_9 ((ok.su hnx).trans z9)))) dX1_hasWrongParents_17 ?_
    refine lv_bipush (v := (10 : Int32)) hx hb dX1_hasWrongParents_18 (by decide) ?_
    refine lv_iand hx hb dX1_hasWrongParents_20 ?_
    refine lv_if_eq (tgt := 26) hx hb dX1_hasWrongParents_21 (by decide) (fun c_21 => ?_) (fun c_21 => ?_)
    · skip
      have hE := (if_pos c_21).symm.trans hE
      exact key_26  ls  (lv_sub hl [0, 1, 2] rfl) hE
    · skip
      have hE := (if_neg c_21).symm.trans hE
      refine lv_iconst (v := (1 : Int32)) hx hb dX1_hasWrongParents_24 (by decide) ?_
      exact W.zret hx hb hr rfl (fun t9 ht9 _ => ⟨_, rfl, hE, ht9⟩) (fun _ h9 => by cases h9) dX1_hasWrongParents_25
def p_X1_gatherSets_67 (τ : Nat → Nat → Int32) (x : Nat) : Nat → Nat → Int32 → (Nat → Nat → Int32) → (Nat → Nat → Int32)
  | 0, _, _, h => h
  | k + 1, n4, v3, h => if 12 ≤ n4 then (st2 h 7 x v3) else (if (bt (h 3 x) n4) = true then (p_X1_gatherSets_67 τ x k (n4 + 1) (v3 ||| (h 7 n4)) h) else (p_X1_gatherSets_67 τ x k (n4 + 1) v3 h))
def p_X1_gatherSets_63 (τ : Nat → Nat → Int32) (x : Nat) (vs0 : Int32) (h : (Nat → Nat → Int32)) : (Nat → Nat → Int32) := p_X1_gatherSets_67 τ x 13 0 vs0 h
def p_X1_gatherSets_35 (τ : Nat → Nat → Int32) (x : Nat) (vs0 : Int32) (h : (Nat → Nat → Int32)) : (Nat → Nat → Int32) := if (τ 3 x) = (-1 : Int32) then (p_X1_gatherSets_63 τ x ((st2 h 6 x vs0) 3 x) (st2 h 6 x vs0)) else (p_X1_gatherSets_63 τ x (((st2 h 6 x vs0) 3 x) ||| ((st2 h 6 x vs0) 7 (sN (τ 3 x)))) (st2 h 6 x vs0))
def p_X1_gatherSets (τ : Nat → Nat → Int32) (x : Nat) (h : (Nat → Nat → Int32)) : (Nat → Nat → Int32) := if (τ 3 x) = (-1 : Int32) then (p_X1_gatherSets_35 τ x (bm x) h) else (p_X1_gatherSets_35 τ x ((bm x) ||| (h 6 (sN (τ 3 x)))) h)
set_option maxHeartbeats 4000000 in
set_option maxRecDepth 100000 in
theorem c_X1_gatherSets (l : Launch) (D : va_G) (cI cZ cB cR : ClassId) (a : Nat → Nat) (h τ : Nat → Nat → Int32) (x : Nat) (hT : vwH h = τ) (wf : WFT τ) (hnx : x < 12) : MUv l yX1_gatherSets wsX1_gatherSets ({ frames := 1, cells := 0, slots := 0, locals := 21 } : Room) D cI cZ cB cR (wH cI a h) [.ref (a 0), .int (nI x)] (fun (_ : Unit) => wH cI a ((p_X1_gatherSets τ x h))) (fun _ => True) := by
  generalize hE : p_X1_gatherSets τ x h = tgt
  intro sz
  refine Met.ofW (cc := cX1_gatherSets) (maxL := 5) (ret := none) (by decide) rfl ?_
  intro p e s m args below meth c s₁ B hml hv
  obtain ⟨hargs, hsz, hP, hEV, hD0⟩ := hv
  have hx := B.exec
  have hb := B.bytes
  have hr := B.returns
  have hts := atoms_spec (ws := wsX1_gatherSets) B.pre
  have hown : s.vm.findClass RX1 = some m.cls := findClass_of_methodNamed B.named
  have hlocks := B.notSynchronized
  have hK := hEV.1
  have hl := lv_entry ([.ref (a 0), .int (nI x)]) (n := 5) (Nat.le_of_ble_eq_true rfl)
  rw [show entryFrame m args 5 = entryFrame m ([.ref (a 0), .int (nI x)] : List Value).toArray 5 from by rw [hargs], lg_entry_eq]
  generalize (lg_sl ([.ref (a 0), .int (nI x)]) ++ List.replicate (5 - (lg_sl ([.ref (a 0), .int (nI x)])).length) Slot.unset).toArray = ls at hl ⊢
  have hl : lv_has ls 5 [(0, .ref (a 0)), (1, .int (nI x))] := hl
  subst hsz
  have hD := hD0.self (sz := s.heap.size)
  generalize hAe : va_A (wH cI a h) s.heap.size = A at hD ⊢
  have hA : ∀ q : Nat, s.heap.size ≤ q → A q := fun q h9 => by rw [← hAe]; exact Or.inr h9
  have hS : va_S A s.heap s.heap [] := va_S.rf
  rw [p_X1_gatherSets] at hE
  have key_67 : ∀ (k_67 : Nat) (n4 : Nat) (v3 : Int32) (h : (Nat → Nat → Int32)) (ls : Array Slot) (H : Heap) (locs : List Loc) (hP : va_P D vwCl (wH cI a h) H) (hD : va_D A (wH cI a h)) (hS : va_S A s.heap H locs), (12 - n4) < k_67 → vwH h = τ → n4 ≤ 12 → lv_has ls 5 [(4, .int (nI n4)), (3, .int v3), (0, .ref (a 0)), (1, .int (nI x))] → p_X1_gatherSets_67 τ x k_67 n4 v3 h = tgt → W p l e (headSpec wsX1_gatherSets ({ frames := 1, cells := 0, slots := 0, locals := 21 } : Room)).room s m args below meth c H locs 0 0 (MQ below (va_Qv (fun (_ : Unit) => True) (fun _ t => va_P D vwCl (wH cI a tgt) t.heap) A) args s 0 0 A) (F0 m 67 ls []) := by
    intro k_67
    induction k_67 with
    | zero => intro n4 v3 h ls H locs hP hD hS hm; exact absurd hm (Nat.not_lt_zero _)
    | succ k_67 ih_67 =>
      intro n4 v3 h ls H locs hP hD hS hm_67 hi_67_0 hi_67_1 hl hE
      rw [p_X1_gatherSets_67] at hE
      have hT := hi_67_0
      refine lv_iload hx hb dX1_gatherSets_67 (lv_at hl 0 rfl) ?_
      refine lv_bipush (v := (12 : Int32)) hx hb dX1_gatherSets_69 (by decide) ?_
      refine lv_icmp_ge (tgt := 104) hx hb dX1_gatherSets_71 (by decide) (fun c_71 => ?_) (fun c_71 => ?_)
      · have c_71 : 12 ≤ n4 := (nI_leI (a := 12) (b := n4) (by omega) (by omega)).mp c_71
        have hE := (if_pos c_71).symm.trans hE
        refine lv_aload_n hx hb dX1_gatherSets_104 rfl (lv_at hl 2 rfl) ?_
        refine va_get (D := D) (ci := 1) (v := .ref (a 8)) (C := RX1) (T := TX1) (N := 10) hx hb hts (fun w9 h9 => List.mem_cons_of_mem _ (inT_X1 w9 h9)) hown hK hP 0 rfl rfl 9 (by decide) (hts (.fieldLink RX1 33 "LinkPredictor$Hierarchy" "allFaces" "[I") (List.mem_cons_of_mem _ mw_1_80)) (fun _ h9 => h9) rfl dX1_gatherSets_105 ?_
        refine lv_iload_n hx hb dX1_gatherSets_108 rfl (lv_at hl 3 rfl) ?_
        refine lv_iload_n hx hb dX1_gatherSets_109 rfl (lv_at hl 1 rfl) ?_
        refine mu_ast hx hb hEV hP hD hS 8 (j := x) (v := v3) (w2 := wH cI a (st2 h 7 x v3)) rfl (by omega) (by decide) rfl dX1_gatherSets_110 (fun H locs hP hD hS => ?_)
        exact W.vret hx hb hr (fun t9 ht9 _ => ⟨⟨(), rfl, trivial, by show va_P D vwCl _ t9.heap; rw [ht9, ← hE]; exact hP⟩, hS.F ht9⟩) hS.2.2 dX1_gatherSets_111
      · have c_71 : ¬ (12 ≤ n4) := fun q9 => c_71 ((nI_leI (a := 12) (b := n4) (by omega) (by omega)).mpr q9)
        have hE := (if_neg c_71).symm.trans hE
        refine lv_aload_n hx hb dX1_gatherSets_74 rfl (lv_at hl 2 rfl) ?_
        refine va_get (D := D) (ci := 1) (v := .ref (a 4)) (C := RX1) (T := TX1) (N := 10) hx hb hts (fun w9 h9 => List.mem_cons_of_mem _ (inT_X1 w9 h9)) hown hK hP 0 rfl rfl 4 (by decide) (hts (.fieldLink RX1 21 "LinkPredictor$Hierarchy" "directFaces" "[I") (List.mem_cons_of_mem _ mw_1_75)) (fun _ h9 => h9) rfl dX1_gatherSets_75 ?_
        refine lv_iload_n hx hb dX1_gatherSets_78 rfl (lv_at hl 3 rfl) ?_
        refine ro_ald hx hb hEV hP 4 (j := x) rfl (by omega) (by decide) dX1_gatherSets_79 ?_
        refine lv_iload hx hb dX1_gatherSets_80 (lv_at hl 0 rfl) ?_
        refine ro_SN [.int (h 3 x), .int (nI n4)] [] ⟨hx, hb, hml, hown, hts⟩ (c_X4_contains l D cI cZ cB cR (h 3 x) n4 (by omega)) (va_cnB (host := "LinkPredictor") 2 hts (goodC mw_1_48) rfl rfl rfl (hEV.2 (.methodLinkNest RX1 57 yX4_contains "LinkPredictor") (by decide +kernel)) (hts (.initialized RX4) (List.mem_cons_of_mem _ mw_1_1)) (by decide +kernel) ⟨Nat.le_of_ble_eq_true rfl, Nat.le_of_ble_eq_true rfl⟩) (hts (.static yX4_contains) (List.mem_cons_of_mem _ mw_1_47)) hEV va_P0 rfl hl.1 rfl (Nat.le_of_ble_eq_true rfl) dX1_gatherSets_82 ⟨Nat.zero_le _, Nat.zero_le _⟩ ?_
        refine lv_if_eq (tgt := 98) hx hb dX1_gatherSets_85 (by decide) (fun c_85 => ?_) (fun c_85 => ?_)
        · have c_85 : ¬ ((bt (h 3 x) n4) = true) := b2i_f c_85
          have hE := (if_neg c_85).symm.trans hE
          refine lv_iinc (v := nI (n4 + 1)) (lv' := [(4, .int (nI (n4 + 1))), (3, .int v3), (0, .ref (a 0)), (1, .int (nI x))]) hx hb dX1_gatherSets_98 hl (k := 0) rfl (nI_1 _) (by decide) rfl (fun ls hl => ?_)
          refine lv_goto (tgt := 67) hx hb dX1_gatherSets_101 (by decide) ?_
          exact ih_67 (n4 + 1) v3 h ls _ _ hP hD hS (by omega) (by first | omega | exact hT | (simp only [vwH_s5, vwH_s6, vwH_s7, vwH_s8]; exact hT)) (by first | omega | exact hT | (simp only [vwH_s5, vwH_s6, vwH_s7, vwH_s8]; exact hT)) (lv_sub hl [0, 1, 2, 3] rfl) hE
        · have c_85 : (bt (h 3 x) n4) = true := b2i_t c_85
          have hE := (if_pos c_85).symm.trans hE
          refine lv_iload_n hx hb dX1_gatherSets_88 rfl (lv_at hl 1 rfl) ?_
          refine lv_aload_n hx hb dX1_gatherSets_89 rfl (lv_at hl 2 rfl) ?_
          refine va_get (D := D) (ci := 1) (v := .ref (a 8)) (C := RX1) (T := TX1) (N := 10) hx hb hts (fun w9 h9 => List.mem_cons_of_mem _ (inT_X1 w9 h9)) hown hK hP 0 rfl rfl 9 (by decide) (hts (.fieldLink RX1 33 "LinkPredictor$Hierarchy" "allFaces" "[I") (List.mem_cons_of_mem _ mw_1_80)) (fun _ h9 => h9) rfl dX1_gatherSets_90 ?_
          refine lv_iload hx hb dX1_gatherSets_93 (lv_at hl 0 rfl) ?_
          refine ro_ald hx hb hEV hP 8 (j := n4) rfl (by omega) (by decide) dX1_gatherSets_95 ?_
          refine lv_ior hx hb dX1_gatherSets_96 ?_
          refine lv_istore_n (lv' := [(3, .int (v3 ||| (h 7 n4))), (4, .int (nI n4)), (0, .ref (a 0)), (1, .int (nI x))]) hx hb dX1_gatherSets_97 rfl hl (by decide) rfl (fun ls hl => ?_)
          refine lv_iinc (v := nI (n4 + 1)) (lv' := [(4, .int (nI (n4 + 1))), (3, .int (v3 ||| (h 7 n4))), (0, .ref (a 0)), (1, .int (nI x))]) hx hb dX1_gatherSets_98 hl (k := 1) rfl (nI_1 _) (by decide) rfl (fun ls hl => ?_)
          refine lv_goto (tgt := 67) hx hb dX1_gatherSets_101 (by decide) ?_
          exact ih_67 (n4 + 1) (v3 ||| (h 7 n4)) h ls _ _ hP hD hS (by omega) (by first | omega | exact hT | (simp only [vwH_s5, vwH_s6, vwH_s7, vwH_s8]; exact hT)) (by first | omega | exact hT | (simp only [vwH_s5, vwH_s6, vwH_s7, vwH_s8]; exact hT)) (lv_sub hl [0, 1, 2, 3] rfl) hE
  have key_63 : ∀ (vs0 : Int32) (h : (Nat → Nat → Int32)) (ls : Array Slot) (H : Heap) (locs : List Loc) (hP : va_P D vwCl (wH cI a h) H) (hD : va_D A (wH cI a h)) (hS : va_S A s.heap H locs), vwH h = τ → lv_has ls 5 [(0, .ref (a 0)), (1, .int (nI x))] → p_X1_gatherSets_63 τ x vs0 h = tgt → W p l e (headSpec wsX1_gatherSets ({ frames := 1, cells := 0, slots := 0, locals := 21 } : Room)).room s m args below meth c H locs 0 0 (MQ below (va_Qv (fun (_ : Unit) => True) (fun _ t => va_P D vwCl (wH cI a tgt) t.heap) A) args s 0 0 A) (F0 m 63 ls [.int vs0]) := by
    intro vs0 h ls H locs hP hD hS hi_63_0 hl hE
    rw [p_X1_gatherSets_63] at hE
    have hT := hi_63_0
    refine lv_istore_n (lv' := [(3, .int vs0), (0, .ref (a 0)), (1, .int (nI x))]) hx hb dX1_gatherSets_63 rfl hl (by decide) rfl (fun ls hl => ?_)
    refine lv_iconst (v := (0 : Int32)) hx hb dX1_gatherSets_64 (by decide) ?_
    refine lv_istore (lv' := [(4, .int (0 : Int32)), (3, .int vs0), (0, .ref (a 0)), (1, .int (nI x))]) hx hb dX1_gatherSets_65 hl (by decide) rfl (fun ls hl => ?_)
    exact key_67 13 0 vs0 h ls _ _ hP hD hS (by omega) (by first | omega | exact hT | (simp only [vwH_s5, vwH_s6, vwH_s7, vwH_s8]; exact hT)) (by first | omega | exact hT | (simp only [vwH_s5, vwH_s6, vwH_s7, vwH_s8]; exact hT)) (lv_sub hl [0, 1, 2, 3] rfl) hE
  have key_35 : ∀ (vs0 : Int32) (h : (Nat → Nat → Int32)) (ls : Array Slot) (H : Heap) (locs : List Loc) (hP : va_P D vwCl (wH cI a h) H) (hD : va_D A (wH cI a h)) (hS : va_S A s.heap H locs), vwH h = τ → lv_has ls 5 [(2, .int (τ 3 x)), (0, .ref (a 0)), (1, .int (nI x))] → p_X1_gatherSets_35 τ x vs0 h = tgt → W p l e (headSpec wsX1_gatherSets ({ frames := 1, cells := 0, slots := 0, locals := 21 } : Room)).room s m args below meth c H locs 0 0 (MQ below (va_Qv (fun (_ : Unit) => True) (fun _ t => va_P D vwCl (wH cI a tgt) t.heap) A) args s 0 0 A) (F0 m 35 ls [.int vs0, .int (nI x), .ref (a 7)]) := by
    intro vs0 h ls H locs hP hD hS hi_35_0 hl hE
    rw [p_X1_gatherSets_35] at hE
    have hT := hi_35_0
    refine mu_ast hx hb hEV hP hD hS 7 (j := x) (v := vs0) (w2 := wH cI a (st2 h 6 x vs0)) rfl (by omega) (by decide) rfl dX1_gatherSets_35 (fun H locs hP hD hS => ?_)
    refine lv_iload_n hx hb dX1_gatherSets_36 rfl (lv_at hl 0 rfl) ?_
    refine lv_iconst (v := (-1 : Int32)) hx hb dX1_gatherSets_37 (by decide) ?_
    refine lv_icmp_ne (tgt := 50) hx hb dX1_gatherSets_38 (by decide) (fun c_38 => ?_) (fun c_38 => ?_)
    · skip
      have hE := (if_neg c_38).symm.trans hE
      have hs9 := ((wf.1 x hnx).1.resolve_left c_38).1
      refine lv_aload_n hx hb dX1_gatherSets_50 rfl (lv_at hl 1 rfl) ?_
      refine va_get (D := D) (ci := 1) (v := .ref (a 4)) (C := RX1) (T := TX1) (N := 10) hx hb hts (fun w9 h9 => List.mem_cons_of_mem _ (inT_X1 w9 h9)) hown hK hP 0 rfl rfl 4 (by decide) (hts (.fieldLink RX1 21 "LinkPredictor$Hierarchy" "directFaces" "[I") (List.mem_cons_of_mem _ mw_1_75)) (fun _ h9 => h9) rfl dX1_gatherSets_51 ?_
      refine lv_iload_n hx hb dX1_gatherSets_54 rfl (lv_at hl 2 rfl) ?_
      refine ro_ald hx hb hEV hP 4 (j := x) rfl (by omega) (by decide) dX1_gatherSets_55 ?_
      refine lv_aload_n hx hb dX1_gatherSets_56 rfl (lv_at hl 1 rfl) ?_
      refine va_get (D := D) (ci := 1) (v := .ref (a 8)) (C := RX1) (T := TX1) (N := 10) hx hb hts (fun w9 h9 => List.mem_cons_of_mem _ (inT_X1 w9 h9)) hown hK hP 0 rfl rfl 9 (by decide) (hts (.fieldLink RX1 33 "LinkPredictor$Hierarchy" "allFaces" "[I") (List.mem_cons_of_mem _ mw_1_80)) (fun _ h9 => h9) rfl dX1_gatherSets_57 ?_
      refine lv_iload_n hx hb dX1_gatherSets_60 rfl (lv_at hl 0 rfl) ?_
      refine top_eq (((wf.1 x hnx).1.resolve_left c_38).2) ?_
      refine ro_ald hx hb hEV hP 8 (j := (sN (τ 3 x))) rfl (by omega) (by decide) dX1_gatherSets_61 ?_
      refine lv_ior hx hb dX1_gatherSets_62 ?_
      exact key_63 (((st2 h 6 x vs0) 3 x) ||| ((st2 h 6 x vs0) 7 (sN (τ 3 x)))) (st2 h 6 x vs0) ls _ _ hP hD hS (by first | omega | exact hT | (simp only [vwH_s5, vwH_s6, vwH_s7, vwH_s8]; exact hT)) (lv_sub hl [1, 2] rfl) hE
    · skip
      have hE := (if_pos c_38).symm.trans hE
      refine lv_aload_n hx hb dX1_gatherSets_41 rfl (lv_at hl 1 rfl) ?_
      refine va_get (D := D) (ci := 1) (v := .ref (a 4)) (C := RX1) (T := TX1) (N := 10) hx hb hts (fun w9 h9 => List.mem_cons_of_mem _ (inT_X1 w9 h9)) hown hK hP 0 rfl rfl 4 (by decide) (hts (.fieldLink RX1 21 "LinkPredictor$Hierarchy" "directFaces" "[I") (List.mem_cons_of_mem _ mw_1_75)) (fun _ h9 => h9) rfl dX1_gatherSets_42 ?_
      refine lv_iload_n hx hb dX1_gatherSets_45 rfl (lv_at hl 2 rfl) ?_
      refine ro_ald hx hb hEV hP 4 (j := x) rfl (by omega) (by decide) dX1_gatherSets_46 ?_
      refine lv_goto (tgt := 63) hx hb dX1_gatherSets_47 (by decide) ?_
      exact key_63 ((st2 h 6 x vs0) 3 x) (st2 h 6 x vs0) ls _ _ hP hD hS (by first | omega | exact hT | (simp only [vwH_s5, vwH_s6, vwH_s7, vwH_s8]; exact hT)) (lv_sub hl [1, 2] rfl) hE
  refine lv_aload_n hx hb dX1_gatherSets_0 rfl (lv_at hl 0 rfl) ?_
  refine va_get (D := D) (ci := 1) (v := .ref (a 3)) (C := RX1) (T := TX1) (N := 10) hx hb hts (fun w9 h9 => List.mem_cons_of_mem _ (inT_X1 w9 h9)) hown hK hP 0 rfl rfl 3 (by decide) (hts (.fieldLink RX1 18 "LinkPredictor$Hierarchy" "supers" "[I") (List.mem_cons_of_mem _ mw_1_74)) (fun _ h9 => h9) rfl dX1_gatherSets_1 ?_
  refine lv_iload_n hx hb dX1_gatherSets_4 rfl (lv_at hl 1 rfl) ?_
  refine ro_ald hx hb hEV hP 3 (j := x) rfl (by omega) (by decide) dX1_gatherSets_5 ?_
  refine top_eq ((OKB_of hT).su hnx) ?_
  refine lv_istore_n (lv' := [(2, .int (τ 3 x)), (0, .ref (a 0)), (1, .int (nI x))]) hx hb dX1_gatherSets_6 rfl hl (by decide) rfl (fun ls hl => ?_)
  refine lv_aload_n hx hb dX1_gatherSets_7 rfl (lv_at hl 1 rfl) ?_
  refine va_get (D := D) (ci := 1) (v := .ref (a 7)) (C := RX1) (T := TX1) (N := 10) hx hb hts (fun w9 h9 => List.mem_cons_of_mem _ (inT_X1 w9 h9)) hown hK hP 0 rfl rfl 8 (by decide) (hts (.fieldLink RX1 30 "LinkPredictor$Hierarchy" "aboves" "[I") (List.mem_cons_of_mem _ mw_1_79)) (fun _ h9 => h9) rfl dX1_gatherSets_8 ?_
  refine lv_iload_n hx hb dX1_gatherSets_11 rfl (lv_at hl 2 rfl) ?_
  refine lv_iload_n hx hb dX1_gatherSets_12 rfl (lv_at hl 0 rfl) ?_
  refine lv_iconst (v := (-1 : Int32)) hx hb dX1_gatherSets_13 (by decide) ?_
  refine lv_icmp_ne (tgt := 24) hx hb dX1_gatherSets_14 (by decide) (fun c_14 => ?_) (fun c_14 => ?_)
  · skip
    have hE := (if_neg c_14).symm.trans hE
    have hs9 := ((wf.1 x hnx).1.resolve_left c_14).1
    refine lv_iload_n hx hb dX1_gatherSets_24 rfl (lv_at hl 2 rfl) ?_
    refine ro_SN [.int (nI x)] [.int (nI x), .ref (a 7)] ⟨hx, hb, hml, hown, hts⟩ (c_X4_bit l D cI cZ cB cR x (by omega)) (va_cnB (host := "LinkPredictor") 1 hts (goodC mw_1_33) rfl rfl rfl (hEV.2 (.methodLinkNest RX1 36 yX4_bit "LinkPredictor") (by decide +kernel)) (hts (.initialized RX4) (List.mem_cons_of_mem _ mw_1_1)) (by decide +kernel) ⟨Nat.le_of_ble_eq_true rfl, Nat.le_of_ble_eq_true rfl⟩) (hts (.static yX4_bit) (List.mem_cons_of_mem _ mw_1_32)) hEV va_P0 rfl hl.1 rfl (Nat.le_of_ble_eq_true rfl) dX1_gatherSets_25 ⟨Nat.zero_le _, Nat.zero_le _⟩ ?_
    refine lv_aload_n hx hb dX1_gatherSets_28 rfl (lv_at hl 1 rfl) ?_
    refine va_get (D := D) (ci := 1) (v := .ref (a 7)) (C := RX1) (T := TX1) (N := 10) hx hb hts (fun w9 h9 => List.mem_cons_of_mem _ (inT_X1 w9 h9)) hown hK hP 0 rfl rfl 8 (by decide) (hts (.fieldLink RX1 30 "LinkPredictor$Hierarchy" "aboves" "[I") (List.mem_cons_of_mem _ mw_1_79)) (fun _ h9 => h9) rfl dX1_gatherSets_29 ?_
    refine lv_iload_n hx hb dX1_gatherSets_32 rfl (lv_at hl 0 rfl) ?_
    refine top_eq (((wf.1 x hnx).1.resolve_left c_14).2) ?_
    refine ro_ald hx hb hEV hP 7 (j := (sN (τ 3 x))) rfl (by omega) (by decide) dX1_gatherSets_33 ?_
    refine lv_ior hx hb dX1_gatherSets_34 ?_
    exact key_35 ((bm x) ||| (h 6 (sN (τ 3 x)))) h ls _ _ hP hD hS (by first | omega | exact hT | (simp only [vwH_s5, vwH_s6, vwH_s7, vwH_s8]; exact hT)) (lv_sub hl [0, 1, 2] rfl) hE
  · skip
    have hE := (if_pos c_14).symm.trans hE
    refine lv_iload_n hx hb dX1_gatherSets_17 rfl (lv_at hl 2 rfl) ?_
    refine ro_SN [.int (nI x)] [.int (nI x), .ref (a 7)] ⟨hx, hb, hml, hown, hts⟩ (c_X4_bit l D cI cZ cB cR x (by omega)) (va_cnB (host := "LinkPredictor") 1 hts (goodC mw_1_33) rfl rfl rfl (hEV.2 (.methodLinkNest RX1 36 yX4_bit "LinkPredictor") (by decide +kernel)) (hts (.initialized RX4) (List.mem_cons_of_mem _ mw_1_1)) (by decide +kernel) ⟨Nat.le_of_ble_eq_true rfl, Nat.le_of_ble_eq_true rfl⟩) (hts (.static yX4_bit) (List.mem_cons_of_mem _ mw_1_32)) hEV va_P0 rfl hl.1 rfl (Nat.le_of_ble_eq_true rfl) dX1_gatherSets_18 ⟨Nat.zero_le _, Nat.zero_le _⟩ ?_
    refine lv_goto (tgt := 35) hx hb dX1_gatherSets_21 (by decide) ?_
    exact key_35 (bm x) h ls _ _ hP hD hS (by first | omega | exact hT | (simp only [vwH_s5, vwH_s6, vwH_s7, vwH_s8]; exact hT)) (lv_sub hl [0, 1, 2] rfl) hE
theorem vwH_gather67 (τ : Nat → Nat → Int32) (x : Nat) : ∀ (k n : Nat) (v : Int32) (h : Nat → Nat → Int32), vwH (p_X1_gatherSets_67 τ x k n v h) = vwH h := by
  intro k
  induction k with
  | zero => intro n v h; rfl
  | succ k ih =>
    intro n v h
    rw [p_X1_gatherSets_67]
    split
    · exact vwH_s7
    · split
      · exact ih _ _ _
      · exact ih _ _ _
theorem vwH_gather (τ : Nat → Nat → Int32) (x : Nat) (h : Nat → Nat → Int32) : vwH (p_X1_gatherSets τ x h) = vwH h := by
  have h63 : ∀ v h, vwH (p_X1_gatherSets_63 τ x v h) = vwH h := fun v h => by
    rw [p_X1_gatherSets_63]; exact vwH_gather67 _ _ _ _ _ _
  have h35 : ∀ v h, vwH (p_X1_gatherSets_35 τ x v h) = vwH h := fun v h => by
    rw [p_X1_gatherSets_35]
    split
    · rw [h63]; exact vwH_s6
    · rw [h63]; exact vwH_s6
  rw [p_X1_gatherSets]
  split <;> exact h35 _ _
def p_X1_loadInside_80 (τ : Nat → Nat → Int32) (G : (Nat → Nat → Int32) → Nat → Int32 → Int32 × (Nat → Nat → Int32)) (x : Nat) (y : Int32) (h : (Nat → Nat → Int32)) : Int32 × (Nat → Nat → Int32) := (nI x, st2 h 8 1 ((h 8 1) ||| (bm x)))
def p_X1_loadInside_51 (τ : Nat → Nat → Int32) (G : (Nat → Nat → Int32) → Nat → Int32 → Int32 × (Nat → Nat → Int32)) (x : Nat) (y : Int32) (vs0 : Int32) (h : (Nat → Nat → Int32)) : Int32 × (Nat → Nat → Int32) := if (gd vs0) = true then (if (wrB τ x) = true then ((nI (192 + x), h)) else (p_X1_loadInside_80 τ G x y (p_X1_gatherSets τ x h))) else ((vs0, h))
def p_X1_loadInside (τ : Nat → Nat → Int32) (G : (Nat → Nat → Int32) → Nat → Int32 → Int32 × (Nat → Nat → Int32)) (x : Nat) (y : Int32) (h : (Nat → Nat → Int32)) : Int32 × (Nat → Nat → Int32) := if (thB τ x) = true then (if (bt y x) = true then ((nI (128 + x), h)) else (if (bt (h 8 1) x) = true then ((nI x, h)) else (p_X1_loadInside_51 τ G x y ((G h x (y ||| (bm x))).1) ((G h x (y ||| (bm x))).2)))) else ((nI (64 + x), h))
set_option maxHeartbeats 4000000 in
set_option maxRecDepth 100000 in
theorem c_X1_loadInside (l : Launch) (D : va_G) (cI cZ cB cR : ClassId) (a : Nat → Nat) (d : Nat) (h τ : Nat → Nat → Int32) (G : (Nat → Nat → Int32) → Nat → Int32 → Int32 × (Nat → Nat → Int32)) (x : Nat) (y : Int32) (hT : vwH h = τ) (wf : WFT τ) (hnx : x < 12) (hd : cN y < d + 1) (hG : ∀ (h' : (Nat → Nat → Int32)) (t : Nat) (o : Int32), vwH h' = τ → t < 12 → cN o < d → MUi l yX1_loadParents wsX1_loadParents ({ frames := 2 * d + 11, cells := 0, slots := 0, locals := 60 * d + 230 } : Room) D cI cZ cB cR (wH cI a h') [.ref (a 0), .int (nI t), .int o] (fun (_ : Unit) => wH cI a (G h' t o).2) (fun r _ => r = (G h' t o).1)) (hGv : ∀ h' t o, vwH (G h' t o).2 = vwH h') : MUi l yX1_loadInside wsX1_loadInside ({ frames := 2 * d + 12, cells := 0, slots := 0, locals := 60 * d + 260 } : Room) D cI cZ cB cR (wH cI a h) [.ref (a 0), .int (nI x), .int y] (fun (_ : Unit) => wH cI a ((p_X1_loadInside τ G x y h).2)) (fun r _ => r = (p_X1_loadInside τ G x y h).1) := by
  generalize hE : p_X1_loadInside τ G x y h = tgt
  intro sz
  refine Met.ofW (cc := cX1_loadInside) (maxL := 4) (ret := (some .int)) (by decide) rfl ?_
  intro p e s m args below meth c s₁ B hml hv
  obtain ⟨hargs, hsz, hP, hEV, hD0⟩ := hv
  have hx := B.exec
  have hb := B.bytes
  have hr := B.returns
  have hts := atoms_spec (ws := wsX1_loadInside) B.pre
  have hown : s.vm.findClass RX1 = some m.cls := findClass_of_methodNamed B.named
  have hlocks := B.notSynchronized
  have hK := hEV.1
  have hl := lv_entry ([.ref (a 0), .int (nI x), .int y]) (n := 4) (Nat.le_of_ble_eq_true rfl)
  rw [show entryFrame m args 4 = entryFrame m ([.ref (a 0), .int (nI x), .int y] : List Value).toArray 4 from by rw [hargs], lg_entry_eq]
  generalize (lg_sl ([.ref (a 0), .int (nI x), .int y]) ++ List.replicate (4 - (lg_sl ([.ref (a 0), .int (nI x), .int y])).length) Slot.unset).toArray = ls at hl ⊢
  have hl : lv_has ls 4 [(0, .ref (a 0)), (1, .int (nI x)), (2, .int y)] := hl
  subst hsz
  have hD := hD0.self (sz := s.heap.size)
  generalize hAe : va_A (wH cI a h) s.heap.size = A at hD ⊢
  have hA : ∀ q : Nat, s.heap.size ≤ q → A q := fun q h9 => by rw [← hAe]; exact Or.inr h9
  have hS : va_S A s.heap s.heap [] := va_S.rf
  rw [p_X1_loadInside] at hE
  have key_80 : ∀ (h : (Nat → Nat → Int32)) (ls : Array Slot) (H : Heap) (locs : List Loc) (hP : va_P D vwCl (wH cI a h) H) (hD : va_D A (wH cI a h)) (hS : va_S A s.heap H locs), vwH h = τ → lv_has ls 4 [(0, .ref (a 0)), (1, .int (nI x))] → p_X1_loadInside_80 τ G x y h = tgt → W p l e (headSpec wsX1_loadInside ({ frames := 2 * d + 12, cells := 0, slots := 0, locals := 60 * d + 260 } : Room)).room s m args below meth c H locs 0 0 (MQ below (va_Qi (fun r (_ : Unit) => r = tgt.1) (fun _ t => va_P D vwCl (wH cI a (tgt.2)) t.heap) A) args s 0 0 A) (F0 m 80 ls []) := by
    intro h ls H locs hP hD hS hi_80_0 hl hE
    rw [p_X1_loadInside_80] at hE
    have hT := hi_80_0
    refine lv_aload_n hx hb dX1_loadInside_80 rfl (lv_at hl 0 rfl) ?_
    refine lv_dup hx hb dX1_loadInside_81 rfl ?_
    refine va_get (D := D) (ci := 1) (v := .int (h 8 1)) (C := RX1) (T := TX1) (N := 10) hx hb hts (fun w9 h9 => List.mem_cons_of_mem _ (inT_X1 w9 h9)) hown hK hP 0 rfl rfl 7 (by decide) (hts (.fieldLink RX1 72 "LinkPredictor$Hierarchy" "settled" "I") (List.mem_cons_of_mem _ mw_1_78)) (fun _ h9 => h9) rfl dX1_loadInside_82 ?_
    refine lv_iload_n hx hb dX1_loadInside_85 rfl (lv_at hl 1 rfl) ?_
    refine ro_SN [.int (nI x)] [.int (h 8 1), .ref (a 0)] ⟨hx, hb, hml, hown, hts⟩ (c_X4_bit l D cI cZ cB cR x (by omega)) (va_cnB (host := "LinkPredictor") 1 hts (goodC mw_1_33) rfl rfl rfl (hEV.2 (.methodLinkNest RX1 36 yX4_bit "LinkPredictor") (by decide +kernel)) (hts (.initialized RX4) (List.mem_cons_of_mem _ mw_1_1)) (by decide +kernel) ⟨by show 0 + 1 ≤ 2 * d + 12; omega, by show 8 + (1 + 11) + (0) ≤ 60 * d + 260; omega⟩) (hts (.static yX4_bit) (List.mem_cons_of_mem _ mw_1_32)) hEV va_P0 rfl hl.1 rfl (Nat.le_of_ble_eq_true rfl) dX1_loadInside_86 ⟨Nat.zero_le _, Nat.zero_le _⟩ ?_
    refine lv_ior hx hb dX1_loadInside_89 ?_
    refine va_put (D := D) (ci := 1) (v := .int ((h 8 1) ||| (bm x))) (ty := .int) (C := RX1) (T := TX1) (N := 10) hx hb hts (fun w9 h9 => List.mem_cons_of_mem _ (inT_X1 w9 h9)) tyX1 tyX1_ok nmX1 hown hK hP hD hS 0 rfl rfl 7 (by decide) (hts (.fieldLink RX1 72 "LinkPredictor$Hierarchy" "settled" "I") (List.mem_cons_of_mem _ mw_1_78)) (fun _ h9 => h9) rfl (by decide +kernel) rfl rfl (Nat.le_of_ble_eq_true rfl) dX1_loadInside_90 (fun H locs hP hD hS => ?_)
    have hP : va_P D vwCl (wH cI a (st2 h 8 1 ((h 8 1) ||| (bm x)))) _ := hP
    have hD : va_D A (wH cI a (st2 h 8 1 ((h 8 1) ||| (bm x)))) := hD
    refine lv_iload_n hx hb dX1_loadInside_93 rfl (lv_at hl 1 rfl) ?_
    exact W.iret hx hb hr (fun t9 ht9 _ => ⟨⟨_, (), rfl, congrArg Prod.fst hE, by show va_P D vwCl _ t9.heap; rw [ht9, ← congrArg Prod.snd hE]; exact hP⟩, hS.F ht9⟩) hS.2.2 dX1_loadInside_94
  have key_51 : ∀ (vs0 : Int32) (h : (Nat → Nat → Int32)) (ls : Array Slot) (H : Heap) (locs : List Loc) (hP : va_P D vwCl (wH cI a h) H) (hD : va_D A (wH cI a h)) (hS : va_S A s.heap H locs), vwH h = τ → lv_has ls 4 [(0, .ref (a 0)), (1, .int (nI x))] → p_X1_loadInside_51 τ G x y vs0 h = tgt → W p l e (headSpec wsX1_loadInside ({ frames := 2 * d + 12, cells := 0, slots := 0, locals := 60 * d + 260 } : Room)).room s m args below meth c H locs 0 0 (MQ below (va_Qi (fun r (_ : Unit) => r = tgt.1) (fun _ t => va_P D vwCl (wH cI a (tgt.2)) t.heap) A) args s 0 0 A) (F0 m 51 ls [.int vs0]) := by
    intro vs0 h ls H locs hP hD hS hi_51_0 hl hE
    rw [p_X1_loadInside_51] at hE
    have hT := hi_51_0
    refine lv_istore_n (lv' := [(3, .int vs0), (0, .ref (a 0)), (1, .int (nI x))]) hx hb dX1_loadInside_51 rfl hl (by decide) rfl (fun ls hl => ?_)
    refine lv_iload_n hx hb dX1_loadInside_52 rfl (lv_at hl 0 rfl) ?_
    refine ro_SN [.int vs0] [] ⟨hx, hb, hml, hown, hts⟩ (c_X4_isGood l D cI cZ cB cR vs0) (va_cnB (host := "LinkPredictor") 1 hts (goodC mw_1_55) rfl rfl rfl (hEV.2 (.methodLinkNest RX1 61 yX4_isGood "LinkPredictor") (by decide +kernel)) (hts (.initialized RX4) (List.mem_cons_of_mem _ mw_1_1)) (by decide +kernel) ⟨by show 1 + 1 ≤ 2 * d + 12; omega, by show 8 + (1 + 11) + (21) ≤ 60 * d + 260; omega⟩) (hts (.static yX4_isGood) (List.mem_cons_of_mem _ mw_1_54)) hEV va_P0 rfl hl.1 rfl (Nat.le_of_ble_eq_true rfl) dX1_loadInside_53 ⟨Nat.zero_le _, Nat.zero_le _⟩ ?_
    refine lv_if_ne (tgt := 61) hx hb dX1_loadInside_56 (by decide) (fun c_56 => ?_) (fun c_56 => ?_)
    · have c_56 : (gd vs0) = true := b2i_t c_56
      have hE := (if_pos c_56).symm.trans hE
      refine lv_aload_n hx hb dX1_loadInside_61 rfl (lv_at hl 1 rfl) ?_
      refine lv_iload_n hx hb dX1_loadInside_62 rfl (lv_at hl 2 rfl) ?_
      refine ro_V [.int (nI x)] [] ⟨hx, hb, hml, hown, hts⟩ (c_X1_hasWrongParents l D cI cZ cB cR a h τ x (OKB_of (by first | exact hT | (simp only [vwH_s5, vwH_s6, vwH_s7, vwH_s8]; exact hT))) wf (by omega)) (cwV (C := RX1) 1 hts (goodP (ps := [.methodLink RX1 85 yX1_hasWrongParents, .instanceMethod yX1_hasWrongParents, .selects RX1 yX1_hasWrongParents yX1_hasWrongParents, .initialized RX1]) (all4 mw_1_59 mw_1_61 ms_3 mw_1_3) mw_1_62) rfl rfl rfl (by decide +kernel) ⟨by show 1 + 1 ≤ 2 * d + 12; omega, by show 8 + (4 + 11) + (21) ≤ 60 * d + 260; omega⟩) hEV hP 0 rfl rfl rfl hl.1 rfl (Nat.le_of_ble_eq_true rfl) dX1_loadInside_63 ⟨Nat.zero_le _, Nat.zero_le _⟩ ?_
      refine lv_if_eq (tgt := 75) hx hb dX1_loadInside_66 (by decide) (fun c_66 => ?_) (fun c_66 => ?_)
      · have c_66 : ¬ ((wrB τ x) = true) := b2i_f c_66
        have hE := (if_neg c_66).symm.trans hE
        refine lv_aload_n hx hb dX1_loadInside_75 rfl (lv_at hl 1 rfl) ?_
        refine lv_iload_n hx hb dX1_loadInside_76 rfl (lv_at hl 2 rfl) ?_
        refine mu_Vv [.int (nI x)] [] ⟨hx, hb, hml, hown, hts⟩ (c_X1_gatherSets l D cI cZ cB cR a h τ x (by first | exact hT | (simp only [vwH_s5, vwH_s6, vwH_s7, vwH_s8]; exact hT)) wf (by omega)) (cwV (C := RX1) 1 hts (goodP (ps := [.methodLink RX1 88 yX1_gatherSets, .instanceMethod yX1_gatherSets, .selects RX1 yX1_gatherSets yX1_gatherSets, .initialized RX1]) (all4 mw_1_67 mw_1_69 ms_4 mw_1_3) mw_1_70) rfl rfl rfl (by decide +kernel) ⟨by show 1 + 1 ≤ 2 * d + 12; omega, by show 8 + (5 + 11) + (21) ≤ 60 * d + 260; omega⟩) hEV hP hD hS hA 0 rfl rfl rfl hl.1 rfl (Nat.le_of_ble_eq_true rfl) dX1_loadInside_77 ⟨Nat.zero_le _, Nat.zero_le _⟩ (fun u9 H1 locs hw hP1 hk1 hS => ?_)
        have hP : va_P D vwCl (wH cI a (p_X1_gatherSets τ x h)) H1 := hP1
        have hD : va_D A (wH cI a (p_X1_gatherSets τ x h)) := hD.adr rfl
        generalize H1 = H at hP hS ⊢
        exact key_80 (p_X1_gatherSets τ x h) ls _ _ hP hD hS (by first | omega | exact hT | exact (hGv _ _ _).trans hT | (simp only [vwH_s5, vwH_s6, vwH_s7, vwH_s8]; exact hT) | exact (vwH_gather _ _ _).trans hT) (lv_sub hl [1, 2] rfl) hE
      · have c_66 : (wrB τ x) = true := b2i_t c_66
        have hE := (if_pos c_66).symm.trans hE
        refine lv_sipush (v := (192 : Int32)) hx hb dX1_loadInside_69 (by decide) ?_
        refine lv_iload_n hx hb dX1_loadInside_72 rfl (lv_at hl 2 rfl) ?_
        refine lv_iadd hx hb dX1_loadInside_73 ?_
        refine top_eq (nI_add 192 x) ?_
        exact W.iret hx hb hr (fun t9 ht9 _ => ⟨⟨_, (), rfl, congrArg Prod.fst hE, by show va_P D vwCl _ t9.heap; rw [ht9, ← congrArg Prod.snd hE]; exact hP⟩, hS.F ht9⟩) hS.2.2 dX1_loadInside_74
    · have c_56 : ¬ ((gd vs0) = true) := b2i_f c_56
      have hE := (if_neg c_56).symm.trans hE
      refine lv_iload_n hx hb dX1_loadInside_59 rfl (lv_at hl 0 rfl) ?_
      exact W.iret hx hb hr (fun t9 ht9 _ => ⟨⟨_, (), rfl, congrArg Prod.fst hE, by show va_P D vwCl _ t9.heap; rw [ht9, ← congrArg Prod.snd hE]; exact hP⟩, hS.F ht9⟩) hS.2.2 dX1_loadInside_60
  refine lv_aload_n hx hb dX1_loadInside_0 rfl (lv_at hl 0 rfl) ?_
  refine lv_iload_n hx hb dX1_loadInside_1 rfl (lv_at hl 1 rfl) ?_
  refine ro_V [.int (nI x)] [] ⟨hx, hb, hml, hown, hts⟩ (c_X1_isThere l D cI cZ cB cR a h τ x (OKB_of (by first | exact hT | (simp only [vwH_s5, vwH_s6, vwH_s7, vwH_s8]; exact hT))) (by omega)) (cwV (C := RX1) 1 hts (goodP (ps := [.methodLink RX1 47 yX1_isThere, .instanceMethod yX1_isThere, .selects RX1 yX1_isThere yX1_isThere, .initialized RX1]) (all4 mw_1_42 mw_1_43 mw_1_44 mw_1_3) mw_1_45) rfl rfl rfl (by decide +kernel) ⟨by show 1 + 1 ≤ 2 * d + 12; omega, by show 8 + (2 + 11) + (21) ≤ 60 * d + 260; omega⟩) hEV hP 0 rfl rfl rfl hl.1 rfl (Nat.le_of_ble_eq_true rfl) dX1_loadInside_2 ⟨Nat.zero_le _, Nat.zero_le _⟩ ?_
  refine lv_if_ne (tgt := 13) hx hb dX1_loadInside_5 (by decide) (fun c_5 => ?_) (fun c_5 => ?_)
  · have c_5 : (thB τ x) = true := b2i_t c_5
    have hE := (if_pos c_5).symm.trans hE
    refine lv_iload_n hx hb dX1_loadInside_13 rfl (lv_at hl 2 rfl) ?_
    refine lv_iload_n hx hb dX1_loadInside_14 rfl (lv_at hl 1 rfl) ?_
    refine ro_SN [.int y, .int (nI x)] [] ⟨hx, hb, hml, hown, hts⟩ (c_X4_contains l D cI cZ cB cR y x (by omega)) (va_cnB (host := "LinkPredictor") 2 hts (goodC mw_1_48) rfl rfl rfl (hEV.2 (.methodLinkNest RX1 57 yX4_contains "LinkPredictor") (by decide +kernel)) (hts (.initialized RX4) (List.mem_cons_of_mem _ mw_1_1)) (by decide +kernel) ⟨by show 0 + 1 ≤ 2 * d + 12; omega, by show 8 + (2 + 11) + (0) ≤ 60 * d + 260; omega⟩) (hts (.static yX4_contains) (List.mem_cons_of_mem _ mw_1_47)) hEV va_P0 rfl hl.1 rfl (Nat.le_of_ble_eq_true rfl) dX1_loadInside_15 ⟨Nat.zero_le _, Nat.zero_le _⟩ ?_
    refine lv_if_eq (tgt := 27) hx hb dX1_loadInside_18 (by decide) (fun c_18 => ?_) (fun c_18 => ?_)
    · have c_18 : ¬ ((bt y x) = true) := b2i_f c_18
      have hE := (if_neg c_18).symm.trans hE
      refine lv_aload_n hx hb dX1_loadInside_27 rfl (lv_at hl 0 rfl) ?_
      refine va_get (D := D) (ci := 1) (v := .int (h 8 1)) (C := RX1) (T := TX1) (N := 10) hx hb hts (fun w9 h9 => List.mem_cons_of_mem _ (inT_X1 w9 h9)) hown hK hP 0 rfl rfl 7 (by decide) (hts (.fieldLink RX1 72 "LinkPredictor$Hierarchy" "settled" "I") (List.mem_cons_of_mem _ mw_1_78)) (fun _ h9 => h9) rfl dX1_loadInside_28 ?_
      refine lv_iload_n hx hb dX1_loadInside_31 rfl (lv_at hl 1 rfl) ?_
      refine ro_SN [.int (h 8 1), .int (nI x)] [] ⟨hx, hb, hml, hown, hts⟩ (c_X4_contains l D cI cZ cB cR (h 8 1) x (by omega)) (va_cnB (host := "LinkPredictor") 2 hts (goodC mw_1_48) rfl rfl rfl (hEV.2 (.methodLinkNest RX1 57 yX4_contains "LinkPredictor") (by decide +kernel)) (hts (.initialized RX4) (List.mem_cons_of_mem _ mw_1_1)) (by decide +kernel) ⟨by show 0 + 1 ≤ 2 * d + 12; omega, by show 8 + (2 + 11) + (0) ≤ 60 * d + 260; omega⟩) (hts (.static yX4_contains) (List.mem_cons_of_mem _ mw_1_47)) hEV va_P0 rfl hl.1 rfl (Nat.le_of_ble_eq_true rfl) dX1_loadInside_32 ⟨Nat.zero_le _, Nat.zero_le _⟩ ?_
      refine lv_if_eq (tgt := 40) hx hb dX1_loadInside_35 (by decide) (fun c_35 => ?_) (fun c_35 => ?_)
      · have c_35 : ¬ ((bt (h 8 1) x) = true) := b2i_f c_35
        have hE := (if_neg c_35).symm.trans hE
        refine lv_aload_n hx hb dX1_loadInside_40 rfl (lv_at hl 0 rfl) ?_
        refine lv_iload_n hx hb dX1_loadInside_41 rfl (lv_at hl 1 rfl) ?_
        refine lv_iload_n hx hb dX1_loadInside_42 rfl (lv_at hl 2 rfl) ?_
        refine lv_iload_n hx hb dX1_loadInside_43 rfl (lv_at hl 1 rfl) ?_
        refine ro_SN [.int (nI x)] [.int y, .int (nI x), .ref (a 0)] ⟨hx, hb, hml, hown, hts⟩ (c_X4_bit l D cI cZ cB cR x (by omega)) (va_cnB (host := "LinkPredictor") 1 hts (goodC mw_1_33) rfl rfl rfl (hEV.2 (.methodLinkNest RX1 36 yX4_bit "LinkPredictor") (by decide +kernel)) (hts (.initialized RX4) (List.mem_cons_of_mem _ mw_1_1)) (by decide +kernel) ⟨by show 0 + 1 ≤ 2 * d + 12; omega, by show 8 + (1 + 11) + (0) ≤ 60 * d + 260; omega⟩) (hts (.static yX4_bit) (List.mem_cons_of_mem _ mw_1_32)) hEV va_P0 rfl hl.1 rfl (Nat.le_of_ble_eq_true rfl) dX1_loadInside_44 ⟨Nat.zero_le _, Nat.zero_le _⟩ ?_
        refine lv_ior hx hb dX1_loadInside_47 ?_
        have hcn := cN_or hnx (show bt y x = false by simpa using c_18)
        refine mu_V [.int (nI x), .int (y ||| (bm x))] [] ⟨hx, hb, hml, hown, hts⟩ (hG h x (y ||| (bm x)) (by first | exact hT | (simp only [vwH_s5, vwH_s6, vwH_s7, vwH_s8]; exact hT)) (by omega) (by omega)) (cwV (C := RX1) 2 hts (goodP (ps := [.methodLink RX1 82 yX1_loadParents, .instanceMethod yX1_loadParents, .selects RX1 yX1_loadParents yX1_loadParents, .initialized RX1]) (all4 mw_1_49 mw_1_51 ms_2 mw_1_3) mw_1_52) rfl rfl rfl (by decide +kernel) ⟨by show 2 * d + 11 + 1 ≤ 2 * d + 12; omega, by show 8 + (5 + 11) + (60 * d + 230) ≤ 60 * d + 260; omega⟩) hEV hP hD hS hA 0 rfl rfl rfl hl.1 rfl (Nat.le_of_ble_eq_true rfl) dX1_loadInside_48 ⟨Nat.zero_le _, Nat.zero_le _⟩ (fun r9 u9 H1 locs hw hP1 hk1 hS => ?_)
        subst hw
        have hP : va_P D vwCl (wH cI a ((G h x (y ||| (bm x))).2)) H1 := hP1
        have hD : va_D A (wH cI a ((G h x (y ||| (bm x))).2)) := hD.adr rfl
        generalize H1 = H at hP hS ⊢
        exact key_51 ((G h x (y ||| (bm x))).1) ((G h x (y ||| (bm x))).2) ls _ _ hP hD hS (by first | omega | exact hT | exact (hGv _ _ _).trans hT | (simp only [vwH_s5, vwH_s6, vwH_s7, vwH_s8]; exact hT) | exact (vwH_gather _ _ _).trans hT) (lv_sub hl [0, 1] rfl) hE
      · have c_35 : (bt (h 8 1) x) = true := b2i_t c_35
        have hE := (if_pos c_35).symm.trans hE
        refine lv_iload_n hx hb dX1_loadInside_38 rfl (lv_at hl 1 rfl) ?_
        exact W.iret hx hb hr (fun t9 ht9 _ => ⟨⟨_, (), rfl, congrArg Prod.fst hE, by show va_P D vwCl _ t9.heap; rw [ht9, ← congrArg Prod.snd hE]; exact hP⟩, hS.F ht9⟩) hS.2.2 dX1_loadInside_39
    · have c_18 : (bt y x) = true := b2i_t c_18
      have hE := (if_pos c_18).symm.trans hE
      refine lv_sipush (v := (128 : Int32)) hx hb dX1_loadInside_21 (by decide) ?_
      refine lv_iload_n hx hb dX1_loadInside_24 rfl (lv_at hl 1 rfl) ?_
      refine lv_iadd hx hb dX1_loadInside_25 ?_
      refine top_eq (nI_add 128 x) ?_
      exact W.iret hx hb hr (fun t9 ht9 _ => ⟨⟨_, (), rfl, congrArg Prod.fst hE, by show va_P D vwCl _ t9.heap; rw [ht9, ← congrArg Prod.snd hE]; exact hP⟩, hS.F ht9⟩) hS.2.2 dX1_loadInside_26
  · have c_5 : ¬ ((thB τ x) = true) := b2i_f c_5
    have hE := (if_neg c_5).symm.trans hE
    refine lv_bipush (v := (64 : Int32)) hx hb dX1_loadInside_8 (by decide) ?_
    refine lv_iload_n hx hb dX1_loadInside_10 rfl (lv_at hl 1 rfl) ?_
    refine lv_iadd hx hb dX1_loadInside_11 ?_
    refine top_eq (nI_add 64 x) ?_
    exact W.iret hx hb hr (fun t9 ht9 _ => ⟨⟨_, (), rfl, congrArg Prod.fst hE, by show va_P D vwCl _ t9.heap; rw [ht9, ← congrArg Prod.snd hE]; exact hP⟩, hS.F ht9⟩) hS.2.2 dX1_loadInside_12
def p_X1_loadParents_58 (τ : Nat → Nat → Int32) (F : (Nat → Nat → Int32) → Nat → Int32 → Int32 × (Nat → Nat → Int32)) (x : Nat) (y : Int32) (K33 : Nat → (Nat → Nat → Int32) → Int32 × (Nat → Nat → Int32)) (n3 : Nat) (vs0 : Int32) (h : (Nat → Nat → Int32)) : Int32 × (Nat → Nat → Int32) := if (gd vs0) = true then (K33 (n3 + 1) h) else ((vs0, h))
def p_X1_loadParents_33 (τ : Nat → Nat → Int32) (F : (Nat → Nat → Int32) → Nat → Int32 → Int32 × (Nat → Nat → Int32)) (x : Nat) (y : Int32) : Nat → Nat → (Nat → Nat → Int32) → Int32 × (Nat → Nat → Int32)
  | 0, _, h => (0, h)
  | k + 1, n3, h => if 12 ≤ n3 then ((nI x, h)) else (if (bt (τ 4 x) n3) = true then (p_X1_loadParents_58 τ F x y (fun n3 h => p_X1_loadParents_33 τ F x y k n3 h) n3 ((F h n3 y).1) ((F h n3 y).2)) else (p_X1_loadParents_33 τ F x y k (n3 + 1) h))
def p_X1_loadParents_31 (τ : Nat → Nat → Int32) (F : (Nat → Nat → Int32) → Nat → Int32 → Int32 × (Nat → Nat → Int32)) (x : Nat) (y : Int32) (h : (Nat → Nat → Int32)) : Int32 × (Nat → Nat → Int32) := p_X1_loadParents_33 τ F x y 13 0 h
def p_X1_loadParents_21 (τ : Nat → Nat → Int32) (F : (Nat → Nat → Int32) → Nat → Int32 → Int32 × (Nat → Nat → Int32)) (x : Nat) (y : Int32) (vs0 : Int32) (h : (Nat → Nat → Int32)) : Int32 × (Nat → Nat → Int32) := if (gd vs0) = true then (p_X1_loadParents_31 τ F x y h) else ((vs0, h))
def p_X1_loadParents (τ : Nat → Nat → Int32) (F : (Nat → Nat → Int32) → Nat → Int32 → Int32 × (Nat → Nat → Int32)) (x : Nat) (y : Int32) (h : (Nat → Nat → Int32)) : Int32 × (Nat → Nat → Int32) := if (τ 3 x) = (-1 : Int32) then (p_X1_loadParents_31 τ F x y h) else (p_X1_loadParents_21 τ F x y ((F h (sN (τ 3 x)) y).1) ((F h (sN (τ 3 x)) y).2))
set_option maxHeartbeats 4000000 in
set_option maxRecDepth 100000 in
theorem c_X1_loadParents (l : Launch) (D : va_G) (cI cZ cB cR : ClassId) (a : Nat → Nat) (d : Nat) (h τ : Nat → Nat → Int32) (F : (Nat → Nat → Int32) → Nat → Int32 → Int32 × (Nat → Nat → Int32)) (x : Nat) (y : Int32) (hT : vwH h = τ) (wf : WFT τ) (hnx : x < 12) (hd : cN y < d) (hF : ∀ (h' : (Nat → Nat → Int32)) (t : Nat) (o : Int32), vwH h' = τ → t < 12 → cN o < d → MUi l yX1_loadInside wsX1_loadInside ({ frames := 2 * d + 10, cells := 0, slots := 0, locals := 60 * d + 200 } : Room) D cI cZ cB cR (wH cI a h') [.ref (a 0), .int (nI t), .int o] (fun (_ : Unit) => wH cI a (F h' t o).2) (fun r _ => r = (F h' t o).1)) (hFv : ∀ h' t o, vwH (F h' t o).2 = vwH h') : MUi l yX1_loadParents wsX1_loadParents ({ frames := 2 * d + 11, cells := 0, slots := 0, locals := 60 * d + 230 } : Room) D cI cZ cB cR (wH cI a h) [.ref (a 0), .int (nI x), .int y] (fun (_ : Unit) => wH cI a ((p_X1_loadParents τ F x y h).2)) (fun r _ => r = (p_X1_loadParents τ F x y h).1) := by
  generalize hE : p_X1_loadParents τ F x y h = tgt
  intro sz
  refine Met.ofW (cc := cX1_loadParents) (maxL := 5) (ret := (some .int)) (by decide) rfl ?_
  intro p e s m args below meth c s₁ B hml hv
  obtain ⟨hargs, hsz, hP, hEV, hD0⟩ := hv
  have hx := B.exec
  have hb := B.bytes
  have hr := B.returns
  have hts := atoms_spec (ws := wsX1_loadParents) B.pre
  have hown : s.vm.findClass RX1 = some m.cls := findClass_of_methodNamed B.named
  have hlocks := B.notSynchronized
  have hK := hEV.1
  have hl := lv_entry ([.ref (a 0), .int (nI x), .int y]) (n := 5) (Nat.le_of_ble_eq_true rfl)
  rw [show entryFrame m args 5 = entryFrame m ([.ref (a 0), .int (nI x), .int y] : List Value).toArray 5 from by rw [hargs], lg_entry_eq]
  generalize (lg_sl ([.ref (a 0), .int (nI x), .int y]) ++ List.replicate (5 - (lg_sl ([.ref (a 0), .int (nI x), .int y])).length) Slot.unset).toArray = ls at hl ⊢
  have hl : lv_has ls 5 [(0, .ref (a 0)), (1, .int (nI x)), (2, .int y)] := hl
  subst hsz
  have hD := hD0.self (sz := s.heap.size)
  generalize hAe : va_A (wH cI a h) s.heap.size = A at hD ⊢
  have hA : ∀ q : Nat, s.heap.size ≤ q → A q := fun q h9 => by rw [← hAe]; exact Or.inr h9
  have hS : va_S A s.heap s.heap [] := va_S.rf
  rw [p_X1_loadParents] at hE
  have key_33 : ∀ (k_33 : Nat) (n3 : Nat) (h : (Nat → Nat → Int32)) (ls : Array Slot) (H : Heap) (locs : List Loc) (hP : va_P D vwCl (wH cI a h) H) (hD : va_D A (wH cI a h)) (hS : va_S A s.heap H locs), (12 - n3) < k_33 → vwH h = τ → n3 ≤ 12 → lv_has ls 5 [(3, .int (nI n3)), (0, .ref (a 0)), (1, .int (nI x)), (2, .int y)] → p_X1_loadParents_33 τ F x y k_33 n3 h = tgt → W p l e (headSpec wsX1_loadParents ({ frames := 2 * d + 11, cells := 0, slots := 0, locals := 60 * d + 230 } : Room)).room s m args below meth c H locs 0 0 (MQ below (va_Qi (fun r (_ : Unit) => r = tgt.1) (fun _ t => va_P D vwCl (wH cI a (tgt.2)) t.heap) A) args s 0 0 A) (F0 m 33 ls []) := by
    intro k_33
    induction k_33 with
    | zero => intro n3 h ls H locs hP hD hS hm; exact absurd hm (Nat.not_lt_zero _)
    | succ k_33 ih_33 =>
      have key_58 : ∀ (n3 : Nat) (vs0 : Int32) (h : (Nat → Nat → Int32)) (ls : Array Slot) (H : Heap) (locs : List Loc) (hP : va_P D vwCl (wH cI a h) H) (hD : va_D A (wH cI a h)) (hS : va_S A s.heap H locs), vwH h = τ → n3 < 12 → (12 - n3) < k_33 + 1 → lv_has ls 5 [(3, .int (nI n3)), (0, .ref (a 0)), (1, .int (nI x)), (2, .int y)] → p_X1_loadParents_58 τ F x y (fun n3 h => p_X1_loadParents_33 τ F x y k_33 n3 h) n3 vs0 h = tgt → W p l e (headSpec wsX1_loadParents ({ frames := 2 * d + 11, cells := 0, slots := 0, locals := 60 * d + 230 } : Room)).room s m args below meth c H locs 0 0 (MQ below (va_Qi (fun r (_ : Unit) => r = tgt.1) (fun _ t => va_P D vwCl (wH cI a (tgt.2)) t.heap) A) args s 0 0 A) (F0 m 58 ls [.int vs0]) := by
        intro n3 vs0 h ls H locs hP hD hS hi_58_0 hi_58_1 hi_58_2 hl hE
        rw [p_X1_loadParents_58] at hE
        have hT := hi_58_0
        refine lv_istore (lv' := [(4, .int vs0), (3, .int (nI n3)), (0, .ref (a 0)), (1, .int (nI x)), (2, .int y)]) hx hb dX1_loadParents_58 hl (by decide) rfl (fun ls hl => ?_)
        refine lv_iload hx hb dX1_loadParents_60 (lv_at hl 0 rfl) ?_
        refine ro_SN [.int vs0] [] ⟨hx, hb, hml, hown, hts⟩ (c_X4_isGood l D cI cZ cB cR vs0) (va_cnB (host := "LinkPredictor") 1 hts (goodC mw_1_55) rfl rfl rfl (hEV.2 (.methodLinkNest RX1 61 yX4_isGood "LinkPredictor") (by decide +kernel)) (hts (.initialized RX4) (List.mem_cons_of_mem _ mw_1_1)) (by decide +kernel) ⟨by show 1 + 1 ≤ 2 * d + 11; omega, by show 8 + (1 + 11) + (21) ≤ 60 * d + 230; omega⟩) (hts (.static yX4_isGood) (List.mem_cons_of_mem _ mw_1_54)) hEV va_P0 rfl hl.1 rfl (Nat.le_of_ble_eq_true rfl) dX1_loadParents_62 ⟨Nat.zero_le _, Nat.zero_le _⟩ ?_
        refine lv_if_ne (tgt := 71) hx hb dX1_loadParents_65 (by decide) (fun c_65 => ?_) (fun c_65 => ?_)
        · have c_65 : (gd vs0) = true := b2i_t c_65
          have hE := (if_pos c_65).symm.trans hE
          refine lv_iinc (v := nI (n3 + 1)) (lv' := [(3, .int (nI (n3 + 1))), (4, .int vs0), (0, .ref (a 0)), (1, .int (nI x)), (2, .int y)]) hx hb dX1_loadParents_71 hl (k := 1) rfl (nI_1 _) (by decide) rfl (fun ls hl => ?_)
          refine lv_goto (tgt := 33) hx hb dX1_loadParents_74 (by decide) ?_
          exact ih_33 (n3 + 1) h ls _ _ hP hD hS (by omega) (by first | omega | exact hT | exact (hFv _ _ _).trans hT) (by first | omega | exact hT | exact (hFv _ _ _).trans hT) (lv_sub hl [0, 2, 3, 4] rfl) hE
        · have c_65 : ¬ ((gd vs0) = true) := b2i_f c_65
          have hE := (if_neg c_65).symm.trans hE
          refine lv_iload hx hb dX1_loadParents_68 (lv_at hl 0 rfl) ?_
          exact W.iret hx hb hr (fun t9 ht9 _ => ⟨⟨_, (), rfl, congrArg Prod.fst hE, by show va_P D vwCl _ t9.heap; rw [ht9, ← congrArg Prod.snd hE]; exact hP⟩, hS.F ht9⟩) hS.2.2 dX1_loadParents_70
      intro n3 h ls H locs hP hD hS hm_33 hi_33_0 hi_33_1 hl hE
      rw [p_X1_loadParents_33] at hE
      have hT := hi_33_0
      refine lv_iload_n hx hb dX1_loadParents_33 rfl (lv_at hl 0 rfl) ?_
      refine lv_bipush (v := (12 : Int32)) hx hb dX1_loadParents_34 (by decide) ?_
      refine lv_icmp_ge (tgt := 77) hx hb dX1_loadParents_36 (by decide) (fun c_36 => ?_) (fun c_36 => ?_)
      · have c_36 : 12 ≤ n3 := (nI_leI (a := 12) (b := n3) (by omega) (by omega)).mp c_36
        have hE := (if_pos c_36).symm.trans hE
        refine lv_iload_n hx hb dX1_loadParents_77 rfl (lv_at hl 2 rfl) ?_
        exact W.iret hx hb hr (fun t9 ht9 _ => ⟨⟨_, (), rfl, congrArg Prod.fst hE, by show va_P D vwCl _ t9.heap; rw [ht9, ← congrArg Prod.snd hE]; exact hP⟩, hS.F ht9⟩) hS.2.2 dX1_loadParents_78
      · have c_36 : ¬ (12 ≤ n3) := fun q9 => c_36 ((nI_leI (a := 12) (b := n3) (by omega) (by omega)).mpr q9)
        have hE := (if_neg c_36).symm.trans hE
        refine lv_aload_n hx hb dX1_loadParents_39 rfl (lv_at hl 1 rfl) ?_
        refine va_get (D := D) (ci := 1) (v := .ref (a 4)) (C := RX1) (T := TX1) (N := 10) hx hb hts (fun w9 h9 => List.mem_cons_of_mem _ (inT_X1 w9 h9)) hown hK hP 0 rfl rfl 4 (by decide) (hts (.fieldLink RX1 21 "LinkPredictor$Hierarchy" "directFaces" "[I") (List.mem_cons_of_mem _ mw_1_75)) (fun _ h9 => h9) rfl dX1_loadParents_40 ?_
        refine lv_iload_n hx hb dX1_loadParents_43 rfl (lv_at hl 2 rfl) ?_
        refine ro_ald hx hb hEV hP 4 (j := x) rfl (by omega) (by decide) dX1_loadParents_44 ?_
        refine top_eq ((OKB_of hT).fa hnx) ?_
        refine lv_iload_n hx hb dX1_loadParents_45 rfl (lv_at hl 0 rfl) ?_
        refine ro_SN [.int (τ 4 x), .int (nI n3)] [] ⟨hx, hb, hml, hown, hts⟩ (c_X4_contains l D cI cZ cB cR (τ 4 x) n3 (by omega)) (va_cnB (host := "LinkPredictor") 2 hts (goodC mw_1_48) rfl rfl rfl (hEV.2 (.methodLinkNest RX1 57 yX4_contains "LinkPredictor") (by decide +kernel)) (hts (.initialized RX4) (List.mem_cons_of_mem _ mw_1_1)) (by decide +kernel) ⟨by show 0 + 1 ≤ 2 * d + 11; omega, by show 8 + (2 + 11) + (0) ≤ 60 * d + 230; omega⟩) (hts (.static yX4_contains) (List.mem_cons_of_mem _ mw_1_47)) hEV va_P0 rfl hl.1 rfl (Nat.le_of_ble_eq_true rfl) dX1_loadParents_46 ⟨Nat.zero_le _, Nat.zero_le _⟩ ?_
        refine lv_if_eq (tgt := 71) hx hb dX1_loadParents_49 (by decide) (fun c_49 => ?_) (fun c_49 => ?_)
        · have c_49 : ¬ ((bt (τ 4 x) n3) = true) := b2i_f c_49
          have hE := (if_neg c_49).symm.trans hE
          refine lv_iinc (v := nI (n3 + 1)) (lv' := [(3, .int (nI (n3 + 1))), (0, .ref (a 0)), (1, .int (nI x)), (2, .int y)]) hx hb dX1_loadParents_71 hl (k := 0) rfl (nI_1 _) (by decide) rfl (fun ls hl => ?_)
          refine lv_goto (tgt := 33) hx hb dX1_loadParents_74 (by decide) ?_
          exact ih_33 (n3 + 1) h ls _ _ hP hD hS (by omega) (by first | omega | exact hT | exact (hFv _ _ _).trans hT) (by first | omega | exact hT | exact (hFv _ _ _).trans hT) (lv_sub hl [0, 1, 2, 3] rfl) hE
        · have c_49 : (bt (τ 4 x) n3) = true := b2i_t c_49
          have hE := (if_pos c_49).symm.trans hE
          refine lv_aload_n hx hb dX1_loadParents_52 rfl (lv_at hl 1 rfl) ?_
          refine lv_iload_n hx hb dX1_loadParents_53 rfl (lv_at hl 0 rfl) ?_
          refine lv_iload_n hx hb dX1_loadParents_54 rfl (lv_at hl 3 rfl) ?_
          refine mu_V [.int (nI n3), .int y] [] ⟨hx, hb, hml, hown, hts⟩ (hF h n3 y (by first | exact hT | (simp only [vwH_s5, vwH_s6, vwH_s7, vwH_s8]; exact hT)) (by omega) (by omega)) (cwV (C := RX1) 2 hts (goodP (ps := [.methodLink RX1 78 yX1_loadInside, .instanceMethod yX1_loadInside, .selects RX1 yX1_loadInside yX1_loadInside, .initialized RX1]) (all4 mw_1_38 mw_1_40 ms_1 mw_1_3) mw_1_41) rfl rfl rfl (by decide +kernel) ⟨by show 2 * d + 10 + 1 ≤ 2 * d + 11; omega, by show 8 + (4 + 11) + (60 * d + 200) ≤ 60 * d + 230; omega⟩) hEV hP hD hS hA 0 rfl rfl rfl hl.1 rfl (Nat.le_of_ble_eq_true rfl) dX1_loadParents_55 ⟨Nat.zero_le _, Nat.zero_le _⟩ (fun r9 u9 H1 locs hw hP1 hk1 hS => ?_)
          subst hw
          have hP : va_P D vwCl (wH cI a ((F h n3 y).2)) H1 := hP1
          have hD : va_D A (wH cI a ((F h n3 y).2)) := hD.adr rfl
          generalize H1 = H at hP hS ⊢
          exact key_58 n3 ((F h n3 y).1) ((F h n3 y).2) ls _ _ hP hD hS (by first | omega | exact hT | exact (hFv _ _ _).trans hT) (by first | omega | exact hT | exact (hFv _ _ _).trans hT) (by first | omega | exact hT | exact (hFv _ _ _).trans hT) (lv_sub hl [0, 1, 2, 3] rfl) hE
  have key_31 : ∀ (h : (Nat → Nat → Int32)) (ls : Array Slot) (H : Heap) (locs : List Loc) (hP : va_P D vwCl (wH cI a h) H) (hD : va_D A (wH cI a h)) (hS : va_S A s.heap H locs), vwH h = τ → lv_has ls 5 [(0, .ref (a 0)), (1, .int (nI x)), (2, .int y)] → p_X1_loadParents_31 τ F x y h = tgt → W p l e (headSpec wsX1_loadParents ({ frames := 2 * d + 11, cells := 0, slots := 0, locals := 60 * d + 230 } : Room)).room s m args below meth c H locs 0 0 (MQ below (va_Qi (fun r (_ : Unit) => r = tgt.1) (fun _ t => va_P D vwCl (wH cI a (tgt.2)) t.heap) A) args s 0 0 A) (F0 m 31 ls []) := by
    intro h ls H locs hP hD hS hi_31_0 hl hE
    rw [p_X1_loadParents_31] at hE
    have hT := hi_31_0
    refine lv_iconst (v := (0 : Int32)) hx hb dX1_loadParents_31 (by decide) ?_
    refine lv_istore_n (lv' := [(3, .int (0 : Int32)), (0, .ref (a 0)), (1, .int (nI x)), (2, .int y)]) hx hb dX1_loadParents_32 rfl hl (by decide) rfl (fun ls hl => ?_)
    exact key_33 13 0 h ls _ _ hP hD hS (by omega) (by first | omega | exact hT | exact (hFv _ _ _).trans hT) (by first | omega | exact hT | exact (hFv _ _ _).trans hT) (lv_sub hl [0, 1, 2, 3] rfl) hE
  have key_21 : ∀ (vs0 : Int32) (h : (Nat → Nat → Int32)) (ls : Array Slot) (H : Heap) (locs : List Loc) (hP : va_P D vwCl (wH cI a h) H) (hD : va_D A (wH cI a h)) (hS : va_S A s.heap H locs), vwH h = τ → lv_has ls 5 [(0, .ref (a 0)), (1, .int (nI x)), (2, .int y)] → p_X1_loadParents_21 τ F x y vs0 h = tgt → W p l e (headSpec wsX1_loadParents ({ frames := 2 * d + 11, cells := 0, slots := 0, locals := 60 * d + 230 } : Room)).room s m args below meth c H locs 0 0 (MQ below (va_Qi (fun r (_ : Unit) => r = tgt.1) (fun _ t => va_P D vwCl (wH cI a (tgt.2)) t.heap) A) args s 0 0 A) (F0 m 21 ls [.int vs0]) := by
    intro vs0 h ls H locs hP hD hS hi_21_0 hl hE
    rw [p_X1_loadParents_21] at hE
    have hT := hi_21_0
    refine lv_istore_n (lv' := [(3, .int vs0), (0, .ref (a 0)), (1, .int (nI x)), (2, .int y)]) hx hb dX1_loadParents_21 rfl hl (by decide) rfl (fun ls hl => ?_)
    refine lv_iload_n hx hb dX1_loadParents_22 rfl (lv_at hl 0 rfl) ?_
    refine ro_SN [.int vs0] [] ⟨hx, hb, hml, hown, hts⟩ (c_X4_isGood l D cI cZ cB cR vs0) (va_cnB (host := "LinkPredictor") 1 hts (goodC mw_1_55) rfl rfl rfl (hEV.2 (.methodLinkNest RX1 61 yX4_isGood "LinkPredictor") (by decide +kernel)) (hts (.initialized RX4) (List.mem_cons_of_mem _ mw_1_1)) (by decide +kernel) ⟨by show 1 + 1 ≤ 2 * d + 11; omega, by show 8 + (1 + 11) + (21) ≤ 60 * d + 230; omega⟩) (hts (.static yX4_isGood) (List.mem_cons_of_mem _ mw_1_54)) hEV va_P0 rfl hl.1 rfl (Nat.le_of_ble_eq_true rfl) dX1_loadParents_23 ⟨Nat.zero_le _, Nat.zero_le _⟩ ?_
    refine lv_if_ne (tgt := 31) hx hb dX1_loadParents_26 (by decide) (fun c_26 => ?_) (fun c_26 => ?_)
    · have c_26 : (gd vs0) = true := b2i_t c_26
      have hE := (if_pos c_26).symm.trans hE
      exact key_31 h ls _ _ hP hD hS (by first | omega | exact hT | exact (hFv _ _ _).trans hT) (lv_sub hl [1, 2, 3] rfl) hE
    · have c_26 : ¬ ((gd vs0) = true) := b2i_f c_26
      have hE := (if_neg c_26).symm.trans hE
      refine lv_iload_n hx hb dX1_loadParents_29 rfl (lv_at hl 0 rfl) ?_
      exact W.iret hx hb hr (fun t9 ht9 _ => ⟨⟨_, (), rfl, congrArg Prod.fst hE, by show va_P D vwCl _ t9.heap; rw [ht9, ← congrArg Prod.snd hE]; exact hP⟩, hS.F ht9⟩) hS.2.2 dX1_loadParents_30
  refine lv_aload_n hx hb dX1_loadParents_0 rfl (lv_at hl 0 rfl) ?_
  refine va_get (D := D) (ci := 1) (v := .ref (a 3)) (C := RX1) (T := TX1) (N := 10) hx hb hts (fun w9 h9 => List.mem_cons_of_mem _ (inT_X1 w9 h9)) hown hK hP 0 rfl rfl 3 (by decide) (hts (.fieldLink RX1 18 "LinkPredictor$Hierarchy" "supers" "[I") (List.mem_cons_of_mem _ mw_1_74)) (fun _ h9 => h9) rfl dX1_loadParents_1 ?_
  refine lv_iload_n hx hb dX1_loadParents_4 rfl (lv_at hl 1 rfl) ?_
  refine ro_ald hx hb hEV hP 3 (j := x) rfl (by omega) (by decide) dX1_loadParents_5 ?_
  refine top_eq ((OKB_of hT).su hnx) ?_
  refine lv_iconst (v := (-1 : Int32)) hx hb dX1_loadParents_6 (by decide) ?_
  refine lv_icmp_eq (tgt := 31) hx hb dX1_loadParents_7 (by decide) (fun c_7 => ?_) (fun c_7 => ?_)
  · skip
    have hE := (if_pos c_7).symm.trans hE
    exact key_31 h ls _ _ hP hD hS (by first | omega | exact hT | exact (hFv _ _ _).trans hT) (lv_sub hl [0, 1, 2] rfl) hE
  · skip
    have hE := (if_neg c_7).symm.trans hE
    have hs9 := ((wf.1 x hnx).1.resolve_left c_7).1
    refine lv_aload_n hx hb dX1_loadParents_10 rfl (lv_at hl 0 rfl) ?_
    refine lv_aload_n hx hb dX1_loadParents_11 rfl (lv_at hl 0 rfl) ?_
    refine va_get (D := D) (ci := 1) (v := .ref (a 3)) (C := RX1) (T := TX1) (N := 10) hx hb hts (fun w9 h9 => List.mem_cons_of_mem _ (inT_X1 w9 h9)) hown hK hP 0 rfl rfl 3 (by decide) (hts (.fieldLink RX1 18 "LinkPredictor$Hierarchy" "supers" "[I") (List.mem_cons_of_mem _ mw_1_74)) (fun _ h9 => h9) rfl dX1_loadParents_12 ?_
    refine lv_iload_n hx hb dX1_loadParents_15 rfl (lv_at hl 1 rfl) ?_
    refine ro_ald hx hb hEV hP 3 (j := x) rfl (by omega) (by decide) dX1_loadParents_16 ?_
    refine top_eq (((OKB_of hT).su hnx).trans ((wf.1 x hnx).1.resolve_left c_7).2) ?_
    refine lv_iload_n hx hb dX1_loadParents_17 rfl (lv_at hl 2 rfl) ?_
    refine mu_V [.int (nI (sN (τ 3 x))), .int y] [] ⟨hx, hb, hml, hown, hts⟩ (hF h (sN (τ 3 x)) y (by first | exact hT | (simp only [vwH_s5, vwH_s6, vwH_s7, vwH_s8]; exact hT)) (by omega) (by omega)) (cwV (C := RX1) 2 hts (goodP (ps := [.methodLink RX1 78 yX1_loadInside, .instanceMethod yX1_loadInside, .selects RX1 yX1_loadInside yX1_loadInside, .initialized RX1]) (all4 mw_1_38 mw_1_40 ms_1 mw_1_3) mw_1_41) rfl rfl rfl (by decide +kernel) ⟨by show 2 * d + 10 + 1 ≤ 2 * d + 11; omega, by show 8 + (4 + 11) + (60 * d + 200) ≤ 60 * d + 230; omega⟩) hEV hP hD hS hA 0 rfl rfl rfl hl.1 rfl (Nat.le_of_ble_eq_true rfl) dX1_loadParents_18 ⟨Nat.zero_le _, Nat.zero_le _⟩ (fun r9 u9 H1 locs hw hP1 hk1 hS => ?_)
    subst hw
    have hP : va_P D vwCl (wH cI a ((F h (sN (τ 3 x)) y).2)) H1 := hP1
    have hD : va_D A (wH cI a ((F h (sN (τ 3 x)) y).2)) := hD.adr rfl
    generalize H1 = H at hP hS ⊢
    exact key_21 ((F h (sN (τ 3 x)) y).1) ((F h (sN (τ 3 x)) y).2) ls _ _ hP hD hS (by first | omega | exact hT | exact (hFv _ _ _).trans hT) (lv_sub hl [0, 1, 2] rfl) hE
