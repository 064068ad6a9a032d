/-! ===== the reference: what writes ===== -/
def tb (v : Int32) : Bool := !decide (v = 0)
theorem tb_eq {v : Int32} (h : v = 0 ∨ v = 1) : v = b2i (tb v) := by rcases h with e | e <;> rw [e] <;> rfl
/-- the rows of booleans hold 0 and 1 alone -/
def BX (x : Nat → Nat → Int32) : Prop := ∀ k j, (k = 0 ∨ k = 6 ∨ k = 7) → x k j = 0 ∨ x k j = 1
theorem BX.b {x : Nat → Nat → Int32} {k j : Nat} {v : Bool} (h : BX x) : BX (st2 x k j (b2i v)) := by
  intro q i hq
  by_cases c : q = k
  · subst c
    rw [st2_k]
    by_cases c2 : i = j
    · subst c2; rw [pk_us]; cases v
      · exact Or.inl rfl
      · exact Or.inr rfl
    · rw [pk_un c2]; exact h q i hq
  · rw [st2_n c]; exact h q i hq
theorem BX.n {x : Nat → Nat → Int32} {k j : Nat} {v : Int32} (hk : ¬ (k = 0 ∨ k = 6 ∨ k = 7)) (h : BX x) : BX (st2 x k j v) := by
  intro q i hq
  have c : q ≠ k := fun e => hk (e ▸ hq)
  rw [st2_n c]; exact h q i hq
noncomputable def p_X5_at (x : Nat → Nat → Int32) (w n : Nat) (t : Nat) : Int32 := nI ((12 * w) + t)
theorem pe_X5_at (x : Nat → Nat → Int32) (w n : Nat) (t : Nat) (hw : w < 2) (hnt : t < 12) (hwr : x 19 1 = nI w) : p_X5_at x w n t = nI (12 * w + t) := rfl
set_option maxHeartbeats 4000000 in
set_option maxRecDepth 100000 in
theorem c_X5_at (l : Launch) (D : va_G) (cI cZ cB cR : ClassId) (a : Nat → Nat) (x : Nat → Nat → Int32) (r1 r2 : Nat → Int32) (w n : Nat) (t : Nat) (hw : w < 2) (hnt : t < 12) (hwr : x 19 1 = nI w) : RO l yX5_at wsX5_at ({ frames := 0, cells := 0, slots := 0, locals := 0 } : Room) D cI cZ cB cR (wX cI cZ a x r1 r2) [.ref (a 0), .int (nI t)] (nI (12 * w + t)) := by
  have hE : p_X5_at x w n t = nI (12 * w + t) := pe_X5_at x w n t hw hnt hwr
  refine Met.ofW (cc := cX5_at) (maxL := 2) (ret := (some .int)) (by decide) rfl ?_
  intro p e s m args below meth c s₁ B hml hv
  obtain ⟨hargs, hP, hEV⟩ := hv
  have hx := B.exec
  have hb := B.bytes
  have hr := B.returns
  have hts := atoms_spec (ws := wsX5_at) B.pre
  have hown : s.vm.findClass RX5 = some m.cls := findClass_of_methodNamed B.named
  have hlocks := B.notSynchronized
  have hK := hEV.1
  have hl := lv_entry ([.ref (a 0), .int (nI t)]) (n := 2) (Nat.le_of_ble_eq_true rfl)
  rw [show entryFrame m args 2 = entryFrame m ([.ref (a 0), .int (nI t)] : List Value).toArray 2 from by rw [hargs], lg_entry_eq]
  generalize (lg_sl ([.ref (a 0), .int (nI t)]) ++ List.replicate (2 - (lg_sl ([.ref (a 0), .int (nI t)])).length) Slot.unset).toArray = ls at hl ⊢
  have hl : lv_has ls 2 [(0, .ref (a 0)), (1, .int (nI t))] := hl
  rw [p_X5_at] at hE
  refine lv_bipush (v := (12 : Int32)) hx hb dX5_at_0 (by decide) ?_
  refine lv_aload_n hx hb dX5_at_2 rfl (lv_at hl 0 rfl) ?_
  refine va_get (D := D) (ci := 5) (v := .int (x 19 1)) (C := RX5) (T := TX5) (N := 21) hx hb hts (fun w9 h9 => List.mem_cons_of_mem _ (inT_X5 w9 h9)) hown hK hP 0 rfl rfl 18 (by decide) (hts (.fieldLink RX5 68 "LinkPredictorModel" "written" "I") (List.mem_cons_of_mem _ mw_3_84)) (fun _ h9 => h9) rfl dX5_at_3 ?_
  refine top_eq (hwr) ?_
  refine lv_imul hx hb dX5_at_6 ?_
  refine top_eq (pk_mul 12 w) ?_
  refine lv_iload_n hx hb dX5_at_7 rfl (lv_at hl 1 rfl) ?_
  refine lv_iadd hx hb dX5_at_8 ?_
  refine top_eq (nI_add (12 * w) t) ?_
  exact W.iret hx hb hr (fun t9 ht9 _ => ⟨_, rfl, hE, ht9⟩) (fun _ h9 => by cases h9) dX5_at_9
noncomputable def p_X5_isThere (x : Nat → Nat → Int32) (w n : Nat) (t : Int32) : Int32 := if (wi t (12 : Int32)) = true then (if (x 0 (12 * w + (sN t))) = (0 : Int32) then ((0 : Int32)) else ((1 : Int32))) else ((0 : Int32))
theorem pe_X5_isThere (x : Nat → Nat → Int32) (w n : Nat) (t : Int32) (hw : w < 2)  (hwr : x 19 1 = nI w) : p_X5_isThere x w n t = b2i (wi t 12 && thB (vwX x w) (sN t)) := by
  rw [p_X5_isThere]
  by_cases c : wi t 12 = true
  · rw [if_pos c, c, Bool.true_and]
    refine ite_b2i ?_
    show _ ↔ ¬ (!decide (x 0 (12 * w + sN t) = 0)) = true
    simp
  · rw [if_neg c]
    cases q : wi t 12 with
    | true => exact absurd q c
    | false => rfl
set_option maxHeartbeats 4000000 in
set_option maxRecDepth 100000 in
theorem c_X5_isThere (l : Launch) (D : va_G) (cI cZ cB cR : ClassId) (a : Nat → Nat) (x : Nat → Nat → Int32) (r1 r2 : Nat → Int32) (w n : Nat) (t : Int32) (hw : w < 2)  (hwr : x 19 1 = nI w) : RO l yX5_isThere wsX5_isThere ({ frames := 1, cells := 0, slots := 0, locals := 21 } : Room) D cI cZ cB cR (wX cI cZ a x r1 r2) [.ref (a 0), .int t] (b2i (wi t 12 && thB (vwX x w) (sN t))) := by
  have hE : p_X5_isThere x w n t = b2i (wi t 12 && thB (vwX x w) (sN t)) := pe_X5_isThere x w n t hw hwr
  refine Met.ofW (cc := cX5_isThere) (maxL := 2) (ret := (some .boolean)) (by decide) rfl ?_
  intro p e s m args below meth c s₁ B hml hv
  obtain ⟨hargs, hP, hEV⟩ := hv
  have hx := B.exec
  have hb := B.bytes
  have hr := B.returns
  have hts := atoms_spec (ws := wsX5_isThere) B.pre
  have hown : s.vm.findClass RX5 = some m.cls := findClass_of_methodNamed B.named
  have hlocks := B.notSynchronized
  have hK := hEV.1
  have hl := lv_entry ([.ref (a 0), .int t]) (n := 2) (Nat.le_of_ble_eq_true rfl)
  rw [show entryFrame m args 2 = entryFrame m ([.ref (a 0), .int t] : List Value).toArray 2 from by rw [hargs], lg_entry_eq]
  generalize (lg_sl ([.ref (a 0), .int t]) ++ List.replicate (2 - (lg_sl ([.ref (a 0), .int t])).length) Slot.unset).toArray = ls at hl ⊢
  have hl : lv_has ls 2 [(0, .ref (a 0)), (1, .int t)] := hl
  rw [p_X5_isThere] at hE
  refine lv_iload_n hx hb dX5_isThere_0 rfl (lv_at hl 1 rfl) ?_
  refine lv_bipush (v := (12 : Int32)) hx hb dX5_isThere_1 (by decide) ?_
  refine ro_S [.int t, .int (12 : Int32)] [] ⟨hx, hb, hml, hown, hts⟩ (c_X5_in l D cI cZ cB cR t (12 : Int32)) (va_cwS 2 hts (goodP (ps := [.methodLink RX5 72 yX5_in, .static yX5_in, .initialized RX5]) (all3 mw_3_135 mw_3_136 mw_1_6) mw_3_137) rfl rfl rfl (by decide +kernel) ⟨Nat.le_of_ble_eq_true rfl, Nat.le_of_ble_eq_true rfl⟩) hEV va_P0 rfl hl.1 rfl (Nat.le_of_ble_eq_true rfl) dX5_isThere_3 ⟨Nat.zero_le _, Nat.zero_le _⟩ ?_
  refine lv_if_eq (tgt := 26) hx hb dX5_isThere_6 (by decide) (fun c_6 => ?_) (fun c_6 => ?_)
  · have c_6 : ¬ ((wi t (12 : Int32)) = true) := b2i_f c_6
    have hE := (if_neg c_6).symm.trans hE
    refine lv_iconst (v := (0 : Int32)) hx hb dX5_isThere_26 (by decide) ?_
    exact W.zret hx hb hr rfl (fun t9 ht9 _ => ⟨_, rfl, hE, ht9⟩) (fun _ h9 => by cases h9) dX5_isThere_27
  · have c_6 : (wi t (12 : Int32)) = true := b2i_t c_6
    have hE := (if_pos c_6).symm.trans hE
    have ht9 := wi_sN (b := 12) (by omega) c_6
    have ht8 := ht9.1
    refine lv_aload_n hx hb dX5_isThere_9 rfl (lv_at hl 0 rfl) ?_
    refine va_get (D := D) (ci := 5) (v := .ref (a 1)) (C := RX5) (T := TX5) (N := 21) hx hb hts (fun w9 h9 => List.mem_cons_of_mem _ (inT_X5 w9 h9)) hown hK hP 0 rfl rfl 0 (by decide) (hts (.fieldLink RX5 7 "LinkPredictorModel" "there" "[Z") (List.mem_cons_of_mem _ mw_3_66)) (fun _ h9 => h9) rfl dX5_isThere_10 ?_
    refine lv_aload_n hx hb dX5_isThere_13 rfl (lv_at hl 0 rfl) ?_
    refine lv_iload_n hx hb dX5_isThere_14 rfl (lv_at hl 1 rfl) ?_
    refine top_eq (ht9.2) ?_
    refine ro_V [.int (nI (sN t))] [.ref (a 1)] ⟨hx, hb, hml, hown, hts⟩ (c_X5_at l D cI cZ cB cR a x r1 r2 w n (sN t) (by omega) (by omega) hwr) (cwV (C := RX5) 1 hts (goodP (ps := [.methodLink RX5 76 yX5_at, .instanceMethod yX5_at, .selects RX5 yX5_at yX5_at, .initialized RX5]) (all4 mw_3_138 mw_3_140 ms_25 mw_1_6) mw_3_141) rfl rfl rfl (by decide +kernel) ⟨Nat.le_of_ble_eq_true rfl, Nat.le_of_ble_eq_true rfl⟩) hEV hP 0 rfl rfl rfl hl.1 rfl (Nat.le_of_ble_eq_true rfl) dX5_isThere_15 ⟨Nat.zero_le _, Nat.zero_le _⟩ ?_
    refine ro_zld hx hb hEV hP 1 (j := (12 * w + (sN t))) rfl (by omega) (by decide) dX5_isThere_18 ?_
    refine lv_if_eq (tgt := 26) hx hb dX5_isThere_19 (by decide) (fun c_19 => ?_) (fun c_19 => ?_)
    · skip
      have hE := (if_pos c_19).symm.trans hE
      refine lv_iconst (v := (0 : Int32)) hx hb dX5_isThere_26 (by decide) ?_
      exact W.zret hx hb hr rfl (fun t9 ht9 _ => ⟨_, rfl, hE, ht9⟩) (fun _ h9 => by cases h9) dX5_isThere_27
    · skip
      have hE := (if_neg c_19).symm.trans hE
      refine lv_iconst (v := (1 : Int32)) hx hb dX5_isThere_22 (by decide) ?_
      refine lv_goto (tgt := 27) hx hb dX5_isThere_23 (by decide) ?_
      exact W.zret hx hb hr rfl (fun t9 ht9 _ => ⟨_, rfl, hE, ht9⟩) (fun _ h9 => by cases h9) dX5_isThere_27
noncomputable def p_X5_isMember (x : Nat → Nat → Int32) (w n : Nat) (t : Int32) : Int32 := if (wi t (nI n)) = true then (if (x 7 ((30 * w) + (sN t))) = (0 : Int32) then ((1 : Int32)) else ((0 : Int32))) else ((0 : Int32))
theorem pe_X5_isMember (x : Nat → Nat → Int32) (w n : Nat) (t : Int32) (hw : w < 2) (wx : WX x w n)  (hwr : x 19 1 = nI w) : p_X5_isMember x w n t = b2i (wi t (nI n) && !(goB (vmX x w) (sN t))) := by
  rw [p_X5_isMember]
  by_cases c : wi t (nI n) = true
  · rw [if_pos c, c, Bool.true_and]
    refine ite_b2i' ?_
    show _ ↔ (!(!decide (x 7 (30 * w + sN t) = 0))) = true
    simp
  · rw [if_neg c]
    cases q : wi t (nI n) with
    | true => exact absurd q c
    | false => rfl
set_option maxHeartbeats 4000000 in
set_option maxRecDepth 100000 in
theorem c_X5_isMember (l : Launch) (D : va_G) (cI cZ cB cR : ClassId) (a : Nat → Nat) (x : Nat → Nat → Int32) (r1 r2 : Nat → Int32) (w n : Nat) (t : Int32) (hw : w < 2) (wx : WX x w n)  (hwr : x 19 1 = nI w) : RO l yX5_isMember wsX5_isMember ({ frames := 1, cells := 0, slots := 0, locals := 21 } : Room) D cI cZ cB cR (wX cI cZ a x r1 r2) [.ref (a 0), .int t] (b2i (wi t (nI n) && !(goB (vmX x w) (sN t)))) := by
  have hE : p_X5_isMember x w n t = b2i (wi t (nI n) && !(goB (vmX x w) (sN t))) := pe_X5_isMember x w n t hw wx hwr
  refine Met.ofW (cc := cX5_isMember) (maxL := 2) (ret := (some .boolean)) (by decide) rfl ?_
  intro p e s m args below meth c s₁ B hml hv
  obtain ⟨hargs, hP, hEV⟩ := hv
  have hx := B.exec
  have hb := B.bytes
  have hr := B.returns
  have hts := atoms_spec (ws := wsX5_isMember) B.pre
  have hown : s.vm.findClass RX5 = some m.cls := findClass_of_methodNamed B.named
  have hlocks := B.notSynchronized
  have hK := hEV.1
  have hl := lv_entry ([.ref (a 0), .int t]) (n := 2) (Nat.le_of_ble_eq_true rfl)
  rw [show entryFrame m args 2 = entryFrame m ([.ref (a 0), .int t] : List Value).toArray 2 from by rw [hargs], lg_entry_eq]
  generalize (lg_sl ([.ref (a 0), .int t]) ++ List.replicate (2 - (lg_sl ([.ref (a 0), .int t])).length) Slot.unset).toArray = ls at hl ⊢
  have hl : lv_has ls 2 [(0, .ref (a 0)), (1, .int t)] := hl
  rw [p_X5_isMember] at hE
  have hn30 := wx.2.2.1
  refine lv_iload_n hx hb dX5_isMember_0 rfl (lv_at hl 1 rfl) ?_
  refine lv_aload_n hx hb dX5_isMember_1 rfl (lv_at hl 0 rfl) ?_
  refine va_get (D := D) (ci := 5) (v := .ref (a 9)) (C := RX5) (T := TX5) (N := 21) hx hb hts (fun w9 h9 => List.mem_cons_of_mem _ (inT_X5 w9 h9)) hown hK hP 0 rfl rfl 8 (by decide) (hts (.fieldLink RX5 35 "LinkPredictorModel" "many" "[I") (List.mem_cons_of_mem _ mw_3_74)) (fun _ h9 => h9) rfl dX5_isMember_2 ?_
  refine lv_aload_n hx hb dX5_isMember_5 rfl (lv_at hl 0 rfl) ?_
  refine va_get (D := D) (ci := 5) (v := .int (x 19 1)) (C := RX5) (T := TX5) (N := 21) hx hb hts (fun w9 h9 => List.mem_cons_of_mem _ (inT_X5 w9 h9)) hown hK hP 0 rfl rfl 18 (by decide) (hts (.fieldLink RX5 68 "LinkPredictorModel" "written" "I") (List.mem_cons_of_mem _ mw_3_84)) (fun _ h9 => h9) rfl dX5_isMember_6 ?_
  refine top_eq (hwr) ?_
  refine ro_ald hx hb hEV hP 9 (j := w) rfl (by omega) (by decide) dX5_isMember_9 ?_
  refine top_eq (wx.2.1) ?_
  refine ro_S [.int t, .int (nI n)] [] ⟨hx, hb, hml, hown, hts⟩ (c_X5_in l D cI cZ cB cR t (nI n)) (va_cwS 2 hts (goodP (ps := [.methodLink RX5 72 yX5_in, .static yX5_in, .initialized RX5]) (all3 mw_3_135 mw_3_136 mw_1_6) mw_3_137) rfl rfl rfl (by decide +kernel) ⟨Nat.le_of_ble_eq_true rfl, Nat.le_of_ble_eq_true rfl⟩) hEV va_P0 rfl hl.1 rfl (Nat.le_of_ble_eq_true rfl) dX5_isMember_10 ⟨Nat.zero_le _, Nat.zero_le _⟩ ?_
  refine lv_if_eq (tgt := 37) hx hb dX5_isMember_13 (by decide) (fun c_13 => ?_) (fun c_13 => ?_)
  · have c_13 : ¬ ((wi t (nI n)) = true) := b2i_f c_13
    have hE := (if_neg c_13).symm.trans hE
    refine lv_iconst (v := (0 : Int32)) hx hb dX5_isMember_37 (by decide) ?_
    exact W.zret hx hb hr rfl (fun t9 ht9 _ => ⟨_, rfl, hE, ht9⟩) (fun _ h9 => by cases h9) dX5_isMember_38
  · have c_13 : (wi t (nI n)) = true := b2i_t c_13
    have hE := (if_pos c_13).symm.trans hE
    have ht9 := wi_sN (b := n) (by omega) c_13
    have ht8 := ht9.1
    refine lv_aload_n hx hb dX5_isMember_16 rfl (lv_at hl 0 rfl) ?_
    refine va_get (D := D) (ci := 5) (v := .ref (a 8)) (C := RX5) (T := TX5) (N := 21) hx hb hts (fun w9 h9 => List.mem_cons_of_mem _ (inT_X5 w9 h9)) hown hK hP 0 rfl rfl 7 (by decide) (hts (.fieldLink RX5 32 "LinkPredictorModel" "gone" "[Z") (List.mem_cons_of_mem _ mw_3_73)) (fun _ h9 => h9) rfl dX5_isMember_17 ?_
    refine lv_bipush (v := (30 : Int32)) hx hb dX5_isMember_20 (by decide) ?_
    refine lv_aload_n hx hb dX5_isMember_22 rfl (lv_at hl 0 rfl) ?_
    refine va_get (D := D) (ci := 5) (v := .int (x 19 1)) (C := RX5) (T := TX5) (N := 21) hx hb hts (fun w9 h9 => List.mem_cons_of_mem _ (inT_X5 w9 h9)) hown hK hP 0 rfl rfl 18 (by decide) (hts (.fieldLink RX5 68 "LinkPredictorModel" "written" "I") (List.mem_cons_of_mem _ mw_3_84)) (fun _ h9 => h9) rfl dX5_isMember_23 ?_
    refine top_eq (hwr) ?_
    refine lv_imul hx hb dX5_isMember_26 ?_
    refine top_eq (pk_mul 30 w) ?_
    refine lv_iload_n hx hb dX5_isMember_27 rfl (lv_at hl 1 rfl) ?_
    refine top_eq (ht9.2) ?_
    refine lv_iadd hx hb dX5_isMember_28 ?_
    refine top_eq (nI_add (30 * w) (sN t)) ?_
    refine ro_zld hx hb hEV hP 8 (j := ((30 * w) + (sN t))) rfl (by omega) (by decide) dX5_isMember_29 ?_
    refine lv_if_ne (tgt := 37) hx hb dX5_isMember_30 (by decide) (fun c_30 => ?_) (fun c_30 => ?_)
    · skip
      have hE := (if_neg c_30).symm.trans hE
      refine lv_iconst (v := (0 : Int32)) hx hb dX5_isMember_37 (by decide) ?_
      exact W.zret hx hb hr rfl (fun t9 ht9 _ => ⟨_, rfl, hE, ht9⟩) (fun _ h9 => by cases h9) dX5_isMember_38
    · skip
      have hE := (if_pos c_30).symm.trans hE
      refine lv_iconst (v := (1 : Int32)) hx hb dX5_isMember_33 (by decide) ?_
      refine lv_goto (tgt := 38) hx hb dX5_isMember_34 (by decide) ?_
      exact W.zret hx hb hr rfl (fun t9 ht9 _ => ⟨_, rfl, hE, ht9⟩) (fun _ h9 => by cases h9) dX5_isMember_38
noncomputable def p_X5_type (w n : Nat) (t : Int32) (u : Int32) (v : Int32) (y : Int32) (z : Int32) (x : (Nat → Nat → Int32)) : Int32 × (Nat → Nat → Int32) := if t = (0 : Int32) then (((0 : Int32), x)) else (if (wi t (12 : Int32)) = true then (if (wi u (16 : Int32)) = true then (if (wi v (4 : Int32)) = true then (if (wi y (12 : Int32)) = true then (if (wi z (4096 : Int32)) = true then (((1 : Int32), st2 (st2 (st2 (st2 (st2 (st2 x 0 (12 * w + (sN t)) (b2i true)) 1 (12 * w + (sN t)) u) 2 (12 * w + (sN t)) v) 3 (12 * w + (sN t)) y) 4 (12 * w + (sN t)) z) 5 (12 * w + (sN t)) t)) else (((0 : Int32), x))) else (((0 : Int32), x))) else (((0 : Int32), x))) else (((0 : Int32), x))) else (((0 : Int32), x)))
set_option maxHeartbeats 4000000 in
set_option maxRecDepth 100000 in
theorem c_X5_type (l : Launch) (D : va_G) (cI cZ cB cR : ClassId) (a : Nat → Nat) (x : Nat → Nat → Int32) (r1 r2 : Nat → Int32) (w n : Nat) (t : Int32) (u : Int32) (v : Int32) (y : Int32) (z : Int32) (hw : w < 2) (wx : WX x w n) (hwr : x 19 1 = nI w)   : MUi l yX5_type wsX5_type ({ frames := 1, cells := 0, slots := 0, locals := 21 } : Room) D cI cZ cB cR (wX cI cZ a x r1 r2) [.ref (a 0), .int t, .int u, .int v, .int y, .int z] (fun (_ : Unit) => wX cI cZ a ((p_X5_type w n t u v y z x).2) r1 r2) (fun r _ => r = (p_X5_type w n t u v y z x).1) := by
  generalize hE : p_X5_type w n t u v y z x = tgt
  intro sz
  refine Met.ofW (cc := cX5_type) (maxL := 7) (ret := (some .boolean)) (by decide) rfl ?_
  intro p e s m args below meth c s₁ B hml hv
  obtain ⟨hargs, hsz, hP, hEV, hD0⟩ := hv
  have hx := B.exec
  have hb := B.bytes
  have hr := B.returns
  have hts := atoms_spec (ws := wsX5_type) B.pre
  have hown : s.vm.findClass RX5 = some m.cls := findClass_of_methodNamed B.named
  have hlocks := B.notSynchronized
  have hK := hEV.1
  have hl := lv_entry ([.ref (a 0), .int t, .int u, .int v, .int y, .int z]) (n := 7) (Nat.le_of_ble_eq_true rfl)
  rw [show entryFrame m args 7 = entryFrame m ([.ref (a 0), .int t, .int u, .int v, .int y, .int z] : List Value).toArray 7 from by rw [hargs], lg_entry_eq]
  generalize (lg_sl ([.ref (a 0), .int t, .int u, .int v, .int y, .int z]) ++ List.replicate (7 - (lg_sl ([.ref (a 0), .int t, .int u, .int v, .int y, .int z])).length) Slot.unset).toArray = ls at hl ⊢
  have hl : lv_has ls 7 [(0, .ref (a 0)), (1, .int t), (2, .int u), (3, .int v), (4, .int y), (5, .int z)] := hl
  subst hsz
  have hD := hD0.self (sz := s.heap.size)
  generalize hAe : va_A (wX cI cZ a x r1 r2) s.heap.size = A at hD ⊢
  have hA : ∀ q : Nat, s.heap.size ≤ q → A q := fun q h9 => by rw [← hAe]; exact Or.inr h9
  have hS : va_S A s.heap s.heap [] := va_S.rf
  rw [p_X5_type] at hE
  have hn30 := wx.2.2.1
  refine lv_iload_n hx hb dX5_type_0 rfl (lv_at hl 1 rfl) ?_
  refine lv_if_eq (tgt := 51) hx hb dX5_type_1 (by decide) (fun c_1 => ?_) (fun c_1 => ?_)
  · skip
    have hE := (if_pos c_1).symm.trans hE
    refine lv_iconst (v := (0 : Int32)) hx hb dX5_type_51 (by decide) ?_
    exact W.zret hx hb hr rfl (fun t9 ht9 _ => ⟨⟨_, (), rfl, congrArg Prod.fst hE, by show va_P D vwCl _ t9.heap; rw [ht9, ← congrArg Prod.snd hE]; exact hP⟩, hS.F ht9⟩) hS.2.2 dX5_type_52
  · skip
    have hE := (if_neg c_1).symm.trans hE
    refine lv_iload_n hx hb dX5_type_4 rfl (lv_at hl 1 rfl) ?_
    refine lv_bipush (v := (12 : Int32)) hx hb dX5_type_5 (by decide) ?_
    refine ro_S [.int t, .int (12 : Int32)] [] ⟨hx, hb, hml, hown, hts⟩ (c_X5_in l D cI cZ cB cR t (12 : Int32)) (va_cwS 2 hts (goodP (ps := [.methodLink RX5 72 yX5_in, .static yX5_in, .initialized RX5]) (all3 mw_3_135 mw_3_136 mw_1_6) mw_3_137) rfl rfl rfl (by decide +kernel) ⟨Nat.le_of_ble_eq_true rfl, Nat.le_of_ble_eq_true rfl⟩) hEV va_P0 rfl hl.1 rfl (Nat.le_of_ble_eq_true rfl) dX5_type_7 ⟨Nat.zero_le _, Nat.zero_le _⟩ ?_
    refine lv_if_eq (tgt := 51) hx hb dX5_type_10 (by decide) (fun c_10 => ?_) (fun c_10 => ?_)
    · have c_10 : ¬ ((wi t (12 : Int32)) = true) := b2i_f c_10
      have hE := (if_neg c_10).symm.trans hE
      refine lv_iconst (v := (0 : Int32)) hx hb dX5_type_51 (by decide) ?_
      exact W.zret hx hb hr rfl (fun t9 ht9 _ => ⟨⟨_, (), rfl, congrArg Prod.fst hE, by show va_P D vwCl _ t9.heap; rw [ht9, ← congrArg Prod.snd hE]; exact hP⟩, hS.F ht9⟩) hS.2.2 dX5_type_52
    · have c_10 : (wi t (12 : Int32)) = true := b2i_t c_10
      have hE := (if_pos c_10).symm.trans hE
      refine lv_iload_n hx hb dX5_type_13 rfl (lv_at hl 2 rfl) ?_
      refine lv_bipush (v := (16 : Int32)) hx hb dX5_type_14 (by decide) ?_
      refine ro_S [.int u, .int (16 : Int32)] [] ⟨hx, hb, hml, hown, hts⟩ (c_X5_in l D cI cZ cB cR u (16 : Int32)) (va_cwS 2 hts (goodP (ps := [.methodLink RX5 72 yX5_in, .static yX5_in, .initialized RX5]) (all3 mw_3_135 mw_3_136 mw_1_6) mw_3_137) rfl rfl rfl (by decide +kernel) ⟨Nat.le_of_ble_eq_true rfl, Nat.le_of_ble_eq_true rfl⟩) hEV va_P0 rfl hl.1 rfl (Nat.le_of_ble_eq_true rfl) dX5_type_16 ⟨Nat.zero_le _, Nat.zero_le _⟩ ?_
      refine lv_if_eq (tgt := 51) hx hb dX5_type_19 (by decide) (fun c_19 => ?_) (fun c_19 => ?_)
      · have c_19 : ¬ ((wi u (16 : Int32)) = true) := b2i_f c_19
        have hE := (if_neg c_19).symm.trans hE
        refine lv_iconst (v := (0 : Int32)) hx hb dX5_type_51 (by decide) ?_
        exact W.zret hx hb hr rfl (fun t9 ht9 _ => ⟨⟨_, (), rfl, congrArg Prod.fst hE, by show va_P D vwCl _ t9.heap; rw [ht9, ← congrArg Prod.snd hE]; exact hP⟩, hS.F ht9⟩) hS.2.2 dX5_type_52
      · have c_19 : (wi u (16 : Int32)) = true := b2i_t c_19
        have hE := (if_pos c_19).symm.trans hE
        refine lv_iload_n hx hb dX5_type_22 rfl (lv_at hl 3 rfl) ?_
        refine lv_iconst (v := (4 : Int32)) hx hb dX5_type_23 (by decide) ?_
        refine ro_S [.int v, .int (4 : Int32)] [] ⟨hx, hb, hml, hown, hts⟩ (c_X5_in l D cI cZ cB cR v (4 : Int32)) (va_cwS 2 hts (goodP (ps := [.methodLink RX5 72 yX5_in, .static yX5_in, .initialized RX5]) (all3 mw_3_135 mw_3_136 mw_1_6) mw_3_137) rfl rfl rfl (by decide +kernel) ⟨Nat.le_of_ble_eq_true rfl, Nat.le_of_ble_eq_true rfl⟩) hEV va_P0 rfl hl.1 rfl (Nat.le_of_ble_eq_true rfl) dX5_type_24 ⟨Nat.zero_le _, Nat.zero_le _⟩ ?_
        refine lv_if_eq (tgt := 51) hx hb dX5_type_27 (by decide) (fun c_27 => ?_) (fun c_27 => ?_)
        · have c_27 : ¬ ((wi v (4 : Int32)) = true) := b2i_f c_27
          have hE := (if_neg c_27).symm.trans hE
          refine lv_iconst (v := (0 : Int32)) hx hb dX5_type_51 (by decide) ?_
          exact W.zret hx hb hr rfl (fun t9 ht9 _ => ⟨⟨_, (), rfl, congrArg Prod.fst hE, by show va_P D vwCl _ t9.heap; rw [ht9, ← congrArg Prod.snd hE]; exact hP⟩, hS.F ht9⟩) hS.2.2 dX5_type_52
        · have c_27 : (wi v (4 : Int32)) = true := b2i_t c_27
          have hE := (if_pos c_27).symm.trans hE
          refine lv_iload hx hb dX5_type_30 (lv_at hl 4 rfl) ?_
          refine lv_bipush (v := (12 : Int32)) hx hb dX5_type_32 (by decide) ?_
          refine ro_S [.int y, .int (12 : Int32)] [] ⟨hx, hb, hml, hown, hts⟩ (c_X5_in l D cI cZ cB cR y (12 : Int32)) (va_cwS 2 hts (goodP (ps := [.methodLink RX5 72 yX5_in, .static yX5_in, .initialized RX5]) (all3 mw_3_135 mw_3_136 mw_1_6) mw_3_137) rfl rfl rfl (by decide +kernel) ⟨Nat.le_of_ble_eq_true rfl, Nat.le_of_ble_eq_true rfl⟩) hEV va_P0 rfl hl.1 rfl (Nat.le_of_ble_eq_true rfl) dX5_type_34 ⟨Nat.zero_le _, Nat.zero_le _⟩ ?_
          refine lv_if_eq (tgt := 51) hx hb dX5_type_37 (by decide) (fun c_37 => ?_) (fun c_37 => ?_)
          · have c_37 : ¬ ((wi y (12 : Int32)) = true) := b2i_f c_37
            have hE := (if_neg c_37).symm.trans hE
            refine lv_iconst (v := (0 : Int32)) hx hb dX5_type_51 (by decide) ?_
            exact W.zret hx hb hr rfl (fun t9 ht9 _ => ⟨⟨_, (), rfl, congrArg Prod.fst hE, by show va_P D vwCl _ t9.heap; rw [ht9, ← congrArg Prod.snd hE]; exact hP⟩, hS.F ht9⟩) hS.2.2 dX5_type_52
          · have c_37 : (wi y (12 : Int32)) = true := b2i_t c_37
            have hE := (if_pos c_37).symm.trans hE
            refine lv_iload hx hb dX5_type_40 (lv_at hl 5 rfl) ?_
            refine lv_sipush (v := (4096 : Int32)) hx hb dX5_type_42 (by decide) ?_
            refine ro_S [.int z, .int (4096 : Int32)] [] ⟨hx, hb, hml, hown, hts⟩ (c_X5_in l D cI cZ cB cR z (4096 : Int32)) (va_cwS 2 hts (goodP (ps := [.methodLink RX5 72 yX5_in, .static yX5_in, .initialized RX5]) (all3 mw_3_135 mw_3_136 mw_1_6) mw_3_137) rfl rfl rfl (by decide +kernel) ⟨Nat.le_of_ble_eq_true rfl, Nat.le_of_ble_eq_true rfl⟩) hEV va_P0 rfl hl.1 rfl (Nat.le_of_ble_eq_true rfl) dX5_type_45 ⟨Nat.zero_le _, Nat.zero_le _⟩ ?_
            refine lv_if_ne (tgt := 53) hx hb dX5_type_48 (by decide) (fun c_48 => ?_) (fun c_48 => ?_)
            · have c_48 : (wi z (4096 : Int32)) = true := b2i_t c_48
              have hE := (if_pos c_48).symm.trans hE
              have ht9 := wi_sN (b := 12) (by omega) c_10
              have ht8 := ht9.1
              refine lv_aload_n hx hb dX5_type_53 rfl (lv_at hl 0 rfl) ?_
              refine lv_iload_n hx hb dX5_type_54 rfl (lv_at hl 1 rfl) ?_
              refine top_eq (ht9.2) ?_
              refine ro_V [.int (nI (sN t))] [] ⟨hx, hb, hml, hown, hts⟩ (c_X5_at l D cI cZ cB cR a x r1 r2 w n (sN t) (by omega) (by omega) hwr) (cwV (C := RX5) 1 hts (goodP (ps := [.methodLink RX5 76 yX5_at, .instanceMethod yX5_at, .selects RX5 yX5_at yX5_at, .initialized RX5]) (all4 mw_3_138 mw_3_140 ms_25 mw_1_6) mw_3_141) rfl rfl rfl (by decide +kernel) ⟨Nat.le_of_ble_eq_true rfl, Nat.le_of_ble_eq_true rfl⟩) hEV hP 0 rfl rfl rfl hl.1 rfl (Nat.le_of_ble_eq_true rfl) dX5_type_55 ⟨Nat.zero_le _, Nat.zero_le _⟩ ?_
              refine lv_istore (lv' := [(6, .int (nI (12 * w + (sN t)))), (0, .ref (a 0)), (1, .int t), (2, .int u), (3, .int v), (4, .int y), (5, .int z)]) hx hb dX5_type_58 hl (by decide) rfl (fun ls hl => ?_)
              refine lv_aload_n hx hb dX5_type_60 rfl (lv_at hl 1 rfl) ?_
              refine va_get (D := D) (ci := 5) (v := .ref (a 1)) (C := RX5) (T := TX5) (N := 21) hx hb hts (fun w9 h9 => List.mem_cons_of_mem _ (inT_X5 w9 h9)) hown hK hP 0 rfl rfl 0 (by decide) (hts (.fieldLink RX5 7 "LinkPredictorModel" "there" "[Z") (List.mem_cons_of_mem _ mw_3_66)) (fun _ h9 => h9) rfl dX5_type_61 ?_
              refine lv_iload hx hb dX5_type_64 (lv_at hl 0 rfl) ?_
              refine lv_iconst (v := (1 : Int32)) hx hb dX5_type_66 (by decide) ?_
              refine top_eq (show (1 : Int32) = b2i true from rfl) ?_
              refine mu_zst hx hb hEV hP hD hS 1 (j := (12 * w + (sN t))) (v := true) (w2 := wX cI cZ a (st2 x 0 (12 * w + (sN t)) (b2i true)) r1 r2) rfl (by omega) (by decide) rfl dX5_type_67 (fun H locs hP hD hS => ?_)
              refine lv_aload_n hx hb dX5_type_68 rfl (lv_at hl 1 rfl) ?_
              refine va_get (D := D) (ci := 5) (v := .ref (a 2)) (C := RX5) (T := TX5) (N := 21) hx hb hts (fun w9 h9 => List.mem_cons_of_mem _ (inT_X5 w9 h9)) hown hK hP 0 rfl rfl 1 (by decide) (hts (.fieldLink RX5 13 "LinkPredictorModel" "flags" "[I") (List.mem_cons_of_mem _ mw_3_67)) (fun _ h9 => h9) rfl dX5_type_69 ?_
              refine lv_iload hx hb dX5_type_72 (lv_at hl 0 rfl) ?_
              refine lv_iload_n hx hb dX5_type_74 rfl (lv_at hl 3 rfl) ?_
              refine mu_ast hx hb hEV hP hD hS 2 (j := (12 * w + (sN t))) (v := u) (w2 := wX cI cZ a (st2 (st2 x 0 (12 * w + (sN t)) (b2i true)) 1 (12 * w + (sN t)) u) r1 r2) rfl (by omega) (by decide) rfl dX5_type_75 (fun H locs hP hD hS => ?_)
              refine lv_aload_n hx hb dX5_type_76 rfl (lv_at hl 1 rfl) ?_
              refine va_get (D := D) (ci := 5) (v := .ref (a 3)) (C := RX5) (T := TX5) (N := 21) hx hb hts (fun w9 h9 => List.mem_cons_of_mem _ (inT_X5 w9 h9)) hown hK hP 0 rfl rfl 2 (by decide) (hts (.fieldLink RX5 17 "LinkPredictorModel" "pack" "[I") (List.mem_cons_of_mem _ mw_3_68)) (fun _ h9 => h9) rfl dX5_type_77 ?_
              refine lv_iload hx hb dX5_type_80 (lv_at hl 0 rfl) ?_
              refine lv_iload_n hx hb dX5_type_82 rfl (lv_at hl 4 rfl) ?_
              refine mu_ast hx hb hEV hP hD hS 3 (j := (12 * w + (sN t))) (v := v) (w2 := wX cI cZ a (st2 (st2 (st2 x 0 (12 * w + (sN t)) (b2i true)) 1 (12 * w + (sN t)) u) 2 (12 * w + (sN t)) v) r1 r2) rfl (by omega) (by decide) rfl dX5_type_83 (fun H locs hP hD hS => ?_)
              refine lv_aload_n hx hb dX5_type_84 rfl (lv_at hl 1 rfl) ?_
              refine va_get (D := D) (ci := 5) (v := .ref (a 4)) (C := RX5) (T := TX5) (N := 21) hx hb hts (fun w9 h9 => List.mem_cons_of_mem _ (inT_X5 w9 h9)) hown hK hP 0 rfl rfl 3 (by decide) (hts (.fieldLink RX5 20 "LinkPredictorModel" "above" "[I") (List.mem_cons_of_mem _ mw_3_69)) (fun _ h9 => h9) rfl dX5_type_85 ?_
              refine lv_iload hx hb dX5_type_88 (lv_at hl 0 rfl) ?_
              refine lv_iload hx hb dX5_type_90 (lv_at hl 5 rfl) ?_
              refine mu_ast hx hb hEV hP hD hS 4 (j := (12 * w + (sN t))) (v := y) (w2 := wX cI cZ a (st2 (st2 (st2 (st2 x 0 (12 * w + (sN t)) (b2i true)) 1 (12 * w + (sN t)) u) 2 (12 * w + (sN t)) v) 3 (12 * w + (sN t)) y) r1 r2) rfl (by omega) (by decide) rfl dX5_type_92 (fun H locs hP hD hS => ?_)
              refine lv_aload_n hx hb dX5_type_93 rfl (lv_at hl 1 rfl) ?_
              refine va_get (D := D) (ci := 5) (v := .ref (a 5)) (C := RX5) (T := TX5) (N := 21) hx hb hts (fun w9 h9 => List.mem_cons_of_mem _ (inT_X5 w9 h9)) hown hK hP 0 rfl rfl 4 (by decide) (hts (.fieldLink RX5 23 "LinkPredictorModel" "faces" "[I") (List.mem_cons_of_mem _ mw_3_70)) (fun _ h9 => h9) rfl dX5_type_94 ?_
              refine lv_iload hx hb dX5_type_97 (lv_at hl 0 rfl) ?_
              refine lv_iload hx hb dX5_type_99 (lv_at hl 6 rfl) ?_
              refine mu_ast hx hb hEV hP hD hS 5 (j := (12 * w + (sN t))) (v := z) (w2 := wX cI cZ a (st2 (st2 (st2 (st2 (st2 x 0 (12 * w + (sN t)) (b2i true)) 1 (12 * w + (sN t)) u) 2 (12 * w + (sN t)) v) 3 (12 * w + (sN t)) y) 4 (12 * w + (sN t)) z) r1 r2) rfl (by omega) (by decide) rfl dX5_type_101 (fun H locs hP hD hS => ?_)
              refine lv_aload_n hx hb dX5_type_102 rfl (lv_at hl 1 rfl) ?_
              refine va_get (D := D) (ci := 5) (v := .ref (a 6)) (C := RX5) (T := TX5) (N := 21) hx hb hts (fun w9 h9 => List.mem_cons_of_mem _ (inT_X5 w9 h9)) hown hK hP 0 rfl rfl 5 (by decide) (hts (.fieldLink RX5 26 "LinkPredictorModel" "host" "[I") (List.mem_cons_of_mem _ mw_3_71)) (fun _ h9 => h9) rfl dX5_type_103 ?_
              refine lv_iload hx hb dX5_type_106 (lv_at hl 0 rfl) ?_
              refine lv_iload_n hx hb dX5_type_108 rfl (lv_at hl 2 rfl) ?_
              refine mu_ast hx hb hEV hP hD hS 6 (j := (12 * w + (sN t))) (v := t) (w2 := wX cI cZ a (st2 (st2 (st2 (st2 (st2 (st2 x 0 (12 * w + (sN t)) (b2i true)) 1 (12 * w + (sN t)) u) 2 (12 * w + (sN t)) v) 3 (12 * w + (sN t)) y) 4 (12 * w + (sN t)) z) 5 (12 * w + (sN t)) t) r1 r2) rfl (by omega) (by decide) rfl dX5_type_109 (fun H locs hP hD hS => ?_)
              refine lv_iconst (v := (1 : Int32)) hx hb dX5_type_110 (by decide) ?_
              exact W.zret hx hb hr rfl (fun t9 ht9 _ => ⟨⟨_, (), rfl, congrArg Prod.fst hE, by show va_P D vwCl _ t9.heap; rw [ht9, ← congrArg Prod.snd hE]; exact hP⟩, hS.F ht9⟩) hS.2.2 dX5_type_111
            · have c_48 : ¬ ((wi z (4096 : Int32)) = true) := b2i_f c_48
              have hE := (if_neg c_48).symm.trans hE
              refine lv_iconst (v := (0 : Int32)) hx hb dX5_type_51 (by decide) ?_
              exact W.zret hx hb hr rfl (fun t9 ht9 _ => ⟨⟨_, (), rfl, congrArg Prod.fst hE, by show va_P D vwCl _ t9.heap; rw [ht9, ← congrArg Prod.snd hE]; exact hP⟩, hS.F ht9⟩) hS.2.2 dX5_type_52
noncomputable def p_X5_nest (w n : Nat) (t : Int32) (u : Int32) (x : (Nat → Nat → Int32)) : Int32 × (Nat → Nat → Int32) := if t = (0 : Int32) then (((0 : Int32), x)) else (if (wi t 12 && thB (vwX x w) (sN t)) = true then (if (wi u (12 : Int32)) = true then (((1 : Int32), st2 x 5 (12 * w + (sN t)) u)) else (((0 : Int32), x))) else (((0 : Int32), x)))
set_option maxHeartbeats 4000000 in
set_option maxRecDepth 100000 in
theorem c_X5_nest (l : Launch) (D : va_G) (cI cZ cB cR : ClassId) (a : Nat → Nat) (x : Nat → Nat → Int32) (r1 r2 : Nat → Int32) (w n : Nat) (t : Int32) (u : Int32) (hw : w < 2) (wx : WX x w n) (hwr : x 19 1 = nI w)   : MUi l yX5_nest wsX5_nest ({ frames := 2, cells := 0, slots := 0, locals := 42 } : Room) D cI cZ cB cR (wX cI cZ a x r1 r2) [.ref (a 0), .int t, .int u] (fun (_ : Unit) => wX cI cZ a ((p_X5_nest w n t u x).2) r1 r2) (fun r _ => r = (p_X5_nest w n t u x).1) := by
  generalize hE : p_X5_nest w n t u x = tgt
  intro sz
  refine Met.ofW (cc := cX5_nest) (maxL := 3) (ret := (some .boolean)) (by decide) rfl ?_
  intro p e s m args below meth c s₁ B hml hv
  obtain ⟨hargs, hsz, hP, hEV, hD0⟩ := hv
  have hx := B.exec
  have hb := B.bytes
  have hr := B.returns
  have hts := atoms_spec (ws := wsX5_nest) B.pre
  have hown : s.vm.findClass RX5 = some m.cls := findClass_of_methodNamed B.named
  have hlocks := B.notSynchronized
  have hK := hEV.1
  have hl := lv_entry ([.ref (a 0), .int t, .int u]) (n := 3) (Nat.le_of_ble_eq_true rfl)
  rw [show entryFrame m args 3 = entryFrame m ([.ref (a 0), .int t, .int u] : List Value).toArray 3 from by rw [hargs], lg_entry_eq]
  generalize (lg_sl ([.ref (a 0), .int t, .int u]) ++ List.replicate (3 - (lg_sl ([.ref (a 0), .int t, .int u])).length) Slot.unset).toArray = ls at hl ⊢
  have hl : lv_has ls 3 [(0, .ref (a 0)), (1, .int t), (2, .int u)] := hl
  subst hsz
  have hD := hD0.self (sz := s.heap.size)
  generalize hAe : va_A (wX cI cZ a x r1 r2) s.heap.size = A at hD ⊢
  have hA : ∀ q : Nat, s.heap.size ≤ q → A q := fun q h9 => by rw [← hAe]; exact Or.inr h9
  have hS : va_S A s.heap s.heap [] := va_S.rf
  rw [p_X5_nest] at hE
  have hn30 := wx.2.2.1
  refine lv_iload_n hx hb dX5_nest_0 rfl (lv_at hl 1 rfl) ?_
  refine lv_if_eq (tgt := 21) hx hb dX5_nest_1 (by decide) (fun c_1 => ?_) (fun c_1 => ?_)
  · skip
    have hE := (if_pos c_1).symm.trans hE
    refine lv_iconst (v := (0 : Int32)) hx hb dX5_nest_21 (by decide) ?_
    exact W.zret hx hb hr rfl (fun t9 ht9 _ => ⟨⟨_, (), rfl, congrArg Prod.fst hE, by show va_P D vwCl _ t9.heap; rw [ht9, ← congrArg Prod.snd hE]; exact hP⟩, hS.F ht9⟩) hS.2.2 dX5_nest_22
  · skip
    have hE := (if_neg c_1).symm.trans hE
    refine lv_aload_n hx hb dX5_nest_4 rfl (lv_at hl 0 rfl) ?_
    refine lv_iload_n hx hb dX5_nest_5 rfl (lv_at hl 1 rfl) ?_
    refine ro_V [.int t] [] ⟨hx, hb, hml, hown, hts⟩ (c_X5_isThere l D cI cZ cB cR a x r1 r2 w n t (by omega) hwr) (cwV (C := RX5) 1 hts (goodP (ps := [.methodLink RX5 80 yX5_isThere, .instanceMethod yX5_isThere, .selects RX5 yX5_isThere yX5_isThere, .initialized RX5]) (all4 mw_3_146 mw_3_148 ms_26 mw_1_6) mw_3_149) rfl rfl rfl (by decide +kernel) ⟨Nat.le_of_ble_eq_true rfl, Nat.le_of_ble_eq_true rfl⟩) hEV hP 0 rfl rfl rfl hl.1 rfl (Nat.le_of_ble_eq_true rfl) dX5_nest_6 ⟨Nat.zero_le _, Nat.zero_le _⟩ ?_
    refine lv_if_eq (tgt := 21) hx hb dX5_nest_9 (by decide) (fun c_9 => ?_) (fun c_9 => ?_)
    · have c_9 : ¬ ((wi t 12 && thB (vwX x w) (sN t)) = true) := b2i_f c_9
      have hE := (if_neg c_9).symm.trans hE
      refine lv_iconst (v := (0 : Int32)) hx hb dX5_nest_21 (by decide) ?_
      exact W.zret hx hb hr rfl (fun t9 ht9 _ => ⟨⟨_, (), rfl, congrArg Prod.fst hE, by show va_P D vwCl _ t9.heap; rw [ht9, ← congrArg Prod.snd hE]; exact hP⟩, hS.F ht9⟩) hS.2.2 dX5_nest_22
    · have c_9 : (wi t 12 && thB (vwX x w) (sN t)) = true := b2i_t c_9
      have hE := (if_pos c_9).symm.trans hE
      refine lv_iload_n hx hb dX5_nest_12 rfl (lv_at hl 2 rfl) ?_
      refine lv_bipush (v := (12 : Int32)) hx hb dX5_nest_13 (by decide) ?_
      refine ro_S [.int u, .int (12 : Int32)] [] ⟨hx, hb, hml, hown, hts⟩ (c_X5_in l D cI cZ cB cR u (12 : Int32)) (va_cwS 2 hts (goodP (ps := [.methodLink RX5 72 yX5_in, .static yX5_in, .initialized RX5]) (all3 mw_3_135 mw_3_136 mw_1_6) mw_3_137) rfl rfl rfl (by decide +kernel) ⟨Nat.le_of_ble_eq_true rfl, Nat.le_of_ble_eq_true rfl⟩) hEV va_P0 rfl hl.1 rfl (Nat.le_of_ble_eq_true rfl) dX5_nest_15 ⟨Nat.zero_le _, Nat.zero_le _⟩ ?_
      refine lv_if_ne (tgt := 23) hx hb dX5_nest_18 (by decide) (fun c_18 => ?_) (fun c_18 => ?_)
      · have c_18 : (wi u (12 : Int32)) = true := b2i_t c_18
        have hE := (if_pos c_18).symm.trans hE
        have ht7 := Bool.and_eq_true_iff.mp c_9
        have ht9 := wi_sN (b := 12) (by omega) ht7.1
        have ht8 := ht9.1
        refine lv_aload_n hx hb dX5_nest_23 rfl (lv_at hl 0 rfl) ?_
        refine va_get (D := D) (ci := 5) (v := .ref (a 6)) (C := RX5) (T := TX5) (N := 21) hx hb hts (fun w9 h9 => List.mem_cons_of_mem _ (inT_X5 w9 h9)) hown hK hP 0 rfl rfl 5 (by decide) (hts (.fieldLink RX5 26 "LinkPredictorModel" "host" "[I") (List.mem_cons_of_mem _ mw_3_71)) (fun _ h9 => h9) rfl dX5_nest_24 ?_
        refine lv_aload_n hx hb dX5_nest_27 rfl (lv_at hl 0 rfl) ?_
        refine lv_iload_n hx hb dX5_nest_28 rfl (lv_at hl 1 rfl) ?_
        refine top_eq (ht9.2) ?_
        refine ro_V [.int (nI (sN t))] [.ref (a 6)] ⟨hx, hb, hml, hown, hts⟩ (c_X5_at l D cI cZ cB cR a x r1 r2 w n (sN t) (by omega) (by omega) hwr) (cwV (C := RX5) 1 hts (goodP (ps := [.methodLink RX5 76 yX5_at, .instanceMethod yX5_at, .selects RX5 yX5_at yX5_at, .initialized RX5]) (all4 mw_3_138 mw_3_140 ms_25 mw_1_6) mw_3_141) rfl rfl rfl (by decide +kernel) ⟨Nat.le_of_ble_eq_true rfl, Nat.le_of_ble_eq_true rfl⟩) hEV hP 0 rfl rfl rfl hl.1 rfl (Nat.le_of_ble_eq_true rfl) dX5_nest_29 ⟨Nat.zero_le _, Nat.zero_le _⟩ ?_
        refine lv_iload_n hx hb dX5_nest_32 rfl (lv_at hl 2 rfl) ?_
        refine mu_ast hx hb hEV hP hD hS 6 (j := (12 * w + (sN t))) (v := u) (w2 := wX cI cZ a (st2 x 5 (12 * w + (sN t)) u) r1 r2) rfl (by omega) (by decide) rfl dX5_nest_33 (fun H locs hP hD hS => ?_)
        refine lv_iconst (v := (1 : Int32)) hx hb dX5_nest_34 (by decide) ?_
        exact W.zret hx hb hr rfl (fun t9 ht9 _ => ⟨⟨_, (), rfl, congrArg Prod.fst hE, by show va_P D vwCl _ t9.heap; rw [ht9, ← congrArg Prod.snd hE]; exact hP⟩, hS.F ht9⟩) hS.2.2 dX5_nest_35
      · have c_18 : ¬ ((wi u (12 : Int32)) = true) := b2i_f c_18
        have hE := (if_neg c_18).symm.trans hE
        refine lv_iconst (v := (0 : Int32)) hx hb dX5_nest_21 (by decide) ?_
        exact W.zret hx hb hr rfl (fun t9 ht9 _ => ⟨⟨_, (), rfl, congrArg Prod.fst hE, by show va_P D vwCl _ t9.heap; rw [ht9, ← congrArg Prod.snd hE]; exact hP⟩, hS.F ht9⟩) hS.2.2 dX5_nest_22
noncomputable def p_X5_drop_33 (w n : Nat) (t : Int32) : Nat → Nat → (Nat → Nat → Int32) → Int32 × (Nat → Nat → Int32)
  | 0, _, x => (0, x)
  | k + 1, n2, x => if ((30 * w) + n) ≤ n2 then (((1 : Int32), x)) else (if (x 9 n2) = t then (p_X5_drop_33 w n t k (n2 + 1) (st2 x 7 n2 (b2i true))) else (p_X5_drop_33 w n t k (n2 + 1) x))
noncomputable def p_X5_drop (w n : Nat) (t : Int32) (x : (Nat → Nat → Int32)) : Int32 × (Nat → Nat → Int32) := if t = (0 : Int32) then (((0 : Int32), x)) else (if (wi t 12 && thB (vwX x w) (sN t)) = true then (p_X5_drop_33 w n t 31 (30 * w) (st2 x 0 (12 * w + (sN t)) (b2i false))) else (((0 : Int32), x)))
set_option maxHeartbeats 4000000 in
set_option maxRecDepth 100000 in
theorem c_X5_drop (l : Launch) (D : va_G) (cI cZ cB cR : ClassId) (a : Nat → Nat) (x : Nat → Nat → Int32) (r1 r2 : Nat → Int32) (w n : Nat) (t : Int32) (hw : w < 2) (wx : WX x w n) (hwr : x 19 1 = nI w)   : MUi l yX5_drop wsX5_drop ({ frames := 2, cells := 0, slots := 0, locals := 42 } : Room) D cI cZ cB cR (wX cI cZ a x r1 r2) [.ref (a 0), .int t] (fun (_ : Unit) => wX cI cZ a ((p_X5_drop w n t x).2) r1 r2) (fun r _ => r = (p_X5_drop w n t x).1) := by
  generalize hE : p_X5_drop w n t x = tgt
  intro sz
  refine Met.ofW (cc := cX5_drop) (maxL := 3) (ret := (some .boolean)) (by decide) rfl ?_
  intro p e s m args below meth c s₁ B hml hv
  obtain ⟨hargs, hsz, hP, hEV, hD0⟩ := hv
  have hx := B.exec
  have hb := B.bytes
  have hr := B.returns
  have hts := atoms_spec (ws := wsX5_drop) B.pre
  have hown : s.vm.findClass RX5 = some m.cls := findClass_of_methodNamed B.named
  have hlocks := B.notSynchronized
  have hK := hEV.1
  have hl := lv_entry ([.ref (a 0), .int t]) (n := 3) (Nat.le_of_ble_eq_true rfl)
  rw [show entryFrame m args 3 = entryFrame m ([.ref (a 0), .int t] : List Value).toArray 3 from by rw [hargs], lg_entry_eq]
  generalize (lg_sl ([.ref (a 0), .int t]) ++ List.replicate (3 - (lg_sl ([.ref (a 0), .int t])).length) Slot.unset).toArray = ls at hl ⊢
  have hl : lv_has ls 3 [(0, .ref (a 0)), (1, .int t)] := hl
  subst hsz
  have hD := hD0.self (sz := s.heap.size)
  generalize hAe : va_A (wX cI cZ a x r1 r2) s.heap.size = A at hD ⊢
  have hA : ∀ q : Nat, s.heap.size ≤ q → A q := fun q h9 => by rw [← hAe]; exact Or.inr h9
  have hS : va_S A s.heap s.heap [] := va_S.rf
  rw [p_X5_drop] at hE
  have hn30 := wx.2.2.1
  have key_33 : ∀ (k_33 : Nat) (n2 : Nat) (x : (Nat → Nat → Int32)) (ls : Array Slot) (H : Heap) (locs : List Loc) (hP : va_P D vwCl (wX cI cZ a x r1 r2) H) (hD : va_D A (wX cI cZ a x r1 r2)) (hS : va_S A s.heap H locs), (30 * w + n - n2) < k_33 → x 19 1 = nI w → x 8 w = nI n → 30 * w ≤ n2 → n2 ≤ 30 * w + n → lv_has ls 3 [(2, .int (nI n2)), (0, .ref (a 0)), (1, .int t)] → p_X5_drop_33 w n t k_33 n2 x = tgt → W p l e (headSpec wsX5_drop ({ frames := 2, cells := 0, slots := 0, locals := 42 } : Room)).room s m args below meth c H locs 0 0 (MQ below (va_Qi (fun r (_ : Unit) => r = tgt.1) (fun _ t => va_P D vwCl (wX cI cZ a tgt.2 r1 r2) t.heap) A) args s 0 0 A) (F0 m 33 ls []) := by
    intro k_33
    induction k_33 with
    | zero => intro n2 x ls H locs hP hD hS hm; exact absurd hm (Nat.not_lt_zero _)
    | succ k_33 ih_33 =>
      intro n2 x ls H locs hP hD hS hm_33 hi_33_0 hi_33_1 hi_33_2 hi_33_3 hl hE
      rw [p_X5_drop_33] at hE
      refine lv_iload_n hx hb dX5_drop_33 rfl (lv_at hl 0 rfl) ?_
      refine lv_bipush (v := (30 : Int32)) hx hb dX5_drop_34 (by decide) ?_
      refine lv_aload_n hx hb dX5_drop_36 rfl (lv_at hl 1 rfl) ?_
      refine va_get (D := D) (ci := 5) (v := .int (x 19 1)) (C := RX5) (T := TX5) (N := 21) hx hb hts (fun w9 h9 => List.mem_cons_of_mem _ (inT_X5 w9 h9)) hown hK hP 0 rfl rfl 18 (by decide) (hts (.fieldLink RX5 68 "LinkPredictorModel" "written" "I") (List.mem_cons_of_mem _ mw_3_84)) (fun _ h9 => h9) rfl dX5_drop_37 ?_
      refine top_eq (hi_33_0) ?_
      refine lv_imul hx hb dX5_drop_40 ?_
      refine top_eq (pk_mul 30 w) ?_
      refine lv_aload_n hx hb dX5_drop_41 rfl (lv_at hl 1 rfl) ?_
      refine va_get (D := D) (ci := 5) (v := .ref (a 9)) (C := RX5) (T := TX5) (N := 21) hx hb hts (fun w9 h9 => List.mem_cons_of_mem _ (inT_X5 w9 h9)) hown hK hP 0 rfl rfl 8 (by decide) (hts (.fieldLink RX5 35 "LinkPredictorModel" "many" "[I") (List.mem_cons_of_mem _ mw_3_74)) (fun _ h9 => h9) rfl dX5_drop_42 ?_
      refine lv_aload_n hx hb dX5_drop_45 rfl (lv_at hl 1 rfl) ?_
      refine va_get (D := D) (ci := 5) (v := .int (x 19 1)) (C := RX5) (T := TX5) (N := 21) hx hb hts (fun w9 h9 => List.mem_cons_of_mem _ (inT_X5 w9 h9)) hown hK hP 0 rfl rfl 18 (by decide) (hts (.fieldLink RX5 68 "LinkPredictorModel" "written" "I") (List.mem_cons_of_mem _ mw_3_84)) (fun _ h9 => h9) rfl dX5_drop_46 ?_
      refine top_eq (hi_33_0) ?_
      refine ro_ald hx hb hEV hP 9 (j := w) rfl (by omega) (by decide) dX5_drop_49 ?_
      refine top_eq (hi_33_1) ?_
      refine lv_iadd hx hb dX5_drop_50 ?_
      refine top_eq (nI_add (30 * w) n) ?_
      refine lv_icmp_ge (tgt := 77) hx hb dX5_drop_51 (by decide) (fun c_51 => ?_) (fun c_51 => ?_)
      · have c_51 : ((30 * w) + n) ≤ n2 := (nI_leI (a := ((30 * w) + n)) (b := n2) (by omega) (by omega)).mp c_51
        have hE := (if_pos c_51).symm.trans hE
        refine lv_iconst (v := (1 : Int32)) hx hb dX5_drop_77 (by decide) ?_
        exact W.zret hx hb hr rfl (fun t9 ht9 _ => ⟨⟨_, (), rfl, congrArg Prod.fst hE, by show va_P D vwCl _ t9.heap; rw [ht9, ← congrArg Prod.snd hE]; exact hP⟩, hS.F ht9⟩) hS.2.2 dX5_drop_78
      · have c_51 : ¬ (((30 * w) + n) ≤ n2) := fun q9 => c_51 ((nI_leI (a := ((30 * w) + n)) (b := n2) (by omega) (by omega)).mpr q9)
        have hE := (if_neg c_51).symm.trans hE
        refine lv_aload_n hx hb dX5_drop_54 rfl (lv_at hl 1 rfl) ?_
        refine va_get (D := D) (ci := 5) (v := .ref (a 10)) (C := RX5) (T := TX5) (N := 21) hx hb hts (fun w9 h9 => List.mem_cons_of_mem _ (inT_X5 w9 h9)) hown hK hP 0 rfl rfl 9 (by decide) (hts (.fieldLink RX5 38 "LinkPredictorModel" "owner" "[I") (List.mem_cons_of_mem _ mw_3_75)) (fun _ h9 => h9) rfl dX5_drop_55 ?_
        refine lv_iload_n hx hb dX5_drop_58 rfl (lv_at hl 0 rfl) ?_
        refine ro_ald hx hb hEV hP 10 (j := n2) rfl (by omega) (by decide) dX5_drop_59 ?_
        refine lv_iload_n hx hb dX5_drop_60 rfl (lv_at hl 2 rfl) ?_
        refine lv_icmp_ne (tgt := 71) hx hb dX5_drop_61 (by decide) (fun c_61 => ?_) (fun c_61 => ?_)
        · skip
          have hE := (if_neg c_61).symm.trans hE
          refine lv_iinc (v := nI (n2 + 1)) (lv' := [(2, .int (nI (n2 + 1))), (0, .ref (a 0)), (1, .int t)]) hx hb dX5_drop_71 hl (k := 0) rfl (nI_1 _) (by decide) rfl (fun ls hl => ?_)
          refine lv_goto (tgt := 33) hx hb dX5_drop_74 (by decide) ?_
          exact ih_33 (n2 + 1) x ls _ _ hP hD hS (by omega) (by first | omega | exact hwr | exact wx.2.1 | exact hi_33_0 | exact hi_33_1) (by first | omega | exact hwr | exact wx.2.1 | exact hi_33_0 | exact hi_33_1) (by first | omega | exact hwr | exact wx.2.1 | exact hi_33_0 | exact hi_33_1) (by first | omega | exact hwr | exact wx.2.1 | exact hi_33_0 | exact hi_33_1) (lv_sub hl [0, 1, 2] rfl) hE
        · skip
          have hE := (if_pos c_61).symm.trans hE
          refine lv_aload_n hx hb dX5_drop_64 rfl (lv_at hl 1 rfl) ?_
          refine va_get (D := D) (ci := 5) (v := .ref (a 8)) (C := RX5) (T := TX5) (N := 21) hx hb hts (fun w9 h9 => List.mem_cons_of_mem _ (inT_X5 w9 h9)) hown hK hP 0 rfl rfl 7 (by decide) (hts (.fieldLink RX5 32 "LinkPredictorModel" "gone" "[Z") (List.mem_cons_of_mem _ mw_3_73)) (fun _ h9 => h9) rfl dX5_drop_65 ?_
          refine lv_iload_n hx hb dX5_drop_68 rfl (lv_at hl 0 rfl) ?_
          refine lv_iconst (v := (1 : Int32)) hx hb dX5_drop_69 (by decide) ?_
          refine top_eq (show (1 : Int32) = b2i true from rfl) ?_
          refine mu_zst hx hb hEV hP hD hS 8 (j := n2) (v := true) (w2 := wX cI cZ a (st2 x 7 n2 (b2i true)) r1 r2) rfl (by omega) (by decide) rfl dX5_drop_70 (fun H locs hP hD hS => ?_)
          refine lv_iinc (v := nI (n2 + 1)) (lv' := [(2, .int (nI (n2 + 1))), (0, .ref (a 0)), (1, .int t)]) hx hb dX5_drop_71 hl (k := 0) rfl (nI_1 _) (by decide) rfl (fun ls hl => ?_)
          refine lv_goto (tgt := 33) hx hb dX5_drop_74 (by decide) ?_
          exact ih_33 (n2 + 1) (st2 x 7 n2 (b2i true)) ls _ _ hP hD hS (by omega) (by first | omega | exact hwr | exact wx.2.1 | exact hi_33_0 | exact hi_33_1) (by first | omega | exact hwr | exact wx.2.1 | exact hi_33_0 | exact hi_33_1) (by first | omega | exact hwr | exact wx.2.1 | exact hi_33_0 | exact hi_33_1) (by first | omega | exact hwr | exact wx.2.1 | exact hi_33_0 | exact hi_33_1) (lv_sub hl [0, 1, 2] rfl) hE
  refine lv_iload_n hx hb dX5_drop_0 rfl (lv_at hl 1 rfl) ?_
  refine lv_if_eq (tgt := 12) hx hb dX5_drop_1 (by decide) (fun c_1 => ?_) (fun c_1 => ?_)
  · skip
    have hE := (if_pos c_1).symm.trans hE
    refine lv_iconst (v := (0 : Int32)) hx hb dX5_drop_12 (by decide) ?_
    exact W.zret hx hb hr rfl (fun t9 ht9 _ => ⟨⟨_, (), rfl, congrArg Prod.fst hE, by show va_P D vwCl _ t9.heap; rw [ht9, ← congrArg Prod.snd hE]; exact hP⟩, hS.F ht9⟩) hS.2.2 dX5_drop_13
  · skip
    have hE := (if_neg c_1).symm.trans hE
    refine lv_aload_n hx hb dX5_drop_4 rfl (lv_at hl 0 rfl) ?_
    refine lv_iload_n hx hb dX5_drop_5 rfl (lv_at hl 1 rfl) ?_
    refine ro_V [.int t] [] ⟨hx, hb, hml, hown, hts⟩ (c_X5_isThere l D cI cZ cB cR a x r1 r2 w n t (by omega) hwr) (cwV (C := RX5) 1 hts (goodP (ps := [.methodLink RX5 80 yX5_isThere, .instanceMethod yX5_isThere, .selects RX5 yX5_isThere yX5_isThere, .initialized RX5]) (all4 mw_3_146 mw_3_148 ms_26 mw_1_6) mw_3_149) rfl rfl rfl (by decide +kernel) ⟨Nat.le_of_ble_eq_true rfl, Nat.le_of_ble_eq_true rfl⟩) hEV hP 0 rfl rfl rfl hl.1 rfl (Nat.le_of_ble_eq_true rfl) dX5_drop_6 ⟨Nat.zero_le _, Nat.zero_le _⟩ ?_
    refine lv_if_ne (tgt := 14) hx hb dX5_drop_9 (by decide) (fun c_9 => ?_) (fun c_9 => ?_)
    · have c_9 : (wi t 12 && thB (vwX x w) (sN t)) = true := b2i_t c_9
      have hE := (if_pos c_9).symm.trans hE
      have ht7 := Bool.and_eq_true_iff.mp c_9
      have ht9 := wi_sN (b := 12) (by omega) ht7.1
      have ht8 := ht9.1
      refine lv_aload_n hx hb dX5_drop_14 rfl (lv_at hl 0 rfl) ?_
      refine va_get (D := D) (ci := 5) (v := .ref (a 1)) (C := RX5) (T := TX5) (N := 21) hx hb hts (fun w9 h9 => List.mem_cons_of_mem _ (inT_X5 w9 h9)) hown hK hP 0 rfl rfl 0 (by decide) (hts (.fieldLink RX5 7 "LinkPredictorModel" "there" "[Z") (List.mem_cons_of_mem _ mw_3_66)) (fun _ h9 => h9) rfl dX5_drop_15 ?_
      refine lv_aload_n hx hb dX5_drop_18 rfl (lv_at hl 0 rfl) ?_
      refine lv_iload_n hx hb dX5_drop_19 rfl (lv_at hl 1 rfl) ?_
      refine top_eq (ht9.2) ?_
      refine ro_V [.int (nI (sN t))] [.ref (a 1)] ⟨hx, hb, hml, hown, hts⟩ (c_X5_at l D cI cZ cB cR a x r1 r2 w n (sN t) (by omega) (by omega) hwr) (cwV (C := RX5) 1 hts (goodP (ps := [.methodLink RX5 76 yX5_at, .instanceMethod yX5_at, .selects RX5 yX5_at yX5_at, .initialized RX5]) (all4 mw_3_138 mw_3_140 ms_25 mw_1_6) mw_3_141) rfl rfl rfl (by decide +kernel) ⟨Nat.le_of_ble_eq_true rfl, Nat.le_of_ble_eq_true rfl⟩) hEV hP 0 rfl rfl rfl hl.1 rfl (Nat.le_of_ble_eq_true rfl) dX5_drop_20 ⟨Nat.zero_le _, Nat.zero_le _⟩ ?_
      refine lv_iconst (v := (0 : Int32)) hx hb dX5_drop_23 (by decide) ?_
      refine top_eq (show (0 : Int32) = b2i false from rfl) ?_
      refine mu_zst hx hb hEV hP hD hS 1 (j := (12 * w + (sN t))) (v := false) (w2 := wX cI cZ a (st2 x 0 (12 * w + (sN t)) (b2i false)) r1 r2) rfl (by omega) (by decide) rfl dX5_drop_24 (fun H locs hP hD hS => ?_)
      refine lv_bipush (v := (30 : Int32)) hx hb dX5_drop_25 (by decide) ?_
      refine lv_aload_n hx hb dX5_drop_27 rfl (lv_at hl 0 rfl) ?_
      refine va_get (D := D) (ci := 5) (v := .int ((st2 x 0 (12 * w + (sN t)) (b2i false)) 19 1)) (C := RX5) (T := TX5) (N := 21) hx hb hts (fun w9 h9 => List.mem_cons_of_mem _ (inT_X5 w9 h9)) hown hK hP 0 rfl rfl 18 (by decide) (hts (.fieldLink RX5 68 "LinkPredictorModel" "written" "I") (List.mem_cons_of_mem _ mw_3_84)) (fun _ h9 => h9) rfl dX5_drop_28 ?_
      refine top_eq (hwr) ?_
      refine lv_imul hx hb dX5_drop_31 ?_
      refine top_eq (pk_mul 30 w) ?_
      refine lv_istore_n (lv' := [(2, .int (nI (30 * w))), (0, .ref (a 0)), (1, .int t)]) hx hb dX5_drop_32 rfl hl (by decide) rfl (fun ls hl => ?_)
      exact key_33 31 (30 * w) (st2 x 0 (12 * w + (sN t)) (b2i false)) ls _ _ hP hD hS (by omega) (by first | omega | exact hwr | exact wx.2.1 | exact hi_33_0 | exact hi_33_1) (by first | omega | exact hwr | exact wx.2.1 | exact hi_33_0 | exact hi_33_1) (by first | omega | exact hwr | exact wx.2.1 | exact hi_33_0 | exact hi_33_1) (by first | omega | exact hwr | exact wx.2.1 | exact hi_33_0 | exact hi_33_1) (lv_sub hl [0, 1, 2] rfl) hE
    · have c_9 : ¬ ((wi t 12 && thB (vwX x w) (sN t)) = true) := b2i_f c_9
      have hE := (if_neg c_9).symm.trans hE
      refine lv_iconst (v := (0 : Int32)) hx hb dX5_drop_12 (by decide) ?_
      exact W.zret hx hb hr rfl (fun t9 ht9 _ => ⟨⟨_, (), rfl, congrArg Prod.fst hE, by show va_P D vwCl _ t9.heap; rw [ht9, ← congrArg Prod.snd hE]; exact hP⟩, hS.F ht9⟩) hS.2.2 dX5_drop_13
noncomputable def p_X5_member (w n : Nat) (t : Int32) (u : Bool) (v : Int32) (y : Int32) (z : Int32) (x : (Nat → Nat → Int32)) : Int32 × (Nat → Nat → Int32) := if (wi t 12 && thB (vwX x w) (sN t)) = true then (if (wi v (15 : Int32)) = true then (if (wi y (4 : Int32)) = true then (if (wi z (8 : Int32)) = true then (if (odI (vmX x w) n (sN t) (kyF u (nI (sN v)))) < (0 : Int32) then (if n = 30 then (((-3 : Int32), x)) else ((nI n, st2 (st2 (st2 (st2 (st2 (st2 (st2 x 7 ((30 * w) + n) (b2i false)) 9 ((30 * w) + n) t) 6 ((30 * w) + n) (b2i u)) 10 ((30 * w) + n) v) 11 ((30 * w) + n) y) 12 ((30 * w) + n) z) 8 w (nI (n + 1))))) else (((-1 : Int32), x))) else (((-1 : Int32), x))) else (((-1 : Int32), x))) else (((-1 : Int32), x))) else (((-1 : Int32), x))
set_option maxHeartbeats 4000000 in
set_option maxRecDepth 100000 in
theorem c_X5_member (l : Launch) (D : va_G) (cI cZ cB cR : ClassId) (a : Nat → Nat) (x : Nat → Nat → Int32) (r1 r2 : Nat → Int32) (w n : Nat) (t : Int32) (u : Bool) (v : Int32) (y : Int32) (z : Int32) (hw : w < 2) (wx : WX x w n) (hwr : x 19 1 = nI w)   : MUi l yX5_member wsX5_member ({ frames := 2, cells := 0, slots := 0, locals := 42 } : Room) D cI cZ cB cR (wX cI cZ a x r1 r2) [.ref (a 0), .int t, .int (b2i u), .int v, .int y, .int z] (fun (_ : Unit) => wX cI cZ a ((p_X5_member w n t u v y z x).2) r1 r2) (fun r _ => r = (p_X5_member w n t u v y z x).1) := by
  generalize hE : p_X5_member w n t u v y z x = tgt
  intro sz
  refine Met.ofW (cc := cX5_member) (maxL := 7) (ret := (some .int)) (by decide) rfl ?_
  intro p e s m args below meth c s₁ B hml hv
  obtain ⟨hargs, hsz, hP, hEV, hD0⟩ := hv
  have hx := B.exec
  have hb := B.bytes
  have hr := B.returns
  have hts := atoms_spec (ws := wsX5_member) B.pre
  have hown : s.vm.findClass RX5 = some m.cls := findClass_of_methodNamed B.named
  have hlocks := B.notSynchronized
  have hK := hEV.1
  have hl := lv_entry ([.ref (a 0), .int t, .int (b2i u), .int v, .int y, .int z]) (n := 7) (Nat.le_of_ble_eq_true rfl)
  rw [show entryFrame m args 7 = entryFrame m ([.ref (a 0), .int t, .int (b2i u), .int v, .int y, .int z] : List Value).toArray 7 from by rw [hargs], lg_entry_eq]
  generalize (lg_sl ([.ref (a 0), .int t, .int (b2i u), .int v, .int y, .int z]) ++ List.replicate (7 - (lg_sl ([.ref (a 0), .int t, .int (b2i u), .int v, .int y, .int z])).length) Slot.unset).toArray = ls at hl ⊢
  have hl : lv_has ls 7 [(0, .ref (a 0)), (1, .int t), (2, .int (b2i u)), (3, .int v), (4, .int y), (5, .int z)] := hl
  subst hsz
  have hD := hD0.self (sz := s.heap.size)
  generalize hAe : va_A (wX cI cZ a x r1 r2) s.heap.size = A at hD ⊢
  have hA : ∀ q : Nat, s.heap.size ≤ q → A q := fun q h9 => by rw [← hAe]; exact Or.inr h9
  have hS : va_S A s.heap s.heap [] := va_S.rf
  rw [p_X5_member] at hE
  have hn30 := wx.2.2.1
  refine lv_aload_n hx hb dX5_member_0 rfl (lv_at hl 0 rfl) ?_
  refine lv_iload_n hx hb dX5_member_1 rfl (lv_at hl 1 rfl) ?_
  refine ro_V [.int t] [] ⟨hx, hb, hml, hown, hts⟩ (c_X5_isThere l D cI cZ cB cR a x r1 r2 w n t (by omega) hwr) (cwV (C := RX5) 1 hts (goodP (ps := [.methodLink RX5 80 yX5_isThere, .instanceMethod yX5_isThere, .selects RX5 yX5_isThere yX5_isThere, .initialized RX5]) (all4 mw_3_146 mw_3_148 ms_26 mw_1_6) mw_3_149) rfl rfl rfl (by decide +kernel) ⟨Nat.le_of_ble_eq_true rfl, Nat.le_of_ble_eq_true rfl⟩) hEV hP 0 rfl rfl rfl hl.1 rfl (Nat.le_of_ble_eq_true rfl) dX5_member_2 ⟨Nat.zero_le _, Nat.zero_le _⟩ ?_
  refine lv_if_eq (tgt := 50) hx hb dX5_member_5 (by decide) (fun c_5 => ?_) (fun c_5 => ?_)
  · have c_5 : ¬ ((wi t 12 && thB (vwX x w) (sN t)) = true) := b2i_f c_5
    have hE := (if_neg c_5).symm.trans hE
    refine lv_iconst (v := (-1 : Int32)) hx hb dX5_member_50 (by decide) ?_
    exact W.iret hx hb hr (fun t9 ht9 _ => ⟨⟨_, (), rfl, congrArg Prod.fst hE, by show va_P D vwCl _ t9.heap; rw [ht9, ← congrArg Prod.snd hE]; exact hP⟩, hS.F ht9⟩) hS.2.2 dX5_member_51
  · have c_5 : (wi t 12 && thB (vwX x w) (sN t)) = true := b2i_t c_5
    have hE := (if_pos c_5).symm.trans hE
    refine lv_iload_n hx hb dX5_member_8 rfl (lv_at hl 3 rfl) ?_
    refine lv_bipush (v := (15 : Int32)) hx hb dX5_member_9 (by decide) ?_
    refine ro_S [.int v, .int (15 : Int32)] [] ⟨hx, hb, hml, hown, hts⟩ (c_X5_in l D cI cZ cB cR v (15 : Int32)) (va_cwS 2 hts (goodP (ps := [.methodLink RX5 72 yX5_in, .static yX5_in, .initialized RX5]) (all3 mw_3_135 mw_3_136 mw_1_6) mw_3_137) rfl rfl rfl (by decide +kernel) ⟨Nat.le_of_ble_eq_true rfl, Nat.le_of_ble_eq_true rfl⟩) hEV va_P0 rfl hl.1 rfl (Nat.le_of_ble_eq_true rfl) dX5_member_11 ⟨Nat.zero_le _, Nat.zero_le _⟩ ?_
    refine lv_if_eq (tgt := 50) hx hb dX5_member_14 (by decide) (fun c_14 => ?_) (fun c_14 => ?_)
    · have c_14 : ¬ ((wi v (15 : Int32)) = true) := b2i_f c_14
      have hE := (if_neg c_14).symm.trans hE
      refine lv_iconst (v := (-1 : Int32)) hx hb dX5_member_50 (by decide) ?_
      exact W.iret hx hb hr (fun t9 ht9 _ => ⟨⟨_, (), rfl, congrArg Prod.fst hE, by show va_P D vwCl _ t9.heap; rw [ht9, ← congrArg Prod.snd hE]; exact hP⟩, hS.F ht9⟩) hS.2.2 dX5_member_51
    · have c_14 : (wi v (15 : Int32)) = true := b2i_t c_14
      have hE := (if_pos c_14).symm.trans hE
      refine lv_iload hx hb dX5_member_17 (lv_at hl 4 rfl) ?_
      refine lv_iconst (v := (4 : Int32)) hx hb dX5_member_19 (by decide) ?_
      refine ro_S [.int y, .int (4 : Int32)] [] ⟨hx, hb, hml, hown, hts⟩ (c_X5_in l D cI cZ cB cR y (4 : Int32)) (va_cwS 2 hts (goodP (ps := [.methodLink RX5 72 yX5_in, .static yX5_in, .initialized RX5]) (all3 mw_3_135 mw_3_136 mw_1_6) mw_3_137) rfl rfl rfl (by decide +kernel) ⟨Nat.le_of_ble_eq_true rfl, Nat.le_of_ble_eq_true rfl⟩) hEV va_P0 rfl hl.1 rfl (Nat.le_of_ble_eq_true rfl) dX5_member_20 ⟨Nat.zero_le _, Nat.zero_le _⟩ ?_
      refine lv_if_eq (tgt := 50) hx hb dX5_member_23 (by decide) (fun c_23 => ?_) (fun c_23 => ?_)
      · have c_23 : ¬ ((wi y (4 : Int32)) = true) := b2i_f c_23
        have hE := (if_neg c_23).symm.trans hE
        refine lv_iconst (v := (-1 : Int32)) hx hb dX5_member_50 (by decide) ?_
        exact W.iret hx hb hr (fun t9 ht9 _ => ⟨⟨_, (), rfl, congrArg Prod.fst hE, by show va_P D vwCl _ t9.heap; rw [ht9, ← congrArg Prod.snd hE]; exact hP⟩, hS.F ht9⟩) hS.2.2 dX5_member_51
      · have c_23 : (wi y (4 : Int32)) = true := b2i_t c_23
        have hE := (if_pos c_23).symm.trans hE
        refine lv_iload hx hb dX5_member_26 (lv_at hl 5 rfl) ?_
        refine lv_bipush (v := (8 : Int32)) hx hb dX5_member_28 (by decide) ?_
        refine ro_S [.int z, .int (8 : Int32)] [] ⟨hx, hb, hml, hown, hts⟩ (c_X5_in l D cI cZ cB cR z (8 : Int32)) (va_cwS 2 hts (goodP (ps := [.methodLink RX5 72 yX5_in, .static yX5_in, .initialized RX5]) (all3 mw_3_135 mw_3_136 mw_1_6) mw_3_137) rfl rfl rfl (by decide +kernel) ⟨Nat.le_of_ble_eq_true rfl, Nat.le_of_ble_eq_true rfl⟩) hEV va_P0 rfl hl.1 rfl (Nat.le_of_ble_eq_true rfl) dX5_member_30 ⟨Nat.zero_le _, Nat.zero_le _⟩ ?_
        refine lv_if_eq (tgt := 50) hx hb dX5_member_33 (by decide) (fun c_33 => ?_) (fun c_33 => ?_)
        · have c_33 : ¬ ((wi z (8 : Int32)) = true) := b2i_f c_33
          have hE := (if_neg c_33).symm.trans hE
          refine lv_iconst (v := (-1 : Int32)) hx hb dX5_member_50 (by decide) ?_
          exact W.iret hx hb hr (fun t9 ht9 _ => ⟨⟨_, (), rfl, congrArg Prod.fst hE, by show va_P D vwCl _ t9.heap; rw [ht9, ← congrArg Prod.snd hE]; exact hP⟩, hS.F ht9⟩) hS.2.2 dX5_member_51
        · have c_33 : (wi z (8 : Int32)) = true := b2i_t c_33
          have hE := (if_pos c_33).symm.trans hE
          have ht7 := Bool.and_eq_true_iff.mp c_5
          have ht9 := wi_sN (b := 12) (by omega) ht7.1
          have ht8 := ht9.1
          have hv9 := wi_sN (b := 15) (by omega) c_14
          have hv8 := hv9.1
          refine lv_aload_n hx hb dX5_member_36 rfl (lv_at hl 0 rfl) ?_
          refine lv_aload_n hx hb dX5_member_37 rfl (lv_at hl 0 rfl) ?_
          refine va_get (D := D) (ci := 5) (v := .int (x 19 1)) (C := RX5) (T := TX5) (N := 21) hx hb hts (fun w9 h9 => List.mem_cons_of_mem _ (inT_X5 w9 h9)) hown hK hP 0 rfl rfl 18 (by decide) (hts (.fieldLink RX5 68 "LinkPredictorModel" "written" "I") (List.mem_cons_of_mem _ mw_3_84)) (fun _ h9 => h9) rfl dX5_member_38 ?_
          refine top_eq (hwr) ?_
          refine lv_iload_n hx hb dX5_member_41 rfl (lv_at hl 1 rfl) ?_
          refine top_eq (ht9.2) ?_
          refine lv_iload_n hx hb dX5_member_42 rfl (lv_at hl 2 rfl) ?_
          refine lv_iload_n hx hb dX5_member_43 rfl (lv_at hl 3 rfl) ?_
          refine top_eq (hv9.2) ?_
          refine ro_V [.int (nI w), .int (nI (sN t)), .int (b2i u), .int (nI (sN v))] [] ⟨hx, hb, hml, hown, hts⟩ (c_X5_own l D cI cZ cB cR a x r1 r2 w n (sN t) u (sN v) (by omega) wx (by omega) (by omega) ) (cwV (C := RX5) 4 hts (goodP (ps := [.methodLink RX5 84 yX5_own, .instanceMethod yX5_own, .selects RX5 yX5_own yX5_own, .initialized RX5]) (all4 mw_3_158 mw_3_160 ms_27 mw_1_6) mw_3_161) rfl rfl rfl (by decide +kernel) ⟨Nat.le_of_ble_eq_true rfl, Nat.le_of_ble_eq_true rfl⟩) hEV hP 0 rfl rfl rfl hl.1 rfl (Nat.le_of_ble_eq_true rfl) dX5_member_44 ⟨Nat.zero_le _, Nat.zero_le _⟩ ?_
          refine lv_if_lt (tgt := 52) hx hb dX5_member_47 (by decide) (fun c_47 => ?_) (fun c_47 => ?_)
          · skip
            have hE := (if_pos c_47).symm.trans hE
            refine lv_aload_n hx hb dX5_member_52 rfl (lv_at hl 0 rfl) ?_
            refine va_get (D := D) (ci := 5) (v := .ref (a 9)) (C := RX5) (T := TX5) (N := 21) hx hb hts (fun w9 h9 => List.mem_cons_of_mem _ (inT_X5 w9 h9)) hown hK hP 0 rfl rfl 8 (by decide) (hts (.fieldLink RX5 35 "LinkPredictorModel" "many" "[I") (List.mem_cons_of_mem _ mw_3_74)) (fun _ h9 => h9) rfl dX5_member_53 ?_
            refine lv_aload_n hx hb dX5_member_56 rfl (lv_at hl 0 rfl) ?_
            refine va_get (D := D) (ci := 5) (v := .int (x 19 1)) (C := RX5) (T := TX5) (N := 21) hx hb hts (fun w9 h9 => List.mem_cons_of_mem _ (inT_X5 w9 h9)) hown hK hP 0 rfl rfl 18 (by decide) (hts (.fieldLink RX5 68 "LinkPredictorModel" "written" "I") (List.mem_cons_of_mem _ mw_3_84)) (fun _ h9 => h9) rfl dX5_member_57 ?_
            refine top_eq (hwr) ?_
            refine ro_ald hx hb hEV hP 9 (j := w) rfl (by omega) (by decide) dX5_member_60 ?_
            refine top_eq (wx.2.1) ?_
            refine lv_bipush (v := (30 : Int32)) hx hb dX5_member_61 (by decide) ?_
            refine lv_icmp_ne (tgt := 69) hx hb dX5_member_63 (by decide) (fun c_63 => ?_) (fun c_63 => ?_)
            · have c_63 : ¬ (n = 30) := fun q9 => c_63 ((nI_eq (a := n) (b := 30) (by omega) (by omega)).mpr q9)
              have hE := (if_neg c_63).symm.trans hE
              refine lv_bipush (v := (30 : Int32)) hx hb dX5_member_69 (by decide) ?_
              refine lv_aload_n hx hb dX5_member_71 rfl (lv_at hl 0 rfl) ?_
              refine va_get (D := D) (ci := 5) (v := .int (x 19 1)) (C := RX5) (T := TX5) (N := 21) hx hb hts (fun w9 h9 => List.mem_cons_of_mem _ (inT_X5 w9 h9)) hown hK hP 0 rfl rfl 18 (by decide) (hts (.fieldLink RX5 68 "LinkPredictorModel" "written" "I") (List.mem_cons_of_mem _ mw_3_84)) (fun _ h9 => h9) rfl dX5_member_72 ?_
              refine top_eq (hwr) ?_
              refine lv_imul hx hb dX5_member_75 ?_
              refine top_eq (pk_mul 30 w) ?_
              refine lv_aload_n hx hb dX5_member_76 rfl (lv_at hl 0 rfl) ?_
              refine va_get (D := D) (ci := 5) (v := .ref (a 9)) (C := RX5) (T := TX5) (N := 21) hx hb hts (fun w9 h9 => List.mem_cons_of_mem _ (inT_X5 w9 h9)) hown hK hP 0 rfl rfl 8 (by decide) (hts (.fieldLink RX5 35 "LinkPredictorModel" "many" "[I") (List.mem_cons_of_mem _ mw_3_74)) (fun _ h9 => h9) rfl dX5_member_77 ?_
              refine lv_aload_n hx hb dX5_member_80 rfl (lv_at hl 0 rfl) ?_
              refine va_get (D := D) (ci := 5) (v := .int (x 19 1)) (C := RX5) (T := TX5) (N := 21) hx hb hts (fun w9 h9 => List.mem_cons_of_mem _ (inT_X5 w9 h9)) hown hK hP 0 rfl rfl 18 (by decide) (hts (.fieldLink RX5 68 "LinkPredictorModel" "written" "I") (List.mem_cons_of_mem _ mw_3_84)) (fun _ h9 => h9) rfl dX5_member_81 ?_
              refine top_eq (hwr) ?_
              refine ro_ald hx hb hEV hP 9 (j := w) rfl (by omega) (by decide) dX5_member_84 ?_
              refine top_eq (wx.2.1) ?_
              refine lv_iadd hx hb dX5_member_85 ?_
              refine top_eq (nI_add (30 * w) n) ?_
              refine lv_istore (lv' := [(6, .int (nI ((30 * w) + n))), (0, .ref (a 0)), (1, .int t), (2, .int (b2i u)), (3, .int v), (4, .int y), (5, .int z)]) hx hb dX5_member_86 hl (by decide) rfl (fun ls hl => ?_)
              refine lv_aload_n hx hb dX5_member_88 rfl (lv_at hl 1 rfl) ?_
              refine va_get (D := D) (ci := 5) (v := .ref (a 8)) (C := RX5) (T := TX5) (N := 21) hx hb hts (fun w9 h9 => List.mem_cons_of_mem _ (inT_X5 w9 h9)) hown hK hP 0 rfl rfl 7 (by decide) (hts (.fieldLink RX5 32 "LinkPredictorModel" "gone" "[Z") (List.mem_cons_of_mem _ mw_3_73)) (fun _ h9 => h9) rfl dX5_member_89 ?_
              refine lv_iload hx hb dX5_member_92 (lv_at hl 0 rfl) ?_
              refine lv_iconst (v := (0 : Int32)) hx hb dX5_member_94 (by decide) ?_
              refine top_eq (show (0 : Int32) = b2i false from rfl) ?_
              refine mu_zst hx hb hEV hP hD hS 8 (j := ((30 * w) + n)) (v := false) (w2 := wX cI cZ a (st2 x 7 ((30 * w) + n) (b2i false)) r1 r2) rfl (by omega) (by decide) rfl dX5_member_95 (fun H locs hP hD hS => ?_)
              refine lv_aload_n hx hb dX5_member_96 rfl (lv_at hl 1 rfl) ?_
              refine va_get (D := D) (ci := 5) (v := .ref (a 10)) (C := RX5) (T := TX5) (N := 21) hx hb hts (fun w9 h9 => List.mem_cons_of_mem _ (inT_X5 w9 h9)) hown hK hP 0 rfl rfl 9 (by decide) (hts (.fieldLink RX5 38 "LinkPredictorModel" "owner" "[I") (List.mem_cons_of_mem _ mw_3_75)) (fun _ h9 => h9) rfl dX5_member_97 ?_
              refine lv_iload hx hb dX5_member_100 (lv_at hl 0 rfl) ?_
              refine lv_iload_n hx hb dX5_member_102 rfl (lv_at hl 2 rfl) ?_
              refine mu_ast hx hb hEV hP hD hS 10 (j := ((30 * w) + n)) (v := t) (w2 := wX cI cZ a (st2 (st2 x 7 ((30 * w) + n) (b2i false)) 9 ((30 * w) + n) t) r1 r2) rfl (by omega) (by decide) rfl dX5_member_103 (fun H locs hP hD hS => ?_)
              refine lv_aload_n hx hb dX5_member_104 rfl (lv_at hl 1 rfl) ?_
              refine va_get (D := D) (ci := 5) (v := .ref (a 7)) (C := RX5) (T := TX5) (N := 21) hx hb hts (fun w9 h9 => List.mem_cons_of_mem _ (inT_X5 w9 h9)) hown hK hP 0 rfl rfl 6 (by decide) (hts (.fieldLink RX5 29 "LinkPredictorModel" "method" "[Z") (List.mem_cons_of_mem _ mw_3_72)) (fun _ h9 => h9) rfl dX5_member_105 ?_
              refine lv_iload hx hb dX5_member_108 (lv_at hl 0 rfl) ?_
              refine lv_iload_n hx hb dX5_member_110 rfl (lv_at hl 3 rfl) ?_
              refine mu_zst hx hb hEV hP hD hS 7 (j := ((30 * w) + n)) (v := u) (w2 := wX cI cZ a (st2 (st2 (st2 x 7 ((30 * w) + n) (b2i false)) 9 ((30 * w) + n) t) 6 ((30 * w) + n) (b2i u)) r1 r2) rfl (by omega) (by decide) rfl dX5_member_111 (fun H locs hP hD hS => ?_)
              refine lv_aload_n hx hb dX5_member_112 rfl (lv_at hl 1 rfl) ?_
              refine va_get (D := D) (ci := 5) (v := .ref (a 11)) (C := RX5) (T := TX5) (N := 21) hx hb hts (fun w9 h9 => List.mem_cons_of_mem _ (inT_X5 w9 h9)) hown hK hP 0 rfl rfl 10 (by decide) (hts (.fieldLink RX5 41 "LinkPredictorModel" "sign" "[I") (List.mem_cons_of_mem _ mw_3_76)) (fun _ h9 => h9) rfl dX5_member_113 ?_
              refine lv_iload hx hb dX5_member_116 (lv_at hl 0 rfl) ?_
              refine lv_iload_n hx hb dX5_member_118 rfl (lv_at hl 4 rfl) ?_
              refine mu_ast hx hb hEV hP hD hS 11 (j := ((30 * w) + n)) (v := v) (w2 := wX cI cZ a (st2 (st2 (st2 (st2 x 7 ((30 * w) + n) (b2i false)) 9 ((30 * w) + n) t) 6 ((30 * w) + n) (b2i u)) 10 ((30 * w) + n) v) r1 r2) rfl (by omega) (by decide) rfl dX5_member_119 (fun H locs hP hD hS => ?_)
              refine lv_aload_n hx hb dX5_member_120 rfl (lv_at hl 1 rfl) ?_
              refine va_get (D := D) (ci := 5) (v := .ref (a 12)) (C := RX5) (T := TX5) (N := 21) hx hb hts (fun w9 h9 => List.mem_cons_of_mem _ (inT_X5 w9 h9)) hown hK hP 0 rfl rfl 11 (by decide) (hts (.fieldLink RX5 44 "LinkPredictorModel" "access" "[I") (List.mem_cons_of_mem _ mw_3_77)) (fun _ h9 => h9) rfl dX5_member_121 ?_
              refine lv_iload hx hb dX5_member_124 (lv_at hl 0 rfl) ?_
              refine lv_iload hx hb dX5_member_126 (lv_at hl 5 rfl) ?_
              refine mu_ast hx hb hEV hP hD hS 12 (j := ((30 * w) + n)) (v := y) (w2 := wX cI cZ a (st2 (st2 (st2 (st2 (st2 x 7 ((30 * w) + n) (b2i false)) 9 ((30 * w) + n) t) 6 ((30 * w) + n) (b2i u)) 10 ((30 * w) + n) v) 11 ((30 * w) + n) y) r1 r2) rfl (by omega) (by decide) rfl dX5_member_128 (fun H locs hP hD hS => ?_)
              refine lv_aload_n hx hb dX5_member_129 rfl (lv_at hl 1 rfl) ?_
              refine va_get (D := D) (ci := 5) (v := .ref (a 13)) (C := RX5) (T := TX5) (N := 21) hx hb hts (fun w9 h9 => List.mem_cons_of_mem _ (inT_X5 w9 h9)) hown hK hP 0 rfl rfl 12 (by decide) (hts (.fieldLink RX5 47 "LinkPredictorModel" "marks" "[I") (List.mem_cons_of_mem _ mw_3_78)) (fun _ h9 => h9) rfl dX5_member_130 ?_
              refine lv_iload hx hb dX5_member_133 (lv_at hl 0 rfl) ?_
              refine lv_iload hx hb dX5_member_135 (lv_at hl 6 rfl) ?_
              refine mu_ast hx hb hEV hP hD hS 13 (j := ((30 * w) + n)) (v := z) (w2 := wX cI cZ a (st2 (st2 (st2 (st2 (st2 (st2 x 7 ((30 * w) + n) (b2i false)) 9 ((30 * w) + n) t) 6 ((30 * w) + n) (b2i u)) 10 ((30 * w) + n) v) 11 ((30 * w) + n) y) 12 ((30 * w) + n) z) r1 r2) rfl (by omega) (by decide) rfl dX5_member_137 (fun H locs hP hD hS => ?_)
              refine lv_aload_n hx hb dX5_member_138 rfl (lv_at hl 1 rfl) ?_
              refine va_get (D := D) (ci := 5) (v := .ref (a 9)) (C := RX5) (T := TX5) (N := 21) hx hb hts (fun w9 h9 => List.mem_cons_of_mem _ (inT_X5 w9 h9)) hown hK hP 0 rfl rfl 8 (by decide) (hts (.fieldLink RX5 35 "LinkPredictorModel" "many" "[I") (List.mem_cons_of_mem _ mw_3_74)) (fun _ h9 => h9) rfl dX5_member_139 ?_
              refine lv_aload_n hx hb dX5_member_142 rfl (lv_at hl 1 rfl) ?_
              refine va_get (D := D) (ci := 5) (v := .int ((st2 (st2 (st2 (st2 (st2 (st2 x 7 ((30 * w) + n) (b2i false)) 9 ((30 * w) + n) t) 6 ((30 * w) + n) (b2i u)) 10 ((30 * w) + n) v) 11 ((30 * w) + n) y) 12 ((30 * w) + n) z) 19 1)) (C := RX5) (T := TX5) (N := 21) hx hb hts (fun w9 h9 => List.mem_cons_of_mem _ (inT_X5 w9 h9)) hown hK hP 0 rfl rfl 18 (by decide) (hts (.fieldLink RX5 68 "LinkPredictorModel" "written" "I") (List.mem_cons_of_mem _ mw_3_84)) (fun _ h9 => h9) rfl dX5_member_143 ?_
              refine top_eq (hwr) ?_
              refine lv_dup2_11 hx hb dX5_member_146 rfl rfl ?_
              refine ro_ald hx hb hEV hP 9 (j := w) rfl (by omega) (by decide) dX5_member_147 ?_
              refine top_eq (wx.2.1) ?_
              refine lv_iconst (v := (1 : Int32)) hx hb dX5_member_148 (by decide) ?_
              refine lv_iadd hx hb dX5_member_149 ?_
              refine top_eq (nI_add n 1) ?_
              refine mu_ast hx hb hEV hP hD hS 9 (j := w) (v := nI (n + 1)) (w2 := wX cI cZ a (st2 (st2 (st2 (st2 (st2 (st2 (st2 x 7 ((30 * w) + n) (b2i false)) 9 ((30 * w) + n) t) 6 ((30 * w) + n) (b2i u)) 10 ((30 * w) + n) v) 11 ((30 * w) + n) y) 12 ((30 * w) + n) z) 8 w (nI (n + 1))) r1 r2) rfl (by omega) (by decide) rfl dX5_member_150 (fun H locs hP hD hS => ?_)
              refine lv_aload_n hx hb dX5_member_151 rfl (lv_at hl 1 rfl) ?_
              refine va_get (D := D) (ci := 5) (v := .ref (a 9)) (C := RX5) (T := TX5) (N := 21) hx hb hts (fun w9 h9 => List.mem_cons_of_mem _ (inT_X5 w9 h9)) hown hK hP 0 rfl rfl 8 (by decide) (hts (.fieldLink RX5 35 "LinkPredictorModel" "many" "[I") (List.mem_cons_of_mem _ mw_3_74)) (fun _ h9 => h9) rfl dX5_member_152 ?_
              refine lv_aload_n hx hb dX5_member_155 rfl (lv_at hl 1 rfl) ?_
              refine va_get (D := D) (ci := 5) (v := .int ((st2 (st2 (st2 (st2 (st2 (st2 (st2 x 7 ((30 * w) + n) (b2i false)) 9 ((30 * w) + n) t) 6 ((30 * w) + n) (b2i u)) 10 ((30 * w) + n) v) 11 ((30 * w) + n) y) 12 ((30 * w) + n) z) 8 w (nI (n + 1))) 19 1)) (C := RX5) (T := TX5) (N := 21) hx hb hts (fun w9 h9 => List.mem_cons_of_mem _ (inT_X5 w9 h9)) hown hK hP 0 rfl rfl 18 (by decide) (hts (.fieldLink RX5 68 "LinkPredictorModel" "written" "I") (List.mem_cons_of_mem _ mw_3_84)) (fun _ h9 => h9) rfl dX5_member_156 ?_
              refine top_eq (hwr) ?_
              refine ro_ald hx hb hEV hP 9 (j := w) rfl (by omega) (by decide) dX5_member_159 ?_
              refine top_eq (st2_kk) ?_
              refine lv_iconst (v := (1 : Int32)) hx hb dX5_member_160 (by decide) ?_
              refine lv_isub hx hb dX5_member_161 ?_
              refine top_eq (nI_pred n) ?_
              exact W.iret hx hb hr (fun t9 ht9 _ => ⟨⟨_, (), rfl, congrArg Prod.fst hE, by show va_P D vwCl _ t9.heap; rw [ht9, ← congrArg Prod.snd hE]; exact hP⟩, hS.F ht9⟩) hS.2.2 dX5_member_162
            · have c_63 : n = 30 := (nI_eq (a := n) (b := 30) (by omega) (by omega)).mp c_63
              have hE := (if_pos c_63).symm.trans hE
              refine lv_bipush (v := (-3 : Int32)) hx hb dX5_member_66 (by decide) ?_
              exact W.iret hx hb hr (fun t9 ht9 _ => ⟨⟨_, (), rfl, congrArg Prod.fst hE, by show va_P D vwCl _ t9.heap; rw [ht9, ← congrArg Prod.snd hE]; exact hP⟩, hS.F ht9⟩) hS.2.2 dX5_member_68
          · skip
            have hE := (if_neg c_47).symm.trans hE
            refine lv_iconst (v := (-1 : Int32)) hx hb dX5_member_50 (by decide) ?_
            exact W.iret hx hb hr (fun t9 ht9 _ => ⟨⟨_, (), rfl, congrArg Prod.fst hE, by show va_P D vwCl _ t9.heap; rw [ht9, ← congrArg Prod.snd hE]; exact hP⟩, hS.F ht9⟩) hS.2.2 dX5_member_51
noncomputable def p_X5_remake (w n : Nat) (t : Int32) (u : Int32) (v : Int32) (x : (Nat → Nat → Int32)) : Int32 × (Nat → Nat → Int32) := if (wi t (nI n) && !(goB (vmX x w) (sN t))) = true then (if (wi u (4 : Int32)) = true then (if (wi v (8 : Int32)) = true then (((1 : Int32), st2 (st2 x 11 ((30 * w) + (sN t)) u) 12 ((30 * w) + (sN t)) v)) else (((0 : Int32), x))) else (((0 : Int32), x))) else (((0 : Int32), x))
set_option maxHeartbeats 4000000 in
set_option maxRecDepth 100000 in
theorem c_X5_remake (l : Launch) (D : va_G) (cI cZ cB cR : ClassId) (a : Nat → Nat) (x : Nat → Nat → Int32) (r1 r2 : Nat → Int32) (w n : Nat) (t : Int32) (u : Int32) (v : Int32) (hw : w < 2) (wx : WX x w n) (hwr : x 19 1 = nI w)   : MUi l yX5_remake wsX5_remake ({ frames := 2, cells := 0, slots := 0, locals := 42 } : Room) D cI cZ cB cR (wX cI cZ a x r1 r2) [.ref (a 0), .int t, .int u, .int v] (fun (_ : Unit) => wX cI cZ a ((p_X5_remake w n t u v x).2) r1 r2) (fun r _ => r = (p_X5_remake w n t u v x).1) := by
  generalize hE : p_X5_remake w n t u v x = tgt
  intro sz
  refine Met.ofW (cc := cX5_remake) (maxL := 4) (ret := (some .boolean)) (by decide) rfl ?_
  intro p e s m args below meth c s₁ B hml hv
  obtain ⟨hargs, hsz, hP, hEV, hD0⟩ := hv
  have hx := B.exec
  have hb := B.bytes
  have hr := B.returns
  have hts := atoms_spec (ws := wsX5_remake) B.pre
  have hown : s.vm.findClass RX5 = some m.cls := findClass_of_methodNamed B.named
  have hlocks := B.notSynchronized
  have hK := hEV.1
  have hl := lv_entry ([.ref (a 0), .int t, .int u, .int v]) (n := 4) (Nat.le_of_ble_eq_true rfl)
  rw [show entryFrame m args 4 = entryFrame m ([.ref (a 0), .int t, .int u, .int v] : List Value).toArray 4 from by rw [hargs], lg_entry_eq]
  generalize (lg_sl ([.ref (a 0), .int t, .int u, .int v]) ++ List.replicate (4 - (lg_sl ([.ref (a 0), .int t, .int u, .int v])).length) Slot.unset).toArray = ls at hl ⊢
  have hl : lv_has ls 4 [(0, .ref (a 0)), (1, .int t), (2, .int u), (3, .int v)] := hl
  subst hsz
  have hD := hD0.self (sz := s.heap.size)
  generalize hAe : va_A (wX cI cZ a x r1 r2) s.heap.size = A at hD ⊢
  have hA : ∀ q : Nat, s.heap.size ≤ q → A q := fun q h9 => by rw [← hAe]; exact Or.inr h9
  have hS : va_S A s.heap s.heap [] := va_S.rf
  rw [p_X5_remake] at hE
  have hn30 := wx.2.2.1
  refine lv_aload_n hx hb dX5_remake_0 rfl (lv_at hl 0 rfl) ?_
  refine lv_iload_n hx hb dX5_remake_1 rfl (lv_at hl 1 rfl) ?_
  refine ro_V [.int t] [] ⟨hx, hb, hml, hown, hts⟩ (c_X5_isMember l D cI cZ cB cR a x r1 r2 w n t (by omega) wx hwr) (cwV (C := RX5) 1 hts (goodP (ps := [.methodLink RX5 88 yX5_isMember, .instanceMethod yX5_isMember, .selects RX5 yX5_isMember yX5_isMember, .initialized RX5]) (all4 mw_3_166 mw_3_168 ms_28 mw_1_6) mw_3_169) rfl rfl rfl (by decide +kernel) ⟨Nat.le_of_ble_eq_true rfl, Nat.le_of_ble_eq_true rfl⟩) hEV hP 0 rfl rfl rfl hl.1 rfl (Nat.le_of_ble_eq_true rfl) dX5_remake_2 ⟨Nat.zero_le _, Nat.zero_le _⟩ ?_
  refine lv_if_eq (tgt := 25) hx hb dX5_remake_5 (by decide) (fun c_5 => ?_) (fun c_5 => ?_)
  · have c_5 : ¬ ((wi t (nI n) && !(goB (vmX x w) (sN t))) = true) := b2i_f c_5
    have hE := (if_neg c_5).symm.trans hE
    refine lv_iconst (v := (0 : Int32)) hx hb dX5_remake_25 (by decide) ?_
    exact W.zret hx hb hr rfl (fun t9 ht9 _ => ⟨⟨_, (), rfl, congrArg Prod.fst hE, by show va_P D vwCl _ t9.heap; rw [ht9, ← congrArg Prod.snd hE]; exact hP⟩, hS.F ht9⟩) hS.2.2 dX5_remake_26
  · have c_5 : (wi t (nI n) && !(goB (vmX x w) (sN t))) = true := b2i_t c_5
    have hE := (if_pos c_5).symm.trans hE
    refine lv_iload_n hx hb dX5_remake_8 rfl (lv_at hl 2 rfl) ?_
    refine lv_iconst (v := (4 : Int32)) hx hb dX5_remake_9 (by decide) ?_
    refine ro_S [.int u, .int (4 : Int32)] [] ⟨hx, hb, hml, hown, hts⟩ (c_X5_in l D cI cZ cB cR u (4 : Int32)) (va_cwS 2 hts (goodP (ps := [.methodLink RX5 72 yX5_in, .static yX5_in, .initialized RX5]) (all3 mw_3_135 mw_3_136 mw_1_6) mw_3_137) rfl rfl rfl (by decide +kernel) ⟨Nat.le_of_ble_eq_true rfl, Nat.le_of_ble_eq_true rfl⟩) hEV va_P0 rfl hl.1 rfl (Nat.le_of_ble_eq_true rfl) dX5_remake_10 ⟨Nat.zero_le _, Nat.zero_le _⟩ ?_
    refine lv_if_eq (tgt := 25) hx hb dX5_remake_13 (by decide) (fun c_13 => ?_) (fun c_13 => ?_)
    · have c_13 : ¬ ((wi u (4 : Int32)) = true) := b2i_f c_13
      have hE := (if_neg c_13).symm.trans hE
      refine lv_iconst (v := (0 : Int32)) hx hb dX5_remake_25 (by decide) ?_
      exact W.zret hx hb hr rfl (fun t9 ht9 _ => ⟨⟨_, (), rfl, congrArg Prod.fst hE, by show va_P D vwCl _ t9.heap; rw [ht9, ← congrArg Prod.snd hE]; exact hP⟩, hS.F ht9⟩) hS.2.2 dX5_remake_26
    · have c_13 : (wi u (4 : Int32)) = true := b2i_t c_13
      have hE := (if_pos c_13).symm.trans hE
      refine lv_iload_n hx hb dX5_remake_16 rfl (lv_at hl 3 rfl) ?_
      refine lv_bipush (v := (8 : Int32)) hx hb dX5_remake_17 (by decide) ?_
      refine ro_S [.int v, .int (8 : Int32)] [] ⟨hx, hb, hml, hown, hts⟩ (c_X5_in l D cI cZ cB cR v (8 : Int32)) (va_cwS 2 hts (goodP (ps := [.methodLink RX5 72 yX5_in, .static yX5_in, .initialized RX5]) (all3 mw_3_135 mw_3_136 mw_1_6) mw_3_137) rfl rfl rfl (by decide +kernel) ⟨Nat.le_of_ble_eq_true rfl, Nat.le_of_ble_eq_true rfl⟩) hEV va_P0 rfl hl.1 rfl (Nat.le_of_ble_eq_true rfl) dX5_remake_19 ⟨Nat.zero_le _, Nat.zero_le _⟩ ?_
      refine lv_if_ne (tgt := 27) hx hb dX5_remake_22 (by decide) (fun c_22 => ?_) (fun c_22 => ?_)
      · have c_22 : (wi v (8 : Int32)) = true := b2i_t c_22
        have hE := (if_pos c_22).symm.trans hE
        have ht7 := Bool.and_eq_true_iff.mp c_5
        have ht9 := wi_sN (b := n) (by omega) ht7.1
        have ht8 := ht9.1
        refine lv_aload_n hx hb dX5_remake_27 rfl (lv_at hl 0 rfl) ?_
        refine va_get (D := D) (ci := 5) (v := .ref (a 12)) (C := RX5) (T := TX5) (N := 21) hx hb hts (fun w9 h9 => List.mem_cons_of_mem _ (inT_X5 w9 h9)) hown hK hP 0 rfl rfl 11 (by decide) (hts (.fieldLink RX5 44 "LinkPredictorModel" "access" "[I") (List.mem_cons_of_mem _ mw_3_77)) (fun _ h9 => h9) rfl dX5_remake_28 ?_
        refine lv_bipush (v := (30 : Int32)) hx hb dX5_remake_31 (by decide) ?_
        refine lv_aload_n hx hb dX5_remake_33 rfl (lv_at hl 0 rfl) ?_
        refine va_get (D := D) (ci := 5) (v := .int (x 19 1)) (C := RX5) (T := TX5) (N := 21) hx hb hts (fun w9 h9 => List.mem_cons_of_mem _ (inT_X5 w9 h9)) hown hK hP 0 rfl rfl 18 (by decide) (hts (.fieldLink RX5 68 "LinkPredictorModel" "written" "I") (List.mem_cons_of_mem _ mw_3_84)) (fun _ h9 => h9) rfl dX5_remake_34 ?_
        refine top_eq (hwr) ?_
        refine lv_imul hx hb dX5_remake_37 ?_
        refine top_eq (pk_mul 30 w) ?_
        refine lv_iload_n hx hb dX5_remake_38 rfl (lv_at hl 1 rfl) ?_
        refine top_eq (ht9.2) ?_
        refine lv_iadd hx hb dX5_remake_39 ?_
        refine top_eq (nI_add (30 * w) (sN t)) ?_
        refine lv_iload_n hx hb dX5_remake_40 rfl (lv_at hl 2 rfl) ?_
        refine mu_ast hx hb hEV hP hD hS 12 (j := ((30 * w) + (sN t))) (v := u) (w2 := wX cI cZ a (st2 x 11 ((30 * w) + (sN t)) u) r1 r2) rfl (by omega) (by decide) rfl dX5_remake_41 (fun H locs hP hD hS => ?_)
        refine lv_aload_n hx hb dX5_remake_42 rfl (lv_at hl 0 rfl) ?_
        refine va_get (D := D) (ci := 5) (v := .ref (a 13)) (C := RX5) (T := TX5) (N := 21) hx hb hts (fun w9 h9 => List.mem_cons_of_mem _ (inT_X5 w9 h9)) hown hK hP 0 rfl rfl 12 (by decide) (hts (.fieldLink RX5 47 "LinkPredictorModel" "marks" "[I") (List.mem_cons_of_mem _ mw_3_78)) (fun _ h9 => h9) rfl dX5_remake_43 ?_
        refine lv_bipush (v := (30 : Int32)) hx hb dX5_remake_46 (by decide) ?_
        refine lv_aload_n hx hb dX5_remake_48 rfl (lv_at hl 0 rfl) ?_
        refine va_get (D := D) (ci := 5) (v := .int ((st2 x 11 ((30 * w) + (sN t)) u) 19 1)) (C := RX5) (T := TX5) (N := 21) hx hb hts (fun w9 h9 => List.mem_cons_of_mem _ (inT_X5 w9 h9)) hown hK hP 0 rfl rfl 18 (by decide) (hts (.fieldLink RX5 68 "LinkPredictorModel" "written" "I") (List.mem_cons_of_mem _ mw_3_84)) (fun _ h9 => h9) rfl dX5_remake_49 ?_
        refine top_eq (hwr) ?_
        refine lv_imul hx hb dX5_remake_52 ?_
        refine top_eq (pk_mul 30 w) ?_
        refine lv_iload_n hx hb dX5_remake_53 rfl (lv_at hl 1 rfl) ?_
        refine top_eq (ht9.2) ?_
        refine lv_iadd hx hb dX5_remake_54 ?_
        refine top_eq (nI_add (30 * w) (sN t)) ?_
        refine lv_iload_n hx hb dX5_remake_55 rfl (lv_at hl 3 rfl) ?_
        refine mu_ast hx hb hEV hP hD hS 13 (j := ((30 * w) + (sN t))) (v := v) (w2 := wX cI cZ a (st2 (st2 x 11 ((30 * w) + (sN t)) u) 12 ((30 * w) + (sN t)) v) r1 r2) rfl (by omega) (by decide) rfl dX5_remake_56 (fun H locs hP hD hS => ?_)
        refine lv_iconst (v := (1 : Int32)) hx hb dX5_remake_57 (by decide) ?_
        exact W.zret hx hb hr rfl (fun t9 ht9 _ => ⟨⟨_, (), rfl, congrArg Prod.fst hE, by show va_P D vwCl _ t9.heap; rw [ht9, ← congrArg Prod.snd hE]; exact hP⟩, hS.F ht9⟩) hS.2.2 dX5_remake_58
      · have c_22 : ¬ ((wi v (8 : Int32)) = true) := b2i_f c_22
        have hE := (if_neg c_22).symm.trans hE
        refine lv_iconst (v := (0 : Int32)) hx hb dX5_remake_25 (by decide) ?_
        exact W.zret hx hb hr rfl (fun t9 ht9 _ => ⟨⟨_, (), rfl, congrArg Prod.fst hE, by show va_P D vwCl _ t9.heap; rw [ht9, ← congrArg Prod.snd hE]; exact hP⟩, hS.F ht9⟩) hS.2.2 dX5_remake_26
noncomputable def p_X5_remove (w n : Nat) (t : Int32) (x : (Nat → Nat → Int32)) : Int32 × (Nat → Nat → Int32) := if (wi t (nI n) && !(goB (vmX x w) (sN t))) = true then (((1 : Int32), st2 x 7 ((30 * w) + (sN t)) (b2i true))) else (((0 : Int32), x))
set_option maxHeartbeats 4000000 in
set_option maxRecDepth 100000 in
theorem c_X5_remove (l : Launch) (D : va_G) (cI cZ cB cR : ClassId) (a : Nat → Nat) (x : Nat → Nat → Int32) (r1 r2 : Nat → Int32) (w n : Nat) (t : Int32) (hw : w < 2) (wx : WX x w n) (hwr : x 19 1 = nI w)   : MUi l yX5_remove wsX5_remove ({ frames := 2, cells := 0, slots := 0, locals := 42 } : Room) D cI cZ cB cR (wX cI cZ a x r1 r2) [.ref (a 0), .int t] (fun (_ : Unit) => wX cI cZ a ((p_X5_remove w n t x).2) r1 r2) (fun r _ => r = (p_X5_remove w n t x).1) := by
  generalize hE : p_X5_remove w n t x = tgt
  intro sz
  refine Met.ofW (cc := cX5_remove) (maxL := 2) (ret := (some .boolean)) (by decide) rfl ?_
  intro p e s m args below meth c s₁ B hml hv
  obtain ⟨hargs, hsz, hP, hEV, hD0⟩ := hv
  have hx := B.exec
  have hb := B.bytes
  have hr := B.returns
  have hts := atoms_spec (ws := wsX5_remove) B.pre
  have hown : s.vm.findClass RX5 = some m.cls := findClass_of_methodNamed B.named
  have hlocks := B.notSynchronized
  have hK := hEV.1
  have hl := lv_entry ([.ref (a 0), .int t]) (n := 2) (Nat.le_of_ble_eq_true rfl)
  rw [show entryFrame m args 2 = entryFrame m ([.ref (a 0), .int t] : List Value).toArray 2 from by rw [hargs], lg_entry_eq]
  generalize (lg_sl ([.ref (a 0), .int t]) ++ List.replicate (2 - (lg_sl ([.ref (a 0), .int t])).length) Slot.unset).toArray = ls at hl ⊢
  have hl : lv_has ls 2 [(0, .ref (a 0)), (1, .int t)] := hl
  subst hsz
  have hD := hD0.self (sz := s.heap.size)
  generalize hAe : va_A (wX cI cZ a x r1 r2) s.heap.size = A at hD ⊢
  have hA : ∀ q : Nat, s.heap.size ≤ q → A q := fun q h9 => by rw [← hAe]; exact Or.inr h9
  have hS : va_S A s.heap s.heap [] := va_S.rf
  rw [p_X5_remove] at hE
  have hn30 := wx.2.2.1
  refine lv_aload_n hx hb dX5_remove_0 rfl (lv_at hl 0 rfl) ?_
  refine lv_iload_n hx hb dX5_remove_1 rfl (lv_at hl 1 rfl) ?_
  refine ro_V [.int t] [] ⟨hx, hb, hml, hown, hts⟩ (c_X5_isMember l D cI cZ cB cR a x r1 r2 w n t (by omega) wx hwr) (cwV (C := RX5) 1 hts (goodP (ps := [.methodLink RX5 88 yX5_isMember, .instanceMethod yX5_isMember, .selects RX5 yX5_isMember yX5_isMember, .initialized RX5]) (all4 mw_3_166 mw_3_168 ms_28 mw_1_6) mw_3_169) rfl rfl rfl (by decide +kernel) ⟨Nat.le_of_ble_eq_true rfl, Nat.le_of_ble_eq_true rfl⟩) hEV hP 0 rfl rfl rfl hl.1 rfl (Nat.le_of_ble_eq_true rfl) dX5_remove_2 ⟨Nat.zero_le _, Nat.zero_le _⟩ ?_
  refine lv_if_ne (tgt := 10) hx hb dX5_remove_5 (by decide) (fun c_5 => ?_) (fun c_5 => ?_)
  · have c_5 : (wi t (nI n) && !(goB (vmX x w) (sN t))) = true := b2i_t c_5
    have hE := (if_pos c_5).symm.trans hE
    have ht7 := Bool.and_eq_true_iff.mp c_5
    have ht9 := wi_sN (b := n) (by omega) ht7.1
    have ht8 := ht9.1
    refine lv_aload_n hx hb dX5_remove_10 rfl (lv_at hl 0 rfl) ?_
    refine va_get (D := D) (ci := 5) (v := .ref (a 8)) (C := RX5) (T := TX5) (N := 21) hx hb hts (fun w9 h9 => List.mem_cons_of_mem _ (inT_X5 w9 h9)) hown hK hP 0 rfl rfl 7 (by decide) (hts (.fieldLink RX5 32 "LinkPredictorModel" "gone" "[Z") (List.mem_cons_of_mem _ mw_3_73)) (fun _ h9 => h9) rfl dX5_remove_11 ?_
    refine lv_bipush (v := (30 : Int32)) hx hb dX5_remove_14 (by decide) ?_
    refine lv_aload_n hx hb dX5_remove_16 rfl (lv_at hl 0 rfl) ?_
    refine va_get (D := D) (ci := 5) (v := .int (x 19 1)) (C := RX5) (T := TX5) (N := 21) hx hb hts (fun w9 h9 => List.mem_cons_of_mem _ (inT_X5 w9 h9)) hown hK hP 0 rfl rfl 18 (by decide) (hts (.fieldLink RX5 68 "LinkPredictorModel" "written" "I") (List.mem_cons_of_mem _ mw_3_84)) (fun _ h9 => h9) rfl dX5_remove_17 ?_
    refine top_eq (hwr) ?_
    refine lv_imul hx hb dX5_remove_20 ?_
    refine top_eq (pk_mul 30 w) ?_
    refine lv_iload_n hx hb dX5_remove_21 rfl (lv_at hl 1 rfl) ?_
    refine top_eq (ht9.2) ?_
    refine lv_iadd hx hb dX5_remove_22 ?_
    refine top_eq (nI_add (30 * w) (sN t)) ?_
    refine lv_iconst (v := (1 : Int32)) hx hb dX5_remove_23 (by decide) ?_
    refine top_eq (show (1 : Int32) = b2i true from rfl) ?_
    refine mu_zst hx hb hEV hP hD hS 8 (j := ((30 * w) + (sN t))) (v := true) (w2 := wX cI cZ a (st2 x 7 ((30 * w) + (sN t)) (b2i true)) r1 r2) rfl (by omega) (by decide) rfl dX5_remove_24 (fun H locs hP hD hS => ?_)
    refine lv_iconst (v := (1 : Int32)) hx hb dX5_remove_25 (by decide) ?_
    exact W.zret hx hb hr rfl (fun t9 ht9 _ => ⟨⟨_, (), rfl, congrArg Prod.fst hE, by show va_P D vwCl _ t9.heap; rw [ht9, ← congrArg Prod.snd hE]; exact hP⟩, hS.F ht9⟩) hS.2.2 dX5_remove_26
  · have c_5 : ¬ ((wi t (nI n) && !(goB (vmX x w) (sN t))) = true) := b2i_f c_5
    have hE := (if_neg c_5).symm.trans hE
    refine lv_iconst (v := (0 : Int32)) hx hb dX5_remove_8 (by decide) ?_
    exact W.zret hx hb hr rfl (fun t9 ht9 _ => ⟨⟨_, (), rfl, congrArg Prod.fst hE, by show va_P D vwCl _ t9.heap; rw [ht9, ← congrArg Prod.snd hE]; exact hP⟩, hS.F ht9⟩) hS.2.2 dX5_remove_9
noncomputable def p_X5_branch_120 (w n : Nat)  : Nat → Nat → Nat → (Nat → Nat → Int32) → Int32 × (Nat → Nat → Int32)
  | 0, _, _, x => (0, x)
  | k + 1, n2, n1, x => if n ≤ n2 then ((nI n1, st2 (st2 x 8 1 (nI n)) 19 1 (1 : Int32))) else (p_X5_branch_120 w n  k (n2 + 1) n1 (st2 (st2 (st2 (st2 (st2 (st2 x 7 (30 + n2) (b2i (tb (x 7 n2)))) 9 (30 + n2) (x 9 n2)) 6 (30 + n2) (b2i (tb (x 6 n2)))) 10 (30 + n2) (x 10 n2)) 11 (30 + n2) (x 11 n2)) 12 (30 + n2) (x 12 n2)))
noncomputable def p_X5_branch_4 (w n : Nat)  : Nat → Nat → Nat → (Nat → Nat → Int32) → Int32 × (Nat → Nat → Int32)
  | 0, _, _, x => (0, x)
  | k + 1, n2, n1, x => if 12 ≤ n2 then (p_X5_branch_120 w n  31 0 n1 x) else (if (x 0 n2) = (0 : Int32) then (p_X5_branch_4 w n  k (n2 + 1) n1 (st2 (st2 (st2 (st2 (st2 (st2 x 0 (12 + n2) (b2i (tb (x 0 n2)))) 1 (12 + n2) (x 1 n2)) 2 (12 + n2) (x 2 n2)) 3 (12 + n2) (x 3 n2)) 4 (12 + n2) (x 4 n2)) 5 (12 + n2) (x 5 n2))) else (p_X5_branch_4 w n  k (n2 + 1) (n1 + 1) (st2 (st2 (st2 (st2 (st2 (st2 x 0 (12 + n2) (b2i (tb (x 0 n2)))) 1 (12 + n2) (x 1 n2)) 2 (12 + n2) (x 2 n2)) 3 (12 + n2) (x 3 n2)) 4 (12 + n2) (x 4 n2)) 5 (12 + n2) (x 5 n2))))
noncomputable def p_X5_branch (w n : Nat)  (x : (Nat → Nat → Int32)) : Int32 × (Nat → Nat → Int32) := p_X5_branch_4 w n  13 0 0 x
set_option maxHeartbeats 4000000 in
set_option maxRecDepth 100000 in
theorem c_X5_branch (l : Launch) (D : va_G) (cI cZ cB cR : ClassId) (a : Nat → Nat) (x : Nat → Nat → Int32) (r1 r2 : Nat → Int32) (w n : Nat)  (hb : BX x) (hz : x 8 0 = nI n) (hn30 : n ≤ 30)   : MUi l yX5_branch wsX5_branch ({ frames := 0, cells := 0, slots := 0, locals := 0 } : Room) D cI cZ cB cR (wX cI cZ a x r1 r2) [.ref (a 0)] (fun (_ : Unit) => wX cI cZ a ((p_X5_branch w n  x).2) r1 r2) (fun r _ => r = (p_X5_branch w n  x).1) := by
  generalize hE : p_X5_branch w n  x = tgt
  intro sz
  refine Met.ofW (cc := cX5_branch) (maxL := 3) (ret := (some .int)) (by decide) rfl ?_
  intro p e s m args below meth c s₁ B hml hv
  obtain ⟨hargs, hsz, hP, hEV, hD0⟩ := hv
  have hx := B.exec
  have hb := B.bytes
  have hr := B.returns
  have hts := atoms_spec (ws := wsX5_branch) B.pre
  have hown : s.vm.findClass RX5 = some m.cls := findClass_of_methodNamed B.named
  have hlocks := B.notSynchronized
  have hK := hEV.1
  have hl := lv_entry ([.ref (a 0)]) (n := 3) (Nat.le_of_ble_eq_true rfl)
  rw [show entryFrame m args 3 = entryFrame m ([.ref (a 0)] : List Value).toArray 3 from by rw [hargs], lg_entry_eq]
  generalize (lg_sl ([.ref (a 0)]) ++ List.replicate (3 - (lg_sl ([.ref (a 0)])).length) Slot.unset).toArray = ls at hl ⊢
  have hl : lv_has ls 3 [(0, .ref (a 0))] := hl
  subst hsz
  have hD := hD0.self (sz := s.heap.size)
  generalize hAe : va_A (wX cI cZ a x r1 r2) s.heap.size = A at hD ⊢
  have hA : ∀ q : Nat, s.heap.size ≤ q → A q := fun q h9 => by rw [← hAe]; exact Or.inr h9
  have hS : va_S A s.heap s.heap [] := va_S.rf
  rw [p_X5_branch] at hE
  have key_120 : ∀ (k_120 : Nat) (n2 : Nat) (n1 : Nat) (x : (Nat → Nat → Int32)) (ls : Array Slot) (H : Heap) (locs : List Loc) (hP : va_P D vwCl (wX cI cZ a x r1 r2) H) (hD : va_D A (wX cI cZ a x r1 r2)) (hS : va_S A s.heap H locs), (n - n2) < k_120 → BX x → x 8 0 = nI n → n2 ≤ n → lv_has ls 3 [(2, .int (nI n2)), (1, .int (nI n1)), (0, .ref (a 0))] → p_X5_branch_120 w n  k_120 n2 n1 x = tgt → W p l e (headSpec wsX5_branch ({ frames := 0, cells := 0, slots := 0, locals := 0 } : Room)).room s m args below meth c H locs 0 0 (MQ below (va_Qi (fun r (_ : Unit) => r = tgt.1) (fun _ t => va_P D vwCl (wX cI cZ a tgt.2 r1 r2) t.heap) A) args s 0 0 A) (F0 m 120 ls []) := by
    intro k_120
    induction k_120 with
    | zero => intro n2 n1 x ls H locs hP hD hS hm; exact absurd hm (Nat.not_lt_zero _)
    | succ k_120 ih_120 =>
      intro n2 n1 x ls H locs hP hD hS hm_120 hi_120_0 hi_120_1 hi_120_2 hl hE
      rw [p_X5_branch_120] at hE
      have hb9 := hi_120_0
      have hz9 := hi_120_1
      refine lv_iload_n hx hb dX5_branch_120 rfl (lv_at hl 0 rfl) ?_
      refine lv_aload_n hx hb dX5_branch_121 rfl (lv_at hl 2 rfl) ?_
      refine va_get (D := D) (ci := 5) (v := .ref (a 9)) (C := RX5) (T := TX5) (N := 21) hx hb hts (fun w9 h9 => List.mem_cons_of_mem _ (inT_X5 w9 h9)) hown hK hP 0 rfl rfl 8 (by decide) (hts (.fieldLink RX5 35 "LinkPredictorModel" "many" "[I") (List.mem_cons_of_mem _ mw_3_74)) (fun _ h9 => h9) rfl dX5_branch_122 ?_
      refine lv_iconst (v := (0 : Int32)) hx hb dX5_branch_125 (by decide) ?_
      refine ro_ald hx hb hEV hP 9 (j := 0) rfl (by omega) (by decide) dX5_branch_126 ?_
      refine top_eq (hz9) ?_
      refine lv_icmp_ge (tgt := 226) hx hb dX5_branch_127 (by decide) (fun c_127 => ?_) (fun c_127 => ?_)
      · have c_127 : n ≤ n2 := (nI_leI (a := n) (b := n2) (by omega) (by omega)).mp c_127
        have hE := (if_pos c_127).symm.trans hE
        refine lv_aload_n hx hb dX5_branch_226 rfl (lv_at hl 2 rfl) ?_
        refine va_get (D := D) (ci := 5) (v := .ref (a 9)) (C := RX5) (T := TX5) (N := 21) hx hb hts (fun w9 h9 => List.mem_cons_of_mem _ (inT_X5 w9 h9)) hown hK hP 0 rfl rfl 8 (by decide) (hts (.fieldLink RX5 35 "LinkPredictorModel" "many" "[I") (List.mem_cons_of_mem _ mw_3_74)) (fun _ h9 => h9) rfl dX5_branch_227 ?_
        refine lv_iconst (v := (1 : Int32)) hx hb dX5_branch_230 (by decide) ?_
        refine lv_aload_n hx hb dX5_branch_231 rfl (lv_at hl 2 rfl) ?_
        refine va_get (D := D) (ci := 5) (v := .ref (a 9)) (C := RX5) (T := TX5) (N := 21) hx hb hts (fun w9 h9 => List.mem_cons_of_mem _ (inT_X5 w9 h9)) hown hK hP 0 rfl rfl 8 (by decide) (hts (.fieldLink RX5 35 "LinkPredictorModel" "many" "[I") (List.mem_cons_of_mem _ mw_3_74)) (fun _ h9 => h9) rfl dX5_branch_232 ?_
        refine lv_iconst (v := (0 : Int32)) hx hb dX5_branch_235 (by decide) ?_
        refine ro_ald hx hb hEV hP 9 (j := 0) rfl (by omega) (by decide) dX5_branch_236 ?_
        refine top_eq (hz9) ?_
        refine mu_ast hx hb hEV hP hD hS 9 (j := 1) (v := nI n) (w2 := wX cI cZ a (st2 x 8 1 (nI n)) r1 r2) rfl (by omega) (by decide) rfl dX5_branch_237 (fun H locs hP hD hS => ?_)
        refine lv_aload_n hx hb dX5_branch_238 rfl (lv_at hl 2 rfl) ?_
        refine lv_iconst (v := (1 : Int32)) hx hb dX5_branch_239 (by decide) ?_
        refine va_put (D := D) (ci := 5) (v := .int (1 : Int32)) (ty := .int) (C := RX5) (T := TX5) (N := 21) hx hb hts (fun w9 h9 => List.mem_cons_of_mem _ (inT_X5 w9 h9)) tyX5 tyX5_ok nmX5 hown hK hP hD hS 0 rfl rfl 18 (by decide) (hts (.fieldLink RX5 68 "LinkPredictorModel" "written" "I") (List.mem_cons_of_mem _ mw_3_84)) (fun _ h9 => h9) rfl (by decide +kernel) rfl rfl (Nat.le_of_ble_eq_true rfl) dX5_branch_240 (fun H locs hP hD hS => ?_)
        have hP : va_P D vwCl (wX cI cZ a (st2 (st2 x 8 1 (nI n)) 19 1 (1 : Int32)) r1 r2) _ := hP
        have hD : va_D A (wX cI cZ a (st2 (st2 x 8 1 (nI n)) 19 1 (1 : Int32)) r1 r2) := hD
        refine lv_iload_n hx hb dX5_branch_243 rfl (lv_at hl 1 rfl) ?_
        exact W.iret hx hb hr (fun t9 ht9 _ => ⟨⟨_, (), rfl, congrArg Prod.fst hE, by show va_P D vwCl _ t9.heap; rw [ht9, ← congrArg Prod.snd hE]; exact hP⟩, hS.F ht9⟩) hS.2.2 dX5_branch_244
      · have c_127 : ¬ (n ≤ n2) := fun q9 => c_127 ((nI_leI (a := n) (b := n2) (by omega) (by omega)).mpr q9)
        have hE := (if_neg c_127).symm.trans hE
        refine lv_aload_n hx hb dX5_branch_130 rfl (lv_at hl 2 rfl) ?_
        refine va_get (D := D) (ci := 5) (v := .ref (a 8)) (C := RX5) (T := TX5) (N := 21) hx hb hts (fun w9 h9 => List.mem_cons_of_mem _ (inT_X5 w9 h9)) hown hK hP 0 rfl rfl 7 (by decide) (hts (.fieldLink RX5 32 "LinkPredictorModel" "gone" "[Z") (List.mem_cons_of_mem _ mw_3_73)) (fun _ h9 => h9) rfl dX5_branch_131 ?_
        refine lv_bipush (v := (30 : Int32)) hx hb dX5_branch_134 (by decide) ?_
        refine lv_iload_n hx hb dX5_branch_136 rfl (lv_at hl 0 rfl) ?_
        refine lv_iadd hx hb dX5_branch_137 ?_
        refine top_eq (nI_add 30 n2) ?_
        refine lv_aload_n hx hb dX5_branch_138 rfl (lv_at hl 2 rfl) ?_
        refine va_get (D := D) (ci := 5) (v := .ref (a 8)) (C := RX5) (T := TX5) (N := 21) hx hb hts (fun w9 h9 => List.mem_cons_of_mem _ (inT_X5 w9 h9)) hown hK hP 0 rfl rfl 7 (by decide) (hts (.fieldLink RX5 32 "LinkPredictorModel" "gone" "[Z") (List.mem_cons_of_mem _ mw_3_73)) (fun _ h9 => h9) rfl dX5_branch_139 ?_
        refine lv_iload_n hx hb dX5_branch_142 rfl (lv_at hl 0 rfl) ?_
        refine ro_zld hx hb hEV hP 8 (j := n2) rfl (by omega) (by decide) dX5_branch_143 ?_
        refine top_eq (tb_eq (hb9 7 n2 (by decide))) ?_
        refine mu_zst hx hb hEV hP hD hS 8 (j := (30 + n2)) (v := (tb (x 7 n2))) (w2 := wX cI cZ a (st2 x 7 (30 + n2) (b2i (tb (x 7 n2)))) r1 r2) rfl (by omega) (by decide) rfl dX5_branch_144 (fun H locs hP hD hS => ?_)
        refine lv_aload_n hx hb dX5_branch_145 rfl (lv_at hl 2 rfl) ?_
        refine va_get (D := D) (ci := 5) (v := .ref (a 10)) (C := RX5) (T := TX5) (N := 21) hx hb hts (fun w9 h9 => List.mem_cons_of_mem _ (inT_X5 w9 h9)) hown hK hP 0 rfl rfl 9 (by decide) (hts (.fieldLink RX5 38 "LinkPredictorModel" "owner" "[I") (List.mem_cons_of_mem _ mw_3_75)) (fun _ h9 => h9) rfl dX5_branch_146 ?_
        refine lv_bipush (v := (30 : Int32)) hx hb dX5_branch_149 (by decide) ?_
        refine lv_iload_n hx hb dX5_branch_151 rfl (lv_at hl 0 rfl) ?_
        refine lv_iadd hx hb dX5_branch_152 ?_
        refine top_eq (nI_add 30 n2) ?_
        refine lv_aload_n hx hb dX5_branch_153 rfl (lv_at hl 2 rfl) ?_
        refine va_get (D := D) (ci := 5) (v := .ref (a 10)) (C := RX5) (T := TX5) (N := 21) hx hb hts (fun w9 h9 => List.mem_cons_of_mem _ (inT_X5 w9 h9)) hown hK hP 0 rfl rfl 9 (by decide) (hts (.fieldLink RX5 38 "LinkPredictorModel" "owner" "[I") (List.mem_cons_of_mem _ mw_3_75)) (fun _ h9 => h9) rfl dX5_branch_154 ?_
        refine lv_iload_n hx hb dX5_branch_157 rfl (lv_at hl 0 rfl) ?_
        refine ro_ald hx hb hEV hP 10 (j := n2) rfl (by omega) (by decide) dX5_branch_158 ?_
        refine top_eq (rfl) ?_
        refine mu_ast hx hb hEV hP hD hS 10 (j := (30 + n2)) (v := x 9 n2) (w2 := wX cI cZ a (st2 (st2 x 7 (30 + n2) (b2i (tb (x 7 n2)))) 9 (30 + n2) (x 9 n2)) r1 r2) rfl (by omega) (by decide) rfl dX5_branch_159 (fun H locs hP hD hS => ?_)
        refine lv_aload_n hx hb dX5_branch_160 rfl (lv_at hl 2 rfl) ?_
        refine va_get (D := D) (ci := 5) (v := .ref (a 7)) (C := RX5) (T := TX5) (N := 21) hx hb hts (fun w9 h9 => List.mem_cons_of_mem _ (inT_X5 w9 h9)) hown hK hP 0 rfl rfl 6 (by decide) (hts (.fieldLink RX5 29 "LinkPredictorModel" "method" "[Z") (List.mem_cons_of_mem _ mw_3_72)) (fun _ h9 => h9) rfl dX5_branch_161 ?_
        refine lv_bipush (v := (30 : Int32)) hx hb dX5_branch_164 (by decide) ?_
        refine lv_iload_n hx hb dX5_branch_166 rfl (lv_at hl 0 rfl) ?_
        refine lv_iadd hx hb dX5_branch_167 ?_
        refine top_eq (nI_add 30 n2) ?_
        refine lv_aload_n hx hb dX5_branch_168 rfl (lv_at hl 2 rfl) ?_
        refine va_get (D := D) (ci := 5) (v := .ref (a 7)) (C := RX5) (T := TX5) (N := 21) hx hb hts (fun w9 h9 => List.mem_cons_of_mem _ (inT_X5 w9 h9)) hown hK hP 0 rfl rfl 6 (by decide) (hts (.fieldLink RX5 29 "LinkPredictorModel" "method" "[Z") (List.mem_cons_of_mem _ mw_3_72)) (fun _ h9 => h9) rfl dX5_branch_169 ?_
        refine lv_iload_n hx hb dX5_branch_172 rfl (lv_at hl 0 rfl) ?_
        refine ro_zld hx hb hEV hP 7 (j := n2) rfl (by omega) (by decide) dX5_branch_173 ?_
        refine top_eq (tb_eq (hb9 6 n2 (by decide))) ?_
        refine mu_zst hx hb hEV hP hD hS 7 (j := (30 + n2)) (v := (tb (x 6 n2))) (w2 := wX cI cZ a (st2 (st2 (st2 x 7 (30 + n2) (b2i (tb (x 7 n2)))) 9 (30 + n2) (x 9 n2)) 6 (30 + n2) (b2i (tb (x 6 n2)))) r1 r2) rfl (by omega) (by decide) rfl dX5_branch_174 (fun H locs hP hD hS => ?_)
        refine lv_aload_n hx hb dX5_branch_175 rfl (lv_at hl 2 rfl) ?_
        refine va_get (D := D) (ci := 5) (v := .ref (a 11)) (C := RX5) (T := TX5) (N := 21) hx hb hts (fun w9 h9 => List.mem_cons_of_mem _ (inT_X5 w9 h9)) hown hK hP 0 rfl rfl 10 (by decide) (hts (.fieldLink RX5 41 "LinkPredictorModel" "sign" "[I") (List.mem_cons_of_mem _ mw_3_76)) (fun _ h9 => h9) rfl dX5_branch_176 ?_
        refine lv_bipush (v := (30 : Int32)) hx hb dX5_branch_179 (by decide) ?_
        refine lv_iload_n hx hb dX5_branch_181 rfl (lv_at hl 0 rfl) ?_
        refine lv_iadd hx hb dX5_branch_182 ?_
        refine top_eq (nI_add 30 n2) ?_
        refine lv_aload_n hx hb dX5_branch_183 rfl (lv_at hl 2 rfl) ?_
        refine va_get (D := D) (ci := 5) (v := .ref (a 11)) (C := RX5) (T := TX5) (N := 21) hx hb hts (fun w9 h9 => List.mem_cons_of_mem _ (inT_X5 w9 h9)) hown hK hP 0 rfl rfl 10 (by decide) (hts (.fieldLink RX5 41 "LinkPredictorModel" "sign" "[I") (List.mem_cons_of_mem _ mw_3_76)) (fun _ h9 => h9) rfl dX5_branch_184 ?_
        refine lv_iload_n hx hb dX5_branch_187 rfl (lv_at hl 0 rfl) ?_
        refine ro_ald hx hb hEV hP 11 (j := n2) rfl (by omega) (by decide) dX5_branch_188 ?_
        refine top_eq (rfl) ?_
        refine mu_ast hx hb hEV hP hD hS 11 (j := (30 + n2)) (v := x 10 n2) (w2 := wX cI cZ a (st2 (st2 (st2 (st2 x 7 (30 + n2) (b2i (tb (x 7 n2)))) 9 (30 + n2) (x 9 n2)) 6 (30 + n2) (b2i (tb (x 6 n2)))) 10 (30 + n2) (x 10 n2)) r1 r2) rfl (by omega) (by decide) rfl dX5_branch_189 (fun H locs hP hD hS => ?_)
        refine lv_aload_n hx hb dX5_branch_190 rfl (lv_at hl 2 rfl) ?_
        refine va_get (D := D) (ci := 5) (v := .ref (a 12)) (C := RX5) (T := TX5) (N := 21) hx hb hts (fun w9 h9 => List.mem_cons_of_mem _ (inT_X5 w9 h9)) hown hK hP 0 rfl rfl 11 (by decide) (hts (.fieldLink RX5 44 "LinkPredictorModel" "access" "[I") (List.mem_cons_of_mem _ mw_3_77)) (fun _ h9 => h9) rfl dX5_branch_191 ?_
        refine lv_bipush (v := (30 : Int32)) hx hb dX5_branch_194 (by decide) ?_
        refine lv_iload_n hx hb dX5_branch_196 rfl (lv_at hl 0 rfl) ?_
        refine lv_iadd hx hb dX5_branch_197 ?_
        refine top_eq (nI_add 30 n2) ?_
        refine lv_aload_n hx hb dX5_branch_198 rfl (lv_at hl 2 rfl) ?_
        refine va_get (D := D) (ci := 5) (v := .ref (a 12)) (C := RX5) (T := TX5) (N := 21) hx hb hts (fun w9 h9 => List.mem_cons_of_mem _ (inT_X5 w9 h9)) hown hK hP 0 rfl rfl 11 (by decide) (hts (.fieldLink RX5 44 "LinkPredictorModel" "access" "[I") (List.mem_cons_of_mem _ mw_3_77)) (fun _ h9 => h9) rfl dX5_branch_199 ?_
        refine lv_iload_n hx hb dX5_branch_202 rfl (lv_at hl 0 rfl) ?_
        refine ro_ald hx hb hEV hP 12 (j := n2) rfl (by omega) (by decide) dX5_branch_203 ?_
        refine top_eq (rfl) ?_
        refine mu_ast hx hb hEV hP hD hS 12 (j := (30 + n2)) (v := x 11 n2) (w2 := wX cI cZ a (st2 (st2 (st2 (st2 (st2 x 7 (30 + n2) (b2i (tb (x 7 n2)))) 9 (30 + n2) (x 9 n2)) 6 (30 + n2) (b2i (tb (x 6 n2)))) 10 (30 + n2) (x 10 n2)) 11 (30 + n2) (x 11 n2)) r1 r2) rfl (by omega) (by decide) rfl dX5_branch_204 (fun H locs hP hD hS => ?_)
        refine lv_aload_n hx hb dX5_branch_205 rfl (lv_at hl 2 rfl) ?_
        refine va_get (D := D) (ci := 5) (v := .ref (a 13)) (C := RX5) (T := TX5) (N := 21) hx hb hts (fun w9 h9 => List.mem_cons_of_mem _ (inT_X5 w9 h9)) hown hK hP 0 rfl rfl 12 (by decide) (hts (.fieldLink RX5 47 "LinkPredictorModel" "marks" "[I") (List.mem_cons_of_mem _ mw_3_78)) (fun _ h9 => h9) rfl dX5_branch_206 ?_
        refine lv_bipush (v := (30 : Int32)) hx hb dX5_branch_209 (by decide) ?_
        refine lv_iload_n hx hb dX5_branch_211 rfl (lv_at hl 0 rfl) ?_
        refine lv_iadd hx hb dX5_branch_212 ?_
        refine top_eq (nI_add 30 n2) ?_
        refine lv_aload_n hx hb dX5_branch_213 rfl (lv_at hl 2 rfl) ?_
        refine va_get (D := D) (ci := 5) (v := .ref (a 13)) (C := RX5) (T := TX5) (N := 21) hx hb hts (fun w9 h9 => List.mem_cons_of_mem _ (inT_X5 w9 h9)) hown hK hP 0 rfl rfl 12 (by decide) (hts (.fieldLink RX5 47 "LinkPredictorModel" "marks" "[I") (List.mem_cons_of_mem _ mw_3_78)) (fun _ h9 => h9) rfl dX5_branch_214 ?_
        refine lv_iload_n hx hb dX5_branch_217 rfl (lv_at hl 0 rfl) ?_
        refine ro_ald hx hb hEV hP 13 (j := n2) rfl (by omega) (by decide) dX5_branch_218 ?_
        refine top_eq (rfl) ?_
        refine mu_ast hx hb hEV hP hD hS 13 (j := (30 + n2)) (v := x 12 n2) (w2 := wX cI cZ a (st2 (st2 (st2 (st2 (st2 (st2 x 7 (30 + n2) (b2i (tb (x 7 n2)))) 9 (30 + n2) (x 9 n2)) 6 (30 + n2) (b2i (tb (x 6 n2)))) 10 (30 + n2) (x 10 n2)) 11 (30 + n2) (x 11 n2)) 12 (30 + n2) (x 12 n2)) r1 r2) rfl (by omega) (by decide) rfl dX5_branch_219 (fun H locs hP hD hS => ?_)
        refine lv_iinc (v := nI (n2 + 1)) (lv' := [(2, .int (nI (n2 + 1))), (1, .int (nI n1)), (0, .ref (a 0))]) hx hb dX5_branch_220 hl (k := 0) rfl (nI_1 _) (by decide) rfl (fun ls hl => ?_)
        refine lv_goto (tgt := 120) hx hb dX5_branch_223 (by decide) ?_
        exact ih_120 (n2 + 1) n1 (st2 (st2 (st2 (st2 (st2 (st2 x 7 (30 + n2) (b2i (tb (x 7 n2)))) 9 (30 + n2) (x 9 n2)) 6 (30 + n2) (b2i (tb (x 6 n2)))) 10 (30 + n2) (x 10 n2)) 11 (30 + n2) (x 11 n2)) 12 (30 + n2) (x 12 n2)) ls _ _ hP hD hS (by omega) (by first | omega | exact hb9 | exact hz9 | exact hb | exact hz | exact BX.n (by decide) (BX.n (by decide) (BX.n (by decide) (BX.n (by decide) (BX.n (by decide) (BX.b hb9))))) | exact BX.n (by decide) (BX.n (by decide) (BX.n (by decide) (BX.b (BX.n (by decide) (BX.b hb9)))))) (by first | omega | exact hb9 | exact hz9 | exact hb | exact hz | exact BX.n (by decide) (BX.n (by decide) (BX.n (by decide) (BX.n (by decide) (BX.n (by decide) (BX.b hb9))))) | exact BX.n (by decide) (BX.n (by decide) (BX.n (by decide) (BX.b (BX.n (by decide) (BX.b hb9)))))) (by first | omega | exact hb9 | exact hz9 | exact hb | exact hz | exact BX.n (by decide) (BX.n (by decide) (BX.n (by decide) (BX.n (by decide) (BX.n (by decide) (BX.b hb9))))) | exact BX.n (by decide) (BX.n (by decide) (BX.n (by decide) (BX.b (BX.n (by decide) (BX.b hb9)))))) (lv_sub hl [0, 1, 2] rfl) hE
  have key_4 : ∀ (k_4 : Nat) (n2 : Nat) (n1 : Nat) (x : (Nat → Nat → Int32)) (ls : Array Slot) (H : Heap) (locs : List Loc) (hP : va_P D vwCl (wX cI cZ a x r1 r2) H) (hD : va_D A (wX cI cZ a x r1 r2)) (hS : va_S A s.heap H locs), (12 - n2) < k_4 → BX x → x 8 0 = nI n → n2 ≤ 12 → lv_has ls 3 [(2, .int (nI n2)), (1, .int (nI n1)), (0, .ref (a 0))] → p_X5_branch_4 w n  k_4 n2 n1 x = tgt → W p l e (headSpec wsX5_branch ({ frames := 0, cells := 0, slots := 0, locals := 0 } : Room)).room s m args below meth c H locs 0 0 (MQ below (va_Qi (fun r (_ : Unit) => r = tgt.1) (fun _ t => va_P D vwCl (wX cI cZ a tgt.2 r1 r2) t.heap) A) args s 0 0 A) (F0 m 4 ls []) := by
    intro k_4
    induction k_4 with
    | zero => intro n2 n1 x ls H locs hP hD hS hm; exact absurd hm (Nat.not_lt_zero _)
    | succ k_4 ih_4 =>
      intro n2 n1 x ls H locs hP hD hS hm_4 hi_4_0 hi_4_1 hi_4_2 hl hE
      rw [p_X5_branch_4] at hE
      have hb9 := hi_4_0
      have hz9 := hi_4_1
      refine lv_iload_n hx hb dX5_branch_4 rfl (lv_at hl 0 rfl) ?_
      refine lv_bipush (v := (12 : Int32)) hx hb dX5_branch_5 (by decide) ?_
      refine lv_icmp_ge (tgt := 118) hx hb dX5_branch_7 (by decide) (fun c_7 => ?_) (fun c_7 => ?_)
      · have c_7 : 12 ≤ n2 := (nI_leI (a := 12) (b := n2) (by omega) (by omega)).mp c_7
        have hE := (if_pos c_7).symm.trans hE
        refine lv_iconst (v := (0 : Int32)) hx hb dX5_branch_118 (by decide) ?_
        refine lv_istore_n (lv' := [(2, .int (0 : Int32)), (1, .int (nI n1)), (0, .ref (a 0))]) hx hb dX5_branch_119 rfl hl (by decide) rfl (fun ls hl => ?_)
        exact key_120 31 0 n1 x ls _ _ hP hD hS (by omega) (by first | omega | exact hb9 | exact hz9 | exact hb | exact hz | exact BX.n (by decide) (BX.n (by decide) (BX.n (by decide) (BX.n (by decide) (BX.n (by decide) (BX.b hb9))))) | exact BX.n (by decide) (BX.n (by decide) (BX.n (by decide) (BX.b (BX.n (by decide) (BX.b hb9)))))) (by first | omega | exact hb9 | exact hz9 | exact hb | exact hz | exact BX.n (by decide) (BX.n (by decide) (BX.n (by decide) (BX.n (by decide) (BX.n (by decide) (BX.b hb9))))) | exact BX.n (by decide) (BX.n (by decide) (BX.n (by decide) (BX.b (BX.n (by decide) (BX.b hb9)))))) (by first | omega | exact hb9 | exact hz9 | exact hb | exact hz | exact BX.n (by decide) (BX.n (by decide) (BX.n (by decide) (BX.n (by decide) (BX.n (by decide) (BX.b hb9))))) | exact BX.n (by decide) (BX.n (by decide) (BX.n (by decide) (BX.b (BX.n (by decide) (BX.b hb9)))))) (lv_sub hl [0, 1, 2] rfl) hE
      · have c_7 : ¬ (12 ≤ n2) := fun q9 => c_7 ((nI_leI (a := 12) (b := n2) (by omega) (by omega)).mpr q9)
        have hE := (if_neg c_7).symm.trans hE
        refine lv_aload_n hx hb dX5_branch_10 rfl (lv_at hl 2 rfl) ?_
        refine va_get (D := D) (ci := 5) (v := .ref (a 1)) (C := RX5) (T := TX5) (N := 21) hx hb hts (fun w9 h9 => List.mem_cons_of_mem _ (inT_X5 w9 h9)) hown hK hP 0 rfl rfl 0 (by decide) (hts (.fieldLink RX5 7 "LinkPredictorModel" "there" "[Z") (List.mem_cons_of_mem _ mw_3_66)) (fun _ h9 => h9) rfl dX5_branch_11 ?_
        refine lv_bipush (v := (12 : Int32)) hx hb dX5_branch_14 (by decide) ?_
        refine lv_iload_n hx hb dX5_branch_16 rfl (lv_at hl 0 rfl) ?_
        refine lv_iadd hx hb dX5_branch_17 ?_
        refine top_eq (nI_add 12 n2) ?_
        refine lv_aload_n hx hb dX5_branch_18 rfl (lv_at hl 2 rfl) ?_
        refine va_get (D := D) (ci := 5) (v := .ref (a 1)) (C := RX5) (T := TX5) (N := 21) hx hb hts (fun w9 h9 => List.mem_cons_of_mem _ (inT_X5 w9 h9)) hown hK hP 0 rfl rfl 0 (by decide) (hts (.fieldLink RX5 7 "LinkPredictorModel" "there" "[Z") (List.mem_cons_of_mem _ mw_3_66)) (fun _ h9 => h9) rfl dX5_branch_19 ?_
        refine lv_iload_n hx hb dX5_branch_22 rfl (lv_at hl 0 rfl) ?_
        refine ro_zld hx hb hEV hP 1 (j := n2) rfl (by omega) (by decide) dX5_branch_23 ?_
        refine top_eq (tb_eq (hb9 0 n2 (by decide))) ?_
        refine mu_zst hx hb hEV hP hD hS 1 (j := (12 + n2)) (v := (tb (x 0 n2))) (w2 := wX cI cZ a (st2 x 0 (12 + n2) (b2i (tb (x 0 n2)))) r1 r2) rfl (by omega) (by decide) rfl dX5_branch_24 (fun H locs hP hD hS => ?_)
        refine lv_aload_n hx hb dX5_branch_25 rfl (lv_at hl 2 rfl) ?_
        refine va_get (D := D) (ci := 5) (v := .ref (a 2)) (C := RX5) (T := TX5) (N := 21) hx hb hts (fun w9 h9 => List.mem_cons_of_mem _ (inT_X5 w9 h9)) hown hK hP 0 rfl rfl 1 (by decide) (hts (.fieldLink RX5 13 "LinkPredictorModel" "flags" "[I") (List.mem_cons_of_mem _ mw_3_67)) (fun _ h9 => h9) rfl dX5_branch_26 ?_
        refine lv_bipush (v := (12 : Int32)) hx hb dX5_branch_29 (by decide) ?_
        refine lv_iload_n hx hb dX5_branch_31 rfl (lv_at hl 0 rfl) ?_
        refine lv_iadd hx hb dX5_branch_32 ?_
        refine top_eq (nI_add 12 n2) ?_
        refine lv_aload_n hx hb dX5_branch_33 rfl (lv_at hl 2 rfl) ?_
        refine va_get (D := D) (ci := 5) (v := .ref (a 2)) (C := RX5) (T := TX5) (N := 21) hx hb hts (fun w9 h9 => List.mem_cons_of_mem _ (inT_X5 w9 h9)) hown hK hP 0 rfl rfl 1 (by decide) (hts (.fieldLink RX5 13 "LinkPredictorModel" "flags" "[I") (List.mem_cons_of_mem _ mw_3_67)) (fun _ h9 => h9) rfl dX5_branch_34 ?_
        refine lv_iload_n hx hb dX5_branch_37 rfl (lv_at hl 0 rfl) ?_
        refine ro_ald hx hb hEV hP 2 (j := n2) rfl (by omega) (by decide) dX5_branch_38 ?_
        refine top_eq (rfl) ?_
        refine mu_ast hx hb hEV hP hD hS 2 (j := (12 + n2)) (v := x 1 n2) (w2 := wX cI cZ a (st2 (st2 x 0 (12 + n2) (b2i (tb (x 0 n2)))) 1 (12 + n2) (x 1 n2)) r1 r2) rfl (by omega) (by decide) rfl dX5_branch_39 (fun H locs hP hD hS => ?_)
        refine lv_aload_n hx hb dX5_branch_40 rfl (lv_at hl 2 rfl) ?_
        refine va_get (D := D) (ci := 5) (v := .ref (a 3)) (C := RX5) (T := TX5) (N := 21) hx hb hts (fun w9 h9 => List.mem_cons_of_mem _ (inT_X5 w9 h9)) hown hK hP 0 rfl rfl 2 (by decide) (hts (.fieldLink RX5 17 "LinkPredictorModel" "pack" "[I") (List.mem_cons_of_mem _ mw_3_68)) (fun _ h9 => h9) rfl dX5_branch_41 ?_
        refine lv_bipush (v := (12 : Int32)) hx hb dX5_branch_44 (by decide) ?_
        refine lv_iload_n hx hb dX5_branch_46 rfl (lv_at hl 0 rfl) ?_
        refine lv_iadd hx hb dX5_branch_47 ?_
        refine top_eq (nI_add 12 n2) ?_
        refine lv_aload_n hx hb dX5_branch_48 rfl (lv_at hl 2 rfl) ?_
        refine va_get (D := D) (ci := 5) (v := .ref (a 3)) (C := RX5) (T := TX5) (N := 21) hx hb hts (fun w9 h9 => List.mem_cons_of_mem _ (inT_X5 w9 h9)) hown hK hP 0 rfl rfl 2 (by decide) (hts (.fieldLink RX5 17 "LinkPredictorModel" "pack" "[I") (List.mem_cons_of_mem _ mw_3_68)) (fun _ h9 => h9) rfl dX5_branch_49 ?_
        refine lv_iload_n hx hb dX5_branch_52 rfl (lv_at hl 0 rfl) ?_
        refine ro_ald hx hb hEV hP 3 (j := n2) rfl (by omega) (by decide) dX5_branch_53 ?_
        refine top_eq (rfl) ?_
        refine mu_ast hx hb hEV hP hD hS 3 (j := (12 + n2)) (v := x 2 n2) (w2 := wX cI cZ a (st2 (st2 (st2 x 0 (12 + n2) (b2i (tb (x 0 n2)))) 1 (12 + n2) (x 1 n2)) 2 (12 + n2) (x 2 n2)) r1 r2) rfl (by omega) (by decide) rfl dX5_branch_54 (fun H locs hP hD hS => ?_)
        refine lv_aload_n hx hb dX5_branch_55 rfl (lv_at hl 2 rfl) ?_
        refine va_get (D := D) (ci := 5) (v := .ref (a 4)) (C := RX5) (T := TX5) (N := 21) hx hb hts (fun w9 h9 => List.mem_cons_of_mem _ (inT_X5 w9 h9)) hown hK hP 0 rfl rfl 3 (by decide) (hts (.fieldLink RX5 20 "LinkPredictorModel" "above" "[I") (List.mem_cons_of_mem _ mw_3_69)) (fun _ h9 => h9) rfl dX5_branch_56 ?_
        refine lv_bipush (v := (12 : Int32)) hx hb dX5_branch_59 (by decide) ?_
        refine lv_iload_n hx hb dX5_branch_61 rfl (lv_at hl 0 rfl) ?_
        refine lv_iadd hx hb dX5_branch_62 ?_
        refine top_eq (nI_add 12 n2) ?_
        refine lv_aload_n hx hb dX5_branch_63 rfl (lv_at hl 2 rfl) ?_
        refine va_get (D := D) (ci := 5) (v := .ref (a 4)) (C := RX5) (T := TX5) (N := 21) hx hb hts (fun w9 h9 => List.mem_cons_of_mem _ (inT_X5 w9 h9)) hown hK hP 0 rfl rfl 3 (by decide) (hts (.fieldLink RX5 20 "LinkPredictorModel" "above" "[I") (List.mem_cons_of_mem _ mw_3_69)) (fun _ h9 => h9) rfl dX5_branch_64 ?_
        refine lv_iload_n hx hb dX5_branch_67 rfl (lv_at hl 0 rfl) ?_
        refine ro_ald hx hb hEV hP 4 (j := n2) rfl (by omega) (by decide) dX5_branch_68 ?_
        refine top_eq (rfl) ?_
        refine mu_ast hx hb hEV hP hD hS 4 (j := (12 + n2)) (v := x 3 n2) (w2 := wX cI cZ a (st2 (st2 (st2 (st2 x 0 (12 + n2) (b2i (tb (x 0 n2)))) 1 (12 + n2) (x 1 n2)) 2 (12 + n2) (x 2 n2)) 3 (12 + n2) (x 3 n2)) r1 r2) rfl (by omega) (by decide) rfl dX5_branch_69 (fun H locs hP hD hS => ?_)
        refine lv_aload_n hx hb dX5_branch_70 rfl (lv_at hl 2 rfl) ?_
        refine va_get (D := D) (ci := 5) (v := .ref (a 5)) (C := RX5) (T := TX5) (N := 21) hx hb hts (fun w9 h9 => List.mem_cons_of_mem _ (inT_X5 w9 h9)) hown hK hP 0 rfl rfl 4 (by decide) (hts (.fieldLink RX5 23 "LinkPredictorModel" "faces" "[I") (List.mem_cons_of_mem _ mw_3_70)) (fun _ h9 => h9) rfl dX5_branch_71 ?_
        refine lv_bipush (v := (12 : Int32)) hx hb dX5_branch_74 (by decide) ?_
        refine lv_iload_n hx hb dX5_branch_76 rfl (lv_at hl 0 rfl) ?_
        refine lv_iadd hx hb dX5_branch_77 ?_
        refine top_eq (nI_add 12 n2) ?_
        refine lv_aload_n hx hb dX5_branch_78 rfl (lv_at hl 2 rfl) ?_
        refine va_get (D := D) (ci := 5) (v := .ref (a 5)) (C := RX5) (T := TX5) (N := 21) hx hb hts (fun w9 h9 => List.mem_cons_of_mem _ (inT_X5 w9 h9)) hown hK hP 0 rfl rfl 4 (by decide) (hts (.fieldLink RX5 23 "LinkPredictorModel" "faces" "[I") (List.mem_cons_of_mem _ mw_3_70)) (fun _ h9 => h9) rfl dX5_branch_79 ?_
        refine lv_iload_n hx hb dX5_branch_82 rfl (lv_at hl 0 rfl) ?_
        refine ro_ald hx hb hEV hP 5 (j := n2) rfl (by omega) (by decide) dX5_branch_83 ?_
        refine top_eq (rfl) ?_
        refine mu_ast hx hb hEV hP hD hS 5 (j := (12 + n2)) (v := x 4 n2) (w2 := wX cI cZ a (st2 (st2 (st2 (st2 (st2 x 0 (12 + n2) (b2i (tb (x 0 n2)))) 1 (12 + n2) (x 1 n2)) 2 (12 + n2) (x 2 n2)) 3 (12 + n2) (x 3 n2)) 4 (12 + n2) (x 4 n2)) r1 r2) rfl (by omega) (by decide) rfl dX5_branch_84 (fun H locs hP hD hS => ?_)
        refine lv_aload_n hx hb dX5_branch_85 rfl (lv_at hl 2 rfl) ?_
        refine va_get (D := D) (ci := 5) (v := .ref (a 6)) (C := RX5) (T := TX5) (N := 21) hx hb hts (fun w9 h9 => List.mem_cons_of_mem _ (inT_X5 w9 h9)) hown hK hP 0 rfl rfl 5 (by decide) (hts (.fieldLink RX5 26 "LinkPredictorModel" "host" "[I") (List.mem_cons_of_mem _ mw_3_71)) (fun _ h9 => h9) rfl dX5_branch_86 ?_
        refine lv_bipush (v := (12 : Int32)) hx hb dX5_branch_89 (by decide) ?_
        refine lv_iload_n hx hb dX5_branch_91 rfl (lv_at hl 0 rfl) ?_
        refine lv_iadd hx hb dX5_branch_92 ?_
        refine top_eq (nI_add 12 n2) ?_
        refine lv_aload_n hx hb dX5_branch_93 rfl (lv_at hl 2 rfl) ?_
        refine va_get (D := D) (ci := 5) (v := .ref (a 6)) (C := RX5) (T := TX5) (N := 21) hx hb hts (fun w9 h9 => List.mem_cons_of_mem _ (inT_X5 w9 h9)) hown hK hP 0 rfl rfl 5 (by decide) (hts (.fieldLink RX5 26 "LinkPredictorModel" "host" "[I") (List.mem_cons_of_mem _ mw_3_71)) (fun _ h9 => h9) rfl dX5_branch_94 ?_
        refine lv_iload_n hx hb dX5_branch_97 rfl (lv_at hl 0 rfl) ?_
        refine ro_ald hx hb hEV hP 6 (j := n2) rfl (by omega) (by decide) dX5_branch_98 ?_
        refine top_eq (rfl) ?_
        refine mu_ast hx hb hEV hP hD hS 6 (j := (12 + n2)) (v := x 5 n2) (w2 := wX cI cZ a (st2 (st2 (st2 (st2 (st2 (st2 x 0 (12 + n2) (b2i (tb (x 0 n2)))) 1 (12 + n2) (x 1 n2)) 2 (12 + n2) (x 2 n2)) 3 (12 + n2) (x 3 n2)) 4 (12 + n2) (x 4 n2)) 5 (12 + n2) (x 5 n2)) r1 r2) rfl (by omega) (by decide) rfl dX5_branch_99 (fun H locs hP hD hS => ?_)
        refine lv_aload_n hx hb dX5_branch_100 rfl (lv_at hl 2 rfl) ?_
        refine va_get (D := D) (ci := 5) (v := .ref (a 1)) (C := RX5) (T := TX5) (N := 21) hx hb hts (fun w9 h9 => List.mem_cons_of_mem _ (inT_X5 w9 h9)) hown hK hP 0 rfl rfl 0 (by decide) (hts (.fieldLink RX5 7 "LinkPredictorModel" "there" "[Z") (List.mem_cons_of_mem _ mw_3_66)) (fun _ h9 => h9) rfl dX5_branch_101 ?_
        refine lv_iload_n hx hb dX5_branch_104 rfl (lv_at hl 0 rfl) ?_
        refine ro_zld hx hb hEV hP 1 (j := n2) rfl (by omega) (by decide) dX5_branch_105 ?_
        refine top_eq (pk_un (f := x 0) (k := 12 + n2) (by omega)) ?_
        refine lv_if_eq (tgt := 112) hx hb dX5_branch_106 (by decide) (fun c_106 => ?_) (fun c_106 => ?_)
        · skip
          have hE := (if_pos c_106).symm.trans hE
          refine lv_iinc (v := nI (n2 + 1)) (lv' := [(2, .int (nI (n2 + 1))), (1, .int (nI n1)), (0, .ref (a 0))]) hx hb dX5_branch_112 hl (k := 0) rfl (nI_1 _) (by decide) rfl (fun ls hl => ?_)
          refine lv_goto (tgt := 4) hx hb dX5_branch_115 (by decide) ?_
          exact ih_4 (n2 + 1) n1 (st2 (st2 (st2 (st2 (st2 (st2 x 0 (12 + n2) (b2i (tb (x 0 n2)))) 1 (12 + n2) (x 1 n2)) 2 (12 + n2) (x 2 n2)) 3 (12 + n2) (x 3 n2)) 4 (12 + n2) (x 4 n2)) 5 (12 + n2) (x 5 n2)) ls _ _ hP hD hS (by omega) (by first | omega | exact hb9 | exact hz9 | exact hb | exact hz | exact BX.n (by decide) (BX.n (by decide) (BX.n (by decide) (BX.n (by decide) (BX.n (by decide) (BX.b hb9))))) | exact BX.n (by decide) (BX.n (by decide) (BX.n (by decide) (BX.b (BX.n (by decide) (BX.b hb9)))))) (by first | omega | exact hb9 | exact hz9 | exact hb | exact hz | exact BX.n (by decide) (BX.n (by decide) (BX.n (by decide) (BX.n (by decide) (BX.n (by decide) (BX.b hb9))))) | exact BX.n (by decide) (BX.n (by decide) (BX.n (by decide) (BX.b (BX.n (by decide) (BX.b hb9)))))) (by first | omega | exact hb9 | exact hz9 | exact hb | exact hz | exact BX.n (by decide) (BX.n (by decide) (BX.n (by decide) (BX.n (by decide) (BX.n (by decide) (BX.b hb9))))) | exact BX.n (by decide) (BX.n (by decide) (BX.n (by decide) (BX.b (BX.n (by decide) (BX.b hb9)))))) (lv_sub hl [0, 1, 2] rfl) hE
        · skip
          have hE := (if_neg c_106).symm.trans hE
          refine lv_iinc (v := nI (n1 + 1)) (lv' := [(1, .int (nI (n1 + 1))), (2, .int (nI n2)), (0, .ref (a 0))]) hx hb dX5_branch_109 hl (k := 1) rfl (nI_1 _) (by decide) rfl (fun ls hl => ?_)
          refine lv_iinc (v := nI (n2 + 1)) (lv' := [(2, .int (nI (n2 + 1))), (1, .int (nI (n1 + 1))), (0, .ref (a 0))]) hx hb dX5_branch_112 hl (k := 1) rfl (nI_1 _) (by decide) rfl (fun ls hl => ?_)
          refine lv_goto (tgt := 4) hx hb dX5_branch_115 (by decide) ?_
          exact ih_4 (n2 + 1) (n1 + 1) (st2 (st2 (st2 (st2 (st2 (st2 x 0 (12 + n2) (b2i (tb (x 0 n2)))) 1 (12 + n2) (x 1 n2)) 2 (12 + n2) (x 2 n2)) 3 (12 + n2) (x 3 n2)) 4 (12 + n2) (x 4 n2)) 5 (12 + n2) (x 5 n2)) ls _ _ hP hD hS (by omega) (by first | omega | exact hb9 | exact hz9 | exact hb | exact hz | exact BX.n (by decide) (BX.n (by decide) (BX.n (by decide) (BX.n (by decide) (BX.n (by decide) (BX.b hb9))))) | exact BX.n (by decide) (BX.n (by decide) (BX.n (by decide) (BX.b (BX.n (by decide) (BX.b hb9)))))) (by first | omega | exact hb9 | exact hz9 | exact hb | exact hz | exact BX.n (by decide) (BX.n (by decide) (BX.n (by decide) (BX.n (by decide) (BX.n (by decide) (BX.b hb9))))) | exact BX.n (by decide) (BX.n (by decide) (BX.n (by decide) (BX.b (BX.n (by decide) (BX.b hb9)))))) (by first | omega | exact hb9 | exact hz9 | exact hb | exact hz | exact BX.n (by decide) (BX.n (by decide) (BX.n (by decide) (BX.n (by decide) (BX.n (by decide) (BX.b hb9))))) | exact BX.n (by decide) (BX.n (by decide) (BX.n (by decide) (BX.b (BX.n (by decide) (BX.b hb9)))))) (lv_sub hl [0, 1, 2] rfl) hE
  refine lv_iconst (v := (0 : Int32)) hx hb dX5_branch_0 (by decide) ?_
  refine lv_istore_n (lv' := [(1, .int (0 : Int32)), (0, .ref (a 0))]) hx hb dX5_branch_1 rfl hl (by decide) rfl (fun ls hl => ?_)
  refine lv_iconst (v := (0 : Int32)) hx hb dX5_branch_2 (by decide) ?_
  refine lv_istore_n (lv' := [(2, .int (0 : Int32)), (1, .int (0 : Int32)), (0, .ref (a 0))]) hx hb dX5_branch_3 rfl hl (by decide) rfl (fun ls hl => ?_)
  exact key_4 13 0 0 x ls _ _ hP hD hS (by omega) (by first | omega | exact hb9 | exact hz9 | exact hb | exact hz | exact BX.n (by decide) (BX.n (by decide) (BX.n (by decide) (BX.n (by decide) (BX.n (by decide) (BX.b hb9))))) | exact BX.n (by decide) (BX.n (by decide) (BX.n (by decide) (BX.b (BX.n (by decide) (BX.b hb9)))))) (by first | omega | exact hb9 | exact hz9 | exact hb | exact hz | exact BX.n (by decide) (BX.n (by decide) (BX.n (by decide) (BX.n (by decide) (BX.n (by decide) (BX.b hb9))))) | exact BX.n (by decide) (BX.n (by decide) (BX.n (by decide) (BX.b (BX.n (by decide) (BX.b hb9)))))) (by first | omega | exact hb9 | exact hz9 | exact hb | exact hz | exact BX.n (by decide) (BX.n (by decide) (BX.n (by decide) (BX.n (by decide) (BX.n (by decide) (BX.b hb9))))) | exact BX.n (by decide) (BX.n (by decide) (BX.n (by decide) (BX.b (BX.n (by decide) (BX.b hb9)))))) (lv_sub hl [0, 1, 2] rfl) hE
noncomputable def p_X5_write (w n : Nat) (t : Int32) (x : (Nat → Nat → Int32)) : Int32 × (Nat → Nat → Int32) := if (wi t (2 : Int32)) = true then (((1 : Int32), st2 x 19 1 t)) else (((0 : Int32), x))
set_option maxHeartbeats 4000000 in
set_option maxRecDepth 100000 in
theorem c_X5_write (l : Launch) (D : va_G) (cI cZ cB cR : ClassId) (a : Nat → Nat) (x : Nat → Nat → Int32) (r1 r2 : Nat → Int32) (w n : Nat) (t : Int32)    : MUi l yX5_write wsX5_write ({ frames := 1, cells := 0, slots := 0, locals := 21 } : Room) D cI cZ cB cR (wX cI cZ a x r1 r2) [.ref (a 0), .int t] (fun (_ : Unit) => wX cI cZ a ((p_X5_write w n t x).2) r1 r2) (fun r _ => r = (p_X5_write w n t x).1) := by
  generalize hE : p_X5_write w n t x = tgt
  intro sz
  refine Met.ofW (cc := cX5_write) (maxL := 2) (ret := (some .boolean)) (by decide) rfl ?_
  intro p e s m args below meth c s₁ B hml hv
  obtain ⟨hargs, hsz, hP, hEV, hD0⟩ := hv
  have hx := B.exec
  have hb := B.bytes
  have hr := B.returns
  have hts := atoms_spec (ws := wsX5_write) B.pre
  have hown : s.vm.findClass RX5 = some m.cls := findClass_of_methodNamed B.named
  have hlocks := B.notSynchronized
  have hK := hEV.1
  have hl := lv_entry ([.ref (a 0), .int t]) (n := 2) (Nat.le_of_ble_eq_true rfl)
  rw [show entryFrame m args 2 = entryFrame m ([.ref (a 0), .int t] : List Value).toArray 2 from by rw [hargs], lg_entry_eq]
  generalize (lg_sl ([.ref (a 0), .int t]) ++ List.replicate (2 - (lg_sl ([.ref (a 0), .int t])).length) Slot.unset).toArray = ls at hl ⊢
  have hl : lv_has ls 2 [(0, .ref (a 0)), (1, .int t)] := hl
  subst hsz
  have hD := hD0.self (sz := s.heap.size)
  generalize hAe : va_A (wX cI cZ a x r1 r2) s.heap.size = A at hD ⊢
  have hA : ∀ q : Nat, s.heap.size ≤ q → A q := fun q h9 => by rw [← hAe]; exact Or.inr h9
  have hS : va_S A s.heap s.heap [] := va_S.rf
  rw [p_X5_write] at hE
  refine lv_iload_n hx hb dX5_write_0 rfl (lv_at hl 1 rfl) ?_
  refine lv_iconst (v := (2 : Int32)) hx hb dX5_write_1 (by decide) ?_
  refine ro_S [.int t, .int (2 : Int32)] [] ⟨hx, hb, hml, hown, hts⟩ (c_X5_in l D cI cZ cB cR t (2 : Int32)) (va_cwS 2 hts (goodP (ps := [.methodLink RX5 72 yX5_in, .static yX5_in, .initialized RX5]) (all3 mw_3_135 mw_3_136 mw_1_6) mw_3_137) rfl rfl rfl (by decide +kernel) ⟨Nat.le_of_ble_eq_true rfl, Nat.le_of_ble_eq_true rfl⟩) hEV va_P0 rfl hl.1 rfl (Nat.le_of_ble_eq_true rfl) dX5_write_2 ⟨Nat.zero_le _, Nat.zero_le _⟩ ?_
  refine lv_if_ne (tgt := 10) hx hb dX5_write_5 (by decide) (fun c_5 => ?_) (fun c_5 => ?_)
  · have c_5 : (wi t (2 : Int32)) = true := b2i_t c_5
    have hE := (if_pos c_5).symm.trans hE
    refine lv_aload_n hx hb dX5_write_10 rfl (lv_at hl 0 rfl) ?_
    refine lv_iload_n hx hb dX5_write_11 rfl (lv_at hl 1 rfl) ?_
    refine va_put (D := D) (ci := 5) (v := .int t) (ty := .int) (C := RX5) (T := TX5) (N := 21) hx hb hts (fun w9 h9 => List.mem_cons_of_mem _ (inT_X5 w9 h9)) tyX5 tyX5_ok nmX5 hown hK hP hD hS 0 rfl rfl 18 (by decide) (hts (.fieldLink RX5 68 "LinkPredictorModel" "written" "I") (List.mem_cons_of_mem _ mw_3_84)) (fun _ h9 => h9) rfl (by decide +kernel) rfl rfl (Nat.le_of_ble_eq_true rfl) dX5_write_12 (fun H locs hP hD hS => ?_)
    have hP : va_P D vwCl (wX cI cZ a (st2 x 19 1 t) r1 r2) _ := hP
    have hD : va_D A (wX cI cZ a (st2 x 19 1 t) r1 r2) := hD
    refine lv_iconst (v := (1 : Int32)) hx hb dX5_write_15 (by decide) ?_
    exact W.zret hx hb hr rfl (fun t9 ht9 _ => ⟨⟨_, (), rfl, congrArg Prod.fst hE, by show va_P D vwCl _ t9.heap; rw [ht9, ← congrArg Prod.snd hE]; exact hP⟩, hS.F ht9⟩) hS.2.2 dX5_write_16
  · have c_5 : ¬ ((wi t (2 : Int32)) = true) := b2i_f c_5
    have hE := (if_neg c_5).symm.trans hE
    refine lv_iconst (v := (0 : Int32)) hx hb dX5_write_8 (by decide) ?_
    exact W.zret hx hb hr rfl (fun t9 ht9 _ => ⟨⟨_, (), rfl, congrArg Prod.fst hE, by show va_P D vwCl _ t9.heap; rw [ht9, ← congrArg Prod.snd hE]; exact hP⟩, hS.F ht9⟩) hS.2.2 dX5_write_9
noncomputable def p_X5_refer (w n : Nat) (t : Int32) (u : Int32) (v : Int32) (y : Int32) (x : (Nat → Nat → Int32)) : Int32 × (Nat → Nat → Int32) := if (wi t (9 : Int32)) = true then (if (wi u (12 : Int32)) = true then (if (wi v (12 : Int32)) = true then (if (wi y (15 : Int32)) = true then (if n = 16 then (((-3 : Int32), x)) else ((nI n, st2 (st2 (st2 (st2 (st2 x 13 n t) 14 n u) 15 n v) 16 n y) 19 0 (nI (n + 1))))) else (((-1 : Int32), x))) else (((-1 : Int32), x))) else (((-1 : Int32), x))) else (((-1 : Int32), x))
set_option maxHeartbeats 4000000 in
set_option maxRecDepth 100000 in
theorem c_X5_refer (l : Launch) (D : va_G) (cI cZ cB cR : ClassId) (a : Nat → Nat) (x : Nat → Nat → Int32) (r1 r2 : Nat → Int32) (w n : Nat) (t : Int32) (u : Int32) (v : Int32) (y : Int32) (hR : x 19 0 = nI n) (hn16 : n ≤ 16)   : MUi l yX5_refer wsX5_refer ({ frames := 1, cells := 0, slots := 0, locals := 21 } : Room) D cI cZ cB cR (wX cI cZ a x r1 r2) [.ref (a 0), .int t, .int u, .int v, .int y] (fun (_ : Unit) => wX cI cZ a ((p_X5_refer w n t u v y x).2) r1 r2) (fun r _ => r = (p_X5_refer w n t u v y x).1) := by
  generalize hE : p_X5_refer w n t u v y x = tgt
  intro sz
  refine Met.ofW (cc := cX5_refer) (maxL := 5) (ret := (some .int)) (by decide) rfl ?_
  intro p e s m args below meth c s₁ B hml hv
  obtain ⟨hargs, hsz, hP, hEV, hD0⟩ := hv
  have hx := B.exec
  have hb := B.bytes
  have hr := B.returns
  have hts := atoms_spec (ws := wsX5_refer) B.pre
  have hown : s.vm.findClass RX5 = some m.cls := findClass_of_methodNamed B.named
  have hlocks := B.notSynchronized
  have hK := hEV.1
  have hl := lv_entry ([.ref (a 0), .int t, .int u, .int v, .int y]) (n := 5) (Nat.le_of_ble_eq_true rfl)
  rw [show entryFrame m args 5 = entryFrame m ([.ref (a 0), .int t, .int u, .int v, .int y] : List Value).toArray 5 from by rw [hargs], lg_entry_eq]
  generalize (lg_sl ([.ref (a 0), .int t, .int u, .int v, .int y]) ++ List.replicate (5 - (lg_sl ([.ref (a 0), .int t, .int u, .int v, .int y])).length) Slot.unset).toArray = ls at hl ⊢
  have hl : lv_has ls 5 [(0, .ref (a 0)), (1, .int t), (2, .int u), (3, .int v), (4, .int y)] := hl
  subst hsz
  have hD := hD0.self (sz := s.heap.size)
  generalize hAe : va_A (wX cI cZ a x r1 r2) s.heap.size = A at hD ⊢
  have hA : ∀ q : Nat, s.heap.size ≤ q → A q := fun q h9 => by rw [← hAe]; exact Or.inr h9
  have hS : va_S A s.heap s.heap [] := va_S.rf
  rw [p_X5_refer] at hE
  refine lv_iload_n hx hb dX5_refer_0 rfl (lv_at hl 1 rfl) ?_
  refine lv_bipush (v := (9 : Int32)) hx hb dX5_refer_1 (by decide) ?_
  refine ro_S [.int t, .int (9 : Int32)] [] ⟨hx, hb, hml, hown, hts⟩ (c_X5_in l D cI cZ cB cR t (9 : Int32)) (va_cwS 2 hts (goodP (ps := [.methodLink RX5 72 yX5_in, .static yX5_in, .initialized RX5]) (all3 mw_3_135 mw_3_136 mw_1_6) mw_3_137) rfl rfl rfl (by decide +kernel) ⟨Nat.le_of_ble_eq_true rfl, Nat.le_of_ble_eq_true rfl⟩) hEV va_P0 rfl hl.1 rfl (Nat.le_of_ble_eq_true rfl) dX5_refer_3 ⟨Nat.zero_le _, Nat.zero_le _⟩ ?_
  refine lv_if_eq (tgt := 37) hx hb dX5_refer_6 (by decide) (fun c_6 => ?_) (fun c_6 => ?_)
  · have c_6 : ¬ ((wi t (9 : Int32)) = true) := b2i_f c_6
    have hE := (if_neg c_6).symm.trans hE
    refine lv_iconst (v := (-1 : Int32)) hx hb dX5_refer_37 (by decide) ?_
    exact W.iret hx hb hr (fun t9 ht9 _ => ⟨⟨_, (), rfl, congrArg Prod.fst hE, by show va_P D vwCl _ t9.heap; rw [ht9, ← congrArg Prod.snd hE]; exact hP⟩, hS.F ht9⟩) hS.2.2 dX5_refer_38
  · have c_6 : (wi t (9 : Int32)) = true := b2i_t c_6
    have hE := (if_pos c_6).symm.trans hE
    refine lv_iload_n hx hb dX5_refer_9 rfl (lv_at hl 2 rfl) ?_
    refine lv_bipush (v := (12 : Int32)) hx hb dX5_refer_10 (by decide) ?_
    refine ro_S [.int u, .int (12 : Int32)] [] ⟨hx, hb, hml, hown, hts⟩ (c_X5_in l D cI cZ cB cR u (12 : Int32)) (va_cwS 2 hts (goodP (ps := [.methodLink RX5 72 yX5_in, .static yX5_in, .initialized RX5]) (all3 mw_3_135 mw_3_136 mw_1_6) mw_3_137) rfl rfl rfl (by decide +kernel) ⟨Nat.le_of_ble_eq_true rfl, Nat.le_of_ble_eq_true rfl⟩) hEV va_P0 rfl hl.1 rfl (Nat.le_of_ble_eq_true rfl) dX5_refer_12 ⟨Nat.zero_le _, Nat.zero_le _⟩ ?_
    refine lv_if_eq (tgt := 37) hx hb dX5_refer_15 (by decide) (fun c_15 => ?_) (fun c_15 => ?_)
    · have c_15 : ¬ ((wi u (12 : Int32)) = true) := b2i_f c_15
      have hE := (if_neg c_15).symm.trans hE
      refine lv_iconst (v := (-1 : Int32)) hx hb dX5_refer_37 (by decide) ?_
      exact W.iret hx hb hr (fun t9 ht9 _ => ⟨⟨_, (), rfl, congrArg Prod.fst hE, by show va_P D vwCl _ t9.heap; rw [ht9, ← congrArg Prod.snd hE]; exact hP⟩, hS.F ht9⟩) hS.2.2 dX5_refer_38
    · have c_15 : (wi u (12 : Int32)) = true := b2i_t c_15
      have hE := (if_pos c_15).symm.trans hE
      refine lv_iload_n hx hb dX5_refer_18 rfl (lv_at hl 3 rfl) ?_
      refine lv_bipush (v := (12 : Int32)) hx hb dX5_refer_19 (by decide) ?_
      refine ro_S [.int v, .int (12 : Int32)] [] ⟨hx, hb, hml, hown, hts⟩ (c_X5_in l D cI cZ cB cR v (12 : Int32)) (va_cwS 2 hts (goodP (ps := [.methodLink RX5 72 yX5_in, .static yX5_in, .initialized RX5]) (all3 mw_3_135 mw_3_136 mw_1_6) mw_3_137) rfl rfl rfl (by decide +kernel) ⟨Nat.le_of_ble_eq_true rfl, Nat.le_of_ble_eq_true rfl⟩) hEV va_P0 rfl hl.1 rfl (Nat.le_of_ble_eq_true rfl) dX5_refer_21 ⟨Nat.zero_le _, Nat.zero_le _⟩ ?_
      refine lv_if_eq (tgt := 37) hx hb dX5_refer_24 (by decide) (fun c_24 => ?_) (fun c_24 => ?_)
      · have c_24 : ¬ ((wi v (12 : Int32)) = true) := b2i_f c_24
        have hE := (if_neg c_24).symm.trans hE
        refine lv_iconst (v := (-1 : Int32)) hx hb dX5_refer_37 (by decide) ?_
        exact W.iret hx hb hr (fun t9 ht9 _ => ⟨⟨_, (), rfl, congrArg Prod.fst hE, by show va_P D vwCl _ t9.heap; rw [ht9, ← congrArg Prod.snd hE]; exact hP⟩, hS.F ht9⟩) hS.2.2 dX5_refer_38
      · have c_24 : (wi v (12 : Int32)) = true := b2i_t c_24
        have hE := (if_pos c_24).symm.trans hE
        refine lv_iload hx hb dX5_refer_27 (lv_at hl 4 rfl) ?_
        refine lv_bipush (v := (15 : Int32)) hx hb dX5_refer_29 (by decide) ?_
        refine ro_S [.int y, .int (15 : Int32)] [] ⟨hx, hb, hml, hown, hts⟩ (c_X5_in l D cI cZ cB cR y (15 : Int32)) (va_cwS 2 hts (goodP (ps := [.methodLink RX5 72 yX5_in, .static yX5_in, .initialized RX5]) (all3 mw_3_135 mw_3_136 mw_1_6) mw_3_137) rfl rfl rfl (by decide +kernel) ⟨Nat.le_of_ble_eq_true rfl, Nat.le_of_ble_eq_true rfl⟩) hEV va_P0 rfl hl.1 rfl (Nat.le_of_ble_eq_true rfl) dX5_refer_31 ⟨Nat.zero_le _, Nat.zero_le _⟩ ?_
        refine lv_if_ne (tgt := 39) hx hb dX5_refer_34 (by decide) (fun c_34 => ?_) (fun c_34 => ?_)
        · have c_34 : (wi y (15 : Int32)) = true := b2i_t c_34
          have hE := (if_pos c_34).symm.trans hE
          refine lv_aload_n hx hb dX5_refer_39 rfl (lv_at hl 0 rfl) ?_
          refine va_get (D := D) (ci := 5) (v := .int (x 19 0)) (C := RX5) (T := TX5) (N := 21) hx hb hts (fun w9 h9 => List.mem_cons_of_mem _ (inT_X5 w9 h9)) hown hK hP 0 rfl rfl 17 (by decide) (hts (.fieldLink RX5 91 "LinkPredictorModel" "references" "I") (List.mem_cons_of_mem _ mw_3_83)) (fun _ h9 => h9) rfl dX5_refer_40 ?_
          refine top_eq (hR) ?_
          refine lv_bipush (v := (16 : Int32)) hx hb dX5_refer_43 (by decide) ?_
          refine lv_icmp_ne (tgt := 51) hx hb dX5_refer_45 (by decide) (fun c_45 => ?_) (fun c_45 => ?_)
          · have c_45 : ¬ (n = 16) := fun q9 => c_45 ((nI_eq (a := n) (b := 16) (by omega) (by omega)).mpr q9)
            have hE := (if_neg c_45).symm.trans hE
            refine lv_aload_n hx hb dX5_refer_51 rfl (lv_at hl 0 rfl) ?_
            refine va_get (D := D) (ci := 5) (v := .ref (a 14)) (C := RX5) (T := TX5) (N := 21) hx hb hts (fun w9 h9 => List.mem_cons_of_mem _ (inT_X5 w9 h9)) hown hK hP 0 rfl rfl 13 (by decide) (hts (.fieldLink RX5 50 "LinkPredictorModel" "kind" "[I") (List.mem_cons_of_mem _ mw_3_79)) (fun _ h9 => h9) rfl dX5_refer_52 ?_
            refine lv_aload_n hx hb dX5_refer_55 rfl (lv_at hl 0 rfl) ?_
            refine va_get (D := D) (ci := 5) (v := .int (x 19 0)) (C := RX5) (T := TX5) (N := 21) hx hb hts (fun w9 h9 => List.mem_cons_of_mem _ (inT_X5 w9 h9)) hown hK hP 0 rfl rfl 17 (by decide) (hts (.fieldLink RX5 91 "LinkPredictorModel" "references" "I") (List.mem_cons_of_mem _ mw_3_83)) (fun _ h9 => h9) rfl dX5_refer_56 ?_
            refine top_eq (hR) ?_
            refine lv_iload_n hx hb dX5_refer_59 rfl (lv_at hl 1 rfl) ?_
            refine mu_ast hx hb hEV hP hD hS 14 (j := n) (v := t) (w2 := wX cI cZ a (st2 x 13 n t) r1 r2) rfl (by omega) (by decide) rfl dX5_refer_60 (fun H locs hP hD hS => ?_)
            refine lv_aload_n hx hb dX5_refer_61 rfl (lv_at hl 0 rfl) ?_
            refine va_get (D := D) (ci := 5) (v := .ref (a 15)) (C := RX5) (T := TX5) (N := 21) hx hb hts (fun w9 h9 => List.mem_cons_of_mem _ (inT_X5 w9 h9)) hown hK hP 0 rfl rfl 14 (by decide) (hts (.fieldLink RX5 53 "LinkPredictorModel" "holder" "[I") (List.mem_cons_of_mem _ mw_3_80)) (fun _ h9 => h9) rfl dX5_refer_62 ?_
            refine lv_aload_n hx hb dX5_refer_65 rfl (lv_at hl 0 rfl) ?_
            refine va_get (D := D) (ci := 5) (v := .int ((st2 x 13 n t) 19 0)) (C := RX5) (T := TX5) (N := 21) hx hb hts (fun w9 h9 => List.mem_cons_of_mem _ (inT_X5 w9 h9)) hown hK hP 0 rfl rfl 17 (by decide) (hts (.fieldLink RX5 91 "LinkPredictorModel" "references" "I") (List.mem_cons_of_mem _ mw_3_83)) (fun _ h9 => h9) rfl dX5_refer_66 ?_
            refine top_eq (hR) ?_
            refine lv_iload_n hx hb dX5_refer_69 rfl (lv_at hl 2 rfl) ?_
            refine mu_ast hx hb hEV hP hD hS 15 (j := n) (v := u) (w2 := wX cI cZ a (st2 (st2 x 13 n t) 14 n u) r1 r2) rfl (by omega) (by decide) rfl dX5_refer_70 (fun H locs hP hD hS => ?_)
            refine lv_aload_n hx hb dX5_refer_71 rfl (lv_at hl 0 rfl) ?_
            refine va_get (D := D) (ci := 5) (v := .ref (a 16)) (C := RX5) (T := TX5) (N := 21) hx hb hts (fun w9 h9 => List.mem_cons_of_mem _ (inT_X5 w9 h9)) hown hK hP 0 rfl rfl 15 (by decide) (hts (.fieldLink RX5 56 "LinkPredictorModel" "way" "[I") (List.mem_cons_of_mem _ mw_3_81)) (fun _ h9 => h9) rfl dX5_refer_72 ?_
            refine lv_aload_n hx hb dX5_refer_75 rfl (lv_at hl 0 rfl) ?_
            refine va_get (D := D) (ci := 5) (v := .int ((st2 (st2 x 13 n t) 14 n u) 19 0)) (C := RX5) (T := TX5) (N := 21) hx hb hts (fun w9 h9 => List.mem_cons_of_mem _ (inT_X5 w9 h9)) hown hK hP 0 rfl rfl 17 (by decide) (hts (.fieldLink RX5 91 "LinkPredictorModel" "references" "I") (List.mem_cons_of_mem _ mw_3_83)) (fun _ h9 => h9) rfl dX5_refer_76 ?_
            refine top_eq (hR) ?_
            refine lv_iload_n hx hb dX5_refer_79 rfl (lv_at hl 3 rfl) ?_
            refine mu_ast hx hb hEV hP hD hS 16 (j := n) (v := v) (w2 := wX cI cZ a (st2 (st2 (st2 x 13 n t) 14 n u) 15 n v) r1 r2) rfl (by omega) (by decide) rfl dX5_refer_80 (fun H locs hP hD hS => ?_)
            refine lv_aload_n hx hb dX5_refer_81 rfl (lv_at hl 0 rfl) ?_
            refine va_get (D := D) (ci := 5) (v := .ref (a 17)) (C := RX5) (T := TX5) (N := 21) hx hb hts (fun w9 h9 => List.mem_cons_of_mem _ (inT_X5 w9 h9)) hown hK hP 0 rfl rfl 16 (by decide) (hts (.fieldLink RX5 59 "LinkPredictorModel" "asked" "[I") (List.mem_cons_of_mem _ mw_3_82)) (fun _ h9 => h9) rfl dX5_refer_82 ?_
            refine lv_aload_n hx hb dX5_refer_85 rfl (lv_at hl 0 rfl) ?_
            refine va_get (D := D) (ci := 5) (v := .int ((st2 (st2 (st2 x 13 n t) 14 n u) 15 n v) 19 0)) (C := RX5) (T := TX5) (N := 21) hx hb hts (fun w9 h9 => List.mem_cons_of_mem _ (inT_X5 w9 h9)) hown hK hP 0 rfl rfl 17 (by decide) (hts (.fieldLink RX5 91 "LinkPredictorModel" "references" "I") (List.mem_cons_of_mem _ mw_3_83)) (fun _ h9 => h9) rfl dX5_refer_86 ?_
            refine top_eq (hR) ?_
            refine lv_iload hx hb dX5_refer_89 (lv_at hl 4 rfl) ?_
            refine mu_ast hx hb hEV hP hD hS 17 (j := n) (v := y) (w2 := wX cI cZ a (st2 (st2 (st2 (st2 x 13 n t) 14 n u) 15 n v) 16 n y) r1 r2) rfl (by omega) (by decide) rfl dX5_refer_91 (fun H locs hP hD hS => ?_)
            refine lv_aload_n hx hb dX5_refer_92 rfl (lv_at hl 0 rfl) ?_
            refine lv_dup hx hb dX5_refer_93 rfl ?_
            refine va_get (D := D) (ci := 5) (v := .int ((st2 (st2 (st2 (st2 x 13 n t) 14 n u) 15 n v) 16 n y) 19 0)) (C := RX5) (T := TX5) (N := 21) hx hb hts (fun w9 h9 => List.mem_cons_of_mem _ (inT_X5 w9 h9)) hown hK hP 0 rfl rfl 17 (by decide) (hts (.fieldLink RX5 91 "LinkPredictorModel" "references" "I") (List.mem_cons_of_mem _ mw_3_83)) (fun _ h9 => h9) rfl dX5_refer_94 ?_
            refine top_eq (hR) ?_
            refine lv_iconst (v := (1 : Int32)) hx hb dX5_refer_97 (by decide) ?_
            refine lv_iadd hx hb dX5_refer_98 ?_
            refine top_eq (nI_add n 1) ?_
            refine va_put (D := D) (ci := 5) (v := .int (nI (n + 1))) (ty := .int) (C := RX5) (T := TX5) (N := 21) hx hb hts (fun w9 h9 => List.mem_cons_of_mem _ (inT_X5 w9 h9)) tyX5 tyX5_ok nmX5 hown hK hP hD hS 0 rfl rfl 17 (by decide) (hts (.fieldLink RX5 91 "LinkPredictorModel" "references" "I") (List.mem_cons_of_mem _ mw_3_83)) (fun _ h9 => h9) rfl (by decide +kernel) rfl rfl (Nat.le_of_ble_eq_true rfl) dX5_refer_99 (fun H locs hP hD hS => ?_)
            have hP : va_P D vwCl (wX cI cZ a (st2 (st2 (st2 (st2 (st2 x 13 n t) 14 n u) 15 n v) 16 n y) 19 0 (nI (n + 1))) r1 r2) _ := hP
            have hD : va_D A (wX cI cZ a (st2 (st2 (st2 (st2 (st2 x 13 n t) 14 n u) 15 n v) 16 n y) 19 0 (nI (n + 1))) r1 r2) := hD
            refine lv_aload_n hx hb dX5_refer_102 rfl (lv_at hl 0 rfl) ?_
            refine va_get (D := D) (ci := 5) (v := .int ((st2 (st2 (st2 (st2 (st2 x 13 n t) 14 n u) 15 n v) 16 n y) 19 0 (nI (n + 1))) 19 0)) (C := RX5) (T := TX5) (N := 21) hx hb hts (fun w9 h9 => List.mem_cons_of_mem _ (inT_X5 w9 h9)) hown hK hP 0 rfl rfl 17 (by decide) (hts (.fieldLink RX5 91 "LinkPredictorModel" "references" "I") (List.mem_cons_of_mem _ mw_3_83)) (fun _ h9 => h9) rfl dX5_refer_103 ?_
            refine top_eq (st2_kk) ?_
            refine lv_iconst (v := (1 : Int32)) hx hb dX5_refer_106 (by decide) ?_
            refine lv_isub hx hb dX5_refer_107 ?_
            refine top_eq (nI_pred n) ?_
            exact W.iret hx hb hr (fun t9 ht9 _ => ⟨⟨_, (), rfl, congrArg Prod.fst hE, by show va_P D vwCl _ t9.heap; rw [ht9, ← congrArg Prod.snd hE]; exact hP⟩, hS.F ht9⟩) hS.2.2 dX5_refer_108
          · have c_45 : n = 16 := (nI_eq (a := n) (b := 16) (by omega) (by omega)).mp c_45
            have hE := (if_pos c_45).symm.trans hE
            refine lv_bipush (v := (-3 : Int32)) hx hb dX5_refer_48 (by decide) ?_
            exact W.iret hx hb hr (fun t9 ht9 _ => ⟨⟨_, (), rfl, congrArg Prod.fst hE, by show va_P D vwCl _ t9.heap; rw [ht9, ← congrArg Prod.snd hE]; exact hP⟩, hS.F ht9⟩) hS.2.2 dX5_refer_50
        · have c_34 : ¬ ((wi y (15 : Int32)) = true) := b2i_f c_34
          have hE := (if_neg c_34).symm.trans hE
          refine lv_iconst (v := (-1 : Int32)) hx hb dX5_refer_37 (by decide) ?_
          exact W.iret hx hb hr (fun t9 ht9 _ => ⟨⟨_, (), rfl, congrArg Prod.fst hE, by show va_P D vwCl _ t9.heap; rw [ht9, ← congrArg Prod.snd hE]; exact hP⟩, hS.F ht9⟩) hS.2.2 dX5_refer_38
noncomputable def p_X5_forget (w n : Nat)  (x : (Nat → Nat → Int32)) : Int32 × (Nat → Nat → Int32) := (x 19 0, st2 x 19 0 (0 : Int32))
set_option maxHeartbeats 4000000 in
set_option maxRecDepth 100000 in
theorem c_X5_forget (l : Launch) (D : va_G) (cI cZ cB cR : ClassId) (a : Nat → Nat) (x : Nat → Nat → Int32) (r1 r2 : Nat → Int32) (w n : Nat)     : MUi l yX5_forget wsX5_forget ({ frames := 0, cells := 0, slots := 0, locals := 0 } : Room) D cI cZ cB cR (wX cI cZ a x r1 r2) [.ref (a 0)] (fun (_ : Unit) => wX cI cZ a ((p_X5_forget w n  x).2) r1 r2) (fun r _ => r = (p_X5_forget w n  x).1) := by
  generalize hE : p_X5_forget w n  x = tgt
  intro sz
  refine Met.ofW (cc := cX5_forget) (maxL := 2) (ret := (some .int)) (by decide) rfl ?_
  intro p e s m args below meth c s₁ B hml hv
  obtain ⟨hargs, hsz, hP, hEV, hD0⟩ := hv
  have hx := B.exec
  have hb := B.bytes
  have hr := B.returns
  have hts := atoms_spec (ws := wsX5_forget) B.pre
  have hown : s.vm.findClass RX5 = some m.cls := findClass_of_methodNamed B.named
  have hlocks := B.notSynchronized
  have hK := hEV.1
  have hl := lv_entry ([.ref (a 0)]) (n := 2) (Nat.le_of_ble_eq_true rfl)
  rw [show entryFrame m args 2 = entryFrame m ([.ref (a 0)] : List Value).toArray 2 from by rw [hargs], lg_entry_eq]
  generalize (lg_sl ([.ref (a 0)]) ++ List.replicate (2 - (lg_sl ([.ref (a 0)])).length) Slot.unset).toArray = ls at hl ⊢
  have hl : lv_has ls 2 [(0, .ref (a 0))] := hl
  subst hsz
  have hD := hD0.self (sz := s.heap.size)
  generalize hAe : va_A (wX cI cZ a x r1 r2) s.heap.size = A at hD ⊢
  have hA : ∀ q : Nat, s.heap.size ≤ q → A q := fun q h9 => by rw [← hAe]; exact Or.inr h9
  have hS : va_S A s.heap s.heap [] := va_S.rf
  rw [p_X5_forget] at hE
  refine lv_aload_n hx hb dX5_forget_0 rfl (lv_at hl 0 rfl) ?_
  refine va_get (D := D) (ci := 5) (v := .int (x 19 0)) (C := RX5) (T := TX5) (N := 21) hx hb hts (fun w9 h9 => List.mem_cons_of_mem _ (inT_X5 w9 h9)) hown hK hP 0 rfl rfl 17 (by decide) (hts (.fieldLink RX5 91 "LinkPredictorModel" "references" "I") (List.mem_cons_of_mem _ mw_3_83)) (fun _ h9 => h9) rfl dX5_forget_1 ?_
  refine lv_istore_n (lv' := [(1, .int (x 19 0)), (0, .ref (a 0))]) hx hb dX5_forget_4 rfl hl (by decide) rfl (fun ls hl => ?_)
  refine lv_aload_n hx hb dX5_forget_5 rfl (lv_at hl 1 rfl) ?_
  refine lv_iconst (v := (0 : Int32)) hx hb dX5_forget_6 (by decide) ?_
  refine va_put (D := D) (ci := 5) (v := .int (0 : Int32)) (ty := .int) (C := RX5) (T := TX5) (N := 21) hx hb hts (fun w9 h9 => List.mem_cons_of_mem _ (inT_X5 w9 h9)) tyX5 tyX5_ok nmX5 hown hK hP hD hS 0 rfl rfl 17 (by decide) (hts (.fieldLink RX5 91 "LinkPredictorModel" "references" "I") (List.mem_cons_of_mem _ mw_3_83)) (fun _ h9 => h9) rfl (by decide +kernel) rfl rfl (Nat.le_of_ble_eq_true rfl) dX5_forget_7 (fun H locs hP hD hS => ?_)
  have hP : va_P D vwCl (wX cI cZ a (st2 x 19 0 (0 : Int32)) r1 r2) _ := hP
  have hD : va_D A (wX cI cZ a (st2 x 19 0 (0 : Int32)) r1 r2) := hD
  refine lv_iload_n hx hb dX5_forget_10 rfl (lv_at hl 0 rfl) ?_
  exact W.iret hx hb hr (fun t9 ht9 _ => ⟨⟨_, (), rfl, congrArg Prod.fst hE, by show va_P D vwCl _ t9.heap; rw [ht9, ← congrArg Prod.snd hE]; exact hP⟩, hS.F ht9⟩) hS.2.2 dX5_forget_11
