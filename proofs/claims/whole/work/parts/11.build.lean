/-! ===== Build: worlds ===== -/
def wBR (cI : ClassId) (b : Nat) (aH aM : Nat → Nat) (h g : Nat → Nat → Int32) (se : Int32) (r : Nat) (φ : Nat → Nat) : va_W := wB cI b aH aM h g se ++ wR r φ
def φR (φ : Nat → Nat) : Prop := φ 0 < 9 ∧ φ 1 < 12 ∧ φ 2 < 12 ∧ φ 3 < 15
section BW
variable {D : va_G} {cI : ClassId} {b r : Nat} {aH aM : Nat → Nat} {h g : Nat → Nat → Int32} {se : Int32} {φ : Nat → Nat} {H : Heap}
theorem wB_H (hP : va_P D vwCl (wB cI b aH aM h g se) H) : va_P D vwCl (wH cI aH h) H := hP.sub [1, 2, 3, 4, 5, 6, 7, 8, 9] rfl
theorem wB_M (hP : va_P D vwCl (wB cI b aH aM h g se) H) : va_P D vwCl (wM cI aM g) H := hP.sub [10, 11, 12, 13, 14] rfl
theorem wBR_B (hP : va_P D vwCl (wBR cI b aH aM h g se r φ) H) : va_P D vwCl (wB cI b aH aM h g se) H := hP.sub [0, 1, 2, 3, 4, 5, 6, 7, 8, 9, 10, 11, 12, 13, 14] rfl
theorem wBR_H (hP : va_P D vwCl (wBR cI b aH aM h g se r φ) H) : va_P D vwCl (wH cI aH h) H := wB_H (wBR_B hP)
theorem wBR_M (hP : va_P D vwCl (wBR cI b aH aM h g se r φ) H) : va_P D vwCl (wM cI aM g) H := wB_M (wBR_B hP)
theorem wBR_R (hP : va_P D vwCl (wBR cI b aH aM h g se r φ) H) : va_P D vwCl (wR r φ) H := hP.sub [15] rfl
end BW
theorem fdI_nat {γ : Nat → Nat → Int32} {n t : Nat} {key : Int32} (h : ¬ fdI γ n t key = -2) : fdN γ n t key < n ∧ fdI γ n t key = nI (fdN γ n t key) := by
  unfold fdI at h ⊢
  by_cases c : fdN γ n t key < n
  · rw [if_pos c]; exact ⟨c, rfl⟩
  · rw [if_neg c] at h; exact absurd rfl h
/-- an answer of 0 or 1 as a boolean -/
def zb (v : Int32) : Bool := !decide (v = 0)
def p_X3_isOfField (φ : Nat → Nat) : Int32 := if 3 < (φ 0) then ((0 : Int32)) else ((1 : Int32))
theorem pe_X3_isOfField (φ : Nat → Nat) (hφ : φR φ) : p_X3_isOfField φ = b2i (decide (φ 0 ≤ 3)) := by
  have h0 := hφ.1
  unfold p_X3_isOfField
  have e : φ 0 = 0 ∨ φ 0 = 1 ∨ φ 0 = 2 ∨ φ 0 = 3 ∨ φ 0 = 4 ∨ φ 0 = 5 ∨ φ 0 = 6 ∨ φ 0 = 7 ∨ φ 0 = 8 := by omega
  rcases e with e | e | e | e | e | e | e | e | e <;> simp [e, b2i]
set_option maxHeartbeats 4000000 in
set_option maxRecDepth 100000 in
theorem c_X3_isOfField (l : Launch) (D : va_G) (cI cZ cB cR : ClassId) (r : Nat) (φ : Nat → Nat) (hφ : φR φ) : RO l yX3_isOfField wsX3_isOfField ({ frames := 0, cells := 0, slots := 0, locals := 0 } : Room) D cI cZ cB cR (wR r φ) [.ref r] (b2i (decide (φ 0 ≤ 3))) := by
  have hE : p_X3_isOfField φ = b2i (decide (φ 0 ≤ 3)) := pe_X3_isOfField φ hφ
  refine Met.ofW (cc := cX3_isOfField) (maxL := 1) (ret := (some .boolean)) (by decide) rfl ?_
  intro p e s m args below meth c s₁ B hml hv
  obtain ⟨hargs, hP, hEV⟩ := hv
  have hx := B.exec
  have hb := B.bytes
  have hr := B.returns
  have hts := atoms_spec (ws := wsX3_isOfField) B.pre
  have hown : s.vm.findClass RX3 = some m.cls := findClass_of_methodNamed B.named
  have hlocks := B.notSynchronized
  have hK := hEV.1
  have hl := lv_entry ([.ref r]) (n := 1) (Nat.le_of_ble_eq_true rfl)
  rw [show entryFrame m args 1 = entryFrame m ([.ref r] : List Value).toArray 1 from by rw [hargs], lg_entry_eq]
  generalize (lg_sl ([.ref r]) ++ List.replicate (1 - (lg_sl ([.ref r])).length) Slot.unset).toArray = ls at hl ⊢
  have hl : lv_has ls 1 [(0, .ref r)] := hl
  rw [p_X3_isOfField] at hE
  obtain ⟨hf0, hf1, hf2, hf3⟩ := id hφ
  refine lv_aload_n hx hb dX3_isOfField_0 rfl (lv_at hl 0 rfl) ?_
  refine va_get (D := D) (ci := 3) (v := .int (nI (φ 0))) (C := RX3) (T := TX3) (N := 4) hx hb hts (fun w9 h9 => List.mem_cons_of_mem _ (inT_X3 w9 h9)) hown hK hP 0 rfl rfl 0 (by decide) (hts (.fieldLink RX3 9 "LinkPredictor$Reference" "kind" "I") (List.mem_cons_of_mem _ mw_1_147)) (fun _ h9 => h9) rfl dX3_isOfField_1 ?_
  refine lv_iconst (v := (3 : Int32)) hx hb dX3_isOfField_4 (by decide) ?_
  refine lv_icmp_gt (tgt := 12) hx hb dX3_isOfField_5 (by decide) (fun c_5 => ?_) (fun c_5 => ?_)
  · have c_5 : 3 < (φ 0) := (nI_ltI (a := 3) (b := (φ 0)) (by omega) (by omega)).mp c_5
    have hE := (if_pos c_5).symm.trans hE
    refine lv_iconst (v := (0 : Int32)) hx hb dX3_isOfField_12 (by decide) ?_
    exact W.zret hx hb hr rfl (fun t9 ht9 _ => ⟨_, rfl, hE, ht9⟩) (fun _ h9 => by cases h9) dX3_isOfField_13
  · have c_5 : ¬ (3 < (φ 0)) := fun q9 => c_5 ((nI_ltI (a := 3) (b := (φ 0)) (by omega) (by omega)).mpr q9)
    have hE := (if_neg c_5).symm.trans hE
    refine lv_iconst (v := (1 : Int32)) hx hb dX3_isOfField_8 (by decide) ?_
    refine lv_goto (tgt := 13) hx hb dX3_isOfField_9 (by decide) ?_
    exact W.zret hx hb hr rfl (fun t9 ht9 _ => ⟨_, rfl, hE, ht9⟩) (fun _ h9 => by cases h9) dX3_isOfField_13
def p_X3_isPut (φ : Nat → Nat) : Int32 := if (φ 0) = 1 then ((1 : Int32)) else (if (φ 0) = 3 then ((1 : Int32)) else ((0 : Int32)))
theorem pe_X3_isPut (φ : Nat → Nat) (hφ : φR φ) : p_X3_isPut φ = b2i (decide (φ 0 = 1 ∨ φ 0 = 3)) := by
  have h0 := hφ.1
  unfold p_X3_isPut
  have e : φ 0 = 0 ∨ φ 0 = 1 ∨ φ 0 = 2 ∨ φ 0 = 3 ∨ φ 0 = 4 ∨ φ 0 = 5 ∨ φ 0 = 6 ∨ φ 0 = 7 ∨ φ 0 = 8 := by omega
  rcases e with e | e | e | e | e | e | e | e | e <;> simp [e, b2i]
set_option maxHeartbeats 4000000 in
set_option maxRecDepth 100000 in
theorem c_X3_isPut (l : Launch) (D : va_G) (cI cZ cB cR : ClassId) (r : Nat) (φ : Nat → Nat) (hφ : φR φ) : RO l yX3_isPut wsX3_isPut ({ frames := 0, cells := 0, slots := 0, locals := 0 } : Room) D cI cZ cB cR (wR r φ) [.ref r] (b2i (decide (φ 0 = 1 ∨ φ 0 = 3))) := by
  have hE : p_X3_isPut φ = b2i (decide (φ 0 = 1 ∨ φ 0 = 3)) := pe_X3_isPut φ hφ
  refine Met.ofW (cc := cX3_isPut) (maxL := 1) (ret := (some .boolean)) (by decide) rfl ?_
  intro p e s m args below meth c s₁ B hml hv
  obtain ⟨hargs, hP, hEV⟩ := hv
  have hx := B.exec
  have hb := B.bytes
  have hr := B.returns
  have hts := atoms_spec (ws := wsX3_isPut) B.pre
  have hown : s.vm.findClass RX3 = some m.cls := findClass_of_methodNamed B.named
  have hlocks := B.notSynchronized
  have hK := hEV.1
  have hl := lv_entry ([.ref r]) (n := 1) (Nat.le_of_ble_eq_true rfl)
  rw [show entryFrame m args 1 = entryFrame m ([.ref r] : List Value).toArray 1 from by rw [hargs], lg_entry_eq]
  generalize (lg_sl ([.ref r]) ++ List.replicate (1 - (lg_sl ([.ref r])).length) Slot.unset).toArray = ls at hl ⊢
  have hl : lv_has ls 1 [(0, .ref r)] := hl
  rw [p_X3_isPut] at hE
  obtain ⟨hf0, hf1, hf2, hf3⟩ := id hφ
  refine lv_aload_n hx hb dX3_isPut_0 rfl (lv_at hl 0 rfl) ?_
  refine va_get (D := D) (ci := 3) (v := .int (nI (φ 0))) (C := RX3) (T := TX3) (N := 4) hx hb hts (fun w9 h9 => List.mem_cons_of_mem _ (inT_X3 w9 h9)) hown hK hP 0 rfl rfl 0 (by decide) (hts (.fieldLink RX3 9 "LinkPredictor$Reference" "kind" "I") (List.mem_cons_of_mem _ mw_1_147)) (fun _ h9 => h9) rfl dX3_isPut_1 ?_
  refine lv_iconst (v := (1 : Int32)) hx hb dX3_isPut_4 (by decide) ?_
  refine lv_icmp_eq (tgt := 16) hx hb dX3_isPut_5 (by decide) (fun c_5 => ?_) (fun c_5 => ?_)
  · have c_5 : (φ 0) = 1 := (nI_eq (a := (φ 0)) (b := 1) (by omega) (by omega)).mp c_5
    have hE := (if_pos c_5).symm.trans hE
    refine lv_iconst (v := (1 : Int32)) hx hb dX3_isPut_16 (by decide) ?_
    refine lv_goto (tgt := 21) hx hb dX3_isPut_17 (by decide) ?_
    exact W.zret hx hb hr rfl (fun t9 ht9 _ => ⟨_, rfl, hE, ht9⟩) (fun _ h9 => by cases h9) dX3_isPut_21
  · have c_5 : ¬ ((φ 0) = 1) := fun q9 => c_5 ((nI_eq (a := (φ 0)) (b := 1) (by omega) (by omega)).mpr q9)
    have hE := (if_neg c_5).symm.trans hE
    refine lv_aload_n hx hb dX3_isPut_8 rfl (lv_at hl 0 rfl) ?_
    refine va_get (D := D) (ci := 3) (v := .int (nI (φ 0))) (C := RX3) (T := TX3) (N := 4) hx hb hts (fun w9 h9 => List.mem_cons_of_mem _ (inT_X3 w9 h9)) hown hK hP 0 rfl rfl 0 (by decide) (hts (.fieldLink RX3 9 "LinkPredictor$Reference" "kind" "I") (List.mem_cons_of_mem _ mw_1_147)) (fun _ h9 => h9) rfl dX3_isPut_9 ?_
    refine lv_iconst (v := (3 : Int32)) hx hb dX3_isPut_12 (by decide) ?_
    refine lv_icmp_ne (tgt := 20) hx hb dX3_isPut_13 (by decide) (fun c_13 => ?_) (fun c_13 => ?_)
    · have c_13 : ¬ ((φ 0) = 3) := fun q9 => c_13 ((nI_eq (a := (φ 0)) (b := 3) (by omega) (by omega)).mpr q9)
      have hE := (if_neg c_13).symm.trans hE
      refine lv_iconst (v := (0 : Int32)) hx hb dX3_isPut_20 (by decide) ?_
      exact W.zret hx hb hr rfl (fun t9 ht9 _ => ⟨_, rfl, hE, ht9⟩) (fun _ h9 => by cases h9) dX3_isPut_21
    · have c_13 : (φ 0) = 3 := (nI_eq (a := (φ 0)) (b := 3) (by omega) (by omega)).mp c_13
      have hE := (if_pos c_13).symm.trans hE
      refine lv_iconst (v := (1 : Int32)) hx hb dX3_isPut_16 (by decide) ?_
      refine lv_goto (tgt := 21) hx hb dX3_isPut_17 (by decide) ?_
      exact W.zret hx hb hr rfl (fun t9 ht9 _ => ⟨_, rfl, hE, ht9⟩) (fun _ h9 => by cases h9) dX3_isPut_21
def p_X3_needsStatic (φ : Nat → Nat) : Int32 := if (φ 0) = 2 then ((1 : Int32)) else (if (φ 0) = 3 then ((1 : Int32)) else (if (φ 0) = 6 then ((1 : Int32)) else ((0 : Int32))))
theorem pe_X3_needsStatic (φ : Nat → Nat) (hφ : φR φ) : p_X3_needsStatic φ = b2i (decide (φ 0 = 2 ∨ φ 0 = 3 ∨ φ 0 = 6)) := by
  have h0 := hφ.1
  unfold p_X3_needsStatic
  have e : φ 0 = 0 ∨ φ 0 = 1 ∨ φ 0 = 2 ∨ φ 0 = 3 ∨ φ 0 = 4 ∨ φ 0 = 5 ∨ φ 0 = 6 ∨ φ 0 = 7 ∨ φ 0 = 8 := by omega
  rcases e with e | e | e | e | e | e | e | e | e <;> simp [e, b2i]
set_option maxHeartbeats 4000000 in
set_option maxRecDepth 100000 in
theorem c_X3_needsStatic (l : Launch) (D : va_G) (cI cZ cB cR : ClassId) (r : Nat) (φ : Nat → Nat) (hφ : φR φ) : RO l yX3_needsStatic wsX3_needsStatic ({ frames := 0, cells := 0, slots := 0, locals := 0 } : Room) D cI cZ cB cR (wR r φ) [.ref r] (b2i (decide (φ 0 = 2 ∨ φ 0 = 3 ∨ φ 0 = 6))) := by
  have hE : p_X3_needsStatic φ = b2i (decide (φ 0 = 2 ∨ φ 0 = 3 ∨ φ 0 = 6)) := pe_X3_needsStatic φ hφ
  refine Met.ofW (cc := cX3_needsStatic) (maxL := 1) (ret := (some .boolean)) (by decide) rfl ?_
  intro p e s m args below meth c s₁ B hml hv
  obtain ⟨hargs, hP, hEV⟩ := hv
  have hx := B.exec
  have hb := B.bytes
  have hr := B.returns
  have hts := atoms_spec (ws := wsX3_needsStatic) B.pre
  have hown : s.vm.findClass RX3 = some m.cls := findClass_of_methodNamed B.named
  have hlocks := B.notSynchronized
  have hK := hEV.1
  have hl := lv_entry ([.ref r]) (n := 1) (Nat.le_of_ble_eq_true rfl)
  rw [show entryFrame m args 1 = entryFrame m ([.ref r] : List Value).toArray 1 from by rw [hargs], lg_entry_eq]
  generalize (lg_sl ([.ref r]) ++ List.replicate (1 - (lg_sl ([.ref r])).length) Slot.unset).toArray = ls at hl ⊢
  have hl : lv_has ls 1 [(0, .ref r)] := hl
  rw [p_X3_needsStatic] at hE
  obtain ⟨hf0, hf1, hf2, hf3⟩ := id hφ
  refine lv_aload_n hx hb dX3_needsStatic_0 rfl (lv_at hl 0 rfl) ?_
  refine va_get (D := D) (ci := 3) (v := .int (nI (φ 0))) (C := RX3) (T := TX3) (N := 4) hx hb hts (fun w9 h9 => List.mem_cons_of_mem _ (inT_X3 w9 h9)) hown hK hP 0 rfl rfl 0 (by decide) (hts (.fieldLink RX3 9 "LinkPredictor$Reference" "kind" "I") (List.mem_cons_of_mem _ mw_1_147)) (fun _ h9 => h9) rfl dX3_needsStatic_1 ?_
  refine lv_iconst (v := (2 : Int32)) hx hb dX3_needsStatic_4 (by decide) ?_
  refine lv_icmp_eq (tgt := 25) hx hb dX3_needsStatic_5 (by decide) (fun c_5 => ?_) (fun c_5 => ?_)
  · have c_5 : (φ 0) = 2 := (nI_eq (a := (φ 0)) (b := 2) (by omega) (by omega)).mp c_5
    have hE := (if_pos c_5).symm.trans hE
    refine lv_iconst (v := (1 : Int32)) hx hb dX3_needsStatic_25 (by decide) ?_
    refine lv_goto (tgt := 30) hx hb dX3_needsStatic_26 (by decide) ?_
    exact W.zret hx hb hr rfl (fun t9 ht9 _ => ⟨_, rfl, hE, ht9⟩) (fun _ h9 => by cases h9) dX3_needsStatic_30
  · have c_5 : ¬ ((φ 0) = 2) := fun q9 => c_5 ((nI_eq (a := (φ 0)) (b := 2) (by omega) (by omega)).mpr q9)
    have hE := (if_neg c_5).symm.trans hE
    refine lv_aload_n hx hb dX3_needsStatic_8 rfl (lv_at hl 0 rfl) ?_
    refine va_get (D := D) (ci := 3) (v := .int (nI (φ 0))) (C := RX3) (T := TX3) (N := 4) hx hb hts (fun w9 h9 => List.mem_cons_of_mem _ (inT_X3 w9 h9)) hown hK hP 0 rfl rfl 0 (by decide) (hts (.fieldLink RX3 9 "LinkPredictor$Reference" "kind" "I") (List.mem_cons_of_mem _ mw_1_147)) (fun _ h9 => h9) rfl dX3_needsStatic_9 ?_
    refine lv_iconst (v := (3 : Int32)) hx hb dX3_needsStatic_12 (by decide) ?_
    refine lv_icmp_eq (tgt := 25) hx hb dX3_needsStatic_13 (by decide) (fun c_13 => ?_) (fun c_13 => ?_)
    · have c_13 : (φ 0) = 3 := (nI_eq (a := (φ 0)) (b := 3) (by omega) (by omega)).mp c_13
      have hE := (if_pos c_13).symm.trans hE
      refine lv_iconst (v := (1 : Int32)) hx hb dX3_needsStatic_25 (by decide) ?_
      refine lv_goto (tgt := 30) hx hb dX3_needsStatic_26 (by decide) ?_
      exact W.zret hx hb hr rfl (fun t9 ht9 _ => ⟨_, rfl, hE, ht9⟩) (fun _ h9 => by cases h9) dX3_needsStatic_30
    · have c_13 : ¬ ((φ 0) = 3) := fun q9 => c_13 ((nI_eq (a := (φ 0)) (b := 3) (by omega) (by omega)).mpr q9)
      have hE := (if_neg c_13).symm.trans hE
      refine lv_aload_n hx hb dX3_needsStatic_16 rfl (lv_at hl 0 rfl) ?_
      refine va_get (D := D) (ci := 3) (v := .int (nI (φ 0))) (C := RX3) (T := TX3) (N := 4) hx hb hts (fun w9 h9 => List.mem_cons_of_mem _ (inT_X3 w9 h9)) hown hK hP 0 rfl rfl 0 (by decide) (hts (.fieldLink RX3 9 "LinkPredictor$Reference" "kind" "I") (List.mem_cons_of_mem _ mw_1_147)) (fun _ h9 => h9) rfl dX3_needsStatic_17 ?_
      refine lv_bipush (v := (6 : Int32)) hx hb dX3_needsStatic_20 (by decide) ?_
      refine lv_icmp_ne (tgt := 29) hx hb dX3_needsStatic_22 (by decide) (fun c_22 => ?_) (fun c_22 => ?_)
      · have c_22 : ¬ ((φ 0) = 6) := fun q9 => c_22 ((nI_eq (a := (φ 0)) (b := 6) (by omega) (by omega)).mpr q9)
        have hE := (if_neg c_22).symm.trans hE
        refine lv_iconst (v := (0 : Int32)) hx hb dX3_needsStatic_29 (by decide) ?_
        exact W.zret hx hb hr rfl (fun t9 ht9 _ => ⟨_, rfl, hE, ht9⟩) (fun _ h9 => by cases h9) dX3_needsStatic_30
      · have c_22 : (φ 0) = 6 := (nI_eq (a := (φ 0)) (b := 6) (by omega) (by omega)).mp c_22
        have hE := (if_pos c_22).symm.trans hE
        refine lv_iconst (v := (1 : Int32)) hx hb dX3_needsStatic_25 (by decide) ?_
        refine lv_goto (tgt := 30) hx hb dX3_needsStatic_26 (by decide) ?_
        exact W.zret hx hb hr rfl (fun t9 ht9 _ => ⟨_, rfl, hE, ht9⟩) (fun _ h9 => by cases h9) dX3_needsStatic_30
def p_X3_hasReceiver (φ : Nat → Nat) : Int32 := if (φ 0) = 4 then ((1 : Int32)) else (if (φ 0) = 7 then ((1 : Int32)) else ((0 : Int32)))
theorem pe_X3_hasReceiver (φ : Nat → Nat) (hφ : φR φ) : p_X3_hasReceiver φ = b2i (decide (φ 0 = 4 ∨ φ 0 = 7)) := by
  have h0 := hφ.1
  unfold p_X3_hasReceiver
  have e : φ 0 = 0 ∨ φ 0 = 1 ∨ φ 0 = 2 ∨ φ 0 = 3 ∨ φ 0 = 4 ∨ φ 0 = 5 ∨ φ 0 = 6 ∨ φ 0 = 7 ∨ φ 0 = 8 := by omega
  rcases e with e | e | e | e | e | e | e | e | e <;> simp [e, b2i]
set_option maxHeartbeats 4000000 in
set_option maxRecDepth 100000 in
theorem c_X3_hasReceiver (l : Launch) (D : va_G) (cI cZ cB cR : ClassId) (r : Nat) (φ : Nat → Nat) (hφ : φR φ) : RO l yX3_hasReceiver wsX3_hasReceiver ({ frames := 0, cells := 0, slots := 0, locals := 0 } : Room) D cI cZ cB cR (wR r φ) [.ref r] (b2i (decide (φ 0 = 4 ∨ φ 0 = 7))) := by
  have hE : p_X3_hasReceiver φ = b2i (decide (φ 0 = 4 ∨ φ 0 = 7)) := pe_X3_hasReceiver φ hφ
  refine Met.ofW (cc := cX3_hasReceiver) (maxL := 1) (ret := (some .boolean)) (by decide) rfl ?_
  intro p e s m args below meth c s₁ B hml hv
  obtain ⟨hargs, hP, hEV⟩ := hv
  have hx := B.exec
  have hb := B.bytes
  have hr := B.returns
  have hts := atoms_spec (ws := wsX3_hasReceiver) B.pre
  have hown : s.vm.findClass RX3 = some m.cls := findClass_of_methodNamed B.named
  have hlocks := B.notSynchronized
  have hK := hEV.1
  have hl := lv_entry ([.ref r]) (n := 1) (Nat.le_of_ble_eq_true rfl)
  rw [show entryFrame m args 1 = entryFrame m ([.ref r] : List Value).toArray 1 from by rw [hargs], lg_entry_eq]
  generalize (lg_sl ([.ref r]) ++ List.replicate (1 - (lg_sl ([.ref r])).length) Slot.unset).toArray = ls at hl ⊢
  have hl : lv_has ls 1 [(0, .ref r)] := hl
  rw [p_X3_hasReceiver] at hE
  obtain ⟨hf0, hf1, hf2, hf3⟩ := id hφ
  refine lv_aload_n hx hb dX3_hasReceiver_0 rfl (lv_at hl 0 rfl) ?_
  refine va_get (D := D) (ci := 3) (v := .int (nI (φ 0))) (C := RX3) (T := TX3) (N := 4) hx hb hts (fun w9 h9 => List.mem_cons_of_mem _ (inT_X3 w9 h9)) hown hK hP 0 rfl rfl 0 (by decide) (hts (.fieldLink RX3 9 "LinkPredictor$Reference" "kind" "I") (List.mem_cons_of_mem _ mw_1_147)) (fun _ h9 => h9) rfl dX3_hasReceiver_1 ?_
  refine lv_iconst (v := (4 : Int32)) hx hb dX3_hasReceiver_4 (by decide) ?_
  refine lv_icmp_eq (tgt := 17) hx hb dX3_hasReceiver_5 (by decide) (fun c_5 => ?_) (fun c_5 => ?_)
  · have c_5 : (φ 0) = 4 := (nI_eq (a := (φ 0)) (b := 4) (by omega) (by omega)).mp c_5
    have hE := (if_pos c_5).symm.trans hE
    refine lv_iconst (v := (1 : Int32)) hx hb dX3_hasReceiver_17 (by decide) ?_
    refine lv_goto (tgt := 22) hx hb dX3_hasReceiver_18 (by decide) ?_
    exact W.zret hx hb hr rfl (fun t9 ht9 _ => ⟨_, rfl, hE, ht9⟩) (fun _ h9 => by cases h9) dX3_hasReceiver_22
  · have c_5 : ¬ ((φ 0) = 4) := fun q9 => c_5 ((nI_eq (a := (φ 0)) (b := 4) (by omega) (by omega)).mpr q9)
    have hE := (if_neg c_5).symm.trans hE
    refine lv_aload_n hx hb dX3_hasReceiver_8 rfl (lv_at hl 0 rfl) ?_
    refine va_get (D := D) (ci := 3) (v := .int (nI (φ 0))) (C := RX3) (T := TX3) (N := 4) hx hb hts (fun w9 h9 => List.mem_cons_of_mem _ (inT_X3 w9 h9)) hown hK hP 0 rfl rfl 0 (by decide) (hts (.fieldLink RX3 9 "LinkPredictor$Reference" "kind" "I") (List.mem_cons_of_mem _ mw_1_147)) (fun _ h9 => h9) rfl dX3_hasReceiver_9 ?_
    refine lv_bipush (v := (7 : Int32)) hx hb dX3_hasReceiver_12 (by decide) ?_
    refine lv_icmp_ne (tgt := 21) hx hb dX3_hasReceiver_14 (by decide) (fun c_14 => ?_) (fun c_14 => ?_)
    · have c_14 : ¬ ((φ 0) = 7) := fun q9 => c_14 ((nI_eq (a := (φ 0)) (b := 7) (by omega) (by omega)).mpr q9)
      have hE := (if_neg c_14).symm.trans hE
      refine lv_iconst (v := (0 : Int32)) hx hb dX3_hasReceiver_21 (by decide) ?_
      exact W.zret hx hb hr rfl (fun t9 ht9 _ => ⟨_, rfl, hE, ht9⟩) (fun _ h9 => by cases h9) dX3_hasReceiver_22
    · have c_14 : (φ 0) = 7 := (nI_eq (a := (φ 0)) (b := 7) (by omega) (by omega)).mp c_14
      have hE := (if_pos c_14).symm.trans hE
      refine lv_iconst (v := (1 : Int32)) hx hb dX3_hasReceiver_17 (by decide) ?_
      refine lv_goto (tgt := 22) hx hb dX3_hasReceiver_18 (by decide) ?_
      exact W.zret hx hb hr rfl (fun t9 ht9 _ => ⟨_, rfl, hE, ht9⟩) (fun _ h9 => by cases h9) dX3_hasReceiver_22
noncomputable def p_X0_findInInterface (h τ g γ : Nat → Nat → Int32) (n : Nat) (x : Nat) (y : Int32) : Int32 := if (fdI γ n x (kyF true y)) = (-2 : Int32) then (if (fdI γ n 0 (kyF true y)) = (-2 : Int32) then ((-2 : Int32)) else (if (γ 2 (fdN γ n 0 (kyF true y))) = (3 : Int32) then (if (bt (γ 3 (fdN γ n 0 (kyF true y))) 0) = true then ((-2 : Int32)) else (fdI γ n 0 (kyF true y))) else ((-2 : Int32)))) else (fdI γ n x (kyF true y))
set_option maxHeartbeats 4000000 in
set_option maxRecDepth 100000 in
theorem c_X0_findInInterface (l : Launch) (D : va_G) (cI cZ cB cR : ClassId) (b : Nat) (aH aM : Nat → Nat) (h τ g γ : Nat → Nat → Int32) (n : Nat) (se : Int32) (x : Nat) (y : Int32) (okh : OKH h τ) (wf : WFT τ) (okm : OKM g γ n) (wm : WFM γ n) (hnx : x < 12)  : RO l yX0_findInInterface wsX0_findInInterface ({ frames := 2, cells := 0, slots := 0, locals := 46 } : Room) D cI cZ cB cR (wB cI b aH aM h g se) [.ref b, .int (nI x), .int y] (p_X0_findInInterface h τ g γ n x y) := by
  generalize hE : p_X0_findInInterface h τ g γ n x y = tgt
  refine Met.ofW (cc := cX0_findInInterface) (maxL := 5) (ret := (some .int)) (by decide) rfl ?_
  intro p e s m args below meth c s₁ B hml hv
  obtain ⟨hargs, hP, hEV⟩ := hv
  have hx := B.exec
  have hb := B.bytes
  have hr := B.returns
  have hts := atoms_spec (ws := wsX0_findInInterface) B.pre
  have hown : s.vm.findClass RX0 = some m.cls := findClass_of_methodNamed B.named
  have hlocks := B.notSynchronized
  have hK := hEV.1
  have hl := lv_entry ([.ref b, .int (nI x), .int y]) (n := 5) (Nat.le_of_ble_eq_true rfl)
  rw [show entryFrame m args 5 = entryFrame m ([.ref b, .int (nI x), .int y] : List Value).toArray 5 from by rw [hargs], lg_entry_eq]
  generalize (lg_sl ([.ref b, .int (nI x), .int y]) ++ List.replicate (5 - (lg_sl ([.ref b, .int (nI x), .int y])).length) Slot.unset).toArray = ls at hl ⊢
  have hl : lv_has ls 5 [(0, .ref b), (1, .int (nI x)), (2, .int y)] := hl
  rw [p_X0_findInInterface] at hE
  have hn30 := okm.2.1
  refine lv_aload_n hx hb dX0_findInInterface_0 rfl (lv_at hl 0 rfl) ?_
  refine va_get (D := D) (ci := 0) (v := .ref (aM 0)) (C := RX0) (T := TX0) (N := 3) hx hb hts (fun w9 h9 => List.mem_cons_of_mem _ (inT_X0 w9 h9)) hown hK hP 0 rfl rfl 1 (by decide) (hts (.fieldLink RX0 21 "LinkPredictor$Build" "members" "LLinkPredictor$Members;") (List.mem_cons_of_mem _ mw_1_130)) (fun _ h9 => h9) rfl dX0_findInInterface_1 ?_
  refine lv_iload_n hx hb dX0_findInInterface_4 rfl (lv_at hl 1 rfl) ?_
  refine lv_iconst (v := (1 : Int32)) hx hb dX0_findInInterface_5 (by decide) ?_
  refine lv_iload_n hx hb dX0_findInInterface_6 rfl (lv_at hl 2 rfl) ?_
  refine ro_V [.int (nI x), .int (1 : Int32), .int y] [] ⟨hx, hb, hml, hown, hts⟩ (c_X2_find l D cI cZ cB cR aM g γ n x true y okm (by omega)) (cwV (C := RX2) 3 hts (goodP (ps := [.methodLink RX0 36 yX2_find, .instanceMethod yX2_find, .selects RX2 yX2_find yX2_find, .initialized RX2]) (all4 mw_1_222 mw_1_223 mw_1_224 mw_1_4) mw_1_225) rfl rfl rfl (by decide +kernel) ⟨Nat.le_of_ble_eq_true rfl, Nat.le_of_ble_eq_true rfl⟩) hEV (wB_M hP) 0 rfl rfl rfl hl.1 rfl (Nat.le_of_ble_eq_true rfl) dX0_findInInterface_7 ⟨Nat.zero_le _, Nat.zero_le _⟩ ?_
  refine lv_istore_n (lv' := [(3, .int (fdI γ n x (kyF true y))), (0, .ref b), (1, .int (nI x)), (2, .int y)]) hx hb dX0_findInInterface_10 rfl hl (by decide) rfl (fun ls hl => ?_)
  refine lv_iload_n hx hb dX0_findInInterface_11 rfl (lv_at hl 0 rfl) ?_
  refine lv_bipush (v := (-2 : Int32)) hx hb dX0_findInInterface_12 (by decide) ?_
  refine lv_icmp_eq (tgt := 19) hx hb dX0_findInInterface_14 (by decide) (fun c_14 => ?_) (fun c_14 => ?_)
  · skip
    have hE := (if_pos c_14).symm.trans hE
    refine lv_aload_n hx hb dX0_findInInterface_19 rfl (lv_at hl 1 rfl) ?_
    refine va_get (D := D) (ci := 0) (v := .ref (aM 0)) (C := RX0) (T := TX0) (N := 3) hx hb hts (fun w9 h9 => List.mem_cons_of_mem _ (inT_X0 w9 h9)) hown hK hP 0 rfl rfl 1 (by decide) (hts (.fieldLink RX0 21 "LinkPredictor$Build" "members" "LLinkPredictor$Members;") (List.mem_cons_of_mem _ mw_1_130)) (fun _ h9 => h9) rfl dX0_findInInterface_20 ?_
    refine lv_iconst (v := (0 : Int32)) hx hb dX0_findInInterface_23 (by decide) ?_
    refine lv_iconst (v := (1 : Int32)) hx hb dX0_findInInterface_24 (by decide) ?_
    refine lv_iload_n hx hb dX0_findInInterface_25 rfl (lv_at hl 3 rfl) ?_
    refine ro_V [.int (0 : Int32), .int (1 : Int32), .int y] [] ⟨hx, hb, hml, hown, hts⟩ (c_X2_find l D cI cZ cB cR aM g γ n 0 true y okm (by omega)) (cwV (C := RX2) 3 hts (goodP (ps := [.methodLink RX0 36 yX2_find, .instanceMethod yX2_find, .selects RX2 yX2_find yX2_find, .initialized RX2]) (all4 mw_1_222 mw_1_223 mw_1_224 mw_1_4) mw_1_225) rfl rfl rfl (by decide +kernel) ⟨Nat.le_of_ble_eq_true rfl, Nat.le_of_ble_eq_true rfl⟩) hEV (wB_M hP) 0 rfl rfl rfl hl.1 rfl (Nat.le_of_ble_eq_true rfl) dX0_findInInterface_26 ⟨Nat.zero_le _, Nat.zero_le _⟩ ?_
    refine lv_istore (lv' := [(4, .int (fdI γ n 0 (kyF true y))), (3, .int (fdI γ n x (kyF true y))), (0, .ref b), (1, .int (nI x)), (2, .int y)]) hx hb dX0_findInInterface_29 hl (by decide) rfl (fun ls hl => ?_)
    refine lv_iload hx hb dX0_findInInterface_31 (lv_at hl 0 rfl) ?_
    refine lv_bipush (v := (-2 : Int32)) hx hb dX0_findInInterface_33 (by decide) ?_
    refine lv_icmp_eq (tgt := 68) hx hb dX0_findInInterface_35 (by decide) (fun c_35 => ?_) (fun c_35 => ?_)
    · skip
      have hE := (if_pos c_35).symm.trans hE
      refine lv_bipush (v := (-2 : Int32)) hx hb dX0_findInInterface_68 (by decide) ?_
      exact W.iret hx hb hr (fun t9 ht9 _ => ⟨_, rfl, hE, ht9⟩) (fun _ h9 => by cases h9) dX0_findInInterface_70
    · skip
      have hE := (if_neg c_35).symm.trans hE
      have hk9 := (fdI_nat c_35).1
      refine lv_aload_n hx hb dX0_findInInterface_38 rfl (lv_at hl 2 rfl) ?_
      refine va_get (D := D) (ci := 0) (v := .ref (aM 0)) (C := RX0) (T := TX0) (N := 3) hx hb hts (fun w9 h9 => List.mem_cons_of_mem _ (inT_X0 w9 h9)) hown hK hP 0 rfl rfl 1 (by decide) (hts (.fieldLink RX0 21 "LinkPredictor$Build" "members" "LLinkPredictor$Members;") (List.mem_cons_of_mem _ mw_1_130)) (fun _ h9 => h9) rfl dX0_findInInterface_39 ?_
      refine lv_iload hx hb dX0_findInInterface_42 (lv_at hl 0 rfl) ?_
      refine top_eq ((fdI_nat c_35).2) ?_
      refine ro_V [.int (nI (fdN γ n 0 (kyF true y)))] [] ⟨hx, hb, hml, hown, hts⟩ (c_X2_accessOf l D cI cZ cB cR aM g γ n (fdN γ n 0 (kyF true y)) okm (by omega)) (cwV (C := RX2) 1 hts (goodP (ps := [.methodLink RX0 96 yX2_accessOf, .instanceMethod yX2_accessOf, .selects RX2 yX2_accessOf yX2_accessOf, .initialized RX2]) (all4 mw_2_118 mw_2_119 mw_2_120 mw_1_4) mw_2_121) rfl rfl rfl (by decide +kernel) ⟨Nat.le_of_ble_eq_true rfl, Nat.le_of_ble_eq_true rfl⟩) hEV (wB_M hP) 0 rfl rfl rfl hl.1 rfl (Nat.le_of_ble_eq_true rfl) dX0_findInInterface_44 ⟨Nat.zero_le _, Nat.zero_le _⟩ ?_
      refine lv_iconst (v := (3 : Int32)) hx hb dX0_findInInterface_47 (by decide) ?_
      refine lv_icmp_ne (tgt := 68) hx hb dX0_findInInterface_48 (by decide) (fun c_48 => ?_) (fun c_48 => ?_)
      · skip
        have hE := (if_neg c_48).symm.trans hE
        refine lv_bipush (v := (-2 : Int32)) hx hb dX0_findInInterface_68 (by decide) ?_
        exact W.iret hx hb hr (fun t9 ht9 _ => ⟨_, rfl, hE, ht9⟩) (fun _ h9 => by cases h9) dX0_findInInterface_70
      · skip
        have hE := (if_pos c_48).symm.trans hE
        refine lv_aload_n hx hb dX0_findInInterface_51 rfl (lv_at hl 2 rfl) ?_
        refine va_get (D := D) (ci := 0) (v := .ref (aM 0)) (C := RX0) (T := TX0) (N := 3) hx hb hts (fun w9 h9 => List.mem_cons_of_mem _ (inT_X0 w9 h9)) hown hK hP 0 rfl rfl 1 (by decide) (hts (.fieldLink RX0 21 "LinkPredictor$Build" "members" "LLinkPredictor$Members;") (List.mem_cons_of_mem _ mw_1_130)) (fun _ h9 => h9) rfl dX0_findInInterface_52 ?_
        refine lv_iload hx hb dX0_findInInterface_55 (lv_at hl 0 rfl) ?_
        refine top_eq ((fdI_nat c_35).2) ?_
        refine ro_V [.int (nI (fdN γ n 0 (kyF true y)))] [] ⟨hx, hb, hml, hown, hts⟩ (c_X2_isStatic l D cI cZ cB cR aM g γ n (fdN γ n 0 (kyF true y)) okm (by omega)) (cwV (C := RX2) 1 hts (goodP (ps := [.methodLink RX0 139 yX2_isStatic, .instanceMethod yX2_isStatic, .selects RX2 yX2_isStatic yX2_isStatic, .initialized RX2]) (all4 mw_2_122 mw_2_123 mw_2_124 mw_1_4) mw_2_125) rfl rfl rfl (by decide +kernel) ⟨Nat.le_of_ble_eq_true rfl, Nat.le_of_ble_eq_true rfl⟩) hEV (wB_M hP) 0 rfl rfl rfl hl.1 rfl (Nat.le_of_ble_eq_true rfl) dX0_findInInterface_57 ⟨Nat.zero_le _, Nat.zero_le _⟩ ?_
        refine lv_if_ne (tgt := 68) hx hb dX0_findInInterface_60 (by decide) (fun c_60 => ?_) (fun c_60 => ?_)
        · have c_60 : (bt (γ 3 (fdN γ n 0 (kyF true y))) 0) = true := b2i_t c_60
          have hE := (if_pos c_60).symm.trans hE
          refine lv_bipush (v := (-2 : Int32)) hx hb dX0_findInInterface_68 (by decide) ?_
          exact W.iret hx hb hr (fun t9 ht9 _ => ⟨_, rfl, hE, ht9⟩) (fun _ h9 => by cases h9) dX0_findInInterface_70
        · have c_60 : ¬ ((bt (γ 3 (fdN γ n 0 (kyF true y))) 0) = true) := b2i_f c_60
          have hE := (if_neg c_60).symm.trans hE
          refine lv_iload hx hb dX0_findInInterface_63 (lv_at hl 0 rfl) ?_
          refine lv_goto (tgt := 70) hx hb dX0_findInInterface_65 (by decide) ?_
          exact W.iret hx hb hr (fun t9 ht9 _ => ⟨_, rfl, hE, ht9⟩) (fun _ h9 => by cases h9) dX0_findInInterface_70
  · skip
    have hE := (if_neg c_14).symm.trans hE
    refine lv_iload_n hx hb dX0_findInInterface_17 rfl (lv_at hl 0 rfl) ?_
    exact W.iret hx hb hr (fun t9 ht9 _ => ⟨_, rfl, hE, ht9⟩) (fun _ h9 => by cases h9) dX0_findInInterface_18
noncomputable def p_X0_findInAbove_5 (h τ g γ : Nat → Nat → Int32) (n : Nat) (x : Nat) (y : Int32) : Nat → Nat → Int32 → Int32
  | 0, _, _ => 0
  | k + 1, n4, v3 => if 12 ≤ n4 then ((-2 : Int32)) else (if v3 = (-1 : Int32) then ((-2 : Int32)) else (if (fdI γ n (sN v3) (kyF true y)) = (-2 : Int32) then (p_X0_findInAbove_5 h τ g γ n x y k (n4 + 1) (τ 3 (sN v3))) else (fdI γ n (sN v3) (kyF true y))))
noncomputable def p_X0_findInAbove (h τ g γ : Nat → Nat → Int32) (n : Nat) (x : Nat) (y : Int32) : Int32 := p_X0_findInAbove_5 h τ g γ n x y 13 0 (nI x)
set_option maxHeartbeats 4000000 in
set_option maxRecDepth 100000 in
theorem c_X0_findInAbove (l : Launch) (D : va_G) (cI cZ cB cR : ClassId) (b : Nat) (aH aM : Nat → Nat) (h τ g γ : Nat → Nat → Int32) (n : Nat) (se : Int32) (x : Nat) (y : Int32) (okh : OKH h τ) (wf : WFT τ) (okm : OKM g γ n) (wm : WFM γ n) (hnx : x < 12)  : RO l yX0_findInAbove wsX0_findInAbove ({ frames := 2, cells := 0, slots := 0, locals := 46 } : Room) D cI cZ cB cR (wB cI b aH aM h g se) [.ref b, .int (nI x), .int y] (p_X0_findInAbove h τ g γ n x y) := by
  generalize hE : p_X0_findInAbove h τ g γ n x y = tgt
  refine Met.ofW (cc := cX0_findInAbove) (maxL := 6) (ret := (some .int)) (by decide) rfl ?_
  intro p e s m args below meth c s₁ B hml hv
  obtain ⟨hargs, hP, hEV⟩ := hv
  have hx := B.exec
  have hb := B.bytes
  have hr := B.returns
  have hts := atoms_spec (ws := wsX0_findInAbove) B.pre
  have hown : s.vm.findClass RX0 = some m.cls := findClass_of_methodNamed B.named
  have hlocks := B.notSynchronized
  have hK := hEV.1
  have hl := lv_entry ([.ref b, .int (nI x), .int y]) (n := 6) (Nat.le_of_ble_eq_true rfl)
  rw [show entryFrame m args 6 = entryFrame m ([.ref b, .int (nI x), .int y] : List Value).toArray 6 from by rw [hargs], lg_entry_eq]
  generalize (lg_sl ([.ref b, .int (nI x), .int y]) ++ List.replicate (6 - (lg_sl ([.ref b, .int (nI x), .int y])).length) Slot.unset).toArray = ls at hl ⊢
  have hl : lv_has ls 6 [(0, .ref b), (1, .int (nI x)), (2, .int y)] := hl
  rw [p_X0_findInAbove] at hE
  have hn30 := okm.2.1
  have key_5 : ∀ (k_5 : Nat) (n4 : Nat) (v3 : Int32) (ls : Array Slot), (12 - n4) < k_5 → v3 = -1 ∨ isT v3 → n4 ≤ 12 → lv_has ls 6 [(4, .int (nI n4)), (3, .int v3), (0, .ref b), (2, .int y)] → p_X0_findInAbove_5 h τ g γ n x y k_5 n4 v3 = tgt → W p l e (headSpec wsX0_findInAbove ({ frames := 2, cells := 0, slots := 0, locals := 46 } : Room)).room s m args below meth c s.heap [] 0 0 (MQ below (vp_Si (fun r => r = tgt)) args s 0 0 (fun _ => False)) (F0 m 5 ls []) := by
    intro k_5
    induction k_5 with
    | zero => intro n4 v3 ls hm; exact absurd hm (Nat.not_lt_zero _)
    | succ k_5 ih_5 =>
      intro n4 v3 ls hm_5 hi_5_0 hi_5_1 hl hE
      rw [p_X0_findInAbove_5] at hE
      refine lv_iload hx hb dX0_findInAbove_5 (lv_at hl 0 rfl) ?_
      refine lv_bipush (v := (12 : Int32)) hx hb dX0_findInAbove_7 (by decide) ?_
      refine lv_icmp_ge (tgt := 54) hx hb dX0_findInAbove_9 (by decide) (fun c_9 => ?_) (fun c_9 => ?_)
      · have c_9 : 12 ≤ n4 := (nI_leI (a := 12) (b := n4) (by omega) (by omega)).mp c_9
        have hE := (if_pos c_9).symm.trans hE
        refine lv_bipush (v := (-2 : Int32)) hx hb dX0_findInAbove_54 (by decide) ?_
        exact W.iret hx hb hr (fun t9 ht9 _ => ⟨_, rfl, hE, ht9⟩) (fun _ h9 => by cases h9) dX0_findInAbove_56
      · have c_9 : ¬ (12 ≤ n4) := fun q9 => c_9 ((nI_leI (a := 12) (b := n4) (by omega) (by omega)).mpr q9)
        have hE := (if_neg c_9).symm.trans hE
        refine lv_iload_n hx hb dX0_findInAbove_12 rfl (lv_at hl 1 rfl) ?_
        refine lv_iconst (v := (-1 : Int32)) hx hb dX0_findInAbove_13 (by decide) ?_
        refine lv_icmp_eq (tgt := 54) hx hb dX0_findInAbove_14 (by decide) (fun c_14 => ?_) (fun c_14 => ?_)
        · skip
          have hE := (if_pos c_14).symm.trans hE
          refine lv_bipush (v := (-2 : Int32)) hx hb dX0_findInAbove_54 (by decide) ?_
          exact W.iret hx hb hr (fun t9 ht9 _ => ⟨_, rfl, hE, ht9⟩) (fun _ h9 => by cases h9) dX0_findInAbove_56
        · skip
          have hE := (if_neg c_14).symm.trans hE
          have hv9 := hi_5_0.resolve_left c_14
          have hv8 := hv9.1
          refine lv_aload_n hx hb dX0_findInAbove_17 rfl (lv_at hl 2 rfl) ?_
          refine va_get (D := D) (ci := 0) (v := .ref (aM 0)) (C := RX0) (T := TX0) (N := 3) hx hb hts (fun w9 h9 => List.mem_cons_of_mem _ (inT_X0 w9 h9)) hown hK hP 0 rfl rfl 1 (by decide) (hts (.fieldLink RX0 21 "LinkPredictor$Build" "members" "LLinkPredictor$Members;") (List.mem_cons_of_mem _ mw_1_130)) (fun _ h9 => h9) rfl dX0_findInAbove_18 ?_
          refine lv_iload_n hx hb dX0_findInAbove_21 rfl (lv_at hl 1 rfl) ?_
          refine top_eq (hv9.2) ?_
          refine lv_iconst (v := (1 : Int32)) hx hb dX0_findInAbove_22 (by decide) ?_
          refine lv_iload_n hx hb dX0_findInAbove_23 rfl (lv_at hl 3 rfl) ?_
          refine ro_V [.int (nI (sN v3)), .int (1 : Int32), .int y] [] ⟨hx, hb, hml, hown, hts⟩ (c_X2_find l D cI cZ cB cR aM g γ n (sN v3) true y okm (by omega)) (cwV (C := RX2) 3 hts (goodP (ps := [.methodLink RX0 36 yX2_find, .instanceMethod yX2_find, .selects RX2 yX2_find yX2_find, .initialized RX2]) (all4 mw_1_222 mw_1_223 mw_1_224 mw_1_4) mw_1_225) rfl rfl rfl (by decide +kernel) ⟨Nat.le_of_ble_eq_true rfl, Nat.le_of_ble_eq_true rfl⟩) hEV (wB_M hP) 0 rfl rfl rfl hl.1 rfl (Nat.le_of_ble_eq_true rfl) dX0_findInAbove_24 ⟨Nat.zero_le _, Nat.zero_le _⟩ ?_
          refine lv_istore (lv' := [(5, .int (fdI γ n (sN v3) (kyF true y))), (4, .int (nI n4)), (3, .int v3), (0, .ref b), (2, .int y)]) hx hb dX0_findInAbove_27 hl (by decide) rfl (fun ls hl => ?_)
          refine lv_iload hx hb dX0_findInAbove_29 (lv_at hl 0 rfl) ?_
          refine lv_bipush (v := (-2 : Int32)) hx hb dX0_findInAbove_31 (by decide) ?_
          refine lv_icmp_eq (tgt := 39) hx hb dX0_findInAbove_33 (by decide) (fun c_33 => ?_) (fun c_33 => ?_)
          · skip
            have hE := (if_pos c_33).symm.trans hE
            refine lv_aload_n hx hb dX0_findInAbove_39 rfl (lv_at hl 3 rfl) ?_
            refine va_get (D := D) (ci := 0) (v := .ref (aH 0)) (C := RX0) (T := TX0) (N := 3) hx hb hts (fun w9 h9 => List.mem_cons_of_mem _ (inT_X0 w9 h9)) hown hK hP 0 rfl rfl 0 (by decide) (hts (.fieldLink RX0 12 "LinkPredictor$Build" "types" "LLinkPredictor$Hierarchy;") (List.mem_cons_of_mem _ mw_1_128)) (fun _ h9 => h9) rfl dX0_findInAbove_40 ?_
            refine lv_iload_n hx hb dX0_findInAbove_43 rfl (lv_at hl 2 rfl) ?_
            refine top_eq (hv9.2) ?_
            refine ro_V [.int (nI (sN v3))] [] ⟨hx, hb, hml, hown, hts⟩ (c_X1_superOf l D cI cZ cB cR aH h τ (sN v3) okh.b (by omega)) (cwV (C := RX1) 1 hts (goodP (ps := [.methodLink RX0 124 yX1_superOf, .instanceMethod yX1_superOf, .selects RX1 yX1_superOf yX1_superOf, .initialized RX1]) (all4 mw_2_105 mw_2_106 mw_2_107 mw_1_3) mw_2_108) rfl rfl rfl (by decide +kernel) ⟨Nat.le_of_ble_eq_true rfl, Nat.le_of_ble_eq_true rfl⟩) hEV (wB_H hP) 0 rfl rfl rfl hl.1 rfl (Nat.le_of_ble_eq_true rfl) dX0_findInAbove_44 ⟨Nat.zero_le _, Nat.zero_le _⟩ ?_
            refine lv_istore_n (lv' := [(3, .int (τ 3 (sN v3))), (5, .int (fdI γ n (sN v3) (kyF true y))), (4, .int (nI n4)), (0, .ref b), (2, .int y)]) hx hb dX0_findInAbove_47 rfl hl (by decide) rfl (fun ls hl => ?_)
            refine lv_iinc (v := nI (n4 + 1)) (lv' := [(4, .int (nI (n4 + 1))), (3, .int (τ 3 (sN v3))), (5, .int (fdI γ n (sN v3) (kyF true y))), (0, .ref b), (2, .int y)]) hx hb dX0_findInAbove_48 hl (k := 2) rfl (nI_1 _) (by decide) rfl (fun ls hl => ?_)
            refine lv_goto (tgt := 5) hx hb dX0_findInAbove_51 (by decide) ?_
            exact ih_5 (n4 + 1) (τ 3 (sN v3)) ls (by omega) (by first | omega | exact Or.inr (isT_nI (by omega)) | exact (wf.1 _ hv8).1) (by first | omega | exact Or.inr (isT_nI (by omega)) | exact (wf.1 _ hv8).1) (lv_sub hl [0, 1, 3, 4] rfl) hE
          · skip
            have hE := (if_neg c_33).symm.trans hE
            refine lv_iload hx hb dX0_findInAbove_36 (lv_at hl 0 rfl) ?_
            exact W.iret hx hb hr (fun t9 ht9 _ => ⟨_, rfl, hE, ht9⟩) (fun _ h9 => by cases h9) dX0_findInAbove_38
  refine lv_iload_n hx hb dX0_findInAbove_0 rfl (lv_at hl 1 rfl) ?_
  refine lv_istore_n (lv' := [(3, .int (nI x)), (0, .ref b), (1, .int (nI x)), (2, .int y)]) hx hb dX0_findInAbove_1 rfl hl (by decide) rfl (fun ls hl => ?_)
  refine lv_iconst (v := (0 : Int32)) hx hb dX0_findInAbove_2 (by decide) ?_
  refine lv_istore (lv' := [(4, .int (0 : Int32)), (3, .int (nI x)), (0, .ref b), (1, .int (nI x)), (2, .int y)]) hx hb dX0_findInAbove_3 hl (by decide) rfl (fun ls hl => ?_)
  exact key_5 13 0 (nI x) ls (by omega) (by first | omega | exact Or.inr (isT_nI (by omega)) | exact (wf.1 _ hv8).1) (by first | omega | exact Or.inr (isT_nI (by omega)) | exact (wf.1 _ hv8).1) (lv_sub hl [0, 1, 2, 4] rfl) hE
noncomputable def p_X0_findOnlyWithBody_6 (h τ g γ : Nat → Nat → Int32) (n : Nat) (x : Int32) (y : Int32) : Nat → Nat → Int32 → Int32
  | 0, _, _ => 0
  | k + 1, n4, v3 => if 12 ≤ n4 then (v3) else (if (bt x n4) = true then (if (fdI γ n n4 (kyF true y)) = (-2 : Int32) then (p_X0_findOnlyWithBody_6 h τ g γ n x y k (n4 + 1) v3) else (if (bt (γ 3 (fdN γ n n4 (kyF true y))) 1) = true then (p_X0_findOnlyWithBody_6 h τ g γ n x y k (n4 + 1) v3) else (if v3 = (-2 : Int32) then (p_X0_findOnlyWithBody_6 h τ g γ n x y k (n4 + 1) (fdI γ n n4 (kyF true y))) else (p_X0_findOnlyWithBody_6 h τ g γ n x y k (n4 + 1) (-4 : Int32))))) else (p_X0_findOnlyWithBody_6 h τ g γ n x y k (n4 + 1) v3))
noncomputable def p_X0_findOnlyWithBody (h τ g γ : Nat → Nat → Int32) (n : Nat) (x : Int32) (y : Int32) : Int32 := p_X0_findOnlyWithBody_6 h τ g γ n x y 13 0 (-2 : Int32)
set_option maxHeartbeats 4000000 in
set_option maxRecDepth 100000 in
theorem c_X0_findOnlyWithBody (l : Launch) (D : va_G) (cI cZ cB cR : ClassId) (b : Nat) (aH aM : Nat → Nat) (h τ g γ : Nat → Nat → Int32) (n : Nat) (se : Int32) (x : Int32) (y : Int32) (okh : OKH h τ) (wf : WFT τ) (okm : OKM g γ n) (wm : WFM γ n)   : RO l yX0_findOnlyWithBody wsX0_findOnlyWithBody ({ frames := 2, cells := 0, slots := 0, locals := 46 } : Room) D cI cZ cB cR (wB cI b aH aM h g se) [.ref b, .int x, .int y] (p_X0_findOnlyWithBody h τ g γ n x y) := by
  generalize hE : p_X0_findOnlyWithBody h τ g γ n x y = tgt
  refine Met.ofW (cc := cX0_findOnlyWithBody) (maxL := 6) (ret := (some .int)) (by decide) rfl ?_
  intro p e s m args below meth c s₁ B hml hv
  obtain ⟨hargs, hP, hEV⟩ := hv
  have hx := B.exec
  have hb := B.bytes
  have hr := B.returns
  have hts := atoms_spec (ws := wsX0_findOnlyWithBody) B.pre
  have hown : s.vm.findClass RX0 = some m.cls := findClass_of_methodNamed B.named
  have hlocks := B.notSynchronized
  have hK := hEV.1
  have hl := lv_entry ([.ref b, .int x, .int y]) (n := 6) (Nat.le_of_ble_eq_true rfl)
  rw [show entryFrame m args 6 = entryFrame m ([.ref b, .int x, .int y] : List Value).toArray 6 from by rw [hargs], lg_entry_eq]
  generalize (lg_sl ([.ref b, .int x, .int y]) ++ List.replicate (6 - (lg_sl ([.ref b, .int x, .int y])).length) Slot.unset).toArray = ls at hl ⊢
  have hl : lv_has ls 6 [(0, .ref b), (1, .int x), (2, .int y)] := hl
  rw [p_X0_findOnlyWithBody] at hE
  have hn30 := okm.2.1
  have key_6 : ∀ (k_6 : Nat) (n4 : Nat) (v3 : Int32) (ls : Array Slot), (12 - n4) < k_6 → n4 ≤ 12 → lv_has ls 6 [(4, .int (nI n4)), (3, .int v3), (0, .ref b), (1, .int x), (2, .int y)] → p_X0_findOnlyWithBody_6 h τ g γ n x y k_6 n4 v3 = tgt → W p l e (headSpec wsX0_findOnlyWithBody ({ frames := 2, cells := 0, slots := 0, locals := 46 } : Room)).room s m args below meth c s.heap [] 0 0 (MQ below (vp_Si (fun r => r = tgt)) args s 0 0 (fun _ => False)) (F0 m 6 ls []) := by
    intro k_6
    induction k_6 with
    | zero => intro n4 v3 ls hm; exact absurd hm (Nat.not_lt_zero _)
    | succ k_6 ih_6 =>
      intro n4 v3 ls hm_6 hi_6_0 hl hE
      rw [p_X0_findOnlyWithBody_6] at hE
      refine lv_iload hx hb dX0_findOnlyWithBody_6 (lv_at hl 0 rfl) ?_
      refine lv_bipush (v := (12 : Int32)) hx hb dX0_findOnlyWithBody_8 (by decide) ?_
      refine lv_icmp_ge (tgt := 74) hx hb dX0_findOnlyWithBody_10 (by decide) (fun c_10 => ?_) (fun c_10 => ?_)
      · have c_10 : 12 ≤ n4 := (nI_leI (a := 12) (b := n4) (by omega) (by omega)).mp c_10
        have hE := (if_pos c_10).symm.trans hE
        refine lv_iload_n hx hb dX0_findOnlyWithBody_74 rfl (lv_at hl 1 rfl) ?_
        exact W.iret hx hb hr (fun t9 ht9 _ => ⟨_, rfl, hE, ht9⟩) (fun _ h9 => by cases h9) dX0_findOnlyWithBody_75
      · have c_10 : ¬ (12 ≤ n4) := fun q9 => c_10 ((nI_leI (a := 12) (b := n4) (by omega) (by omega)).mpr q9)
        have hE := (if_neg c_10).symm.trans hE
        refine lv_iload_n hx hb dX0_findOnlyWithBody_13 rfl (lv_at hl 3 rfl) ?_
        refine lv_iload hx hb dX0_findOnlyWithBody_14 (lv_at hl 0 rfl) ?_
        refine ro_SN [.int x, .int (nI n4)] [] ⟨hx, hb, hml, hown, hts⟩ (c_X4_contains l D cI cZ cB cR x n4 (by omega)) (va_cnB (host := "LinkPredictor") 2 hts (goodC mw_1_48) rfl rfl rfl (hEV.2 (.methodLinkNest RX0 115 yX4_contains "LinkPredictor") (by decide +kernel)) (hts (.initialized RX4) (List.mem_cons_of_mem _ mw_1_1)) (by decide +kernel) ⟨Nat.le_of_ble_eq_true rfl, Nat.le_of_ble_eq_true rfl⟩) (hts (.static yX4_contains) (List.mem_cons_of_mem _ mw_1_47)) hEV va_P0 rfl hl.1 rfl (Nat.le_of_ble_eq_true rfl) dX0_findOnlyWithBody_16 ⟨Nat.zero_le _, Nat.zero_le _⟩ ?_
        refine lv_if_eq (tgt := 68) hx hb dX0_findOnlyWithBody_19 (by decide) (fun c_19 => ?_) (fun c_19 => ?_)
        · have c_19 : ¬ ((bt x n4) = true) := b2i_f c_19
          have hE := (if_neg c_19).symm.trans hE
          refine lv_iinc (v := nI (n4 + 1)) (lv' := [(4, .int (nI (n4 + 1))), (3, .int v3), (0, .ref b), (1, .int x), (2, .int y)]) hx hb dX0_findOnlyWithBody_68 hl (k := 0) rfl (nI_1 _) (by decide) rfl (fun ls hl => ?_)
          refine lv_goto (tgt := 6) hx hb dX0_findOnlyWithBody_71 (by decide) ?_
          exact ih_6 (n4 + 1) v3 ls (by omega) (by omega) (lv_sub hl [0, 1, 2, 3, 4] rfl) hE
        · have c_19 : (bt x n4) = true := b2i_t c_19
          have hE := (if_pos c_19).symm.trans hE
          refine lv_aload_n hx hb dX0_findOnlyWithBody_22 rfl (lv_at hl 2 rfl) ?_
          refine va_get (D := D) (ci := 0) (v := .ref (aM 0)) (C := RX0) (T := TX0) (N := 3) hx hb hts (fun w9 h9 => List.mem_cons_of_mem _ (inT_X0 w9 h9)) hown hK hP 0 rfl rfl 1 (by decide) (hts (.fieldLink RX0 21 "LinkPredictor$Build" "members" "LLinkPredictor$Members;") (List.mem_cons_of_mem _ mw_1_130)) (fun _ h9 => h9) rfl dX0_findOnlyWithBody_23 ?_
          refine lv_iload hx hb dX0_findOnlyWithBody_26 (lv_at hl 0 rfl) ?_
          refine lv_iconst (v := (1 : Int32)) hx hb dX0_findOnlyWithBody_28 (by decide) ?_
          refine lv_iload_n hx hb dX0_findOnlyWithBody_29 rfl (lv_at hl 4 rfl) ?_
          refine ro_V [.int (nI n4), .int (1 : Int32), .int y] [] ⟨hx, hb, hml, hown, hts⟩ (c_X2_find l D cI cZ cB cR aM g γ n n4 true y okm (by omega)) (cwV (C := RX2) 3 hts (goodP (ps := [.methodLink RX0 36 yX2_find, .instanceMethod yX2_find, .selects RX2 yX2_find yX2_find, .initialized RX2]) (all4 mw_1_222 mw_1_223 mw_1_224 mw_1_4) mw_1_225) rfl rfl rfl (by decide +kernel) ⟨Nat.le_of_ble_eq_true rfl, Nat.le_of_ble_eq_true rfl⟩) hEV (wB_M hP) 0 rfl rfl rfl hl.1 rfl (Nat.le_of_ble_eq_true rfl) dX0_findOnlyWithBody_30 ⟨Nat.zero_le _, Nat.zero_le _⟩ ?_
          refine lv_istore (lv' := [(5, .int (fdI γ n n4 (kyF true y))), (4, .int (nI n4)), (3, .int v3), (0, .ref b), (1, .int x), (2, .int y)]) hx hb dX0_findOnlyWithBody_33 hl (by decide) rfl (fun ls hl => ?_)
          refine lv_iload hx hb dX0_findOnlyWithBody_35 (lv_at hl 0 rfl) ?_
          refine lv_bipush (v := (-2 : Int32)) hx hb dX0_findOnlyWithBody_37 (by decide) ?_
          refine lv_icmp_eq (tgt := 68) hx hb dX0_findOnlyWithBody_39 (by decide) (fun c_39 => ?_) (fun c_39 => ?_)
          · skip
            have hE := (if_pos c_39).symm.trans hE
            refine lv_iinc (v := nI (n4 + 1)) (lv' := [(4, .int (nI (n4 + 1))), (5, .int (fdI γ n n4 (kyF true y))), (3, .int v3), (0, .ref b), (1, .int x), (2, .int y)]) hx hb dX0_findOnlyWithBody_68 hl (k := 1) rfl (nI_1 _) (by decide) rfl (fun ls hl => ?_)
            refine lv_goto (tgt := 6) hx hb dX0_findOnlyWithBody_71 (by decide) ?_
            exact ih_6 (n4 + 1) v3 ls (by omega) (by omega) (lv_sub hl [0, 2, 3, 4, 5] rfl) hE
          · skip
            have hE := (if_neg c_39).symm.trans hE
            have hk9 := (fdI_nat c_39).1
            refine lv_aload_n hx hb dX0_findOnlyWithBody_42 rfl (lv_at hl 3 rfl) ?_
            refine va_get (D := D) (ci := 0) (v := .ref (aM 0)) (C := RX0) (T := TX0) (N := 3) hx hb hts (fun w9 h9 => List.mem_cons_of_mem _ (inT_X0 w9 h9)) hown hK hP 0 rfl rfl 1 (by decide) (hts (.fieldLink RX0 21 "LinkPredictor$Build" "members" "LLinkPredictor$Members;") (List.mem_cons_of_mem _ mw_1_130)) (fun _ h9 => h9) rfl dX0_findOnlyWithBody_43 ?_
            refine lv_iload hx hb dX0_findOnlyWithBody_46 (lv_at hl 0 rfl) ?_
            refine top_eq ((fdI_nat c_39).2) ?_
            refine ro_V [.int (nI (fdN γ n n4 (kyF true y)))] [] ⟨hx, hb, hml, hown, hts⟩ (c_X2_isAbstract l D cI cZ cB cR aM g γ n (fdN γ n n4 (kyF true y)) okm (by omega)) (cwV (C := RX2) 1 hts (goodP (ps := [.methodLink RX0 162 yX2_isAbstract, .instanceMethod yX2_isAbstract, .selects RX2 yX2_isAbstract yX2_isAbstract, .initialized RX2]) (all4 mw_2_154 mw_2_155 mw_2_156 mw_1_4) mw_2_157) rfl rfl rfl (by decide +kernel) ⟨Nat.le_of_ble_eq_true rfl, Nat.le_of_ble_eq_true rfl⟩) hEV (wB_M hP) 0 rfl rfl rfl hl.1 rfl (Nat.le_of_ble_eq_true rfl) dX0_findOnlyWithBody_48 ⟨Nat.zero_le _, Nat.zero_le _⟩ ?_
            refine lv_if_ne (tgt := 68) hx hb dX0_findOnlyWithBody_51 (by decide) (fun c_51 => ?_) (fun c_51 => ?_)
            · have c_51 : (bt (γ 3 (fdN γ n n4 (kyF true y))) 1) = true := b2i_t c_51
              have hE := (if_pos c_51).symm.trans hE
              refine lv_iinc (v := nI (n4 + 1)) (lv' := [(4, .int (nI (n4 + 1))), (5, .int (fdI γ n n4 (kyF true y))), (3, .int v3), (0, .ref b), (1, .int x), (2, .int y)]) hx hb dX0_findOnlyWithBody_68 hl (k := 1) rfl (nI_1 _) (by decide) rfl (fun ls hl => ?_)
              refine lv_goto (tgt := 6) hx hb dX0_findOnlyWithBody_71 (by decide) ?_
              exact ih_6 (n4 + 1) v3 ls (by omega) (by omega) (lv_sub hl [0, 2, 3, 4, 5] rfl) hE
            · have c_51 : ¬ ((bt (γ 3 (fdN γ n n4 (kyF true y))) 1) = true) := b2i_f c_51
              have hE := (if_neg c_51).symm.trans hE
              refine lv_iload_n hx hb dX0_findOnlyWithBody_54 rfl (lv_at hl 2 rfl) ?_
              refine lv_bipush (v := (-2 : Int32)) hx hb dX0_findOnlyWithBody_55 (by decide) ?_
              refine lv_icmp_ne (tgt := 65) hx hb dX0_findOnlyWithBody_57 (by decide) (fun c_57 => ?_) (fun c_57 => ?_)
              · skip
                have hE := (if_neg c_57).symm.trans hE
                refine lv_bipush (v := (-4 : Int32)) hx hb dX0_findOnlyWithBody_65 (by decide) ?_
                refine lv_istore_n (lv' := [(3, .int (-4 : Int32)), (5, .int (fdI γ n n4 (kyF true y))), (4, .int (nI n4)), (0, .ref b), (1, .int x), (2, .int y)]) hx hb dX0_findOnlyWithBody_67 rfl hl (by decide) rfl (fun ls hl => ?_)
                refine lv_iinc (v := nI (n4 + 1)) (lv' := [(4, .int (nI (n4 + 1))), (3, .int (-4 : Int32)), (5, .int (fdI γ n n4 (kyF true y))), (0, .ref b), (1, .int x), (2, .int y)]) hx hb dX0_findOnlyWithBody_68 hl (k := 2) rfl (nI_1 _) (by decide) rfl (fun ls hl => ?_)
                refine lv_goto (tgt := 6) hx hb dX0_findOnlyWithBody_71 (by decide) ?_
                exact ih_6 (n4 + 1) (-4 : Int32) ls (by omega) (by omega) (lv_sub hl [0, 1, 3, 4, 5] rfl) hE
              · skip
                have hE := (if_pos c_57).symm.trans hE
                refine lv_iload hx hb dX0_findOnlyWithBody_60 (lv_at hl 0 rfl) ?_
                refine lv_goto (tgt := 67) hx hb dX0_findOnlyWithBody_62 (by decide) ?_
                refine lv_istore_n (lv' := [(3, .int (fdI γ n n4 (kyF true y))), (5, .int (fdI γ n n4 (kyF true y))), (4, .int (nI n4)), (0, .ref b), (1, .int x), (2, .int y)]) hx hb dX0_findOnlyWithBody_67 rfl hl (by decide) rfl (fun ls hl => ?_)
                refine lv_iinc (v := nI (n4 + 1)) (lv' := [(4, .int (nI (n4 + 1))), (3, .int (fdI γ n n4 (kyF true y))), (5, .int (fdI γ n n4 (kyF true y))), (0, .ref b), (1, .int x), (2, .int y)]) hx hb dX0_findOnlyWithBody_68 hl (k := 2) rfl (nI_1 _) (by decide) rfl (fun ls hl => ?_)
                refine lv_goto (tgt := 6) hx hb dX0_findOnlyWithBody_71 (by decide) ?_
                exact ih_6 (n4 + 1) (fdI γ n n4 (kyF true y)) ls (by omega) (by omega) (lv_sub hl [0, 1, 3, 4, 5] rfl) hE
  refine lv_bipush (v := (-2 : Int32)) hx hb dX0_findOnlyWithBody_0 (by decide) ?_
  refine lv_istore_n (lv' := [(3, .int (-2 : Int32)), (0, .ref b), (1, .int x), (2, .int y)]) hx hb dX0_findOnlyWithBody_2 rfl hl (by decide) rfl (fun ls hl => ?_)
  refine lv_iconst (v := (0 : Int32)) hx hb dX0_findOnlyWithBody_3 (by decide) ?_
  refine lv_istore (lv' := [(4, .int (0 : Int32)), (3, .int (-2 : Int32)), (0, .ref b), (1, .int x), (2, .int y)]) hx hb dX0_findOnlyWithBody_4 hl (by decide) rfl (fun ls hl => ?_)
  exact key_6 13 0 (-2 : Int32) ls (by omega) (by omega) (lv_sub hl [0, 1, 2, 3, 4] rfl) hE
noncomputable def p_X0_findLeast_6 (h τ g γ : Nat → Nat → Int32) (n : Nat) (x : Int32) (y : Int32) : Nat → Nat → Int32 → Int32
  | 0, _, _ => 0
  | k + 1, n4, v3 => if 12 ≤ n4 then (v3) else (if (bt x n4) = true then (if v3 = (-2 : Int32) then (p_X0_findLeast_6 h τ g γ n x y k (n4 + 1) (fdI γ n n4 (kyF true y))) else (p_X0_findLeast_6 h τ g γ n x y k (n4 + 1) (if (fdI γ n n4 (kyF true y)) < v3 then (fdI γ n n4 (kyF true y)) else v3))) else (p_X0_findLeast_6 h τ g γ n x y k (n4 + 1) v3))
noncomputable def p_X0_findLeast (h τ g γ : Nat → Nat → Int32) (n : Nat) (x : Int32) (y : Int32) : Int32 := p_X0_findLeast_6 h τ g γ n x y 13 0 (-2 : Int32)
set_option maxHeartbeats 4000000 in
set_option maxRecDepth 100000 in
theorem c_X0_findLeast (l : Launch) (D : va_G) (cI cZ cB cR : ClassId) (b : Nat) (aH aM : Nat → Nat) (h τ g γ : Nat → Nat → Int32) (n : Nat) (se : Int32) (x : Int32) (y : Int32) (okh : OKH h τ) (wf : WFT τ) (okm : OKM g γ n) (wm : WFM γ n)   : RO l yX0_findLeast wsX0_findLeast ({ frames := 2, cells := 0, slots := 0, locals := 46 } : Room) D cI cZ cB cR (wB cI b aH aM h g se) [.ref b, .int x, .int y] (p_X0_findLeast h τ g γ n x y) := by
  generalize hE : p_X0_findLeast h τ g γ n x y = tgt
  refine Met.ofW (cc := cX0_findLeast) (maxL := 6) (ret := (some .int)) (by decide) rfl ?_
  intro p e s m args below meth c s₁ B hml hv
  obtain ⟨hargs, hP, hEV⟩ := hv
  have hx := B.exec
  have hb := B.bytes
  have hr := B.returns
  have hts := atoms_spec (ws := wsX0_findLeast) B.pre
  have hown : s.vm.findClass RX0 = some m.cls := findClass_of_methodNamed B.named
  have hlocks := B.notSynchronized
  have hK := hEV.1
  have hl := lv_entry ([.ref b, .int x, .int y]) (n := 6) (Nat.le_of_ble_eq_true rfl)
  rw [show entryFrame m args 6 = entryFrame m ([.ref b, .int x, .int y] : List Value).toArray 6 from by rw [hargs], lg_entry_eq]
  generalize (lg_sl ([.ref b, .int x, .int y]) ++ List.replicate (6 - (lg_sl ([.ref b, .int x, .int y])).length) Slot.unset).toArray = ls at hl ⊢
  have hl : lv_has ls 6 [(0, .ref b), (1, .int x), (2, .int y)] := hl
  rw [p_X0_findLeast] at hE
  have hn30 := okm.2.1
  have key_6 : ∀ (k_6 : Nat) (n4 : Nat) (v3 : Int32) (ls : Array Slot), (12 - n4) < k_6 → n4 ≤ 12 → lv_has ls 6 [(4, .int (nI n4)), (3, .int v3), (0, .ref b), (1, .int x), (2, .int y)] → p_X0_findLeast_6 h τ g γ n x y k_6 n4 v3 = tgt → W p l e (headSpec wsX0_findLeast ({ frames := 2, cells := 0, slots := 0, locals := 46 } : Room)).room s m args below meth c s.heap [] 0 0 (MQ below (vp_Si (fun r => r = tgt)) args s 0 0 (fun _ => False)) (F0 m 6 ls []) := by
    intro k_6
    induction k_6 with
    | zero => intro n4 v3 ls hm; exact absurd hm (Nat.not_lt_zero _)
    | succ k_6 ih_6 =>
      intro n4 v3 ls hm_6 hi_6_0 hl hE
      rw [p_X0_findLeast_6] at hE
      refine lv_iload hx hb dX0_findLeast_6 (lv_at hl 0 rfl) ?_
      refine lv_bipush (v := (12 : Int32)) hx hb dX0_findLeast_8 (by decide) ?_
      refine lv_icmp_ge (tgt := 59) hx hb dX0_findLeast_10 (by decide) (fun c_10 => ?_) (fun c_10 => ?_)
      · have c_10 : 12 ≤ n4 := (nI_leI (a := 12) (b := n4) (by omega) (by omega)).mp c_10
        have hE := (if_pos c_10).symm.trans hE
        refine lv_iload_n hx hb dX0_findLeast_59 rfl (lv_at hl 1 rfl) ?_
        exact W.iret hx hb hr (fun t9 ht9 _ => ⟨_, rfl, hE, ht9⟩) (fun _ h9 => by cases h9) dX0_findLeast_60
      · have c_10 : ¬ (12 ≤ n4) := fun q9 => c_10 ((nI_leI (a := 12) (b := n4) (by omega) (by omega)).mpr q9)
        have hE := (if_neg c_10).symm.trans hE
        refine lv_iload_n hx hb dX0_findLeast_13 rfl (lv_at hl 3 rfl) ?_
        refine lv_iload hx hb dX0_findLeast_14 (lv_at hl 0 rfl) ?_
        refine ro_SN [.int x, .int (nI n4)] [] ⟨hx, hb, hml, hown, hts⟩ (c_X4_contains l D cI cZ cB cR x n4 (by omega)) (va_cnB (host := "LinkPredictor") 2 hts (goodC mw_1_48) rfl rfl rfl (hEV.2 (.methodLinkNest RX0 115 yX4_contains "LinkPredictor") (by decide +kernel)) (hts (.initialized RX4) (List.mem_cons_of_mem _ mw_1_1)) (by decide +kernel) ⟨Nat.le_of_ble_eq_true rfl, Nat.le_of_ble_eq_true rfl⟩) (hts (.static yX4_contains) (List.mem_cons_of_mem _ mw_1_47)) hEV va_P0 rfl hl.1 rfl (Nat.le_of_ble_eq_true rfl) dX0_findLeast_16 ⟨Nat.zero_le _, Nat.zero_le _⟩ ?_
        refine lv_if_eq (tgt := 53) hx hb dX0_findLeast_19 (by decide) (fun c_19 => ?_) (fun c_19 => ?_)
        · have c_19 : ¬ ((bt x n4) = true) := b2i_f c_19
          have hE := (if_neg c_19).symm.trans hE
          refine lv_iinc (v := nI (n4 + 1)) (lv' := [(4, .int (nI (n4 + 1))), (3, .int v3), (0, .ref b), (1, .int x), (2, .int y)]) hx hb dX0_findLeast_53 hl (k := 0) rfl (nI_1 _) (by decide) rfl (fun ls hl => ?_)
          refine lv_goto (tgt := 6) hx hb dX0_findLeast_56 (by decide) ?_
          exact ih_6 (n4 + 1) v3 ls (by omega) (by omega) (lv_sub hl [0, 1, 2, 3, 4] rfl) hE
        · have c_19 : (bt x n4) = true := b2i_t c_19
          have hE := (if_pos c_19).symm.trans hE
          refine lv_aload_n hx hb dX0_findLeast_22 rfl (lv_at hl 2 rfl) ?_
          refine va_get (D := D) (ci := 0) (v := .ref (aM 0)) (C := RX0) (T := TX0) (N := 3) hx hb hts (fun w9 h9 => List.mem_cons_of_mem _ (inT_X0 w9 h9)) hown hK hP 0 rfl rfl 1 (by decide) (hts (.fieldLink RX0 21 "LinkPredictor$Build" "members" "LLinkPredictor$Members;") (List.mem_cons_of_mem _ mw_1_130)) (fun _ h9 => h9) rfl dX0_findLeast_23 ?_
          refine lv_iload hx hb dX0_findLeast_26 (lv_at hl 0 rfl) ?_
          refine lv_iconst (v := (1 : Int32)) hx hb dX0_findLeast_28 (by decide) ?_
          refine lv_iload_n hx hb dX0_findLeast_29 rfl (lv_at hl 4 rfl) ?_
          refine ro_V [.int (nI n4), .int (1 : Int32), .int y] [] ⟨hx, hb, hml, hown, hts⟩ (c_X2_find l D cI cZ cB cR aM g γ n n4 true y okm (by omega)) (cwV (C := RX2) 3 hts (goodP (ps := [.methodLink RX0 36 yX2_find, .instanceMethod yX2_find, .selects RX2 yX2_find yX2_find, .initialized RX2]) (all4 mw_1_222 mw_1_223 mw_1_224 mw_1_4) mw_1_225) rfl rfl rfl (by decide +kernel) ⟨Nat.le_of_ble_eq_true rfl, Nat.le_of_ble_eq_true rfl⟩) hEV (wB_M hP) 0 rfl rfl rfl hl.1 rfl (Nat.le_of_ble_eq_true rfl) dX0_findLeast_30 ⟨Nat.zero_le _, Nat.zero_le _⟩ ?_
          refine lv_istore (lv' := [(5, .int (fdI γ n n4 (kyF true y))), (4, .int (nI n4)), (3, .int v3), (0, .ref b), (1, .int x), (2, .int y)]) hx hb dX0_findLeast_33 hl (by decide) rfl (fun ls hl => ?_)
          refine lv_iload_n hx hb dX0_findLeast_35 rfl (lv_at hl 2 rfl) ?_
          refine lv_bipush (v := (-2 : Int32)) hx hb dX0_findLeast_36 (by decide) ?_
          refine lv_icmp_ne (tgt := 46) hx hb dX0_findLeast_38 (by decide) (fun c_38 => ?_) (fun c_38 => ?_)
          · skip
            have hE := (if_neg c_38).symm.trans hE
            refine lv_iload_n hx hb dX0_findLeast_46 rfl (lv_at hl 2 rfl) ?_
            refine lv_iload hx hb dX0_findLeast_47 (lv_at hl 0 rfl) ?_
            refine va_mmin hx hb (hml.trans hl.1.symm) hown (hts (.methodLink RX0 157 Lib.Math.min.name) (List.mem_cons_of_mem _ mw_2_162)) (hts (.static Lib.Math.min.name) (List.mem_cons_of_mem _ mw_2_163)) (hts (.initialized "java/lang/Math") (List.mem_cons_of_mem _ mw_1_9)) (hts (.code Lib.Math.min.name Lib.Math.min.code 2 (some .int)) (List.mem_cons_of_mem _ mw_2_164)) (Nat.le_of_ble_eq_true rfl) (Nat.le_of_ble_eq_true rfl) (Nat.zero_le _) (Nat.zero_le _) dX0_findLeast_49 ?_
            refine lv_istore_n (lv' := [(3, .int (if (fdI γ n n4 (kyF true y)) < v3 then (fdI γ n n4 (kyF true y)) else v3)), (5, .int (fdI γ n n4 (kyF true y))), (4, .int (nI n4)), (0, .ref b), (1, .int x), (2, .int y)]) hx hb dX0_findLeast_52 rfl hl (by decide) rfl (fun ls hl => ?_)
            refine lv_iinc (v := nI (n4 + 1)) (lv' := [(4, .int (nI (n4 + 1))), (3, .int (if (fdI γ n n4 (kyF true y)) < v3 then (fdI γ n n4 (kyF true y)) else v3)), (5, .int (fdI γ n n4 (kyF true y))), (0, .ref b), (1, .int x), (2, .int y)]) hx hb dX0_findLeast_53 hl (k := 2) rfl (nI_1 _) (by decide) rfl (fun ls hl => ?_)
            refine lv_goto (tgt := 6) hx hb dX0_findLeast_56 (by decide) ?_
            exact ih_6 (n4 + 1) (if (fdI γ n n4 (kyF true y)) < v3 then (fdI γ n n4 (kyF true y)) else v3) ls (by omega) (by omega) (lv_sub hl [0, 1, 3, 4, 5] rfl) hE
          · skip
            have hE := (if_pos c_38).symm.trans hE
            refine lv_iload hx hb dX0_findLeast_41 (lv_at hl 0 rfl) ?_
            refine lv_goto (tgt := 52) hx hb dX0_findLeast_43 (by decide) ?_
            refine lv_istore_n (lv' := [(3, .int (fdI γ n n4 (kyF true y))), (5, .int (fdI γ n n4 (kyF true y))), (4, .int (nI n4)), (0, .ref b), (1, .int x), (2, .int y)]) hx hb dX0_findLeast_52 rfl hl (by decide) rfl (fun ls hl => ?_)
            refine lv_iinc (v := nI (n4 + 1)) (lv' := [(4, .int (nI (n4 + 1))), (3, .int (fdI γ n n4 (kyF true y))), (5, .int (fdI γ n n4 (kyF true y))), (0, .ref b), (1, .int x), (2, .int y)]) hx hb dX0_findLeast_53 hl (k := 2) rfl (nI_1 _) (by decide) rfl (fun ls hl => ?_)
            refine lv_goto (tgt := 6) hx hb dX0_findLeast_56 (by decide) ?_
            exact ih_6 (n4 + 1) (fdI γ n n4 (kyF true y)) ls (by omega) (by omega) (lv_sub hl [0, 1, 3, 4, 5] rfl) hE
  refine lv_bipush (v := (-2 : Int32)) hx hb dX0_findLeast_0 (by decide) ?_
  refine lv_istore_n (lv' := [(3, .int (-2 : Int32)), (0, .ref b), (1, .int x), (2, .int y)]) hx hb dX0_findLeast_2 rfl hl (by decide) rfl (fun ls hl => ?_)
  refine lv_iconst (v := (0 : Int32)) hx hb dX0_findLeast_3 (by decide) ?_
  refine lv_istore (lv' := [(4, .int (0 : Int32)), (3, .int (-2 : Int32)), (0, .ref b), (1, .int x), (2, .int y)]) hx hb dX0_findLeast_4 hl (by decide) rfl (fun ls hl => ?_)
  exact key_6 13 0 (-2 : Int32) ls (by omega) (by omega) (lv_sub hl [0, 1, 2, 3, 4] rfl) hE
noncomputable def p_X0_findBest (h τ g γ : Nat → Nat → Int32) (n : Nat) (x : Nat) (y : Int32) : Int32 := if (p_X0_findOnlyWithBody h τ g γ n (msI h ((h 7 x) &&& (owI γ n (kyF true y)))) y) < (0 : Int32) then (p_X0_findLeast h τ g γ n ((h 7 x) &&& (owI γ n (kyF true y))) y) else (p_X0_findOnlyWithBody h τ g γ n (msI h ((h 7 x) &&& (owI γ n (kyF true y)))) y)
set_option maxHeartbeats 4000000 in
set_option maxRecDepth 100000 in
theorem c_X0_findBest (l : Launch) (D : va_G) (cI cZ cB cR : ClassId) (b : Nat) (aH aM : Nat → Nat) (h τ g γ : Nat → Nat → Int32) (n : Nat) (se : Int32) (x : Nat) (y : Int32) (okh : OKH h τ) (wf : WFT τ) (okm : OKM g γ n) (wm : WFM γ n) (hnx : x < 12)  : RO l yX0_findBest wsX0_findBest ({ frames := 3, cells := 0, slots := 0, locals := 71 } : Room) D cI cZ cB cR (wB cI b aH aM h g se) [.ref b, .int (nI x), .int y] (p_X0_findBest h τ g γ n x y) := by
  generalize hE : p_X0_findBest h τ g γ n x y = tgt
  refine Met.ofW (cc := cX0_findBest) (maxL := 5) (ret := (some .int)) (by decide) rfl ?_
  intro p e s m args below meth c s₁ B hml hv
  obtain ⟨hargs, hP, hEV⟩ := hv
  have hx := B.exec
  have hb := B.bytes
  have hr := B.returns
  have hts := atoms_spec (ws := wsX0_findBest) B.pre
  have hown : s.vm.findClass RX0 = some m.cls := findClass_of_methodNamed B.named
  have hlocks := B.notSynchronized
  have hK := hEV.1
  have hl := lv_entry ([.ref b, .int (nI x), .int y]) (n := 5) (Nat.le_of_ble_eq_true rfl)
  rw [show entryFrame m args 5 = entryFrame m ([.ref b, .int (nI x), .int y] : List Value).toArray 5 from by rw [hargs], lg_entry_eq]
  generalize (lg_sl ([.ref b, .int (nI x), .int y]) ++ List.replicate (5 - (lg_sl ([.ref b, .int (nI x), .int y])).length) Slot.unset).toArray = ls at hl ⊢
  have hl : lv_has ls 5 [(0, .ref b), (1, .int (nI x)), (2, .int y)] := hl
  rw [p_X0_findBest] at hE
  have hn30 := okm.2.1
  refine lv_aload_n hx hb dX0_findBest_0 rfl (lv_at hl 0 rfl) ?_
  refine va_get (D := D) (ci := 0) (v := .ref (aH 0)) (C := RX0) (T := TX0) (N := 3) hx hb hts (fun w9 h9 => List.mem_cons_of_mem _ (inT_X0 w9 h9)) hown hK hP 0 rfl rfl 0 (by decide) (hts (.fieldLink RX0 12 "LinkPredictor$Build" "types" "LLinkPredictor$Hierarchy;") (List.mem_cons_of_mem _ mw_1_128)) (fun _ h9 => h9) rfl dX0_findBest_1 ?_
  refine lv_iload_n hx hb dX0_findBest_4 rfl (lv_at hl 1 rfl) ?_
  refine ro_V [.int (nI x)] [] ⟨hx, hb, hml, hown, hts⟩ (c_X1_facesOf l D cI cZ cB cR aH h τ x okh (by omega)) (cwV (C := RX1) 1 hts (goodP (ps := [.methodLink RX0 142 yX1_facesOf, .instanceMethod yX1_facesOf, .selects RX1 yX1_facesOf yX1_facesOf, .initialized RX1]) (all4 mw_2_134 mw_2_135 mw_2_136 mw_1_3) mw_2_137) rfl rfl rfl (by decide +kernel) ⟨Nat.le_of_ble_eq_true rfl, Nat.le_of_ble_eq_true rfl⟩) hEV (wB_H hP) 0 rfl rfl rfl hl.1 rfl (Nat.le_of_ble_eq_true rfl) dX0_findBest_5 ⟨Nat.zero_le _, Nat.zero_le _⟩ ?_
  refine lv_aload_n hx hb dX0_findBest_8 rfl (lv_at hl 0 rfl) ?_
  refine va_get (D := D) (ci := 0) (v := .ref (aM 0)) (C := RX0) (T := TX0) (N := 3) hx hb hts (fun w9 h9 => List.mem_cons_of_mem _ (inT_X0 w9 h9)) hown hK hP 0 rfl rfl 1 (by decide) (hts (.fieldLink RX0 21 "LinkPredictor$Build" "members" "LLinkPredictor$Members;") (List.mem_cons_of_mem _ mw_1_130)) (fun _ h9 => h9) rfl dX0_findBest_9 ?_
  refine lv_iload_n hx hb dX0_findBest_12 rfl (lv_at hl 2 rfl) ?_
  refine ro_V [.int y] [.int (h 7 x)] ⟨hx, hb, hml, hown, hts⟩ (c_X2_ownersOfInheritable l D cI cZ cB cR aM g γ n y okm wm) (cwV (C := RX2) 1 hts (goodP (ps := [.methodLink RX0 145 yX2_ownersOfInheritable, .instanceMethod yX2_ownersOfInheritable, .selects RX2 yX2_ownersOfInheritable yX2_ownersOfInheritable, .initialized RX2]) (all4 mw_2_138 mw_2_139 mw_2_140 mw_1_4) mw_2_141) rfl rfl rfl (by decide +kernel) ⟨Nat.le_of_ble_eq_true rfl, Nat.le_of_ble_eq_true rfl⟩) hEV (wB_M hP) 0 rfl rfl rfl hl.1 rfl (Nat.le_of_ble_eq_true rfl) dX0_findBest_13 ⟨Nat.zero_le _, Nat.zero_le _⟩ ?_
  refine lv_iand hx hb dX0_findBest_16 ?_
  refine lv_istore_n (lv' := [(3, .int ((h 7 x) &&& (owI γ n (kyF true y)))), (0, .ref b), (1, .int (nI x)), (2, .int y)]) hx hb dX0_findBest_17 rfl hl (by decide) rfl (fun ls hl => ?_)
  refine lv_aload_n hx hb dX0_findBest_18 rfl (lv_at hl 1 rfl) ?_
  refine lv_aload_n hx hb dX0_findBest_19 rfl (lv_at hl 1 rfl) ?_
  refine va_get (D := D) (ci := 0) (v := .ref (aH 0)) (C := RX0) (T := TX0) (N := 3) hx hb hts (fun w9 h9 => List.mem_cons_of_mem _ (inT_X0 w9 h9)) hown hK hP 0 rfl rfl 0 (by decide) (hts (.fieldLink RX0 12 "LinkPredictor$Build" "types" "LLinkPredictor$Hierarchy;") (List.mem_cons_of_mem _ mw_1_128)) (fun _ h9 => h9) rfl dX0_findBest_20 ?_
  refine lv_iload_n hx hb dX0_findBest_23 rfl (lv_at hl 0 rfl) ?_
  refine ro_V [.int ((h 7 x) &&& (owI γ n (kyF true y)))] [.ref b] ⟨hx, hb, hml, hown, hts⟩ (c_X1_mostSpecificOf l D cI cZ cB cR aH h τ ((h 7 x) &&& (owI γ n (kyF true y))) okh) (cwV (C := RX1) 1 hts (goodP (ps := [.methodLink RX0 148 yX1_mostSpecificOf, .instanceMethod yX1_mostSpecificOf, .selects RX1 yX1_mostSpecificOf yX1_mostSpecificOf, .initialized RX1]) (all4 mw_2_146 mw_2_147 mw_2_148 mw_1_3) mw_2_149) rfl rfl rfl (by decide +kernel) ⟨Nat.le_of_ble_eq_true rfl, Nat.le_of_ble_eq_true rfl⟩) hEV (wB_H hP) 0 rfl rfl rfl hl.1 rfl (Nat.le_of_ble_eq_true rfl) dX0_findBest_24 ⟨Nat.zero_le _, Nat.zero_le _⟩ ?_
  refine lv_iload_n hx hb dX0_findBest_27 rfl (lv_at hl 3 rfl) ?_
  refine ro_V [.int (msI h ((h 7 x) &&& (owI γ n (kyF true y)))), .int y] [] ⟨hx, hb, hml, hown, hts⟩ (c_X0_findOnlyWithBody l D cI cZ cB cR b aH aM h τ g γ n se (msI h ((h 7 x) &&& (owI γ n (kyF true y)))) y okh wf okm wm ) (cwV (C := RX0) 2 hts (goodP (ps := [.methodLink RX0 151 yX0_findOnlyWithBody, .instanceMethod yX0_findOnlyWithBody, .selects RX0 yX0_findOnlyWithBody yX0_findOnlyWithBody, .initialized RX0]) (all4 mw_2_150 mw_2_152 ms_12 mw_1_2) mw_2_153) rfl rfl rfl (by decide +kernel) ⟨Nat.le_of_ble_eq_true rfl, Nat.le_of_ble_eq_true rfl⟩) hEV hP 0 rfl rfl rfl hl.1 rfl (Nat.le_of_ble_eq_true rfl) dX0_findBest_28 ⟨Nat.zero_le _, Nat.zero_le _⟩ ?_
  refine lv_istore (lv' := [(4, .int (p_X0_findOnlyWithBody h τ g γ n (msI h ((h 7 x) &&& (owI γ n (kyF true y)))) y)), (3, .int ((h 7 x) &&& (owI γ n (kyF true y)))), (0, .ref b), (1, .int (nI x)), (2, .int y)]) hx hb dX0_findBest_31 hl (by decide) rfl (fun ls hl => ?_)
  refine lv_iload hx hb dX0_findBest_33 (lv_at hl 0 rfl) ?_
  refine lv_if_lt (tgt := 43) hx hb dX0_findBest_35 (by decide) (fun c_35 => ?_) (fun c_35 => ?_)
  · skip
    have hE := (if_pos c_35).symm.trans hE
    refine lv_aload_n hx hb dX0_findBest_43 rfl (lv_at hl 2 rfl) ?_
    refine lv_iload_n hx hb dX0_findBest_44 rfl (lv_at hl 1 rfl) ?_
    refine lv_iload_n hx hb dX0_findBest_45 rfl (lv_at hl 4 rfl) ?_
    refine ro_V [.int ((h 7 x) &&& (owI γ n (kyF true y))), .int y] [] ⟨hx, hb, hml, hown, hts⟩ (c_X0_findLeast l D cI cZ cB cR b aH aM h τ g γ n se ((h 7 x) &&& (owI γ n (kyF true y))) y okh wf okm wm ) (cwV (C := RX0) 2 hts (goodP (ps := [.methodLink RX0 154 yX0_findLeast, .instanceMethod yX0_findLeast, .selects RX0 yX0_findLeast yX0_findLeast, .initialized RX0]) (all4 mw_2_158 mw_2_160 ms_13 mw_1_2) mw_2_161) rfl rfl rfl (by decide +kernel) ⟨Nat.le_of_ble_eq_true rfl, Nat.le_of_ble_eq_true rfl⟩) hEV hP 0 rfl rfl rfl hl.1 rfl (Nat.le_of_ble_eq_true rfl) dX0_findBest_46 ⟨Nat.zero_le _, Nat.zero_le _⟩ ?_
    exact W.iret hx hb hr (fun t9 ht9 _ => ⟨_, rfl, hE, ht9⟩) (fun _ h9 => by cases h9) dX0_findBest_49
  · skip
    have hE := (if_neg c_35).symm.trans hE
    refine lv_iload hx hb dX0_findBest_38 (lv_at hl 0 rfl) ?_
    refine lv_goto (tgt := 49) hx hb dX0_findBest_40 (by decide) ?_
    exact W.iret hx hb hr (fun t9 ht9 _ => ⟨_, rfl, hE, ht9⟩) (fun _ h9 => by cases h9) dX0_findBest_49
noncomputable def p_X0_selectFromFaces (h τ g γ : Nat → Nat → Int32) (n : Nat) (x : Nat) (y : Int32) : Int32 := if (p_X0_findOnlyWithBody h τ g γ n (msI h ((h 7 x) &&& (owI γ n (kyF true y)))) y) = (-4 : Int32) then (nI (192 + x)) else (if (p_X0_findOnlyWithBody h τ g γ n (msI h ((h 7 x) &&& (owI γ n (kyF true y)))) y) = (-2 : Int32) then (nI (448 + x)) else ((16 : Int32) + (p_X0_findOnlyWithBody h τ g γ n (msI h ((h 7 x) &&& (owI γ n (kyF true y)))) y)))
set_option maxHeartbeats 4000000 in
set_option maxRecDepth 100000 in
theorem c_X0_selectFromFaces (l : Launch) (D : va_G) (cI cZ cB cR : ClassId) (b : Nat) (aH aM : Nat → Nat) (h τ g γ : Nat → Nat → Int32) (n : Nat) (se : Int32) (x : Nat) (y : Int32) (okh : OKH h τ) (wf : WFT τ) (okm : OKM g γ n) (wm : WFM γ n) (hnx : x < 12)  : RO l yX0_selectFromFaces wsX0_selectFromFaces ({ frames := 3, cells := 0, slots := 0, locals := 71 } : Room) D cI cZ cB cR (wB cI b aH aM h g se) [.ref b, .int (nI x), .int y] (p_X0_selectFromFaces h τ g γ n x y) := by
  generalize hE : p_X0_selectFromFaces h τ g γ n x y = tgt
  refine Met.ofW (cc := cX0_selectFromFaces) (maxL := 5) (ret := (some .int)) (by decide) rfl ?_
  intro p e s m args below meth c s₁ B hml hv
  obtain ⟨hargs, hP, hEV⟩ := hv
  have hx := B.exec
  have hb := B.bytes
  have hr := B.returns
  have hts := atoms_spec (ws := wsX0_selectFromFaces) B.pre
  have hown : s.vm.findClass RX0 = some m.cls := findClass_of_methodNamed B.named
  have hlocks := B.notSynchronized
  have hK := hEV.1
  have hl := lv_entry ([.ref b, .int (nI x), .int y]) (n := 5) (Nat.le_of_ble_eq_true rfl)
  rw [show entryFrame m args 5 = entryFrame m ([.ref b, .int (nI x), .int y] : List Value).toArray 5 from by rw [hargs], lg_entry_eq]
  generalize (lg_sl ([.ref b, .int (nI x), .int y]) ++ List.replicate (5 - (lg_sl ([.ref b, .int (nI x), .int y])).length) Slot.unset).toArray = ls at hl ⊢
  have hl : lv_has ls 5 [(0, .ref b), (1, .int (nI x)), (2, .int y)] := hl
  rw [p_X0_selectFromFaces] at hE
  have hn30 := okm.2.1
  refine lv_aload_n hx hb dX0_selectFromFaces_0 rfl (lv_at hl 0 rfl) ?_
  refine va_get (D := D) (ci := 0) (v := .ref (aH 0)) (C := RX0) (T := TX0) (N := 3) hx hb hts (fun w9 h9 => List.mem_cons_of_mem _ (inT_X0 w9 h9)) hown hK hP 0 rfl rfl 0 (by decide) (hts (.fieldLink RX0 12 "LinkPredictor$Build" "types" "LLinkPredictor$Hierarchy;") (List.mem_cons_of_mem _ mw_1_128)) (fun _ h9 => h9) rfl dX0_selectFromFaces_1 ?_
  refine lv_iload_n hx hb dX0_selectFromFaces_4 rfl (lv_at hl 1 rfl) ?_
  refine ro_V [.int (nI x)] [] ⟨hx, hb, hml, hown, hts⟩ (c_X1_facesOf l D cI cZ cB cR aH h τ x okh (by omega)) (cwV (C := RX1) 1 hts (goodP (ps := [.methodLink RX0 142 yX1_facesOf, .instanceMethod yX1_facesOf, .selects RX1 yX1_facesOf yX1_facesOf, .initialized RX1]) (all4 mw_2_134 mw_2_135 mw_2_136 mw_1_3) mw_2_137) rfl rfl rfl (by decide +kernel) ⟨Nat.le_of_ble_eq_true rfl, Nat.le_of_ble_eq_true rfl⟩) hEV (wB_H hP) 0 rfl rfl rfl hl.1 rfl (Nat.le_of_ble_eq_true rfl) dX0_selectFromFaces_5 ⟨Nat.zero_le _, Nat.zero_le _⟩ ?_
  refine lv_aload_n hx hb dX0_selectFromFaces_8 rfl (lv_at hl 0 rfl) ?_
  refine va_get (D := D) (ci := 0) (v := .ref (aM 0)) (C := RX0) (T := TX0) (N := 3) hx hb hts (fun w9 h9 => List.mem_cons_of_mem _ (inT_X0 w9 h9)) hown hK hP 0 rfl rfl 1 (by decide) (hts (.fieldLink RX0 21 "LinkPredictor$Build" "members" "LLinkPredictor$Members;") (List.mem_cons_of_mem _ mw_1_130)) (fun _ h9 => h9) rfl dX0_selectFromFaces_9 ?_
  refine lv_iload_n hx hb dX0_selectFromFaces_12 rfl (lv_at hl 2 rfl) ?_
  refine ro_V [.int y] [.int (h 7 x)] ⟨hx, hb, hml, hown, hts⟩ (c_X2_ownersOfInheritable l D cI cZ cB cR aM g γ n y okm wm) (cwV (C := RX2) 1 hts (goodP (ps := [.methodLink RX0 145 yX2_ownersOfInheritable, .instanceMethod yX2_ownersOfInheritable, .selects RX2 yX2_ownersOfInheritable yX2_ownersOfInheritable, .initialized RX2]) (all4 mw_2_138 mw_2_139 mw_2_140 mw_1_4) mw_2_141) rfl rfl rfl (by decide +kernel) ⟨Nat.le_of_ble_eq_true rfl, Nat.le_of_ble_eq_true rfl⟩) hEV (wB_M hP) 0 rfl rfl rfl hl.1 rfl (Nat.le_of_ble_eq_true rfl) dX0_selectFromFaces_13 ⟨Nat.zero_le _, Nat.zero_le _⟩ ?_
  refine lv_iand hx hb dX0_selectFromFaces_16 ?_
  refine lv_istore_n (lv' := [(3, .int ((h 7 x) &&& (owI γ n (kyF true y)))), (0, .ref b), (1, .int (nI x)), (2, .int y)]) hx hb dX0_selectFromFaces_17 rfl hl (by decide) rfl (fun ls hl => ?_)
  refine lv_aload_n hx hb dX0_selectFromFaces_18 rfl (lv_at hl 1 rfl) ?_
  refine lv_aload_n hx hb dX0_selectFromFaces_19 rfl (lv_at hl 1 rfl) ?_
  refine va_get (D := D) (ci := 0) (v := .ref (aH 0)) (C := RX0) (T := TX0) (N := 3) hx hb hts (fun w9 h9 => List.mem_cons_of_mem _ (inT_X0 w9 h9)) hown hK hP 0 rfl rfl 0 (by decide) (hts (.fieldLink RX0 12 "LinkPredictor$Build" "types" "LLinkPredictor$Hierarchy;") (List.mem_cons_of_mem _ mw_1_128)) (fun _ h9 => h9) rfl dX0_selectFromFaces_20 ?_
  refine lv_iload_n hx hb dX0_selectFromFaces_23 rfl (lv_at hl 0 rfl) ?_
  refine ro_V [.int ((h 7 x) &&& (owI γ n (kyF true y)))] [.ref b] ⟨hx, hb, hml, hown, hts⟩ (c_X1_mostSpecificOf l D cI cZ cB cR aH h τ ((h 7 x) &&& (owI γ n (kyF true y))) okh) (cwV (C := RX1) 1 hts (goodP (ps := [.methodLink RX0 148 yX1_mostSpecificOf, .instanceMethod yX1_mostSpecificOf, .selects RX1 yX1_mostSpecificOf yX1_mostSpecificOf, .initialized RX1]) (all4 mw_2_146 mw_2_147 mw_2_148 mw_1_3) mw_2_149) rfl rfl rfl (by decide +kernel) ⟨Nat.le_of_ble_eq_true rfl, Nat.le_of_ble_eq_true rfl⟩) hEV (wB_H hP) 0 rfl rfl rfl hl.1 rfl (Nat.le_of_ble_eq_true rfl) dX0_selectFromFaces_24 ⟨Nat.zero_le _, Nat.zero_le _⟩ ?_
  refine lv_iload_n hx hb dX0_selectFromFaces_27 rfl (lv_at hl 3 rfl) ?_
  refine ro_V [.int (msI h ((h 7 x) &&& (owI γ n (kyF true y)))), .int y] [] ⟨hx, hb, hml, hown, hts⟩ (c_X0_findOnlyWithBody l D cI cZ cB cR b aH aM h τ g γ n se (msI h ((h 7 x) &&& (owI γ n (kyF true y)))) y okh wf okm wm ) (cwV (C := RX0) 2 hts (goodP (ps := [.methodLink RX0 151 yX0_findOnlyWithBody, .instanceMethod yX0_findOnlyWithBody, .selects RX0 yX0_findOnlyWithBody yX0_findOnlyWithBody, .initialized RX0]) (all4 mw_2_150 mw_2_152 ms_12 mw_1_2) mw_2_153) rfl rfl rfl (by decide +kernel) ⟨Nat.le_of_ble_eq_true rfl, Nat.le_of_ble_eq_true rfl⟩) hEV hP 0 rfl rfl rfl hl.1 rfl (Nat.le_of_ble_eq_true rfl) dX0_selectFromFaces_28 ⟨Nat.zero_le _, Nat.zero_le _⟩ ?_
  refine lv_istore (lv' := [(4, .int (p_X0_findOnlyWithBody h τ g γ n (msI h ((h 7 x) &&& (owI γ n (kyF true y)))) y)), (3, .int ((h 7 x) &&& (owI γ n (kyF true y)))), (0, .ref b), (1, .int (nI x)), (2, .int y)]) hx hb dX0_selectFromFaces_31 hl (by decide) rfl (fun ls hl => ?_)
  refine lv_iload hx hb dX0_selectFromFaces_33 (lv_at hl 0 rfl) ?_
  refine lv_bipush (v := (-4 : Int32)) hx hb dX0_selectFromFaces_35 (by decide) ?_
  refine lv_icmp_ne (tgt := 46) hx hb dX0_selectFromFaces_37 (by decide) (fun c_37 => ?_) (fun c_37 => ?_)
  · skip
    have hE := (if_neg c_37).symm.trans hE
    refine lv_iload hx hb dX0_selectFromFaces_46 (lv_at hl 0 rfl) ?_
    refine lv_bipush (v := (-2 : Int32)) hx hb dX0_selectFromFaces_48 (by decide) ?_
    refine lv_icmp_ne (tgt := 61) hx hb dX0_selectFromFaces_50 (by decide) (fun c_50 => ?_) (fun c_50 => ?_)
    · skip
      have hE := (if_neg c_50).symm.trans hE
      refine lv_bipush (v := (16 : Int32)) hx hb dX0_selectFromFaces_61 (by decide) ?_
      refine lv_iload hx hb dX0_selectFromFaces_63 (lv_at hl 0 rfl) ?_
      refine lv_iadd hx hb dX0_selectFromFaces_65 ?_
      exact W.iret hx hb hr (fun t9 ht9 _ => ⟨_, rfl, hE, ht9⟩) (fun _ h9 => by cases h9) dX0_selectFromFaces_66
    · skip
      have hE := (if_pos c_50).symm.trans hE
      refine lv_sipush (v := (448 : Int32)) hx hb dX0_selectFromFaces_53 (by decide) ?_
      refine lv_iload_n hx hb dX0_selectFromFaces_56 rfl (lv_at hl 3 rfl) ?_
      refine lv_iadd hx hb dX0_selectFromFaces_57 ?_
      refine top_eq (nI_add 448 x) ?_
      refine lv_goto (tgt := 66) hx hb dX0_selectFromFaces_58 (by decide) ?_
      exact W.iret hx hb hr (fun t9 ht9 _ => ⟨_, rfl, hE, ht9⟩) (fun _ h9 => by cases h9) dX0_selectFromFaces_66
  · skip
    have hE := (if_pos c_37).symm.trans hE
    refine lv_sipush (v := (192 : Int32)) hx hb dX0_selectFromFaces_40 (by decide) ?_
    refine lv_iload_n hx hb dX0_selectFromFaces_43 rfl (lv_at hl 3 rfl) ?_
    refine lv_iadd hx hb dX0_selectFromFaces_44 ?_
    refine top_eq (nI_add 192 x) ?_
    exact W.iret hx hb hr (fun t9 ht9 _ => ⟨_, rfl, hE, ht9⟩) (fun _ h9 => by cases h9) dX0_selectFromFaces_45
noncomputable def p_X0_isInherited (h τ g γ : Nat → Nat → Int32) (n : Nat) (x : Nat) (y : Nat) (z : Nat) : Int32 := if (abB τ z (sN (γ 0 x))) = true then (if (bt (γ 3 x) 0) = true then ((1 : Int32)) else (if (abB τ y z || fcB τ y z) = true then ((1 : Int32)) else (if (abB τ z y || fcB τ z y) = true then ((1 : Int32)) else ((0 : Int32))))) else ((0 : Int32))

set_option maxHeartbeats 4000000 in
set_option maxRecDepth 100000 in
theorem c_X0_isInherited (l : Launch) (D : va_G) (cI cZ cB cR : ClassId) (b : Nat) (aH aM : Nat → Nat) (h τ g γ : Nat → Nat → Int32) (n : Nat) (se : Int32) (x : Nat) (y : Nat) (z : Nat) (okh : OKH h τ) (wf : WFT τ) (okm : OKM g γ n) (wm : WFM γ n) (hnx : x < n) (hny : y < 12) (hnz : z < 12) (gy : Gd τ y) (gz : Gd τ z) : RO l yX0_isInherited wsX0_isInherited ({ frames := 2, cells := 0, slots := 0, locals := 43 } : Room) D cI cZ cB cR (wB cI b aH aM h g se) [.ref b, .int (nI x), .int (nI y), .int (nI z)] (p_X0_isInherited h τ g γ n x y z) := by
  generalize hE : p_X0_isInherited h τ g γ n x y z = tgt
  refine Met.ofW (cc := cX0_isInherited) (maxL := 4) (ret := (some .boolean)) (by decide) rfl ?_
  intro p e s m args below meth c s₁ B hml hv
  obtain ⟨hargs, hP, hEV⟩ := hv
  have hx := B.exec
  have hb := B.bytes
  have hr := B.returns
  have hts := atoms_spec (ws := wsX0_isInherited) B.pre
  have hown : s.vm.findClass RX0 = some m.cls := findClass_of_methodNamed B.named
  have hlocks := B.notSynchronized
  have hK := hEV.1
  have hl := lv_entry ([.ref b, .int (nI x), .int (nI y), .int (nI z)]) (n := 4) (Nat.le_of_ble_eq_true rfl)
  rw [show entryFrame m args 4 = entryFrame m ([.ref b, .int (nI x), .int (nI y), .int (nI z)] : List Value).toArray 4 from by rw [hargs], lg_entry_eq]
  generalize (lg_sl ([.ref b, .int (nI x), .int (nI y), .int (nI z)]) ++ List.replicate (4 - (lg_sl ([.ref b, .int (nI x), .int (nI y), .int (nI z)])).length) Slot.unset).toArray = ls at hl ⊢
  have hl : lv_has ls 4 [(0, .ref b), (1, .int (nI x)), (2, .int (nI y)), (3, .int (nI z))] := hl
  rw [p_X0_isInherited] at hE
  have hn30 := okm.2.1
  have ho1 := (wm x hnx).1
  refine lv_aload_n hx hb dX0_isInherited_0 rfl (lv_at hl 0 rfl) ?_
  refine va_get (D := D) (ci := 0) (v := .ref (aH 0)) (C := RX0) (T := TX0) (N := 3) hx hb hts (fun w9 h9 => List.mem_cons_of_mem _ (inT_X0 w9 h9)) hown hK hP 0 rfl rfl 0 (by decide) (hts (.fieldLink RX0 12 "LinkPredictor$Build" "types" "LLinkPredictor$Hierarchy;") (List.mem_cons_of_mem _ mw_1_128)) (fun _ h9 => h9) rfl dX0_isInherited_1 ?_
  refine lv_iload_n hx hb dX0_isInherited_4 rfl (lv_at hl 3 rfl) ?_
  refine lv_aload_n hx hb dX0_isInherited_5 rfl (lv_at hl 0 rfl) ?_
  refine va_get (D := D) (ci := 0) (v := .ref (aM 0)) (C := RX0) (T := TX0) (N := 3) hx hb hts (fun w9 h9 => List.mem_cons_of_mem _ (inT_X0 w9 h9)) hown hK hP 0 rfl rfl 1 (by decide) (hts (.fieldLink RX0 21 "LinkPredictor$Build" "members" "LLinkPredictor$Members;") (List.mem_cons_of_mem _ mw_1_130)) (fun _ h9 => h9) rfl dX0_isInherited_6 ?_
  refine lv_iload_n hx hb dX0_isInherited_9 rfl (lv_at hl 1 rfl) ?_
  refine ro_V [.int (nI x)] [.int (nI z), .ref (aH 0)] ⟨hx, hb, hml, hown, hts⟩ (c_X2_ownerOf l D cI cZ cB cR aM g γ n x okm (by omega)) (cwV (C := RX2) 1 hts (goodP (ps := [.methodLink RX0 178 yX2_ownerOf, .instanceMethod yX2_ownerOf, .selects RX2 yX2_ownerOf yX2_ownerOf, .initialized RX2]) (all4 mw_2_173 mw_2_174 mw_2_175 mw_1_4) mw_2_176) rfl rfl rfl (by decide +kernel) ⟨Nat.le_of_ble_eq_true rfl, Nat.le_of_ble_eq_true rfl⟩) hEV (wB_M hP) 0 rfl rfl rfl hl.1 rfl (Nat.le_of_ble_eq_true rfl) dX0_isInherited_10 ⟨Nat.zero_le _, Nat.zero_le _⟩ ?_
  refine top_eq ((wm x hnx).2) ?_
  refine ro_V [.int (nI z), .int (nI (sN (γ 0 x)))] [] ⟨hx, hb, hml, hown, hts⟩ (c_X1_hasAbove l D cI cZ cB cR aH h τ z (sN (γ 0 x)) okh gz (by omega) (by omega)) (cwV (C := RX1) 2 hts (goodP (ps := [.methodLink RX0 193 yX1_hasAbove, .instanceMethod yX1_hasAbove, .selects RX1 yX1_hasAbove yX1_hasAbove, .initialized RX1]) (all4 mw_2_182 mw_2_183 mw_2_184 mw_1_3) mw_2_185) rfl rfl rfl (by decide +kernel) ⟨Nat.le_of_ble_eq_true rfl, Nat.le_of_ble_eq_true rfl⟩) hEV (wB_H hP) 0 rfl rfl rfl hl.1 rfl (Nat.le_of_ble_eq_true rfl) dX0_isInherited_13 ⟨Nat.zero_le _, Nat.zero_le _⟩ ?_
  refine lv_if_eq (tgt := 58) hx hb dX0_isInherited_16 (by decide) (fun c_16 => ?_) (fun c_16 => ?_)
  · have c_16 : ¬ ((abB τ z (sN (γ 0 x))) = true) := b2i_f c_16
    have hE := (if_neg c_16).symm.trans hE
    refine lv_iconst (v := (0 : Int32)) hx hb dX0_isInherited_58 (by decide) ?_
    exact W.zret hx hb hr rfl (fun t9 ht9 _ => ⟨_, rfl, hE, ht9⟩) (fun _ h9 => by cases h9) dX0_isInherited_59
  · have c_16 : (abB τ z (sN (γ 0 x))) = true := b2i_t c_16
    have hE := (if_pos c_16).symm.trans hE
    refine lv_aload_n hx hb dX0_isInherited_19 rfl (lv_at hl 0 rfl) ?_
    refine va_get (D := D) (ci := 0) (v := .ref (aM 0)) (C := RX0) (T := TX0) (N := 3) hx hb hts (fun w9 h9 => List.mem_cons_of_mem _ (inT_X0 w9 h9)) hown hK hP 0 rfl rfl 1 (by decide) (hts (.fieldLink RX0 21 "LinkPredictor$Build" "members" "LLinkPredictor$Members;") (List.mem_cons_of_mem _ mw_1_130)) (fun _ h9 => h9) rfl dX0_isInherited_20 ?_
    refine lv_iload_n hx hb dX0_isInherited_23 rfl (lv_at hl 1 rfl) ?_
    refine ro_V [.int (nI x)] [] ⟨hx, hb, hml, hown, hts⟩ (c_X2_isStatic l D cI cZ cB cR aM g γ n x okm (by omega)) (cwV (C := RX2) 1 hts (goodP (ps := [.methodLink RX0 139 yX2_isStatic, .instanceMethod yX2_isStatic, .selects RX2 yX2_isStatic yX2_isStatic, .initialized RX2]) (all4 mw_2_122 mw_2_123 mw_2_124 mw_1_4) mw_2_125) rfl rfl rfl (by decide +kernel) ⟨Nat.le_of_ble_eq_true rfl, Nat.le_of_ble_eq_true rfl⟩) hEV (wB_M hP) 0 rfl rfl rfl hl.1 rfl (Nat.le_of_ble_eq_true rfl) dX0_isInherited_24 ⟨Nat.zero_le _, Nat.zero_le _⟩ ?_
    refine lv_if_ne (tgt := 54) hx hb dX0_isInherited_27 (by decide) (fun c_27 => ?_) (fun c_27 => ?_)
    · have c_27 : (bt (γ 3 x) 0) = true := b2i_t c_27
      have hE := (if_pos c_27).symm.trans hE
      refine lv_iconst (v := (1 : Int32)) hx hb dX0_isInherited_54 (by decide) ?_
      refine lv_goto (tgt := 59) hx hb dX0_isInherited_55 (by decide) ?_
      exact W.zret hx hb hr rfl (fun t9 ht9 _ => ⟨_, rfl, hE, ht9⟩) (fun _ h9 => by cases h9) dX0_isInherited_59
    · have c_27 : ¬ ((bt (γ 3 x) 0) = true) := b2i_f c_27
      have hE := (if_neg c_27).symm.trans hE
      refine lv_aload_n hx hb dX0_isInherited_30 rfl (lv_at hl 0 rfl) ?_
      refine va_get (D := D) (ci := 0) (v := .ref (aH 0)) (C := RX0) (T := TX0) (N := 3) hx hb hts (fun w9 h9 => List.mem_cons_of_mem _ (inT_X0 w9 h9)) hown hK hP 0 rfl rfl 0 (by decide) (hts (.fieldLink RX0 12 "LinkPredictor$Build" "types" "LLinkPredictor$Hierarchy;") (List.mem_cons_of_mem _ mw_1_128)) (fun _ h9 => h9) rfl dX0_isInherited_31 ?_
      refine lv_iload_n hx hb dX0_isInherited_34 rfl (lv_at hl 2 rfl) ?_
      refine lv_iload_n hx hb dX0_isInherited_35 rfl (lv_at hl 3 rfl) ?_
      refine ro_V [.int (nI y), .int (nI z)] [] ⟨hx, hb, hml, hown, hts⟩ (c_X1_liesUnder l D cI cZ cB cR aH h τ y z okh gy (by omega) (by omega)) (cwV (C := RX1) 2 hts (goodP (ps := [.methodLink RX0 181 yX1_liesUnder, .instanceMethod yX1_liesUnder, .selects RX1 yX1_liesUnder yX1_liesUnder, .initialized RX1]) (all4 mw_2_186 mw_2_187 mw_2_188 mw_1_3) mw_2_189) rfl rfl rfl (by decide +kernel) ⟨Nat.le_of_ble_eq_true rfl, Nat.le_of_ble_eq_true rfl⟩) hEV (wB_H hP) 0 rfl rfl rfl hl.1 rfl (Nat.le_of_ble_eq_true rfl) dX0_isInherited_36 ⟨Nat.zero_le _, Nat.zero_le _⟩ ?_
      refine lv_if_ne (tgt := 54) hx hb dX0_isInherited_39 (by decide) (fun c_39 => ?_) (fun c_39 => ?_)
      · have c_39 : (abB τ y z || fcB τ y z) = true := b2i_t c_39
        have hE := (if_pos c_39).symm.trans hE
        refine lv_iconst (v := (1 : Int32)) hx hb dX0_isInherited_54 (by decide) ?_
        refine lv_goto (tgt := 59) hx hb dX0_isInherited_55 (by decide) ?_
        exact W.zret hx hb hr rfl (fun t9 ht9 _ => ⟨_, rfl, hE, ht9⟩) (fun _ h9 => by cases h9) dX0_isInherited_59
      · have c_39 : ¬ ((abB τ y z || fcB τ y z) = true) := b2i_f c_39
        have hE := (if_neg c_39).symm.trans hE
        refine lv_aload_n hx hb dX0_isInherited_42 rfl (lv_at hl 0 rfl) ?_
        refine va_get (D := D) (ci := 0) (v := .ref (aH 0)) (C := RX0) (T := TX0) (N := 3) hx hb hts (fun w9 h9 => List.mem_cons_of_mem _ (inT_X0 w9 h9)) hown hK hP 0 rfl rfl 0 (by decide) (hts (.fieldLink RX0 12 "LinkPredictor$Build" "types" "LLinkPredictor$Hierarchy;") (List.mem_cons_of_mem _ mw_1_128)) (fun _ h9 => h9) rfl dX0_isInherited_43 ?_
        refine lv_iload_n hx hb dX0_isInherited_46 rfl (lv_at hl 3 rfl) ?_
        refine lv_iload_n hx hb dX0_isInherited_47 rfl (lv_at hl 2 rfl) ?_
        refine ro_V [.int (nI z), .int (nI y)] [] ⟨hx, hb, hml, hown, hts⟩ (c_X1_liesUnder l D cI cZ cB cR aH h τ z y okh gz (by omega) (by omega)) (cwV (C := RX1) 2 hts (goodP (ps := [.methodLink RX0 181 yX1_liesUnder, .instanceMethod yX1_liesUnder, .selects RX1 yX1_liesUnder yX1_liesUnder, .initialized RX1]) (all4 mw_2_186 mw_2_187 mw_2_188 mw_1_3) mw_2_189) rfl rfl rfl (by decide +kernel) ⟨Nat.le_of_ble_eq_true rfl, Nat.le_of_ble_eq_true rfl⟩) hEV (wB_H hP) 0 rfl rfl rfl hl.1 rfl (Nat.le_of_ble_eq_true rfl) dX0_isInherited_48 ⟨Nat.zero_le _, Nat.zero_le _⟩ ?_
        refine lv_if_eq (tgt := 58) hx hb dX0_isInherited_51 (by decide) (fun c_51 => ?_) (fun c_51 => ?_)
        · have c_51 : ¬ ((abB τ z y || fcB τ z y) = true) := b2i_f c_51
          have hE := (if_neg c_51).symm.trans hE
          refine lv_iconst (v := (0 : Int32)) hx hb dX0_isInherited_58 (by decide) ?_
          exact W.zret hx hb hr rfl (fun t9 ht9 _ => ⟨_, rfl, hE, ht9⟩) (fun _ h9 => by cases h9) dX0_isInherited_59
        · have c_51 : (abB τ z y || fcB τ z y) = true := b2i_t c_51
          have hE := (if_pos c_51).symm.trans hE
          refine lv_iconst (v := (1 : Int32)) hx hb dX0_isInherited_54 (by decide) ?_
          refine lv_goto (tgt := 59) hx hb dX0_isInherited_55 (by decide) ?_
          exact W.zret hx hb hr rfl (fun t9 ht9 _ => ⟨_, rfl, hE, ht9⟩) (fun _ h9 => by cases h9) dX0_isInherited_59
noncomputable def p_X0_isAccessible (h τ g γ : Nat → Nat → Int32) (n : Nat) (x : Nat) (y : Nat) (z : Nat) : Int32 := if γ 2 x = 1 then (b2i (decide (τ 2 (sN (γ 0 x)) = τ 2 z))) else (if γ 2 x = 2 then (if (decide (τ 2 (sN (γ 0 x)) = τ 2 z)) = true then ((1 : Int32)) else (if (p_X0_isInherited h τ g γ n x y z) = (0 : Int32) then ((0 : Int32)) else ((1 : Int32)))) else (if γ 2 x = 3 then ((1 : Int32)) else (if (nsN τ (sN (γ 0 x))) = (nsN τ z) then ((1 : Int32)) else ((0 : Int32)))))

set_option maxHeartbeats 4000000 in
set_option maxRecDepth 100000 in
theorem c_X0_isAccessible (l : Launch) (D : va_G) (cI cZ cB cR : ClassId) (b : Nat) (aH aM : Nat → Nat) (h τ g γ : Nat → Nat → Int32) (n : Nat) (se : Int32) (x : Nat) (y : Nat) (z : Nat) (okh : OKH h τ) (wf : WFT τ) (okm : OKM g γ n) (wm : WFM γ n) (hnx : x < n) (hny : y < 12) (hnz : z < 12) (gy : Gd τ y) (gz : Gd τ z) : RO l yX0_isAccessible wsX0_isAccessible ({ frames := 3, cells := 0, slots := 0, locals := 66 } : Room) D cI cZ cB cR (wB cI b aH aM h g se) [.ref b, .int (nI x), .int (nI y), .int (nI z)] (p_X0_isAccessible h τ g γ n x y z) := by
  generalize hE : p_X0_isAccessible h τ g γ n x y z = tgt
  refine Met.ofW (cc := cX0_isAccessible) (maxL := 5) (ret := (some .boolean)) (by decide) rfl ?_
  intro p e s m args below meth c s₁ B hml hv
  obtain ⟨hargs, hP, hEV⟩ := hv
  have hx := B.exec
  have hb := B.bytes
  have hr := B.returns
  have hts := atoms_spec (ws := wsX0_isAccessible) B.pre
  have hown : s.vm.findClass RX0 = some m.cls := findClass_of_methodNamed B.named
  have hlocks := B.notSynchronized
  have hK := hEV.1
  have hl := lv_entry ([.ref b, .int (nI x), .int (nI y), .int (nI z)]) (n := 5) (Nat.le_of_ble_eq_true rfl)
  rw [show entryFrame m args 5 = entryFrame m ([.ref b, .int (nI x), .int (nI y), .int (nI z)] : List Value).toArray 5 from by rw [hargs], lg_entry_eq]
  generalize (lg_sl ([.ref b, .int (nI x), .int (nI y), .int (nI z)]) ++ List.replicate (5 - (lg_sl ([.ref b, .int (nI x), .int (nI y), .int (nI z)])).length) Slot.unset).toArray = ls at hl ⊢
  have hl : lv_has ls 5 [(0, .ref b), (1, .int (nI x)), (2, .int (nI y)), (3, .int (nI z))] := hl
  rw [p_X0_isAccessible] at hE
  have hn30 := okm.2.1
  have ho1 := (wm x hnx).1
  have hz1 := nsN_lt wf ho1
  have hz2 := nsN_lt wf hnz
  refine lv_aload_n hx hb dX0_isAccessible_0 rfl (lv_at hl 0 rfl) ?_
  refine va_get (D := D) (ci := 0) (v := .ref (aM 0)) (C := RX0) (T := TX0) (N := 3) hx hb hts (fun w9 h9 => List.mem_cons_of_mem _ (inT_X0 w9 h9)) hown hK hP 0 rfl rfl 1 (by decide) (hts (.fieldLink RX0 21 "LinkPredictor$Build" "members" "LLinkPredictor$Members;") (List.mem_cons_of_mem _ mw_1_130)) (fun _ h9 => h9) rfl dX0_isAccessible_1 ?_
  refine lv_iload_n hx hb dX0_isAccessible_4 rfl (lv_at hl 1 rfl) ?_
  refine ro_V [.int (nI x)] [] ⟨hx, hb, hml, hown, hts⟩ (c_X2_ownerOf l D cI cZ cB cR aM g γ n x okm (by omega)) (cwV (C := RX2) 1 hts (goodP (ps := [.methodLink RX0 178 yX2_ownerOf, .instanceMethod yX2_ownerOf, .selects RX2 yX2_ownerOf yX2_ownerOf, .initialized RX2]) (all4 mw_2_173 mw_2_174 mw_2_175 mw_1_4) mw_2_176) rfl rfl rfl (by decide +kernel) ⟨Nat.le_of_ble_eq_true rfl, Nat.le_of_ble_eq_true rfl⟩) hEV (wB_M hP) 0 rfl rfl rfl hl.1 rfl (Nat.le_of_ble_eq_true rfl) dX0_isAccessible_5 ⟨Nat.zero_le _, Nat.zero_le _⟩ ?_
  refine top_eq ((wm x hnx).2) ?_
  refine lv_istore (lv' := [(4, .int (nI (sN (γ 0 x)))), (0, .ref b), (1, .int (nI x)), (2, .int (nI y)), (3, .int (nI z))]) hx hb dX0_isAccessible_8 hl (by decide) rfl (fun ls hl => ?_)
  refine lv_aload_n hx hb dX0_isAccessible_10 rfl (lv_at hl 1 rfl) ?_
  refine va_get (D := D) (ci := 0) (v := .ref (aM 0)) (C := RX0) (T := TX0) (N := 3) hx hb hts (fun w9 h9 => List.mem_cons_of_mem _ (inT_X0 w9 h9)) hown hK hP 0 rfl rfl 1 (by decide) (hts (.fieldLink RX0 21 "LinkPredictor$Build" "members" "LLinkPredictor$Members;") (List.mem_cons_of_mem _ mw_1_130)) (fun _ h9 => h9) rfl dX0_isAccessible_11 ?_
  refine lv_iload_n hx hb dX0_isAccessible_14 rfl (lv_at hl 2 rfl) ?_
  refine ro_V [.int (nI x)] [] ⟨hx, hb, hml, hown, hts⟩ (c_X2_accessOf l D cI cZ cB cR aM g γ n x okm (by omega)) (cwV (C := RX2) 1 hts (goodP (ps := [.methodLink RX0 96 yX2_accessOf, .instanceMethod yX2_accessOf, .selects RX2 yX2_accessOf yX2_accessOf, .initialized RX2]) (all4 mw_2_118 mw_2_119 mw_2_120 mw_1_4) mw_2_121) rfl rfl rfl (by decide +kernel) ⟨Nat.le_of_ble_eq_true rfl, Nat.le_of_ble_eq_true rfl⟩) hEV (wB_M hP) 0 rfl rfl rfl hl.1 rfl (Nat.le_of_ble_eq_true rfl) dX0_isAccessible_15 ⟨Nat.zero_le _, Nat.zero_le _⟩ ?_
  by_cases q_1 : γ 2 x = 1
  · have hE := (if_pos q_1).symm.trans hE
    refine lv_tableIn (off := 57) (tgt := 75) hx hb dX0_isAccessible_18 (by rw [q_1]; decide) (by rw [q_1]; decide) (by rw [q_1]; rfl) (by decide) ?_
    refine lv_aload_n hx hb dX0_isAccessible_75 rfl (lv_at hl 1 rfl) ?_
    refine va_get (D := D) (ci := 0) (v := .ref (aH 0)) (C := RX0) (T := TX0) (N := 3) hx hb hts (fun w9 h9 => List.mem_cons_of_mem _ (inT_X0 w9 h9)) hown hK hP 0 rfl rfl 0 (by decide) (hts (.fieldLink RX0 12 "LinkPredictor$Build" "types" "LLinkPredictor$Hierarchy;") (List.mem_cons_of_mem _ mw_1_128)) (fun _ h9 => h9) rfl dX0_isAccessible_76 ?_
    refine lv_iload hx hb dX0_isAccessible_79 (lv_at hl 0 rfl) ?_
    refine lv_iload_n hx hb dX0_isAccessible_81 rfl (lv_at hl 4 rfl) ?_
    refine ro_V [.int (nI (sN (γ 0 x))), .int (nI z)] [] ⟨hx, hb, hml, hown, hts⟩ (c_X1_isSamePackage l D cI cZ cB cR aH h τ (sN (γ 0 x)) z okh.b (by omega) (by omega)) (cwV (C := RX1) 2 hts (goodP (ps := [.methodLink RX0 184 yX1_isSamePackage, .instanceMethod yX1_isSamePackage, .selects RX1 yX1_isSamePackage yX1_isSamePackage, .initialized RX1]) (all4 mw_2_177 mw_2_84 mw_2_85 mw_1_3) mw_2_86) rfl rfl rfl (by decide +kernel) ⟨Nat.le_of_ble_eq_true rfl, Nat.le_of_ble_eq_true rfl⟩) hEV (wB_H hP) 0 rfl rfl rfl hl.1 rfl (Nat.le_of_ble_eq_true rfl) dX0_isAccessible_82 ⟨Nat.zero_le _, Nat.zero_le _⟩ ?_
    exact W.zret hx hb hr (b2i_nar _) (fun t9 ht9 _ => ⟨_, rfl, hE, ht9⟩) (fun _ h9 => by cases h9) dX0_isAccessible_85
  · have hE := (if_neg q_1).symm.trans hE
    by_cases q_2 : γ 2 x = 2
    · have hE := (if_pos q_2).symm.trans hE
      refine lv_tableIn (off := 28) (tgt := 46) hx hb dX0_isAccessible_18 (by rw [q_2]; decide) (by rw [q_2]; decide) (by rw [q_2]; rfl) (by decide) ?_
      refine lv_aload_n hx hb dX0_isAccessible_46 rfl (lv_at hl 1 rfl) ?_
      refine va_get (D := D) (ci := 0) (v := .ref (aH 0)) (C := RX0) (T := TX0) (N := 3) hx hb hts (fun w9 h9 => List.mem_cons_of_mem _ (inT_X0 w9 h9)) hown hK hP 0 rfl rfl 0 (by decide) (hts (.fieldLink RX0 12 "LinkPredictor$Build" "types" "LLinkPredictor$Hierarchy;") (List.mem_cons_of_mem _ mw_1_128)) (fun _ h9 => h9) rfl dX0_isAccessible_47 ?_
      refine lv_iload hx hb dX0_isAccessible_50 (lv_at hl 0 rfl) ?_
      refine lv_iload_n hx hb dX0_isAccessible_52 rfl (lv_at hl 4 rfl) ?_
      refine ro_V [.int (nI (sN (γ 0 x))), .int (nI z)] [] ⟨hx, hb, hml, hown, hts⟩ (c_X1_isSamePackage l D cI cZ cB cR aH h τ (sN (γ 0 x)) z okh.b (by omega) (by omega)) (cwV (C := RX1) 2 hts (goodP (ps := [.methodLink RX0 184 yX1_isSamePackage, .instanceMethod yX1_isSamePackage, .selects RX1 yX1_isSamePackage yX1_isSamePackage, .initialized RX1]) (all4 mw_2_177 mw_2_84 mw_2_85 mw_1_3) mw_2_86) rfl rfl rfl (by decide +kernel) ⟨Nat.le_of_ble_eq_true rfl, Nat.le_of_ble_eq_true rfl⟩) hEV (wB_H hP) 0 rfl rfl rfl hl.1 rfl (Nat.le_of_ble_eq_true rfl) dX0_isAccessible_53 ⟨Nat.zero_le _, Nat.zero_le _⟩ ?_
      refine lv_if_ne (tgt := 69) hx hb dX0_isAccessible_56 (by decide) (fun c_56 => ?_) (fun c_56 => ?_)
      · have c_56 : (decide (τ 2 (sN (γ 0 x)) = τ 2 z)) = true := b2i_t c_56
        have hE := (if_pos c_56).symm.trans hE
        refine lv_iconst (v := (1 : Int32)) hx hb dX0_isAccessible_69 (by decide) ?_
        refine lv_goto (tgt := 74) hx hb dX0_isAccessible_70 (by decide) ?_
        exact W.zret hx hb hr rfl (fun t9 ht9 _ => ⟨_, rfl, hE, ht9⟩) (fun _ h9 => by cases h9) dX0_isAccessible_74
      · have c_56 : ¬ ((decide (τ 2 (sN (γ 0 x)) = τ 2 z)) = true) := b2i_f c_56
        have hE := (if_neg c_56).symm.trans hE
        refine lv_aload_n hx hb dX0_isAccessible_59 rfl (lv_at hl 1 rfl) ?_
        refine lv_iload_n hx hb dX0_isAccessible_60 rfl (lv_at hl 2 rfl) ?_
        refine lv_iload_n hx hb dX0_isAccessible_61 rfl (lv_at hl 3 rfl) ?_
        refine lv_iload_n hx hb dX0_isAccessible_62 rfl (lv_at hl 4 rfl) ?_
        refine ro_V [.int (nI x), .int (nI y), .int (nI z)] [] ⟨hx, hb, hml, hown, hts⟩ (c_X0_isInherited l D cI cZ cB cR b aH aM h τ g γ n se x y z okh wf okm wm (by omega) (by omega) (by omega) gy gz) (cwV (C := RX0) 3 hts (goodP (ps := [.methodLink RX0 187 yX0_isInherited, .instanceMethod yX0_isInherited, .selects RX0 yX0_isInherited yX0_isInherited, .initialized RX0]) (all4 mw_2_178 mw_2_180 ms_16 mw_1_2) mw_2_181) rfl rfl rfl (by decide +kernel) ⟨Nat.le_of_ble_eq_true rfl, Nat.le_of_ble_eq_true rfl⟩) hEV hP 0 rfl rfl rfl hl.1 rfl (Nat.le_of_ble_eq_true rfl) dX0_isAccessible_63 ⟨Nat.zero_le _, Nat.zero_le _⟩ ?_
        refine lv_if_eq (tgt := 73) hx hb dX0_isAccessible_66 (by decide) (fun c_66 => ?_) (fun c_66 => ?_)
        · skip
          have hE := (if_pos c_66).symm.trans hE
          refine lv_iconst (v := (0 : Int32)) hx hb dX0_isAccessible_73 (by decide) ?_
          exact W.zret hx hb hr rfl (fun t9 ht9 _ => ⟨_, rfl, hE, ht9⟩) (fun _ h9 => by cases h9) dX0_isAccessible_74
        · skip
          have hE := (if_neg c_66).symm.trans hE
          refine lv_iconst (v := (1 : Int32)) hx hb dX0_isAccessible_69 (by decide) ?_
          refine lv_goto (tgt := 74) hx hb dX0_isAccessible_70 (by decide) ?_
          exact W.zret hx hb hr rfl (fun t9 ht9 _ => ⟨_, rfl, hE, ht9⟩) (fun _ h9 => by cases h9) dX0_isAccessible_74
    · have hE := (if_neg q_2).symm.trans hE
      by_cases q_3 : γ 2 x = 3
      · have hE := (if_pos q_3).symm.trans hE
        refine lv_tableIn (off := 26) (tgt := 44) hx hb dX0_isAccessible_18 (by rw [q_3]; decide) (by rw [q_3]; decide) (by rw [q_3]; rfl) (by decide) ?_
        refine lv_iconst (v := (1 : Int32)) hx hb dX0_isAccessible_44 (by decide) ?_
        exact W.zret hx hb hr rfl (fun t9 ht9 _ => ⟨_, rfl, hE, ht9⟩) (fun _ h9 => by cases h9) dX0_isAccessible_45
      · have hE := (if_neg q_3).symm.trans hE
        have z_1 : ¬ (γ 2 x).toInt = 1 := lv_neT q_1 rfl
        have z_2 : ¬ (γ 2 x).toInt = 2 := lv_neT q_2 rfl
        have z_3 : ¬ (γ 2 x).toInt = 3 := lv_neT q_3 rfl
        refine lv_tableOut (tgt := 86) hx hb dX0_isAccessible_18 (by omega) (by decide) ?_
        refine lv_aload_n hx hb dX0_isAccessible_86 rfl (lv_at hl 1 rfl) ?_
        refine va_get (D := D) (ci := 0) (v := .ref (aH 0)) (C := RX0) (T := TX0) (N := 3) hx hb hts (fun w9 h9 => List.mem_cons_of_mem _ (inT_X0 w9 h9)) hown hK hP 0 rfl rfl 0 (by decide) (hts (.fieldLink RX0 12 "LinkPredictor$Build" "types" "LLinkPredictor$Hierarchy;") (List.mem_cons_of_mem _ mw_1_128)) (fun _ h9 => h9) rfl dX0_isAccessible_87 ?_
        refine lv_iload hx hb dX0_isAccessible_90 (lv_at hl 0 rfl) ?_
        refine ro_V [.int (nI (sN (γ 0 x)))] [] ⟨hx, hb, hml, hown, hts⟩ (c_X1_nestOf l D cI cZ cB cR aH h τ (sN (γ 0 x)) okh.b wf (by omega)) (cwV (C := RX1) 1 hts (goodP (ps := [.methodLink RX0 190 yX1_nestOf, .instanceMethod yX1_nestOf, .selects RX1 yX1_nestOf yX1_nestOf, .initialized RX1]) (all4 mw_2_190 mw_2_191 mw_2_192 mw_1_3) mw_2_193) rfl rfl rfl (by decide +kernel) ⟨Nat.le_of_ble_eq_true rfl, Nat.le_of_ble_eq_true rfl⟩) hEV (wB_H hP) 0 rfl rfl rfl hl.1 rfl (Nat.le_of_ble_eq_true rfl) dX0_isAccessible_92 ⟨Nat.zero_le _, Nat.zero_le _⟩ ?_
        refine lv_aload_n hx hb dX0_isAccessible_95 rfl (lv_at hl 1 rfl) ?_
        refine va_get (D := D) (ci := 0) (v := .ref (aH 0)) (C := RX0) (T := TX0) (N := 3) hx hb hts (fun w9 h9 => List.mem_cons_of_mem _ (inT_X0 w9 h9)) hown hK hP 0 rfl rfl 0 (by decide) (hts (.fieldLink RX0 12 "LinkPredictor$Build" "types" "LLinkPredictor$Hierarchy;") (List.mem_cons_of_mem _ mw_1_128)) (fun _ h9 => h9) rfl dX0_isAccessible_96 ?_
        refine lv_iload_n hx hb dX0_isAccessible_99 rfl (lv_at hl 4 rfl) ?_
        refine ro_V [.int (nI z)] [.int (nI (nsN τ (sN (γ 0 x))))] ⟨hx, hb, hml, hown, hts⟩ (c_X1_nestOf l D cI cZ cB cR aH h τ z okh.b wf (by omega)) (cwV (C := RX1) 1 hts (goodP (ps := [.methodLink RX0 190 yX1_nestOf, .instanceMethod yX1_nestOf, .selects RX1 yX1_nestOf yX1_nestOf, .initialized RX1]) (all4 mw_2_190 mw_2_191 mw_2_192 mw_1_3) mw_2_193) rfl rfl rfl (by decide +kernel) ⟨Nat.le_of_ble_eq_true rfl, Nat.le_of_ble_eq_true rfl⟩) hEV (wB_H hP) 0 rfl rfl rfl hl.1 rfl (Nat.le_of_ble_eq_true rfl) dX0_isAccessible_100 ⟨Nat.zero_le _, Nat.zero_le _⟩ ?_
        refine lv_icmp_ne (tgt := 110) hx hb dX0_isAccessible_103 (by decide) (fun c_103 => ?_) (fun c_103 => ?_)
        · have c_103 : ¬ ((nsN τ (sN (γ 0 x))) = (nsN τ z)) := fun q9 => c_103 ((nI_eq (a := (nsN τ (sN (γ 0 x)))) (b := (nsN τ z)) (by omega) (by omega)).mpr q9)
          have hE := (if_neg c_103).symm.trans hE
          refine lv_iconst (v := (0 : Int32)) hx hb dX0_isAccessible_110 (by decide) ?_
          exact W.zret hx hb hr rfl (fun t9 ht9 _ => ⟨_, rfl, hE, ht9⟩) (fun _ h9 => by cases h9) dX0_isAccessible_111
        · have c_103 : (nsN τ (sN (γ 0 x))) = (nsN τ z) := (nI_eq (a := (nsN τ (sN (γ 0 x)))) (b := (nsN τ z)) (by omega) (by omega)).mp c_103
          have hE := (if_pos c_103).symm.trans hE
          refine lv_iconst (v := (1 : Int32)) hx hb dX0_isAccessible_106 (by decide) ?_
          refine lv_goto (tgt := 111) hx hb dX0_isAccessible_107 (by decide) ?_
          exact W.zret hx hb hr rfl (fun t9 ht9 _ => ⟨_, rfl, hE, ht9⟩) (fun _ h9 => by cases h9) dX0_isAccessible_111
noncomputable def p_X0_isFit (h τ g γ : Nat → Nat → Int32) (n : Nat) (x : Nat) (y : Nat) : Int32 := if (gd (LV τ x)) = true then (if (!(bt (τ 1 x) 1 || bt (τ 1 x) 2)) = true then (if (abB τ x y || fcB τ x y) = true then ((1 : Int32)) else ((0 : Int32))) else ((0 : Int32))) else ((0 : Int32))

set_option maxHeartbeats 4000000 in
set_option maxRecDepth 100000 in
theorem c_X0_isFit (l : Launch) (D : va_G) (cI cZ cB cR : ClassId) (b : Nat) (aH aM : Nat → Nat) (h τ g γ : Nat → Nat → Int32) (n : Nat) (se : Int32) (x : Nat) (y : Nat) (okh : OKH h τ) (wf : WFT τ) (okm : OKM g γ n) (wm : WFM γ n) (hnx : x < 12) (hny : y < 12)  : RO l yX0_isFit wsX0_isFit ({ frames := 2, cells := 0, slots := 0, locals := 43 } : Room) D cI cZ cB cR (wB cI b aH aM h g se) [.ref b, .int (nI x), .int (nI y)] (p_X0_isFit h τ g γ n x y) := by
  generalize hE : p_X0_isFit h τ g γ n x y = tgt
  refine Met.ofW (cc := cX0_isFit) (maxL := 3) (ret := (some .boolean)) (by decide) rfl ?_
  intro p e s m args below meth c s₁ B hml hv
  obtain ⟨hargs, hP, hEV⟩ := hv
  have hx := B.exec
  have hb := B.bytes
  have hr := B.returns
  have hts := atoms_spec (ws := wsX0_isFit) B.pre
  have hown : s.vm.findClass RX0 = some m.cls := findClass_of_methodNamed B.named
  have hlocks := B.notSynchronized
  have hK := hEV.1
  have hl := lv_entry ([.ref b, .int (nI x), .int (nI y)]) (n := 3) (Nat.le_of_ble_eq_true rfl)
  rw [show entryFrame m args 3 = entryFrame m ([.ref b, .int (nI x), .int (nI y)] : List Value).toArray 3 from by rw [hargs], lg_entry_eq]
  generalize (lg_sl ([.ref b, .int (nI x), .int (nI y)]) ++ List.replicate (3 - (lg_sl ([.ref b, .int (nI x), .int (nI y)])).length) Slot.unset).toArray = ls at hl ⊢
  have hl : lv_has ls 3 [(0, .ref b), (1, .int (nI x)), (2, .int (nI y))] := hl
  rw [p_X0_isFit] at hE
  have hn30 := okm.2.1
  refine lv_aload_n hx hb dX0_isFit_0 rfl (lv_at hl 0 rfl) ?_
  refine va_get (D := D) (ci := 0) (v := .ref (aH 0)) (C := RX0) (T := TX0) (N := 3) hx hb hts (fun w9 h9 => List.mem_cons_of_mem _ (inT_X0 w9 h9)) hown hK hP 0 rfl rfl 0 (by decide) (hts (.fieldLink RX0 12 "LinkPredictor$Build" "types" "LLinkPredictor$Hierarchy;") (List.mem_cons_of_mem _ mw_1_128)) (fun _ h9 => h9) rfl dX0_isFit_1 ?_
  refine lv_iload_n hx hb dX0_isFit_4 rfl (lv_at hl 1 rfl) ?_
  refine ro_V [.int (nI x)] [] ⟨hx, hb, hml, hown, hts⟩ (c_X1_loading l D cI cZ cB cR aH h τ x okh (by omega)) (cwV (C := RX1) 1 hts (goodP (ps := [.methodLink RX0 57 yX1_loading, .instanceMethod yX1_loading, .selects RX1 yX1_loading yX1_loading, .initialized RX1]) (all4 mw_2_77 mw_2_66 mw_2_67 mw_1_3) mw_2_68) rfl rfl rfl (by decide +kernel) ⟨Nat.le_of_ble_eq_true rfl, Nat.le_of_ble_eq_true rfl⟩) hEV (wB_H hP) 0 rfl rfl rfl hl.1 rfl (Nat.le_of_ble_eq_true rfl) dX0_isFit_5 ⟨Nat.zero_le _, Nat.zero_le _⟩ ?_
  refine ro_SN [.int (LV τ x)] [] ⟨hx, hb, hml, hown, hts⟩ (c_X4_isGood l D cI cZ cB cR (LV τ x)) (va_cnB (host := "LinkPredictor") 1 hts (goodC mw_1_55) rfl rfl rfl (hEV.2 (.methodLinkNest RX0 61 yX4_isGood "LinkPredictor") (by decide +kernel)) (hts (.initialized RX4) (List.mem_cons_of_mem _ mw_1_1)) (by decide +kernel) ⟨Nat.le_of_ble_eq_true rfl, Nat.le_of_ble_eq_true rfl⟩) (hts (.static yX4_isGood) (List.mem_cons_of_mem _ mw_1_54)) hEV va_P0 rfl hl.1 rfl (Nat.le_of_ble_eq_true rfl) dX0_isFit_8 ⟨Nat.zero_le _, Nat.zero_le _⟩ ?_
  refine lv_if_eq (tgt := 41) hx hb dX0_isFit_11 (by decide) (fun c_11 => ?_) (fun c_11 => ?_)
  · have c_11 : ¬ ((gd (LV τ x)) = true) := b2i_f c_11
    have hE := (if_neg c_11).symm.trans hE
    refine lv_iconst (v := (0 : Int32)) hx hb dX0_isFit_41 (by decide) ?_
    exact W.zret hx hb hr rfl (fun t9 ht9 _ => ⟨_, rfl, hE, ht9⟩) (fun _ h9 => by cases h9) dX0_isFit_42
  · have c_11 : (gd (LV τ x)) = true := b2i_t c_11
    have hE := (if_pos c_11).symm.trans hE
    refine lv_aload_n hx hb dX0_isFit_14 rfl (lv_at hl 0 rfl) ?_
    refine va_get (D := D) (ci := 0) (v := .ref (aH 0)) (C := RX0) (T := TX0) (N := 3) hx hb hts (fun w9 h9 => List.mem_cons_of_mem _ (inT_X0 w9 h9)) hown hK hP 0 rfl rfl 0 (by decide) (hts (.fieldLink RX0 12 "LinkPredictor$Build" "types" "LLinkPredictor$Hierarchy;") (List.mem_cons_of_mem _ mw_1_128)) (fun _ h9 => h9) rfl dX0_isFit_15 ?_
    refine lv_iload_n hx hb dX0_isFit_18 rfl (lv_at hl 1 rfl) ?_
    refine ro_V [.int (nI x)] [] ⟨hx, hb, hml, hown, hts⟩ (c_X1_canBeMade l D cI cZ cB cR aH h τ x okh.b (by omega)) (cwV (C := RX1) 1 hts (goodP (ps := [.methodLink RX0 196 yX1_canBeMade, .instanceMethod yX1_canBeMade, .selects RX1 yX1_canBeMade yX1_canBeMade, .initialized RX1]) (all4 mw_2_222 mw_2_223 mw_2_224 mw_1_3) mw_2_225) rfl rfl rfl (by decide +kernel) ⟨Nat.le_of_ble_eq_true rfl, Nat.le_of_ble_eq_true rfl⟩) hEV (wB_H hP) 0 rfl rfl rfl hl.1 rfl (Nat.le_of_ble_eq_true rfl) dX0_isFit_19 ⟨Nat.zero_le _, Nat.zero_le _⟩ ?_
    refine lv_if_eq (tgt := 41) hx hb dX0_isFit_22 (by decide) (fun c_22 => ?_) (fun c_22 => ?_)
    · have c_22 : ¬ ((!(bt (τ 1 x) 1 || bt (τ 1 x) 2)) = true) := b2i_f c_22
      have hE := (if_neg c_22).symm.trans hE
      refine lv_iconst (v := (0 : Int32)) hx hb dX0_isFit_41 (by decide) ?_
      exact W.zret hx hb hr rfl (fun t9 ht9 _ => ⟨_, rfl, hE, ht9⟩) (fun _ h9 => by cases h9) dX0_isFit_42
    · have c_22 : (!(bt (τ 1 x) 1 || bt (τ 1 x) 2)) = true := b2i_t c_22
      have hE := (if_pos c_22).symm.trans hE
      refine lv_aload_n hx hb dX0_isFit_25 rfl (lv_at hl 0 rfl) ?_
      refine va_get (D := D) (ci := 0) (v := .ref (aH 0)) (C := RX0) (T := TX0) (N := 3) hx hb hts (fun w9 h9 => List.mem_cons_of_mem _ (inT_X0 w9 h9)) hown hK hP 0 rfl rfl 0 (by decide) (hts (.fieldLink RX0 12 "LinkPredictor$Build" "types" "LLinkPredictor$Hierarchy;") (List.mem_cons_of_mem _ mw_1_128)) (fun _ h9 => h9) rfl dX0_isFit_26 ?_
      refine lv_iload_n hx hb dX0_isFit_29 rfl (lv_at hl 1 rfl) ?_
      refine lv_iload_n hx hb dX0_isFit_30 rfl (lv_at hl 2 rfl) ?_
      refine ro_V [.int (nI x), .int (nI y)] [] ⟨hx, hb, hml, hown, hts⟩ (c_X1_liesUnder l D cI cZ cB cR aH h τ x y okh (gdB_iff.mp ((gd_LV wf hnx).symm.trans c_11)) (by omega) (by omega)) (cwV (C := RX1) 2 hts (goodP (ps := [.methodLink RX0 181 yX1_liesUnder, .instanceMethod yX1_liesUnder, .selects RX1 yX1_liesUnder yX1_liesUnder, .initialized RX1]) (all4 mw_2_186 mw_2_187 mw_2_188 mw_1_3) mw_2_189) rfl rfl rfl (by decide +kernel) ⟨Nat.le_of_ble_eq_true rfl, Nat.le_of_ble_eq_true rfl⟩) hEV (wB_H hP) 0 rfl rfl rfl hl.1 rfl (Nat.le_of_ble_eq_true rfl) dX0_isFit_31 ⟨Nat.zero_le _, Nat.zero_le _⟩ ?_
      refine lv_if_eq (tgt := 41) hx hb dX0_isFit_34 (by decide) (fun c_34 => ?_) (fun c_34 => ?_)
      · have c_34 : ¬ ((abB τ x y || fcB τ x y) = true) := b2i_f c_34
        have hE := (if_neg c_34).symm.trans hE
        refine lv_iconst (v := (0 : Int32)) hx hb dX0_isFit_41 (by decide) ?_
        exact W.zret hx hb hr rfl (fun t9 ht9 _ => ⟨_, rfl, hE, ht9⟩) (fun _ h9 => by cases h9) dX0_isFit_42
      · have c_34 : (abB τ x y || fcB τ x y) = true := b2i_t c_34
        have hE := (if_pos c_34).symm.trans hE
        refine lv_iconst (v := (1 : Int32)) hx hb dX0_isFit_37 (by decide) ?_
        refine lv_goto (tgt := 42) hx hb dX0_isFit_38 (by decide) ?_
        exact W.zret hx hb hr rfl (fun t9 ht9 _ => ⟨_, rfl, hE, ht9⟩) (fun _ h9 => by cases h9) dX0_isFit_42
noncomputable def p_X0_overrides (h τ g γ : Nat → Nat → Int32) (n : Nat) (x : Nat) (y : Nat) : Int32 := if (inhB γ x) = true then (if x = y then ((1 : Int32)) else (if (γ 2 y) = (1 : Int32) then (if (decide (τ 2 (sN (γ 0 x)) = τ 2 (sN (γ 0 y)))) = true then ((1 : Int32)) else ((0 : Int32))) else ((1 : Int32)))) else ((0 : Int32))

set_option maxHeartbeats 4000000 in
set_option maxRecDepth 100000 in
theorem c_X0_overrides (l : Launch) (D : va_G) (cI cZ cB cR : ClassId) (b : Nat) (aH aM : Nat → Nat) (h τ g γ : Nat → Nat → Int32) (n : Nat) (se : Int32) (x : Nat) (y : Nat) (okh : OKH h τ) (wf : WFT τ) (okm : OKM g γ n) (wm : WFM γ n) (hnx : x < n) (hny : y < n)  : RO l yX0_overrides wsX0_overrides ({ frames := 1, cells := 0, slots := 0, locals := 22 } : Room) D cI cZ cB cR (wB cI b aH aM h g se) [.ref b, .int (nI x), .int (nI y)] (p_X0_overrides h τ g γ n x y) := by
  generalize hE : p_X0_overrides h τ g γ n x y = tgt
  refine Met.ofW (cc := cX0_overrides) (maxL := 3) (ret := (some .boolean)) (by decide) rfl ?_
  intro p e s m args below meth c s₁ B hml hv
  obtain ⟨hargs, hP, hEV⟩ := hv
  have hx := B.exec
  have hb := B.bytes
  have hr := B.returns
  have hts := atoms_spec (ws := wsX0_overrides) B.pre
  have hown : s.vm.findClass RX0 = some m.cls := findClass_of_methodNamed B.named
  have hlocks := B.notSynchronized
  have hK := hEV.1
  have hl := lv_entry ([.ref b, .int (nI x), .int (nI y)]) (n := 3) (Nat.le_of_ble_eq_true rfl)
  rw [show entryFrame m args 3 = entryFrame m ([.ref b, .int (nI x), .int (nI y)] : List Value).toArray 3 from by rw [hargs], lg_entry_eq]
  generalize (lg_sl ([.ref b, .int (nI x), .int (nI y)]) ++ List.replicate (3 - (lg_sl ([.ref b, .int (nI x), .int (nI y)])).length) Slot.unset).toArray = ls at hl ⊢
  have hl : lv_has ls 3 [(0, .ref b), (1, .int (nI x)), (2, .int (nI y))] := hl
  rw [p_X0_overrides] at hE
  have hn30 := okm.2.1
  have ho1 := (wm x hnx).1
  have ho2 := (wm y hny).1
  refine lv_aload_n hx hb dX0_overrides_0 rfl (lv_at hl 0 rfl) ?_
  refine va_get (D := D) (ci := 0) (v := .ref (aM 0)) (C := RX0) (T := TX0) (N := 3) hx hb hts (fun w9 h9 => List.mem_cons_of_mem _ (inT_X0 w9 h9)) hown hK hP 0 rfl rfl 1 (by decide) (hts (.fieldLink RX0 21 "LinkPredictor$Build" "members" "LLinkPredictor$Members;") (List.mem_cons_of_mem _ mw_1_130)) (fun _ h9 => h9) rfl dX0_overrides_1 ?_
  refine lv_iload_n hx hb dX0_overrides_4 rfl (lv_at hl 1 rfl) ?_
  refine ro_V [.int (nI x)] [] ⟨hx, hb, hml, hown, hts⟩ (c_X2_isInheritable l D cI cZ cB cR aM g γ n x okm (by omega)) (cwV (C := RX2) 1 hts (goodP (ps := [.methodLink RX0 205 yX2_isInheritable, .instanceMethod yX2_isInheritable, .selects RX2 yX2_isInheritable yX2_isInheritable, .initialized RX2]) (all4 mw_2_234 mw_2_143 mw_2_144 mw_1_4) mw_2_145) rfl rfl rfl (by decide +kernel) ⟨Nat.le_of_ble_eq_true rfl, Nat.le_of_ble_eq_true rfl⟩) hEV (wB_M hP) 0 rfl rfl rfl hl.1 rfl (Nat.le_of_ble_eq_true rfl) dX0_overrides_5 ⟨Nat.zero_le _, Nat.zero_le _⟩ ?_
  refine lv_if_ne (tgt := 13) hx hb dX0_overrides_8 (by decide) (fun c_8 => ?_) (fun c_8 => ?_)
  · have c_8 : (inhB γ x) = true := b2i_t c_8
    have hE := (if_pos c_8).symm.trans hE
    refine lv_iload_n hx hb dX0_overrides_13 rfl (lv_at hl 1 rfl) ?_
    refine lv_iload_n hx hb dX0_overrides_14 rfl (lv_at hl 2 rfl) ?_
    refine lv_icmp_eq (tgt := 56) hx hb dX0_overrides_15 (by decide) (fun c_15 => ?_) (fun c_15 => ?_)
    · have c_15 : x = y := (nI_eq (a := x) (b := y) (by omega) (by omega)).mp c_15
      have hE := (if_pos c_15).symm.trans hE
      refine lv_iconst (v := (1 : Int32)) hx hb dX0_overrides_56 (by decide) ?_
      refine lv_goto (tgt := 61) hx hb dX0_overrides_57 (by decide) ?_
      exact W.zret hx hb hr rfl (fun t9 ht9 _ => ⟨_, rfl, hE, ht9⟩) (fun _ h9 => by cases h9) dX0_overrides_61
    · have c_15 : ¬ (x = y) := fun q9 => c_15 ((nI_eq (a := x) (b := y) (by omega) (by omega)).mpr q9)
      have hE := (if_neg c_15).symm.trans hE
      refine lv_aload_n hx hb dX0_overrides_18 rfl (lv_at hl 0 rfl) ?_
      refine va_get (D := D) (ci := 0) (v := .ref (aM 0)) (C := RX0) (T := TX0) (N := 3) hx hb hts (fun w9 h9 => List.mem_cons_of_mem _ (inT_X0 w9 h9)) hown hK hP 0 rfl rfl 1 (by decide) (hts (.fieldLink RX0 21 "LinkPredictor$Build" "members" "LLinkPredictor$Members;") (List.mem_cons_of_mem _ mw_1_130)) (fun _ h9 => h9) rfl dX0_overrides_19 ?_
      refine lv_iload_n hx hb dX0_overrides_22 rfl (lv_at hl 2 rfl) ?_
      refine ro_V [.int (nI y)] [] ⟨hx, hb, hml, hown, hts⟩ (c_X2_accessOf l D cI cZ cB cR aM g γ n y okm (by omega)) (cwV (C := RX2) 1 hts (goodP (ps := [.methodLink RX0 96 yX2_accessOf, .instanceMethod yX2_accessOf, .selects RX2 yX2_accessOf yX2_accessOf, .initialized RX2]) (all4 mw_2_118 mw_2_119 mw_2_120 mw_1_4) mw_2_121) rfl rfl rfl (by decide +kernel) ⟨Nat.le_of_ble_eq_true rfl, Nat.le_of_ble_eq_true rfl⟩) hEV (wB_M hP) 0 rfl rfl rfl hl.1 rfl (Nat.le_of_ble_eq_true rfl) dX0_overrides_23 ⟨Nat.zero_le _, Nat.zero_le _⟩ ?_
      refine lv_iconst (v := (1 : Int32)) hx hb dX0_overrides_26 (by decide) ?_
      refine lv_icmp_ne (tgt := 56) hx hb dX0_overrides_27 (by decide) (fun c_27 => ?_) (fun c_27 => ?_)
      · skip
        have hE := (if_neg c_27).symm.trans hE
        refine lv_iconst (v := (1 : Int32)) hx hb dX0_overrides_56 (by decide) ?_
        refine lv_goto (tgt := 61) hx hb dX0_overrides_57 (by decide) ?_
        exact W.zret hx hb hr rfl (fun t9 ht9 _ => ⟨_, rfl, hE, ht9⟩) (fun _ h9 => by cases h9) dX0_overrides_61
      · skip
        have hE := (if_pos c_27).symm.trans hE
        refine lv_aload_n hx hb dX0_overrides_30 rfl (lv_at hl 0 rfl) ?_
        refine va_get (D := D) (ci := 0) (v := .ref (aH 0)) (C := RX0) (T := TX0) (N := 3) hx hb hts (fun w9 h9 => List.mem_cons_of_mem _ (inT_X0 w9 h9)) hown hK hP 0 rfl rfl 0 (by decide) (hts (.fieldLink RX0 12 "LinkPredictor$Build" "types" "LLinkPredictor$Hierarchy;") (List.mem_cons_of_mem _ mw_1_128)) (fun _ h9 => h9) rfl dX0_overrides_31 ?_
        refine lv_aload_n hx hb dX0_overrides_34 rfl (lv_at hl 0 rfl) ?_
        refine va_get (D := D) (ci := 0) (v := .ref (aM 0)) (C := RX0) (T := TX0) (N := 3) hx hb hts (fun w9 h9 => List.mem_cons_of_mem _ (inT_X0 w9 h9)) hown hK hP 0 rfl rfl 1 (by decide) (hts (.fieldLink RX0 21 "LinkPredictor$Build" "members" "LLinkPredictor$Members;") (List.mem_cons_of_mem _ mw_1_130)) (fun _ h9 => h9) rfl dX0_overrides_35 ?_
        refine lv_iload_n hx hb dX0_overrides_38 rfl (lv_at hl 1 rfl) ?_
        refine ro_V [.int (nI x)] [.ref (aH 0)] ⟨hx, hb, hml, hown, hts⟩ (c_X2_ownerOf l D cI cZ cB cR aM g γ n x okm (by omega)) (cwV (C := RX2) 1 hts (goodP (ps := [.methodLink RX0 178 yX2_ownerOf, .instanceMethod yX2_ownerOf, .selects RX2 yX2_ownerOf yX2_ownerOf, .initialized RX2]) (all4 mw_2_173 mw_2_174 mw_2_175 mw_1_4) mw_2_176) rfl rfl rfl (by decide +kernel) ⟨Nat.le_of_ble_eq_true rfl, Nat.le_of_ble_eq_true rfl⟩) hEV (wB_M hP) 0 rfl rfl rfl hl.1 rfl (Nat.le_of_ble_eq_true rfl) dX0_overrides_39 ⟨Nat.zero_le _, Nat.zero_le _⟩ ?_
        refine top_eq ((wm x hnx).2) ?_
        refine lv_aload_n hx hb dX0_overrides_42 rfl (lv_at hl 0 rfl) ?_
        refine va_get (D := D) (ci := 0) (v := .ref (aM 0)) (C := RX0) (T := TX0) (N := 3) hx hb hts (fun w9 h9 => List.mem_cons_of_mem _ (inT_X0 w9 h9)) hown hK hP 0 rfl rfl 1 (by decide) (hts (.fieldLink RX0 21 "LinkPredictor$Build" "members" "LLinkPredictor$Members;") (List.mem_cons_of_mem _ mw_1_130)) (fun _ h9 => h9) rfl dX0_overrides_43 ?_
        refine lv_iload_n hx hb dX0_overrides_46 rfl (lv_at hl 2 rfl) ?_
        refine ro_V [.int (nI y)] [.int (nI (sN (γ 0 x))), .ref (aH 0)] ⟨hx, hb, hml, hown, hts⟩ (c_X2_ownerOf l D cI cZ cB cR aM g γ n y okm (by omega)) (cwV (C := RX2) 1 hts (goodP (ps := [.methodLink RX0 178 yX2_ownerOf, .instanceMethod yX2_ownerOf, .selects RX2 yX2_ownerOf yX2_ownerOf, .initialized RX2]) (all4 mw_2_173 mw_2_174 mw_2_175 mw_1_4) mw_2_176) rfl rfl rfl (by decide +kernel) ⟨Nat.le_of_ble_eq_true rfl, Nat.le_of_ble_eq_true rfl⟩) hEV (wB_M hP) 0 rfl rfl rfl hl.1 rfl (Nat.le_of_ble_eq_true rfl) dX0_overrides_47 ⟨Nat.zero_le _, Nat.zero_le _⟩ ?_
        refine top_eq ((wm y hny).2) ?_
        refine ro_V [.int (nI (sN (γ 0 x))), .int (nI (sN (γ 0 y)))] [] ⟨hx, hb, hml, hown, hts⟩ (c_X1_isSamePackage l D cI cZ cB cR aH h τ (sN (γ 0 x)) (sN (γ 0 y)) okh.b (by omega) (by omega)) (cwV (C := RX1) 2 hts (goodP (ps := [.methodLink RX0 184 yX1_isSamePackage, .instanceMethod yX1_isSamePackage, .selects RX1 yX1_isSamePackage yX1_isSamePackage, .initialized RX1]) (all4 mw_2_177 mw_2_84 mw_2_85 mw_1_3) mw_2_86) rfl rfl rfl (by decide +kernel) ⟨Nat.le_of_ble_eq_true rfl, Nat.le_of_ble_eq_true rfl⟩) hEV (wB_H hP) 0 rfl rfl rfl hl.1 rfl (Nat.le_of_ble_eq_true rfl) dX0_overrides_50 ⟨Nat.zero_le _, Nat.zero_le _⟩ ?_
        refine lv_if_eq (tgt := 60) hx hb dX0_overrides_53 (by decide) (fun c_53 => ?_) (fun c_53 => ?_)
        · have c_53 : ¬ ((decide (τ 2 (sN (γ 0 x)) = τ 2 (sN (γ 0 y)))) = true) := b2i_f c_53
          have hE := (if_neg c_53).symm.trans hE
          refine lv_iconst (v := (0 : Int32)) hx hb dX0_overrides_60 (by decide) ?_
          exact W.zret hx hb hr rfl (fun t9 ht9 _ => ⟨_, rfl, hE, ht9⟩) (fun _ h9 => by cases h9) dX0_overrides_61
        · have c_53 : (decide (τ 2 (sN (γ 0 x)) = τ 2 (sN (γ 0 y)))) = true := b2i_t c_53
          have hE := (if_pos c_53).symm.trans hE
          refine lv_iconst (v := (1 : Int32)) hx hb dX0_overrides_56 (by decide) ?_
          refine lv_goto (tgt := 61) hx hb dX0_overrides_57 (by decide) ?_
          exact W.zret hx hb hr rfl (fun t9 ht9 _ => ⟨_, rfl, hE, ht9⟩) (fun _ h9 => by cases h9) dX0_overrides_61
  · have c_8 : ¬ ((inhB γ x) = true) := b2i_f c_8
    have hE := (if_neg c_8).symm.trans hE
    refine lv_iconst (v := (0 : Int32)) hx hb dX0_overrides_11 (by decide) ?_
    exact W.zret hx hb hr rfl (fun t9 ht9 _ => ⟨_, rfl, hE, ht9⟩) (fun _ h9 => by cases h9) dX0_overrides_12
