/-! ===== Hierarchy between calls: reads ===== -/
theorem gd_LV {τ : Nat → Nat → Int32} (wf : WFT τ) {t : Nat} (ht : t < 12) : gd (LV τ t) = gdB τ t := by
  by_cases g : Gd τ t
  · rw [gdB_iff.mpr g]
    unfold LV
    rw [vN_good g (b_0 t), gd_nI (by omega), decide_eq_true (by omega)]
  · rw [gdB_f.mpr g]
    exact vN_bad wf ht (by rw [cN_0]; omega) g
theorem LV_good {τ : Nat → Nat → Int32} {t : Nat} (g : Gd τ t) : LV τ t = nI t := vN_good g (b_0 t)
def rcF (τ : Nat → Nat → Int32) (x y : Nat) : Bool := bt (τ 1 x) 0 || decide (τ 2 x = τ 2 y)
noncomputable def rcI (τ : Nat → Nat → Int32) (x y : Nat) : Int32 := if gd (LV τ x) = true then (if rcF τ x y = true then nI x else nI (256 + x)) else LV τ x
def p_X1_loading (h : Nat → Nat → Int32) (τ : Nat → Nat → Int32) (x : Nat) : Int32 := h 5 x
theorem pe_X1_loading (h : Nat → Nat → Int32) (τ : Nat → Nat → Int32) (x : Nat) (okh : OKH h τ) (hnx : x < 12) : p_X1_loading h τ x = LV τ x := okh.lv hnx
set_option maxHeartbeats 4000000 in
set_option maxRecDepth 100000 in
theorem c_X1_loading (l : Launch) (D : va_G) (cI cZ cB cR : ClassId) (a : Nat → Nat) (h : Nat → Nat → Int32) (τ : Nat → Nat → Int32) (x : Nat) (okh : OKH h τ) (hnx : x < 12) : RO l yX1_loading wsX1_loading ({ frames := 0, cells := 0, slots := 0, locals := 0 } : Room) D cI cZ cB cR (wH cI a h) [.ref (a 0), .int (nI x)] (LV τ x) := by
  have hE : p_X1_loading h τ x = LV τ x := pe_X1_loading h τ x okh hnx
  refine Met.ofW (cc := cX1_loading) (maxL := 2) (ret := (some .int)) (by decide) rfl ?_
  intro p e s m args below meth c s₁ B hml hv
  obtain ⟨hargs, hP, hEV⟩ := hv
  have hx := B.exec
  have hb := B.bytes
  have hr := B.returns
  have hts := atoms_spec (ws := wsX1_loading) B.pre
  have hown : s.vm.findClass RX1 = some m.cls := findClass_of_methodNamed B.named
  have hlocks := B.notSynchronized
  have hK := hEV.1
  have hl := lv_entry ([.ref (a 0), .int (nI x)]) (n := 2) (Nat.le_of_ble_eq_true rfl)
  rw [show entryFrame m args 2 = entryFrame m ([.ref (a 0), .int (nI x)] : List Value).toArray 2 from by rw [hargs], lg_entry_eq]
  generalize (lg_sl ([.ref (a 0), .int (nI x)]) ++ List.replicate (2 - (lg_sl ([.ref (a 0), .int (nI x)])).length) Slot.unset).toArray = ls at hl ⊢
  have hl : lv_has ls 2 [(0, .ref (a 0)), (1, .int (nI x))] := hl
  rw [p_X1_loading] at hE
  refine lv_aload_n hx hb dX1_loading_0 rfl (lv_at hl 0 rfl) ?_
  refine va_get (D := D) (ci := 1) (v := .ref (a 6)) (C := RX1) (T := TX1) (N := 10) hx hb hts (fun w9 h9 => List.mem_cons_of_mem _ (inT_X1 w9 h9)) hown hK hP 0 rfl rfl 6 (by decide) (hts (.fieldLink RX1 27 "LinkPredictor$Hierarchy" "verdicts" "[I") (List.mem_cons_of_mem _ mw_1_77)) (fun _ h9 => h9) rfl dX1_loading_1 ?_
  refine lv_iload_n hx hb dX1_loading_4 rfl (lv_at hl 1 rfl) ?_
  refine ro_ald hx hb hEV hP 6 (j := x) rfl (by omega) (by decide) dX1_loading_5 ?_
  exact W.iret hx hb hr (fun t9 ht9 _ => ⟨_, rfl, hE, ht9⟩) (fun _ h9 => by cases h9) dX1_loading_6
def p_X1_facesOf (h : Nat → Nat → Int32) (τ : Nat → Nat → Int32) (x : Nat) : Int32 := h 7 x
theorem pe_X1_facesOf (h : Nat → Nat → Int32) (τ : Nat → Nat → Int32) (x : Nat) (okh : OKH h τ) (hnx : x < 12) : p_X1_facesOf h τ x = h 7 x := rfl
set_option maxHeartbeats 4000000 in
set_option maxRecDepth 100000 in
theorem c_X1_facesOf (l : Launch) (D : va_G) (cI cZ cB cR : ClassId) (a : Nat → Nat) (h : Nat → Nat → Int32) (τ : Nat → Nat → Int32) (x : Nat) (okh : OKH h τ) (hnx : x < 12) : RO l yX1_facesOf wsX1_facesOf ({ frames := 0, cells := 0, slots := 0, locals := 0 } : Room) D cI cZ cB cR (wH cI a h) [.ref (a 0), .int (nI x)] (h 7 x) := by
  have hE : p_X1_facesOf h τ x = h 7 x := pe_X1_facesOf h τ x okh hnx
  refine Met.ofW (cc := cX1_facesOf) (maxL := 2) (ret := (some .int)) (by decide) rfl ?_
  intro p e s m args below meth c s₁ B hml hv
  obtain ⟨hargs, hP, hEV⟩ := hv
  have hx := B.exec
  have hb := B.bytes
  have hr := B.returns
  have hts := atoms_spec (ws := wsX1_facesOf) B.pre
  have hown : s.vm.findClass RX1 = some m.cls := findClass_of_methodNamed B.named
  have hlocks := B.notSynchronized
  have hK := hEV.1
  have hl := lv_entry ([.ref (a 0), .int (nI x)]) (n := 2) (Nat.le_of_ble_eq_true rfl)
  rw [show entryFrame m args 2 = entryFrame m ([.ref (a 0), .int (nI x)] : List Value).toArray 2 from by rw [hargs], lg_entry_eq]
  generalize (lg_sl ([.ref (a 0), .int (nI x)]) ++ List.replicate (2 - (lg_sl ([.ref (a 0), .int (nI x)])).length) Slot.unset).toArray = ls at hl ⊢
  have hl : lv_has ls 2 [(0, .ref (a 0)), (1, .int (nI x))] := hl
  rw [p_X1_facesOf] at hE
  refine lv_aload_n hx hb dX1_facesOf_0 rfl (lv_at hl 0 rfl) ?_
  refine va_get (D := D) (ci := 1) (v := .ref (a 8)) (C := RX1) (T := TX1) (N := 10) hx hb hts (fun w9 h9 => List.mem_cons_of_mem _ (inT_X1 w9 h9)) hown hK hP 0 rfl rfl 9 (by decide) (hts (.fieldLink RX1 33 "LinkPredictor$Hierarchy" "allFaces" "[I") (List.mem_cons_of_mem _ mw_1_80)) (fun _ h9 => h9) rfl dX1_facesOf_1 ?_
  refine lv_iload_n hx hb dX1_facesOf_4 rfl (lv_at hl 1 rfl) ?_
  refine ro_ald hx hb hEV hP 8 (j := x) rfl (by omega) (by decide) dX1_facesOf_5 ?_
  exact W.iret hx hb hr (fun t9 ht9 _ => ⟨_, rfl, hE, ht9⟩) (fun _ h9 => by cases h9) dX1_facesOf_6
def p_X1_hasAbove (h : Nat → Nat → Int32) (τ : Nat → Nat → Int32) (x : Nat) (y : Nat) : Int32 := b2i (bt (h 6 x) y)
theorem pe_X1_hasAbove (h : Nat → Nat → Int32) (τ : Nat → Nat → Int32) (x : Nat) (y : Nat) (okh : OKH h τ) (gx : Gd τ x) (hnx : x < 12) (hny : y < 12) : p_X1_hasAbove h τ x y = b2i (abB τ x y) := congrArg b2i (okh.ab hnx gx hny)
set_option maxHeartbeats 4000000 in
set_option maxRecDepth 100000 in
theorem c_X1_hasAbove (l : Launch) (D : va_G) (cI cZ cB cR : ClassId) (a : Nat → Nat) (h : Nat → Nat → Int32) (τ : Nat → Nat → Int32) (x : Nat) (y : Nat) (okh : OKH h τ) (gx : Gd τ x) (hnx : x < 12) (hny : y < 12) : RO l yX1_hasAbove wsX1_hasAbove ({ frames := 1, cells := 0, slots := 0, locals := 21 } : Room) D cI cZ cB cR (wH cI a h) [.ref (a 0), .int (nI x), .int (nI y)] (b2i (abB τ x y)) := by
  have hE : p_X1_hasAbove h τ x y = b2i (abB τ x y) := pe_X1_hasAbove h τ x y okh gx hnx hny
  refine Met.ofW (cc := cX1_hasAbove) (maxL := 3) (ret := (some .boolean)) (by decide) rfl ?_
  intro p e s m args below meth c s₁ B hml hv
  obtain ⟨hargs, hP, hEV⟩ := hv
  have hx := B.exec
  have hb := B.bytes
  have hr := B.returns
  have hts := atoms_spec (ws := wsX1_hasAbove) B.pre
  have hown : s.vm.findClass RX1 = some m.cls := findClass_of_methodNamed B.named
  have hlocks := B.notSynchronized
  have hK := hEV.1
  have hl := lv_entry ([.ref (a 0), .int (nI x), .int (nI y)]) (n := 3) (Nat.le_of_ble_eq_true rfl)
  rw [show entryFrame m args 3 = entryFrame m ([.ref (a 0), .int (nI x), .int (nI y)] : List Value).toArray 3 from by rw [hargs], lg_entry_eq]
  generalize (lg_sl ([.ref (a 0), .int (nI x), .int (nI y)]) ++ List.replicate (3 - (lg_sl ([.ref (a 0), .int (nI x), .int (nI y)])).length) Slot.unset).toArray = ls at hl ⊢
  have hl : lv_has ls 3 [(0, .ref (a 0)), (1, .int (nI x)), (2, .int (nI y))] := hl
  rw [p_X1_hasAbove] at hE
  refine lv_aload_n hx hb dX1_hasAbove_0 rfl (lv_at hl 0 rfl) ?_
  refine va_get (D := D) (ci := 1) (v := .ref (a 7)) (C := RX1) (T := TX1) (N := 10) hx hb hts (fun w9 h9 => List.mem_cons_of_mem _ (inT_X1 w9 h9)) hown hK hP 0 rfl rfl 8 (by decide) (hts (.fieldLink RX1 30 "LinkPredictor$Hierarchy" "aboves" "[I") (List.mem_cons_of_mem _ mw_1_79)) (fun _ h9 => h9) rfl dX1_hasAbove_1 ?_
  refine lv_iload_n hx hb dX1_hasAbove_4 rfl (lv_at hl 1 rfl) ?_
  refine ro_ald hx hb hEV hP 7 (j := x) rfl (by omega) (by decide) dX1_hasAbove_5 ?_
  refine lv_iload_n hx hb dX1_hasAbove_6 rfl (lv_at hl 2 rfl) ?_
  refine ro_SN [.int (h 6 x), .int (nI y)] [] ⟨hx, hb, hml, hown, hts⟩ (c_X4_contains l D cI cZ cB cR (h 6 x) y (by omega)) (va_cnB (host := "LinkPredictor") 2 hts (goodC mw_1_48) rfl rfl rfl (hEV.2 (.methodLinkNest RX1 57 yX4_contains "LinkPredictor") (by decide +kernel)) (hts (.initialized RX4) (List.mem_cons_of_mem _ mw_1_1)) (by decide +kernel) ⟨Nat.le_of_ble_eq_true rfl, Nat.le_of_ble_eq_true rfl⟩) (hts (.static yX4_contains) (List.mem_cons_of_mem _ mw_1_47)) hEV va_P0 rfl hl.1 rfl (Nat.le_of_ble_eq_true rfl) dX1_hasAbove_7 ⟨Nat.zero_le _, Nat.zero_le _⟩ ?_
  exact W.zret hx hb hr (b2i_nar _) (fun t9 ht9 _ => ⟨_, rfl, hE, ht9⟩) (fun _ h9 => by cases h9) dX1_hasAbove_10
def p_X1_liesUnder (h : Nat → Nat → Int32) (τ : Nat → Nat → Int32) (x : Nat) (y : Nat) : Int32 := b2i (bt ((h 6 x) ||| (h 7 x)) y)
theorem pe_X1_liesUnder (h : Nat → Nat → Int32) (τ : Nat → Nat → Int32) (x : Nat) (y : Nat) (okh : OKH h τ) (gx : Gd τ x) (hnx : x < 12) (hny : y < 12) : p_X1_liesUnder h τ x y = b2i (abB τ x y || fcB τ x y) := by rw [p_X1_liesUnder, b_or, okh.ab hnx gx hny, okh.fc hnx gx hny]
set_option maxHeartbeats 4000000 in
set_option maxRecDepth 100000 in
theorem c_X1_liesUnder (l : Launch) (D : va_G) (cI cZ cB cR : ClassId) (a : Nat → Nat) (h : Nat → Nat → Int32) (τ : Nat → Nat → Int32) (x : Nat) (y : Nat) (okh : OKH h τ) (gx : Gd τ x) (hnx : x < 12) (hny : y < 12) : RO l yX1_liesUnder wsX1_liesUnder ({ frames := 1, cells := 0, slots := 0, locals := 21 } : Room) D cI cZ cB cR (wH cI a h) [.ref (a 0), .int (nI x), .int (nI y)] (b2i (abB τ x y || fcB τ x y)) := by
  have hE : p_X1_liesUnder h τ x y = b2i (abB τ x y || fcB τ x y) := pe_X1_liesUnder h τ x y okh gx hnx hny
  refine Met.ofW (cc := cX1_liesUnder) (maxL := 3) (ret := (some .boolean)) (by decide) rfl ?_
  intro p e s m args below meth c s₁ B hml hv
  obtain ⟨hargs, hP, hEV⟩ := hv
  have hx := B.exec
  have hb := B.bytes
  have hr := B.returns
  have hts := atoms_spec (ws := wsX1_liesUnder) B.pre
  have hown : s.vm.findClass RX1 = some m.cls := findClass_of_methodNamed B.named
  have hlocks := B.notSynchronized
  have hK := hEV.1
  have hl := lv_entry ([.ref (a 0), .int (nI x), .int (nI y)]) (n := 3) (Nat.le_of_ble_eq_true rfl)
  rw [show entryFrame m args 3 = entryFrame m ([.ref (a 0), .int (nI x), .int (nI y)] : List Value).toArray 3 from by rw [hargs], lg_entry_eq]
  generalize (lg_sl ([.ref (a 0), .int (nI x), .int (nI y)]) ++ List.replicate (3 - (lg_sl ([.ref (a 0), .int (nI x), .int (nI y)])).length) Slot.unset).toArray = ls at hl ⊢
  have hl : lv_has ls 3 [(0, .ref (a 0)), (1, .int (nI x)), (2, .int (nI y))] := hl
  rw [p_X1_liesUnder] at hE
  refine lv_aload_n hx hb dX1_liesUnder_0 rfl (lv_at hl 0 rfl) ?_
  refine va_get (D := D) (ci := 1) (v := .ref (a 7)) (C := RX1) (T := TX1) (N := 10) hx hb hts (fun w9 h9 => List.mem_cons_of_mem _ (inT_X1 w9 h9)) hown hK hP 0 rfl rfl 8 (by decide) (hts (.fieldLink RX1 30 "LinkPredictor$Hierarchy" "aboves" "[I") (List.mem_cons_of_mem _ mw_1_79)) (fun _ h9 => h9) rfl dX1_liesUnder_1 ?_
  refine lv_iload_n hx hb dX1_liesUnder_4 rfl (lv_at hl 1 rfl) ?_
  refine ro_ald hx hb hEV hP 7 (j := x) rfl (by omega) (by decide) dX1_liesUnder_5 ?_
  refine lv_aload_n hx hb dX1_liesUnder_6 rfl (lv_at hl 0 rfl) ?_
  refine va_get (D := D) (ci := 1) (v := .ref (a 8)) (C := RX1) (T := TX1) (N := 10) hx hb hts (fun w9 h9 => List.mem_cons_of_mem _ (inT_X1 w9 h9)) hown hK hP 0 rfl rfl 9 (by decide) (hts (.fieldLink RX1 33 "LinkPredictor$Hierarchy" "allFaces" "[I") (List.mem_cons_of_mem _ mw_1_80)) (fun _ h9 => h9) rfl dX1_liesUnder_7 ?_
  refine lv_iload_n hx hb dX1_liesUnder_10 rfl (lv_at hl 1 rfl) ?_
  refine ro_ald hx hb hEV hP 8 (j := x) rfl (by omega) (by decide) dX1_liesUnder_11 ?_
  refine lv_ior hx hb dX1_liesUnder_12 ?_
  refine lv_iload_n hx hb dX1_liesUnder_13 rfl (lv_at hl 2 rfl) ?_
  refine ro_SN [.int ((h 6 x) ||| (h 7 x)), .int (nI y)] [] ⟨hx, hb, hml, hown, hts⟩ (c_X4_contains l D cI cZ cB cR ((h 6 x) ||| (h 7 x)) y (by omega)) (va_cnB (host := "LinkPredictor") 2 hts (goodC mw_1_48) rfl rfl rfl (hEV.2 (.methodLinkNest RX1 57 yX4_contains "LinkPredictor") (by decide +kernel)) (hts (.initialized RX4) (List.mem_cons_of_mem _ mw_1_1)) (by decide +kernel) ⟨Nat.le_of_ble_eq_true rfl, Nat.le_of_ble_eq_true rfl⟩) (hts (.static yX4_contains) (List.mem_cons_of_mem _ mw_1_47)) hEV va_P0 rfl hl.1 rfl (Nat.le_of_ble_eq_true rfl) dX1_liesUnder_14 ⟨Nat.zero_le _, Nat.zero_le _⟩ ?_
  exact W.zret hx hb hr (b2i_nar _) (fun t9 ht9 _ => ⟨_, rfl, hE, ht9⟩) (fun _ h9 => by cases h9) dX1_liesUnder_17
def p_X1_reaching_44 (h : Nat → Nat → Int32) (τ : Nat → Nat → Int32) (x : Nat) (y : Nat) (vs0 : Int32) : Int32 := if vs0 = (0 : Int32) then (nI (256 + x)) else (nI x)
def p_X1_reaching (h : Nat → Nat → Int32) (τ : Nat → Nat → Int32) (x : Nat) (y : Nat) : Int32 := if (gd (h 5 x)) = true then (if ((h 0 x) &&& (1 : Int32)) = (0 : Int32) then (if (decide (τ 2 x = τ 2 y)) = true then (p_X1_reaching_44 h τ x y (1 : Int32)) else (p_X1_reaching_44 h τ x y (0 : Int32))) else (p_X1_reaching_44 h τ x y (1 : Int32))) else (h 5 x)
theorem pe_X1_reaching (h : Nat → Nat → Int32) (τ : Nat → Nat → Int32) (x : Nat) (y : Nat) (okh : OKH h τ) (hnx : x < 12) (hny : y < 12) : p_X1_reaching h τ x y = rcI τ x y := by
  have e44 : ∀ z : Bool, p_X1_reaching_44 h τ x y (b2i z) = if z = true then nI x else nI (256 + x) := fun z => by
    rw [p_X1_reaching_44]; cases z <;> rfl
  rw [p_X1_reaching, okh.lv hnx, okh.b.fl hnx]
  unfold rcI rcF
  by_cases c1 : gd (LV τ x) = true
  · rw [if_pos c1, if_pos c1]
    by_cases c2 : τ 1 x &&& 1 = 0
    · rw [if_pos c2]
      have c3 := and1_eq.mp c2
      by_cases c4 : decide (τ 2 x = τ 2 y) = true
      · rw [if_pos c4]
        exact (e44 true).trans (by simp [c4])
      · rw [if_neg c4]
        exact (e44 false).trans (by simp [c3, c4])
    · rw [if_neg c2]
      have c3 : bt (τ 1 x) 0 = true := Classical.byContradiction (fun z => c2 (and1_eq.mpr z))
      exact (e44 true).trans (by simp [c3])
  · rw [if_neg c1, if_neg c1]
set_option maxHeartbeats 4000000 in
set_option maxRecDepth 100000 in
theorem c_X1_reaching (l : Launch) (D : va_G) (cI cZ cB cR : ClassId) (a : Nat → Nat) (h : Nat → Nat → Int32) (τ : Nat → Nat → Int32) (x : Nat) (y : Nat) (okh : OKH h τ) (hnx : x < 12) (hny : y < 12) : RO l yX1_reaching wsX1_reaching ({ frames := 2, cells := 0, slots := 0, locals := 41 } : Room) D cI cZ cB cR (wH cI a h) [.ref (a 0), .int (nI x), .int (nI y)] (rcI τ x y) := by
  have hE : p_X1_reaching h τ x y = rcI τ x y := pe_X1_reaching h τ x y okh hnx hny
  refine Met.ofW (cc := cX1_reaching) (maxL := 4) (ret := (some .int)) (by decide) rfl ?_
  intro p e s m args below meth c s₁ B hml hv
  obtain ⟨hargs, hP, hEV⟩ := hv
  have hx := B.exec
  have hb := B.bytes
  have hr := B.returns
  have hts := atoms_spec (ws := wsX1_reaching) B.pre
  have hown : s.vm.findClass RX1 = some m.cls := findClass_of_methodNamed B.named
  have hlocks := B.notSynchronized
  have hK := hEV.1
  have hl := lv_entry ([.ref (a 0), .int (nI x), .int (nI y)]) (n := 4) (Nat.le_of_ble_eq_true rfl)
  rw [show entryFrame m args 4 = entryFrame m ([.ref (a 0), .int (nI x), .int (nI y)] : List Value).toArray 4 from by rw [hargs], lg_entry_eq]
  generalize (lg_sl ([.ref (a 0), .int (nI x), .int (nI y)]) ++ List.replicate (4 - (lg_sl ([.ref (a 0), .int (nI x), .int (nI y)])).length) Slot.unset).toArray = ls at hl ⊢
  have hl : lv_has ls 4 [(0, .ref (a 0)), (1, .int (nI x)), (2, .int (nI y))] := hl
  rw [p_X1_reaching] at hE
  have key_44 : ∀ (vs0 : Int32) (ls : Array Slot), lv_has ls 4 [(1, .int (nI x))] → p_X1_reaching_44 h τ x y vs0 = rcI τ x y → W p l e (headSpec wsX1_reaching ({ frames := 2, cells := 0, slots := 0, locals := 41 } : Room)).room s m args below meth c s.heap [] 0 0 (MQ below (vp_Si (fun r => r = rcI τ x y)) args s 0 0 (fun _ => False)) (F0 m 44 ls [.int vs0]) := by
    intro vs0 ls  hl hE
    rw [p_X1_reaching_44] at hE
    refine lv_istore_n (lv' := [(3, .int vs0), (1, .int (nI x))]) hx hb dX1_reaching_44 rfl hl (by decide) rfl (fun ls hl => ?_)
    refine lv_iload_n hx hb dX1_reaching_45 rfl (lv_at hl 0 rfl) ?_
    refine lv_if_eq (tgt := 53) hx hb dX1_reaching_46 (by decide) (fun c_46 => ?_) (fun c_46 => ?_)
    · skip
      have hE := (if_pos c_46).symm.trans hE
      refine lv_sipush (v := (256 : Int32)) hx hb dX1_reaching_53 (by decide) ?_
      refine lv_iload_n hx hb dX1_reaching_56 rfl (lv_at hl 1 rfl) ?_
      refine lv_iadd hx hb dX1_reaching_57 ?_
      refine top_eq (nI_add 256 x) ?_
      exact W.iret hx hb hr (fun t9 ht9 _ => ⟨_, rfl, hE, ht9⟩) (fun _ h9 => by cases h9) dX1_reaching_58
    · skip
      have hE := (if_neg c_46).symm.trans hE
      refine lv_iload_n hx hb dX1_reaching_49 rfl (lv_at hl 1 rfl) ?_
      refine lv_goto (tgt := 58) hx hb dX1_reaching_50 (by decide) ?_
      exact W.iret hx hb hr (fun t9 ht9 _ => ⟨_, rfl, hE, ht9⟩) (fun _ h9 => by cases h9) dX1_reaching_58
  refine lv_aload_n hx hb dX1_reaching_0 rfl (lv_at hl 0 rfl) ?_
  refine va_get (D := D) (ci := 1) (v := .ref (a 6)) (C := RX1) (T := TX1) (N := 10) hx hb hts (fun w9 h9 => List.mem_cons_of_mem _ (inT_X1 w9 h9)) hown hK hP 0 rfl rfl 6 (by decide) (hts (.fieldLink RX1 27 "LinkPredictor$Hierarchy" "verdicts" "[I") (List.mem_cons_of_mem _ mw_1_77)) (fun _ h9 => h9) rfl dX1_reaching_1 ?_
  refine lv_iload_n hx hb dX1_reaching_4 rfl (lv_at hl 1 rfl) ?_
  refine ro_ald hx hb hEV hP 6 (j := x) rfl (by omega) (by decide) dX1_reaching_5 ?_
  refine ro_SN [.int (h 5 x)] [] ⟨hx, hb, hml, hown, hts⟩ (c_X4_isGood l D cI cZ cB cR (h 5 x)) (va_cnB (host := "LinkPredictor") 1 hts (goodC mw_1_55) rfl rfl rfl (hEV.2 (.methodLinkNest RX1 61 yX4_isGood "LinkPredictor") (by decide +kernel)) (hts (.initialized RX4) (List.mem_cons_of_mem _ mw_1_1)) (by decide +kernel) ⟨Nat.le_of_ble_eq_true rfl, Nat.le_of_ble_eq_true rfl⟩) (hts (.static yX4_isGood) (List.mem_cons_of_mem _ mw_1_54)) hEV va_P0 rfl hl.1 rfl (Nat.le_of_ble_eq_true rfl) dX1_reaching_6 ⟨Nat.zero_le _, Nat.zero_le _⟩ ?_
  refine lv_if_ne (tgt := 19) hx hb dX1_reaching_9 (by decide) (fun c_9 => ?_) (fun c_9 => ?_)
  · have c_9 : (gd (h 5 x)) = true := b2i_t c_9
    have hE := (if_pos c_9).symm.trans hE
    refine lv_aload_n hx hb dX1_reaching_19 rfl (lv_at hl 0 rfl) ?_
    refine va_get (D := D) (ci := 1) (v := .ref (a 1)) (C := RX1) (T := TX1) (N := 10) hx hb hts (fun w9 h9 => List.mem_cons_of_mem _ (inT_X1 w9 h9)) hown hK hP 0 rfl rfl 1 (by decide) (hts (.fieldLink RX1 9 "LinkPredictor$Hierarchy" "flags" "[I") (List.mem_cons_of_mem _ mw_1_72)) (fun _ h9 => h9) rfl dX1_reaching_20 ?_
    refine lv_iload_n hx hb dX1_reaching_23 rfl (lv_at hl 1 rfl) ?_
    refine ro_ald hx hb hEV hP 1 (j := x) rfl (by omega) (by decide) dX1_reaching_24 ?_
    refine lv_iconst (v := (1 : Int32)) hx hb dX1_reaching_25 (by decide) ?_
    refine lv_iand hx hb dX1_reaching_26 ?_
    refine lv_if_ne (tgt := 39) hx hb dX1_reaching_27 (by decide) (fun c_27 => ?_) (fun c_27 => ?_)
    · skip
      have hE := (if_neg c_27).symm.trans hE
      refine lv_iconst (v := (1 : Int32)) hx hb dX1_reaching_39 (by decide) ?_
      refine lv_goto (tgt := 44) hx hb dX1_reaching_40 (by decide) ?_
      exact key_44 (1 : Int32) ls  (lv_sub hl [1] rfl) hE
    · skip
      have hE := (if_pos c_27).symm.trans hE
      refine lv_aload_n hx hb dX1_reaching_30 rfl (lv_at hl 0 rfl) ?_
      refine lv_iload_n hx hb dX1_reaching_31 rfl (lv_at hl 1 rfl) ?_
      refine lv_iload_n hx hb dX1_reaching_32 rfl (lv_at hl 2 rfl) ?_
      refine ro_V [.int (nI x), .int (nI y)] [] ⟨hx, hb, hml, hown, hts⟩ (c_X1_isSamePackage l D cI cZ cB cR a h τ x y okh.b (by omega) (by omega)) (cwV (C := RX1) 2 hts (goodP (ps := [.methodLink RX1 64 yX1_isSamePackage, .instanceMethod yX1_isSamePackage, .selects RX1 yX1_isSamePackage yX1_isSamePackage, .initialized RX1]) (all4 mw_2_83 mw_2_84 mw_2_85 mw_1_3) mw_2_86) rfl rfl rfl (by decide +kernel) ⟨Nat.le_of_ble_eq_true rfl, Nat.le_of_ble_eq_true rfl⟩) hEV hP 0 rfl rfl rfl hl.1 rfl (Nat.le_of_ble_eq_true rfl) dX1_reaching_33 ⟨Nat.zero_le _, Nat.zero_le _⟩ ?_
      refine lv_if_eq (tgt := 43) hx hb dX1_reaching_36 (by decide) (fun c_36 => ?_) (fun c_36 => ?_)
      · have c_36 : ¬ ((decide (τ 2 x = τ 2 y)) = true) := b2i_f c_36
        have hE := (if_neg c_36).symm.trans hE
        refine lv_iconst (v := (0 : Int32)) hx hb dX1_reaching_43 (by decide) ?_
        exact key_44 (0 : Int32) ls  (lv_sub hl [1] rfl) hE
      · have c_36 : (decide (τ 2 x = τ 2 y)) = true := b2i_t c_36
        have hE := (if_pos c_36).symm.trans hE
        refine lv_iconst (v := (1 : Int32)) hx hb dX1_reaching_39 (by decide) ?_
        refine lv_goto (tgt := 44) hx hb dX1_reaching_40 (by decide) ?_
        exact key_44 (1 : Int32) ls  (lv_sub hl [1] rfl) hE
  · have c_9 : ¬ ((gd (h 5 x)) = true) := b2i_f c_9
    have hE := (if_neg c_9).symm.trans hE
    refine lv_aload_n hx hb dX1_reaching_12 rfl (lv_at hl 0 rfl) ?_
    refine va_get (D := D) (ci := 1) (v := .ref (a 6)) (C := RX1) (T := TX1) (N := 10) hx hb hts (fun w9 h9 => List.mem_cons_of_mem _ (inT_X1 w9 h9)) hown hK hP 0 rfl rfl 6 (by decide) (hts (.fieldLink RX1 27 "LinkPredictor$Hierarchy" "verdicts" "[I") (List.mem_cons_of_mem _ mw_1_77)) (fun _ h9 => h9) rfl dX1_reaching_13 ?_
    refine lv_iload_n hx hb dX1_reaching_16 rfl (lv_at hl 1 rfl) ?_
    refine ro_ald hx hb hEV hP 6 (j := x) rfl (by omega) (by decide) dX1_reaching_17 ?_
    exact W.iret hx hb hr (fun t9 ht9 _ => ⟨_, rfl, hE, ht9⟩) (fun _ h9 => by cases h9) dX1_reaching_18
def p_X1_mostSpecificOf_4 (h : Nat → Nat → Int32) (τ : Nat → Nat → Int32) (x : Int32) : Nat → Nat → Int32 → Int32
  | 0, _, _ => 0
  | k + 1, n3, v2 => if 12 ≤ n3 then (x &&& (v2 ^^^ (-1 : Int32))) else (if (bt x n3) = true then (p_X1_mostSpecificOf_4 h τ x k (n3 + 1) (v2 ||| (h 7 n3))) else (p_X1_mostSpecificOf_4 h τ x k (n3 + 1) (v2 ||| (0 : Int32))))
def p_X1_mostSpecificOf (h : Nat → Nat → Int32) (τ : Nat → Nat → Int32) (x : Int32) : Int32 := p_X1_mostSpecificOf_4 h τ x 13 0 (0 : Int32)
/-- what the types of a mask have as faces -/
def cvF (h : Nat → Nat → Int32) (s : Int32) : Nat → Int32
  | 0 => 0
  | n + 1 => cvF h s n ||| (if bt s n = true then h 7 n else 0)
def msI (h : Nat → Nat → Int32) (s : Int32) : Int32 := s &&& (cvF h s 12 ^^^ (-1))
theorem cvF_bt (h : Nat → Nat → Int32) (s : Int32) (t : Nat) : ∀ n, (bt (cvF h s n) t = true ↔ ∃ u, u < n ∧ bt s u = true ∧ bt (h 7 u) t = true)
  | 0 => by rw [cvF, b_0]; simp
  | n + 1 => by
    have ih := cvF_bt h s t n
    rw [cvF, b_or, Bool.or_eq_true, ih]
    constructor
    · rintro (⟨u, h1, h2⟩ | q)
      · exact ⟨u, by omega, h2⟩
      · split at q
        · rename_i c; exact ⟨n, by omega, c, q⟩
        · rw [b_0] at q; exact absurd q (by decide)
    · rintro ⟨u, h1, h2, h3⟩
      rcases Nat.lt_or_ge u n with z | z
      · exact Or.inl ⟨u, z, h2, h3⟩
      · have e : u = n := by omega
        subst e
        exact Or.inr (by rw [if_pos h2]; exact h3)
theorem msI_bt (h : Nat → Nat → Int32) (s : Int32) {t : Nat} (ht : t < 32) : bt (msI h s) t = true ↔ bt s t = true ∧ ¬ ∃ u, u < 12 ∧ bt s u = true ∧ bt (h 7 u) t = true := by
  unfold msI
  rw [b_and, b_xor, b_m1 t ht, Bool.and_eq_true, ← cvF_bt h s t 12]
  cases bt (cvF h s 12) t <;> simp
theorem pl_X1_ms (h τ : Nat → Nat → Int32) (x : Int32) : ∀ k i v, 12 - i < k → i ≤ 12 → v = cvF h x i → p_X1_mostSpecificOf_4 h τ x k i v = msI h x := by
  intro k
  induction k with
  | zero => intro i v h1; omega
  | succ k ih =>
    intro i v hk hi hv
    rw [p_X1_mostSpecificOf_4]
    by_cases c : 12 ≤ i
    · rw [if_pos c]
      have e : i = 12 := by omega
      subst e
      rw [hv]; rfl
    · rw [if_neg c]
      by_cases c1 : bt x i = true
      · rw [if_pos c1]; exact ih (i + 1) _ (by omega) (by omega) (by rw [cvF, if_pos c1, hv])
      · rw [if_neg c1]; exact ih (i + 1) _ (by omega) (by omega) (by rw [cvF, if_neg c1, hv])
theorem pe_X1_mostSpecificOf (h : Nat → Nat → Int32) (τ : Nat → Nat → Int32) (x : Int32) (okh : OKH h τ)  : p_X1_mostSpecificOf h τ x = msI h x := pl_X1_ms h τ x 13 0 0 (by omega) (by omega) rfl
set_option maxHeartbeats 4000000 in
set_option maxRecDepth 100000 in
theorem c_X1_mostSpecificOf (l : Launch) (D : va_G) (cI cZ cB cR : ClassId) (a : Nat → Nat) (h : Nat → Nat → Int32) (τ : Nat → Nat → Int32) (x : Int32) (okh : OKH h τ)  : RO l yX1_mostSpecificOf wsX1_mostSpecificOf ({ frames := 1, cells := 0, slots := 0, locals := 21 } : Room) D cI cZ cB cR (wH cI a h) [.ref (a 0), .int x] (msI h x) := by
  have hE : p_X1_mostSpecificOf h τ x = msI h x := pe_X1_mostSpecificOf h τ x okh
  refine Met.ofW (cc := cX1_mostSpecificOf) (maxL := 4) (ret := (some .int)) (by decide) rfl ?_
  intro p e s m args below meth c s₁ B hml hv
  obtain ⟨hargs, hP, hEV⟩ := hv
  have hx := B.exec
  have hb := B.bytes
  have hr := B.returns
  have hts := atoms_spec (ws := wsX1_mostSpecificOf) B.pre
  have hown : s.vm.findClass RX1 = some m.cls := findClass_of_methodNamed B.named
  have hlocks := B.notSynchronized
  have hK := hEV.1
  have hl := lv_entry ([.ref (a 0), .int x]) (n := 4) (Nat.le_of_ble_eq_true rfl)
  rw [show entryFrame m args 4 = entryFrame m ([.ref (a 0), .int x] : List Value).toArray 4 from by rw [hargs], lg_entry_eq]
  generalize (lg_sl ([.ref (a 0), .int x]) ++ List.replicate (4 - (lg_sl ([.ref (a 0), .int x])).length) Slot.unset).toArray = ls at hl ⊢
  have hl : lv_has ls 4 [(0, .ref (a 0)), (1, .int x)] := hl
  rw [p_X1_mostSpecificOf] at hE
  have key_4 : ∀ (k_4 : Nat) (n3 : Nat) (v2 : Int32) (ls : Array Slot), (12 - n3) < k_4 → n3 ≤ 12 → lv_has ls 4 [(3, .int (nI n3)), (2, .int v2), (0, .ref (a 0)), (1, .int x)] → p_X1_mostSpecificOf_4 h τ x k_4 n3 v2 = msI h x → W p l e (headSpec wsX1_mostSpecificOf ({ frames := 1, cells := 0, slots := 0, locals := 21 } : Room)).room s m args below meth c s.heap [] 0 0 (MQ below (vp_Si (fun r => r = msI h x)) args s 0 0 (fun _ => False)) (F0 m 4 ls []) := by
    intro k_4
    induction k_4 with
    | zero => intro n3 v2 ls hm; exact absurd hm (Nat.not_lt_zero _)
    | succ k_4 ih_4 =>
      intro n3 v2 ls hm_4 hi_4_0 hl hE
      rw [p_X1_mostSpecificOf_4] at hE
      refine lv_iload_n hx hb dX1_mostSpecificOf_4 rfl (lv_at hl 0 rfl) ?_
      refine lv_bipush (v := (12 : Int32)) hx hb dX1_mostSpecificOf_5 (by decide) ?_
      refine lv_icmp_ge (tgt := 37) hx hb dX1_mostSpecificOf_7 (by decide) (fun c_7 => ?_) (fun c_7 => ?_)
      · have c_7 : 12 ≤ n3 := (nI_leI (a := 12) (b := n3) (by omega) (by omega)).mp c_7
        have hE := (if_pos c_7).symm.trans hE
        refine lv_iload_n hx hb dX1_mostSpecificOf_37 rfl (lv_at hl 3 rfl) ?_
        refine lv_iload_n hx hb dX1_mostSpecificOf_38 rfl (lv_at hl 1 rfl) ?_
        refine lv_iconst (v := (-1 : Int32)) hx hb dX1_mostSpecificOf_39 (by decide) ?_
        refine lv_ixor hx hb dX1_mostSpecificOf_40 ?_
        refine lv_iand hx hb dX1_mostSpecificOf_41 ?_
        exact W.iret hx hb hr (fun t9 ht9 _ => ⟨_, rfl, hE, ht9⟩) (fun _ h9 => by cases h9) dX1_mostSpecificOf_42
      · have c_7 : ¬ (12 ≤ n3) := fun q9 => c_7 ((nI_leI (a := 12) (b := n3) (by omega) (by omega)).mpr q9)
        have hE := (if_neg c_7).symm.trans hE
        refine lv_iload_n hx hb dX1_mostSpecificOf_10 rfl (lv_at hl 1 rfl) ?_
        refine lv_iload_n hx hb dX1_mostSpecificOf_11 rfl (lv_at hl 3 rfl) ?_
        refine lv_iload_n hx hb dX1_mostSpecificOf_12 rfl (lv_at hl 0 rfl) ?_
        refine ro_SN [.int x, .int (nI n3)] [.int v2] ⟨hx, hb, hml, hown, hts⟩ (c_X4_contains l D cI cZ cB cR x n3 (by omega)) (va_cnB (host := "LinkPredictor") 2 hts (goodC mw_1_48) rfl rfl rfl (hEV.2 (.methodLinkNest RX1 57 yX4_contains "LinkPredictor") (by decide +kernel)) (hts (.initialized RX4) (List.mem_cons_of_mem _ mw_1_1)) (by decide +kernel) ⟨Nat.le_of_ble_eq_true rfl, Nat.le_of_ble_eq_true rfl⟩) (hts (.static yX4_contains) (List.mem_cons_of_mem _ mw_1_47)) hEV va_P0 rfl hl.1 rfl (Nat.le_of_ble_eq_true rfl) dX1_mostSpecificOf_13 ⟨Nat.zero_le _, Nat.zero_le _⟩ ?_
        refine lv_if_eq (tgt := 28) hx hb dX1_mostSpecificOf_16 (by decide) (fun c_16 => ?_) (fun c_16 => ?_)
        · have c_16 : ¬ ((bt x n3) = true) := b2i_f c_16
          have hE := (if_neg c_16).symm.trans hE
          refine lv_iconst (v := (0 : Int32)) hx hb dX1_mostSpecificOf_28 (by decide) ?_
          refine lv_ior hx hb dX1_mostSpecificOf_29 ?_
          refine lv_istore_n (lv' := [(2, .int (v2 ||| (0 : Int32))), (3, .int (nI n3)), (0, .ref (a 0)), (1, .int x)]) hx hb dX1_mostSpecificOf_30 rfl hl (by decide) rfl (fun ls hl => ?_)
          refine lv_iinc (v := nI (n3 + 1)) (lv' := [(3, .int (nI (n3 + 1))), (2, .int (v2 ||| (0 : Int32))), (0, .ref (a 0)), (1, .int x)]) hx hb dX1_mostSpecificOf_31 hl (k := 1) rfl (nI_1 _) (by decide) rfl (fun ls hl => ?_)
          refine lv_goto (tgt := 4) hx hb dX1_mostSpecificOf_34 (by decide) ?_
          exact ih_4 (n3 + 1) (v2 ||| (0 : Int32)) ls (by omega) (by omega) (lv_sub hl [0, 1, 2, 3] rfl) hE
        · have c_16 : (bt x n3) = true := b2i_t c_16
          have hE := (if_pos c_16).symm.trans hE
          refine lv_aload_n hx hb dX1_mostSpecificOf_19 rfl (lv_at hl 2 rfl) ?_
          refine va_get (D := D) (ci := 1) (v := .ref (a 8)) (C := RX1) (T := TX1) (N := 10) hx hb hts (fun w9 h9 => List.mem_cons_of_mem _ (inT_X1 w9 h9)) hown hK hP 0 rfl rfl 9 (by decide) (hts (.fieldLink RX1 33 "LinkPredictor$Hierarchy" "allFaces" "[I") (List.mem_cons_of_mem _ mw_1_80)) (fun _ h9 => h9) rfl dX1_mostSpecificOf_20 ?_
          refine lv_iload_n hx hb dX1_mostSpecificOf_23 rfl (lv_at hl 0 rfl) ?_
          refine ro_ald hx hb hEV hP 8 (j := n3) rfl (by omega) (by decide) dX1_mostSpecificOf_24 ?_
          refine lv_goto (tgt := 29) hx hb dX1_mostSpecificOf_25 (by decide) ?_
          refine lv_ior hx hb dX1_mostSpecificOf_29 ?_
          refine lv_istore_n (lv' := [(2, .int (v2 ||| (h 7 n3))), (3, .int (nI n3)), (0, .ref (a 0)), (1, .int x)]) hx hb dX1_mostSpecificOf_30 rfl hl (by decide) rfl (fun ls hl => ?_)
          refine lv_iinc (v := nI (n3 + 1)) (lv' := [(3, .int (nI (n3 + 1))), (2, .int (v2 ||| (h 7 n3))), (0, .ref (a 0)), (1, .int x)]) hx hb dX1_mostSpecificOf_31 hl (k := 1) rfl (nI_1 _) (by decide) rfl (fun ls hl => ?_)
          refine lv_goto (tgt := 4) hx hb dX1_mostSpecificOf_34 (by decide) ?_
          exact ih_4 (n3 + 1) (v2 ||| (h 7 n3)) ls (by omega) (by omega) (lv_sub hl [0, 1, 2, 3] rfl) hE
  refine lv_iconst (v := (0 : Int32)) hx hb dX1_mostSpecificOf_0 (by decide) ?_
  refine lv_istore_n (lv' := [(2, .int (0 : Int32)), (0, .ref (a 0)), (1, .int x)]) hx hb dX1_mostSpecificOf_1 rfl hl (by decide) rfl (fun ls hl => ?_)
  refine lv_iconst (v := (0 : Int32)) hx hb dX1_mostSpecificOf_2 (by decide) ?_
  refine lv_istore_n (lv' := [(3, .int (0 : Int32)), (2, .int (0 : Int32)), (0, .ref (a 0)), (1, .int x)]) hx hb dX1_mostSpecificOf_3 rfl hl (by decide) rfl (fun ls hl => ?_)
  exact key_4 13 0 (0 : Int32) ls (by omega) (by omega) (lv_sub hl [0, 1, 2, 3] rfl) hE
def p_X1_nestSharers_12 (h : Nat → Nat → Int32) (τ : Nat → Nat → Int32)  (K4 : Nat → Int32 → Int32) : Nat → Nat → Nat → Int32 → Int32
  | 0, _, _, _ => 0
  | k + 1, n3, n2, v1 => if n2 ≤ n3 then (K4 (n2 + 1) v1) else (if (thB τ n2) = true then (if (thB τ n3) = true then (if (nsN τ n2) = (nsN τ n3) then (p_X1_nestSharers_12 h τ K4 k (n3 + 1) n2 (v1 ||| ((bm n2) ||| (bm n3)))) else (p_X1_nestSharers_12 h τ K4 k (n3 + 1) n2 v1)) else (p_X1_nestSharers_12 h τ K4 k (n3 + 1) n2 v1)) else (p_X1_nestSharers_12 h τ K4 k (n3 + 1) n2 v1))
def p_X1_nestSharers_4 (h : Nat → Nat → Int32) (τ : Nat → Nat → Int32)  : Nat → Nat → Int32 → Int32
  | 0, _, _ => 0
  | k + 1, n2, v1 => if 12 ≤ n2 then (v1) else (p_X1_nestSharers_12 h τ (fun n2 v1 => p_X1_nestSharers_4 h τ k n2 v1) 13 0 n2 v1)
def p_X1_nestSharers (h : Nat → Nat → Int32) (τ : Nat → Nat → Int32)  : Int32 := p_X1_nestSharers_4 h τ 13 0 (0 : Int32)
/-- t and u are there, and of one nest -/
def mtB (τ : Nat → Nat → Int32) (t u : Nat) : Bool := thB τ t && thB τ u && decide (nsN τ t = nsN τ u)
def shB (τ : Nat → Nat → Int32) (t : Nat) : Bool := exB (fun u => !decide (u = t) && mtB τ t u) 12
def shI (τ : Nat → Nat → Int32) : Int32 := orF (shB τ) (fun t => t) 12
theorem pl_X1_ns12 (h τ : Nat → Nat → Int32) (wf : WFT τ) (K : Nat → Int32 → Int32) (t : Nat) (ht : t < 12) : ∀ k j v, t - j < k → j ≤ t → ∃ v', p_X1_nestSharers_12 h τ K k j t v = K (t + 1) v' ∧ ∀ w, w < 32 → (bt v' w = true ↔ bt v w = true ∨ ∃ u, j ≤ u ∧ u < t ∧ mtB τ t u = true ∧ (w = t ∨ w = u)) := by
  intro k
  induction k with
  | zero => intro j v h1; omega
  | succ k ih =>
    intro j v hk hj
    rw [p_X1_nestSharers_12]
    by_cases c : t ≤ j
    · rw [if_pos c]
      refine ⟨v, rfl, fun w _ => ⟨Or.inl, ?_⟩⟩
      rintro (q | ⟨u, q1, q2, -⟩)
      · exact q
      · omega
    · rw [if_neg c]
      have skip : mtB τ t j = false → ∃ v', p_X1_nestSharers_12 h τ K k (j + 1) t v = K (t + 1) v' ∧ ∀ w, w < 32 → (bt v' w = true ↔ bt v w = true ∨ ∃ u, j ≤ u ∧ u < t ∧ mtB τ t u = true ∧ (w = t ∨ w = u)) := by
        intro q
        obtain ⟨v', e, hv⟩ := ih (j + 1) v (by omega) (by omega)
        refine ⟨v', e, fun w hw => ?_⟩
        rw [hv w hw]
        constructor
        · rintro (z | ⟨u, z1, z2, z3⟩)
          · exact Or.inl z
          · exact Or.inr ⟨u, by omega, z2, z3⟩
        · rintro (z | ⟨u, z1, z2, z3, z4⟩)
          · exact Or.inl z
          · rcases Nat.lt_or_ge j u with y | y
            · exact Or.inr ⟨u, y, z2, z3, z4⟩
            · have e : u = j := by omega
              subst e
              rw [q] at z3
              exact absurd z3 (by decide)
      by_cases c1 : thB τ t = true
      · rw [if_pos c1]
        by_cases c2 : thB τ j = true
        · rw [if_pos c2]
          by_cases c3 : nsN τ t = nsN τ j
          · rw [if_pos c3]
            obtain ⟨v', e, hv⟩ := ih (j + 1) (v ||| (bm t ||| bm j)) (by omega) (by omega)
            refine ⟨v', e, fun w hw => ?_⟩
            rw [hv w hw, b_or, b_or, b_bm (by omega) hw, b_bm (by omega) hw]
            simp only [Bool.or_eq_true, decide_eq_true_eq]
            have hm : mtB τ t j = true := by simp [mtB, c1, c2, c3]
            constructor
            · rintro ((z | z) | ⟨u, z1, z2, z3⟩)
              · exact Or.inl z
              · exact Or.inr ⟨j, Nat.le_refl j, by omega, hm, z⟩
              · exact Or.inr ⟨u, by omega, z2, z3⟩
            · rintro (z | ⟨u, z1, z2, z3, z4⟩)
              · exact Or.inl (Or.inl z)
              · rcases Nat.lt_or_ge j u with y | y
                · exact Or.inr ⟨u, y, z2, z3, z4⟩
                · have e : u = j := by omega
                  subst e
                  exact Or.inl (Or.inr z4)
          · rw [if_neg c3]; exact skip (by simp [mtB, c3])
        · rw [if_neg c2]; exact skip (by simp [mtB, c2])
      · rw [if_neg c1]; exact skip (by simp [mtB, c1])
theorem pl_X1_ns4 (h τ : Nat → Nat → Int32) (wf : WFT τ) : ∀ k t v, 12 - t < k → t ≤ 12 → ∀ w, w < 32 → (bt (p_X1_nestSharers_4 h τ k t v) w = true ↔ bt v w = true ∨ ∃ t', t ≤ t' ∧ t' < 12 ∧ ∃ u, u < t' ∧ mtB τ t' u = true ∧ (w = t' ∨ w = u)) := by
  intro k
  induction k with
  | zero => intro t v h1; omega
  | succ k ih =>
    intro t v hk ht w hw
    rw [p_X1_nestSharers_4]
    by_cases c : 12 ≤ t
    · rw [if_pos c]
      refine ⟨Or.inl, ?_⟩
      rintro (q | ⟨t', q1, q2, -⟩)
      · exact q
      · omega
    · rw [if_neg c]
      obtain ⟨v', e, hv⟩ := pl_X1_ns12 h τ wf (fun n2 v1 => p_X1_nestSharers_4 h τ k n2 v1) t (by omega) 13 0 v (by omega) (by omega)
      rw [e, ih (t + 1) v' (by omega) (by omega) w hw, hv w hw]
      constructor
      · rintro ((q | ⟨u, q1, q2, q3⟩) | ⟨t', q1, q2, q3⟩)
        · exact Or.inl q
        · exact Or.inr ⟨t, Nat.le_refl t, by omega, u, q2, q3⟩
        · exact Or.inr ⟨t', by omega, q2, q3⟩
      · rintro (q | ⟨t', q1, q2, u, q3, q4⟩)
        · exact Or.inl (Or.inl q)
        · rcases Nat.lt_or_ge t t' with y | y
          · exact Or.inr ⟨t', y, q2, u, q3, q4⟩
          · have e : t' = t := by omega
            subst e
            exact Or.inl (Or.inr ⟨u, Nat.zero_le u, q3, q4⟩)
theorem mtB_comm {τ : Nat → Nat → Int32} {t u : Nat} : mtB τ t u = mtB τ u t := by
  unfold mtB
  rw [Bool.and_comm (thB τ t), decide_eq_decide.mpr (eq_comm (a := nsN τ t))]
theorem shI_bt {τ : Nat → Nat → Int32} {w : Nat} (hw : w < 32) : bt (shI τ) w = true ↔ w < 12 ∧ shB τ w = true := by
  unfold shI
  rw [orF_bt _ _ hw 12 (fun m hm => by omega)]
  constructor
  · rintro ⟨m, h1, h2, h3⟩; subst h3; exact ⟨h1, h2⟩
  · rintro ⟨h1, h2⟩; exact ⟨w, h1, h2, rfl⟩
theorem pe_X1_nestSharers (h : Nat → Nat → Int32) (τ : Nat → Nat → Int32)  (okh : OKH h τ) (wf : WFT τ)  : p_X1_nestSharers h τ = shI τ := by
  rw [p_X1_nestSharers]
  apply b_ext
  intro w hw
  rw [Bool.eq_iff_iff, pl_X1_ns4 h τ wf 13 0 0 (by omega) (by omega) w hw, shI_bt hw, b_0]
  unfold shB
  rw [exB_iff]
  constructor
  · rintro (q | ⟨t', -, q2, u, q3, q4, q5⟩)
    · exact absurd q (by decide)
    · rcases q5 with q5 | q5
      · subst q5
        exact ⟨q2, u, by omega, by simp [q4]; omega⟩
      · subst q5
        exact ⟨by omega, t', q2, by rw [mtB_comm]; simp [q4]; omega⟩
  · rintro ⟨q1, u, q2, q3⟩
    simp only [Bool.and_eq_true, Bool.not_eq_true', decide_eq_false_iff_not] at q3
    rcases Nat.lt_or_ge u w with z | z
    · exact Or.inr ⟨w, Nat.zero_le w, q1, u, z, q3.2, Or.inl rfl⟩
    · exact Or.inr ⟨u, Nat.zero_le u, q2, w, by omega, by rw [mtB_comm]; exact q3.2, Or.inr rfl⟩
set_option maxHeartbeats 4000000 in
set_option maxRecDepth 100000 in
theorem c_X1_nestSharers (l : Launch) (D : va_G) (cI cZ cB cR : ClassId) (a : Nat → Nat) (h : Nat → Nat → Int32) (τ : Nat → Nat → Int32)  (okh : OKH h τ) (wf : WFT τ)  : RO l yX1_nestSharers wsX1_nestSharers ({ frames := 3, cells := 0, slots := 0, locals := 64 } : Room) D cI cZ cB cR (wH cI a h) [.ref (a 0)] (shI τ) := by
  have hE : p_X1_nestSharers h τ = shI τ := pe_X1_nestSharers h τ okh wf
  refine Met.ofW (cc := cX1_nestSharers) (maxL := 4) (ret := (some .int)) (by decide) rfl ?_
  intro p e s m args below meth c s₁ B hml hv
  obtain ⟨hargs, hP, hEV⟩ := hv
  have hx := B.exec
  have hb := B.bytes
  have hr := B.returns
  have hts := atoms_spec (ws := wsX1_nestSharers) B.pre
  have hown : s.vm.findClass RX1 = some m.cls := findClass_of_methodNamed B.named
  have hlocks := B.notSynchronized
  have hK := hEV.1
  have hl := lv_entry ([.ref (a 0)]) (n := 4) (Nat.le_of_ble_eq_true rfl)
  rw [show entryFrame m args 4 = entryFrame m ([.ref (a 0)] : List Value).toArray 4 from by rw [hargs], lg_entry_eq]
  generalize (lg_sl ([.ref (a 0)]) ++ List.replicate (4 - (lg_sl ([.ref (a 0)])).length) Slot.unset).toArray = ls at hl ⊢
  have hl : lv_has ls 4 [(0, .ref (a 0))] := hl
  rw [p_X1_nestSharers] at hE
  have key_4 : ∀ (k_4 : Nat) (n2 : Nat) (v1 : Int32) (ls : Array Slot), (12 - n2) < k_4 → n2 ≤ 12 → lv_has ls 4 [(2, .int (nI n2)), (1, .int v1), (0, .ref (a 0))] → p_X1_nestSharers_4 h τ k_4 n2 v1 = shI τ → W p l e (headSpec wsX1_nestSharers ({ frames := 3, cells := 0, slots := 0, locals := 64 } : Room)).room s m args below meth c s.heap [] 0 0 (MQ below (vp_Si (fun r => r = shI τ)) args s 0 0 (fun _ => False)) (F0 m 4 ls []) := by
    intro k_4
    induction k_4 with
    | zero => intro n2 v1 ls hm; exact absurd hm (Nat.not_lt_zero _)
    | succ k_4 ih_4 =>
      have key_12 : ∀ (k_12 : Nat) (n3 : Nat) (n2 : Nat) (v1 : Int32) (ls : Array Slot), (n2 - n3) < k_12 → n2 < 12 → n3 ≤ n2 → (12 - n2) < k_4 + 1 → lv_has ls 4 [(3, .int (nI n3)), (2, .int (nI n2)), (1, .int v1), (0, .ref (a 0))] → p_X1_nestSharers_12 h τ (fun n2 v1 => p_X1_nestSharers_4 h τ k_4 n2 v1) k_12 n3 n2 v1 = shI τ → W p l e (headSpec wsX1_nestSharers ({ frames := 3, cells := 0, slots := 0, locals := 64 } : Room)).room s m args below meth c s.heap [] 0 0 (MQ below (vp_Si (fun r => r = shI τ)) args s 0 0 (fun _ => False)) (F0 m 12 ls []) := by
        intro k_12
        induction k_12 with
        | zero => intro n3 n2 v1 ls hm; exact absurd hm (Nat.not_lt_zero _)
        | succ k_12 ih_12 =>
          intro n3 n2 v1 ls hm_12 hi_12_0 hi_12_1 hi_12_2 hl hE
          rw [p_X1_nestSharers_12] at hE
          refine lv_iload_n hx hb dX1_nestSharers_12 rfl (lv_at hl 0 rfl) ?_
          refine lv_iload_n hx hb dX1_nestSharers_13 rfl (lv_at hl 1 rfl) ?_
          refine lv_icmp_ge (tgt := 64) hx hb dX1_nestSharers_14 (by decide) (fun c_14 => ?_) (fun c_14 => ?_)
          · have c_14 : n2 ≤ n3 := (nI_leI (a := n2) (b := n3) (by omega) (by omega)).mp c_14
            have hE := (if_pos c_14).symm.trans hE
            refine lv_iinc (v := nI (n2 + 1)) (lv' := [(2, .int (nI (n2 + 1))), (3, .int (nI n3)), (1, .int v1), (0, .ref (a 0))]) hx hb dX1_nestSharers_64 hl (k := 1) rfl (nI_1 _) (by decide) rfl (fun ls hl => ?_)
            refine lv_goto (tgt := 4) hx hb dX1_nestSharers_67 (by decide) ?_
            exact ih_4 (n2 + 1) v1 ls (by omega) (by omega) (lv_sub hl [0, 2, 3] rfl) hE
          · have c_14 : ¬ (n2 ≤ n3) := fun q9 => c_14 ((nI_leI (a := n2) (b := n3) (by omega) (by omega)).mpr q9)
            have hE := (if_neg c_14).symm.trans hE
            refine lv_aload_n hx hb dX1_nestSharers_17 rfl (lv_at hl 3 rfl) ?_
            refine lv_iload_n hx hb dX1_nestSharers_18 rfl (lv_at hl 1 rfl) ?_
            refine ro_V [.int (nI n2)] [] ⟨hx, hb, hml, hown, hts⟩ (c_X1_isThere l D cI cZ cB cR a h τ n2 okh.b (by omega)) (cwV (C := RX1) 1 hts (goodP (ps := [.methodLink RX1 47 yX1_isThere, .instanceMethod yX1_isThere, .selects RX1 yX1_isThere yX1_isThere, .initialized RX1]) (all4 mw_1_42 mw_1_43 mw_1_44 mw_1_3) mw_1_45) rfl rfl rfl (by decide +kernel) ⟨Nat.le_of_ble_eq_true rfl, Nat.le_of_ble_eq_true rfl⟩) hEV hP 0 rfl rfl rfl hl.1 rfl (Nat.le_of_ble_eq_true rfl) dX1_nestSharers_19 ⟨Nat.zero_le _, Nat.zero_le _⟩ ?_
            refine lv_if_eq (tgt := 58) hx hb dX1_nestSharers_22 (by decide) (fun c_22 => ?_) (fun c_22 => ?_)
            · have c_22 : ¬ ((thB τ n2) = true) := b2i_f c_22
              have hE := (if_neg c_22).symm.trans hE
              refine lv_iinc (v := nI (n3 + 1)) (lv' := [(3, .int (nI (n3 + 1))), (2, .int (nI n2)), (1, .int v1), (0, .ref (a 0))]) hx hb dX1_nestSharers_58 hl (k := 0) rfl (nI_1 _) (by decide) rfl (fun ls hl => ?_)
              refine lv_goto (tgt := 12) hx hb dX1_nestSharers_61 (by decide) ?_
              exact ih_12 (n3 + 1) n2 v1 ls (by omega) (by omega) (by omega) (by omega) (lv_sub hl [0, 1, 2, 3] rfl) hE
            · have c_22 : (thB τ n2) = true := b2i_t c_22
              have hE := (if_pos c_22).symm.trans hE
              refine lv_aload_n hx hb dX1_nestSharers_25 rfl (lv_at hl 3 rfl) ?_
              refine lv_iload_n hx hb dX1_nestSharers_26 rfl (lv_at hl 0 rfl) ?_
              refine ro_V [.int (nI n3)] [] ⟨hx, hb, hml, hown, hts⟩ (c_X1_isThere l D cI cZ cB cR a h τ n3 okh.b (by omega)) (cwV (C := RX1) 1 hts (goodP (ps := [.methodLink RX1 47 yX1_isThere, .instanceMethod yX1_isThere, .selects RX1 yX1_isThere yX1_isThere, .initialized RX1]) (all4 mw_1_42 mw_1_43 mw_1_44 mw_1_3) mw_1_45) rfl rfl rfl (by decide +kernel) ⟨Nat.le_of_ble_eq_true rfl, Nat.le_of_ble_eq_true rfl⟩) hEV hP 0 rfl rfl rfl hl.1 rfl (Nat.le_of_ble_eq_true rfl) dX1_nestSharers_27 ⟨Nat.zero_le _, Nat.zero_le _⟩ ?_
              refine lv_if_eq (tgt := 58) hx hb dX1_nestSharers_30 (by decide) (fun c_30 => ?_) (fun c_30 => ?_)
              · have c_30 : ¬ ((thB τ n3) = true) := b2i_f c_30
                have hE := (if_neg c_30).symm.trans hE
                refine lv_iinc (v := nI (n3 + 1)) (lv' := [(3, .int (nI (n3 + 1))), (2, .int (nI n2)), (1, .int v1), (0, .ref (a 0))]) hx hb dX1_nestSharers_58 hl (k := 0) rfl (nI_1 _) (by decide) rfl (fun ls hl => ?_)
                refine lv_goto (tgt := 12) hx hb dX1_nestSharers_61 (by decide) ?_
                exact ih_12 (n3 + 1) n2 v1 ls (by omega) (by omega) (by omega) (by omega) (lv_sub hl [0, 1, 2, 3] rfl) hE
              · have c_30 : (thB τ n3) = true := b2i_t c_30
                have hE := (if_pos c_30).symm.trans hE
                have hz1 := nsN_lt wf (x := n2) (by omega)
                have hz2 := nsN_lt wf (x := n3) (by omega)
                refine lv_aload_n hx hb dX1_nestSharers_33 rfl (lv_at hl 3 rfl) ?_
                refine lv_iload_n hx hb dX1_nestSharers_34 rfl (lv_at hl 1 rfl) ?_
                refine ro_V [.int (nI n2)] [] ⟨hx, hb, hml, hown, hts⟩ (c_X1_nestOf l D cI cZ cB cR a h τ n2 okh.b wf (by omega)) (cwV (C := RX1) 1 hts (goodP (ps := [.methodLink RX1 75 yX1_nestOf, .instanceMethod yX1_nestOf, .selects RX1 yX1_nestOf yX1_nestOf, .initialized RX1]) (all4 mw_3_59 mw_2_191 mw_2_192 mw_1_3) mw_2_193) rfl rfl rfl (by decide +kernel) ⟨Nat.le_of_ble_eq_true rfl, Nat.le_of_ble_eq_true rfl⟩) hEV hP 0 rfl rfl rfl hl.1 rfl (Nat.le_of_ble_eq_true rfl) dX1_nestSharers_35 ⟨Nat.zero_le _, Nat.zero_le _⟩ ?_
                refine lv_aload_n hx hb dX1_nestSharers_38 rfl (lv_at hl 3 rfl) ?_
                refine lv_iload_n hx hb dX1_nestSharers_39 rfl (lv_at hl 0 rfl) ?_
                refine ro_V [.int (nI n3)] [.int (nI (nsN τ n2))] ⟨hx, hb, hml, hown, hts⟩ (c_X1_nestOf l D cI cZ cB cR a h τ n3 okh.b wf (by omega)) (cwV (C := RX1) 1 hts (goodP (ps := [.methodLink RX1 75 yX1_nestOf, .instanceMethod yX1_nestOf, .selects RX1 yX1_nestOf yX1_nestOf, .initialized RX1]) (all4 mw_3_59 mw_2_191 mw_2_192 mw_1_3) mw_2_193) rfl rfl rfl (by decide +kernel) ⟨Nat.le_of_ble_eq_true rfl, Nat.le_of_ble_eq_true rfl⟩) hEV hP 0 rfl rfl rfl hl.1 rfl (Nat.le_of_ble_eq_true rfl) dX1_nestSharers_40 ⟨Nat.zero_le _, Nat.zero_le _⟩ ?_
                refine lv_icmp_ne (tgt := 58) hx hb dX1_nestSharers_43 (by decide) (fun c_43 => ?_) (fun c_43 => ?_)
                · have c_43 : ¬ ((nsN τ n2) = (nsN τ n3)) := fun q9 => c_43 ((nI_eq (a := (nsN τ n2)) (b := (nsN τ n3)) (by omega) (by omega)).mpr q9)
                  have hE := (if_neg c_43).symm.trans hE
                  refine lv_iinc (v := nI (n3 + 1)) (lv' := [(3, .int (nI (n3 + 1))), (2, .int (nI n2)), (1, .int v1), (0, .ref (a 0))]) hx hb dX1_nestSharers_58 hl (k := 0) rfl (nI_1 _) (by decide) rfl (fun ls hl => ?_)
                  refine lv_goto (tgt := 12) hx hb dX1_nestSharers_61 (by decide) ?_
                  exact ih_12 (n3 + 1) n2 v1 ls (by omega) (by omega) (by omega) (by omega) (lv_sub hl [0, 1, 2, 3] rfl) hE
                · have c_43 : (nsN τ n2) = (nsN τ n3) := (nI_eq (a := (nsN τ n2)) (b := (nsN τ n3)) (by omega) (by omega)).mp c_43
                  have hE := (if_pos c_43).symm.trans hE
                  refine lv_iload_n hx hb dX1_nestSharers_46 rfl (lv_at hl 2 rfl) ?_
                  refine lv_iload_n hx hb dX1_nestSharers_47 rfl (lv_at hl 1 rfl) ?_
                  refine ro_SN [.int (nI n2)] [.int v1] ⟨hx, hb, hml, hown, hts⟩ (c_X4_bit l D cI cZ cB cR n2 (by omega)) (va_cnB (host := "LinkPredictor") 1 hts (goodC mw_1_33) rfl rfl rfl (hEV.2 (.methodLinkNest RX1 36 yX4_bit "LinkPredictor") (by decide +kernel)) (hts (.initialized RX4) (List.mem_cons_of_mem _ mw_1_1)) (by decide +kernel) ⟨Nat.le_of_ble_eq_true rfl, Nat.le_of_ble_eq_true rfl⟩) (hts (.static yX4_bit) (List.mem_cons_of_mem _ mw_1_32)) hEV va_P0 rfl hl.1 rfl (Nat.le_of_ble_eq_true rfl) dX1_nestSharers_48 ⟨Nat.zero_le _, Nat.zero_le _⟩ ?_
                  refine lv_iload_n hx hb dX1_nestSharers_51 rfl (lv_at hl 0 rfl) ?_
                  refine ro_SN [.int (nI n3)] [.int (bm n2), .int v1] ⟨hx, hb, hml, hown, hts⟩ (c_X4_bit l D cI cZ cB cR n3 (by omega)) (va_cnB (host := "LinkPredictor") 1 hts (goodC mw_1_33) rfl rfl rfl (hEV.2 (.methodLinkNest RX1 36 yX4_bit "LinkPredictor") (by decide +kernel)) (hts (.initialized RX4) (List.mem_cons_of_mem _ mw_1_1)) (by decide +kernel) ⟨Nat.le_of_ble_eq_true rfl, Nat.le_of_ble_eq_true rfl⟩) (hts (.static yX4_bit) (List.mem_cons_of_mem _ mw_1_32)) hEV va_P0 rfl hl.1 rfl (Nat.le_of_ble_eq_true rfl) dX1_nestSharers_52 ⟨Nat.zero_le _, Nat.zero_le _⟩ ?_
                  refine lv_ior hx hb dX1_nestSharers_55 ?_
                  refine lv_ior hx hb dX1_nestSharers_56 ?_
                  refine lv_istore_n (lv' := [(1, .int (v1 ||| ((bm n2) ||| (bm n3)))), (3, .int (nI n3)), (2, .int (nI n2)), (0, .ref (a 0))]) hx hb dX1_nestSharers_57 rfl hl (by decide) rfl (fun ls hl => ?_)
                  refine lv_iinc (v := nI (n3 + 1)) (lv' := [(3, .int (nI (n3 + 1))), (1, .int (v1 ||| ((bm n2) ||| (bm n3)))), (2, .int (nI n2)), (0, .ref (a 0))]) hx hb dX1_nestSharers_58 hl (k := 1) rfl (nI_1 _) (by decide) rfl (fun ls hl => ?_)
                  refine lv_goto (tgt := 12) hx hb dX1_nestSharers_61 (by decide) ?_
                  exact ih_12 (n3 + 1) n2 (v1 ||| ((bm n2) ||| (bm n3))) ls (by omega) (by omega) (by omega) (by omega) (lv_sub hl [0, 2, 1, 3] rfl) hE
      intro n2 v1 ls hm_4 hi_4_0 hl hE
      rw [p_X1_nestSharers_4] at hE
      refine lv_iload_n hx hb dX1_nestSharers_4 rfl (lv_at hl 0 rfl) ?_
      refine lv_bipush (v := (12 : Int32)) hx hb dX1_nestSharers_5 (by decide) ?_
      refine lv_icmp_ge (tgt := 70) hx hb dX1_nestSharers_7 (by decide) (fun c_7 => ?_) (fun c_7 => ?_)
      · have c_7 : 12 ≤ n2 := (nI_leI (a := 12) (b := n2) (by omega) (by omega)).mp c_7
        have hE := (if_pos c_7).symm.trans hE
        refine lv_iload_n hx hb dX1_nestSharers_70 rfl (lv_at hl 1 rfl) ?_
        exact W.iret hx hb hr (fun t9 ht9 _ => ⟨_, rfl, hE, ht9⟩) (fun _ h9 => by cases h9) dX1_nestSharers_71
      · have c_7 : ¬ (12 ≤ n2) := fun q9 => c_7 ((nI_leI (a := 12) (b := n2) (by omega) (by omega)).mpr q9)
        have hE := (if_neg c_7).symm.trans hE
        refine lv_iconst (v := (0 : Int32)) hx hb dX1_nestSharers_10 (by decide) ?_
        refine lv_istore_n (lv' := [(3, .int (0 : Int32)), (2, .int (nI n2)), (1, .int v1), (0, .ref (a 0))]) hx hb dX1_nestSharers_11 rfl hl (by decide) rfl (fun ls hl => ?_)
        exact key_12 13 0 n2 v1 ls (by omega) (by omega) (by omega) (by omega) (lv_sub hl [0, 1, 2, 3] rfl) hE
  refine lv_iconst (v := (0 : Int32)) hx hb dX1_nestSharers_0 (by decide) ?_
  refine lv_istore_n (lv' := [(1, .int (0 : Int32)), (0, .ref (a 0))]) hx hb dX1_nestSharers_1 rfl hl (by decide) rfl (fun ls hl => ?_)
  refine lv_iconst (v := (0 : Int32)) hx hb dX1_nestSharers_2 (by decide) ?_
  refine lv_istore_n (lv' := [(2, .int (0 : Int32)), (1, .int (0 : Int32)), (0, .ref (a 0))]) hx hb dX1_nestSharers_3 rfl hl (by decide) rfl (fun ls hl => ?_)
  exact key_4 13 0 (0 : Int32) ls (by omega) (by omega) (lv_sub hl [0, 1, 2] rfl) hE
