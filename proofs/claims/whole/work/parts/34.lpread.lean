noncomputable def p_X4_load (T : Nat → Nat → Nat → Int32) (Φ : Nat → Nat → Nat) (τ γ : Nat → Nat → Nat → Int32) (nf : Nat → Nat) (R : Nat) (t : Int32) (u : Int32) : Int32 := if (wi t (2 : Int32)) = true then (if (wi u (12 : Int32)) = true then (LV (τ (sN t)) (sN u)) else ((-1 : Int32))) else ((-1 : Int32))
set_option maxHeartbeats 4000000 in
set_option maxRecDepth 100000 in
theorem c_X4_load (l : Launch) (D : va_G) (cI cZ cB cR : ClassId) (ad : Nat → Nat) (T : Nat → Nat → Nat → Int32) (Φ : Nat → Nat → Nat) (τ γ : Nat → Nat → Nat → Int32) (nf : Nat → Nat) (R : Nat) (se : Nat → Int32) (rc wr : Int32) (t : Int32) (u : Int32) (lk : LOK T Φ rc τ γ nf R)  : RO l yX4_load wsX4_load ({ frames := 1, cells := 0, slots := 0, locals := 21 } : Room) D cI cZ cB cR (wL cI cB cR ad (T, se, Φ, rc, wr)) [.ref (ad 0), .int t, .int u] (p_X4_load T Φ τ γ nf R t u) := by
  generalize hE : p_X4_load T Φ τ γ nf R t u = tgt
  refine Met.ofW (cc := cX4_load) (maxL := 3) (ret := (some .int)) (by decide) rfl ?_
  intro p e s m args below meth c s₁ B hml hv
  obtain ⟨hargs, hP, hEV⟩ := hv
  have hx := B.exec
  have hb := B.bytes
  have hr := B.returns
  have hts := atoms_spec (ws := wsX4_load) B.pre
  have hown : s.vm.findClass RX4 = some m.cls := findClass_of_methodNamed B.named
  have hlocks := B.notSynchronized
  have hK := hEV.1
  have hl := lv_entry ([.ref (ad 0), .int t, .int u]) (n := 3) (Nat.le_of_ble_eq_true rfl)
  rw [show entryFrame m args 3 = entryFrame m ([.ref (ad 0), .int t, .int u] : List Value).toArray 3 from by rw [hargs], lg_entry_eq]
  generalize (lg_sl ([.ref (ad 0), .int t, .int u]) ++ List.replicate (3 - (lg_sl ([.ref (ad 0), .int t, .int u])).length) Slot.unset).toArray = ls at hl ⊢
  have hl : lv_has ls 3 [(0, .ref (ad 0)), (1, .int t), (2, .int u)] := hl
  rw [p_X4_load] at hE
  have hR16 := lk.2.2.1
  refine lv_iload_n hx hb dX4_load_0 rfl (lv_at hl 1 rfl) ?_
  refine lv_iconst (v := (2 : Int32)) hx hb dX4_load_1 (by decide) ?_
  refine ro_S [.int t, .int (2 : Int32)] [] ⟨hx, hb, hml, hown, hts⟩ (c_X4_isWithin l D cI cZ cB cR t (2 : Int32)) (va_cwS 2 hts (goodP (ps := [.methodLink RX4 34 yX4_isWithin, .static yX4_isWithin, .initialized RX4]) (all3 mw_1_56 mw_1_57 mw_1_1) mw_1_58) rfl rfl rfl (by decide +kernel) ⟨Nat.le_of_ble_eq_true rfl, Nat.le_of_ble_eq_true rfl⟩) hEV va_P0 rfl hl.1 rfl (Nat.le_of_ble_eq_true rfl) dX4_load_2 ⟨Nat.zero_le _, Nat.zero_le _⟩ ?_
  refine lv_if_eq (tgt := 17) hx hb dX4_load_5 (by decide) (fun c_5 => ?_) (fun c_5 => ?_)
  · have c_5 : ¬ ((wi t (2 : Int32)) = true) := b2i_f c_5
    have hE := (if_neg c_5).symm.trans hE
    refine lv_iconst (v := (-1 : Int32)) hx hb dX4_load_17 (by decide) ?_
    exact W.iret hx hb hr (fun t9 ht9 _ => ⟨_, rfl, hE, ht9⟩) (fun _ h9 => by cases h9) dX4_load_18
  · have c_5 : (wi t (2 : Int32)) = true := b2i_t c_5
    have hE := (if_pos c_5).symm.trans hE
    refine lv_iload_n hx hb dX4_load_8 rfl (lv_at hl 2 rfl) ?_
    refine lv_bipush (v := (12 : Int32)) hx hb dX4_load_9 (by decide) ?_
    refine ro_S [.int u, .int (12 : Int32)] [] ⟨hx, hb, hml, hown, hts⟩ (c_X4_isWithin l D cI cZ cB cR u (12 : Int32)) (va_cwS 2 hts (goodP (ps := [.methodLink RX4 34 yX4_isWithin, .static yX4_isWithin, .initialized RX4]) (all3 mw_1_56 mw_1_57 mw_1_1) mw_1_58) rfl rfl rfl (by decide +kernel) ⟨Nat.le_of_ble_eq_true rfl, Nat.le_of_ble_eq_true rfl⟩) hEV va_P0 rfl hl.1 rfl (Nat.le_of_ble_eq_true rfl) dX4_load_11 ⟨Nat.zero_le _, Nat.zero_le _⟩ ?_
    refine lv_if_ne (tgt := 19) hx hb dX4_load_14 (by decide) (fun c_14 => ?_) (fun c_14 => ?_)
    · have c_14 : (wi u (12 : Int32)) = true := b2i_t c_14
      have hE := (if_pos c_14).symm.trans hE
      have ht9 := wi_sN (b := 2) (by omega) c_5
      have ht8 := ht9.1
      have hu9 := wi_sN (b := 12) (by omega) c_14
      have hu8 := hu9.1
      refine lv_aload_n hx hb dX4_load_19 rfl (lv_at hl 0 rfl) ?_
      refine va_get (D := D) (ci := 4) (v := .ref (ad 1)) (C := RX4) (T := TX4) (N := 4) hx hb hts (fun w9 h9 => List.mem_cons_of_mem _ (inT_X4 w9 h9)) hown hK hP 0 rfl rfl 0 (by decide) (hts (.fieldLink RX4 12 "LinkPredictor" "builds" "[LLinkPredictor$Build;") (List.mem_cons_of_mem _ mw_1_164)) (fun _ h9 => h9) rfl dX4_load_20 ?_
      refine lv_iload_n hx hb dX4_load_23 rfl (lv_at hl 1 rfl) ?_
      refine top_eq (ht9.2) ?_
      refine ro_aal hx hb hEV hP 1 2 (j := (sN t)) (v := ad (3 + 15 * (sN t))) rfl rfl rfl (by omega) (by decide) dX4_load_24 ?_
      refine va_getN (D := D) (ci := 0) (v := .ref (aHw ad (sN t) 0)) (C := RX0) (T := TX0) (N := 3) (host := "LinkPredictor") hx hb hts (fun w9 h9 => List.mem_cons_of_mem _ (inT_X0 w9 h9)) hown hK hP (3 + 15 * (sN t)) (wL_b (by omega)) rfl 0 (by decide) (va_Nw.use rfl (hEV.2 (.fieldLinkNest RX4 38 "LinkPredictor$Build" "types" "LLinkPredictor$Hierarchy;" "LinkPredictor") (by decide +kernel))) (fun _ h9 => h9) rfl dX4_load_25 ?_
      refine lv_iload_n hx hb dX4_load_28 rfl (lv_at hl 2 rfl) ?_
      refine top_eq (hu9.2) ?_
      refine ro_V [.int (nI (sN u))] [] ⟨hx, hb, hml, hown, hts⟩ (c_X1_loading l D cI cZ cB cR (aHw ad (sN t)) (T (2 * (sN t))) (τ (sN t)) (sN u) (lk.1 (sN t) (by omega)).1 (by omega)) (cwV (C := RX1) 1 hts (goodP (ps := [.methodLink RX4 83 yX1_loading, .instanceMethod yX1_loading, .selects RX1 yX1_loading yX1_loading, .initialized RX1]) (all4 mw_2_65 mw_2_66 mw_2_67 mw_1_3) mw_2_68) rfl rfl rfl (by decide +kernel) ⟨Nat.le_of_ble_eq_true rfl, Nat.le_of_ble_eq_true rfl⟩) hEV (wL_H (by omega) hP) 0 rfl rfl rfl hl.1 rfl (Nat.le_of_ble_eq_true rfl) dX4_load_29 ⟨Nat.zero_le _, Nat.zero_le _⟩ ?_
      exact W.iret hx hb hr (fun t9 ht9 _ => ⟨_, rfl, hE, ht9⟩) (fun _ h9 => by cases h9) dX4_load_32
    · have c_14 : ¬ ((wi u (12 : Int32)) = true) := b2i_f c_14
      have hE := (if_neg c_14).symm.trans hE
      refine lv_iconst (v := (-1 : Int32)) hx hb dX4_load_17 (by decide) ?_
      exact W.iret hx hb hr (fun t9 ht9 _ => ⟨_, rfl, hE, ht9⟩) (fun _ h9 => by cases h9) dX4_load_18
noncomputable def p_X4_isUnder (T : Nat → Nat → Nat → Int32) (Φ : Nat → Nat → Nat) (τ γ : Nat → Nat → Nat → Int32) (nf : Nat → Nat) (R : Nat) (t : Int32) (u : Int32) (v : Int32) : Int32 := if (wi t (2 : Int32)) = true then (if (wi u (12 : Int32)) = true then (if (wi v (12 : Int32)) = true then (if (gd (LV (τ (sN t)) (sN u))) = true then (if (gd (LV (τ (sN t)) (sN v))) = true then (if (abB (τ (sN t)) (sN u) (sN v) || fcB (τ (sN t)) (sN u) (sN v)) = true then ((1 : Int32)) else ((0 : Int32))) else ((0 : Int32))) else ((0 : Int32))) else ((0 : Int32))) else ((0 : Int32))) else ((0 : Int32))
set_option maxHeartbeats 4000000 in
set_option maxRecDepth 100000 in
theorem c_X4_isUnder (l : Launch) (D : va_G) (cI cZ cB cR : ClassId) (ad : Nat → Nat) (T : Nat → Nat → Nat → Int32) (Φ : Nat → Nat → Nat) (τ γ : Nat → Nat → Nat → Int32) (nf : Nat → Nat) (R : Nat) (se : Nat → Int32) (rc wr : Int32) (t : Int32) (u : Int32) (v : Int32) (lk : LOK T Φ rc τ γ nf R)  : RO l yX4_isUnder wsX4_isUnder ({ frames := 2, cells := 0, slots := 0, locals := 43 } : Room) D cI cZ cB cR (wL cI cB cR ad (T, se, Φ, rc, wr)) [.ref (ad 0), .int t, .int u, .int v] (p_X4_isUnder T Φ τ γ nf R t u v) := by
  generalize hE : p_X4_isUnder T Φ τ γ nf R t u v = tgt
  refine Met.ofW (cc := cX4_isUnder) (maxL := 5) (ret := (some .boolean)) (by decide) rfl ?_
  intro p e s m args below meth c s₁ B hml hv
  obtain ⟨hargs, hP, hEV⟩ := hv
  have hx := B.exec
  have hb := B.bytes
  have hr := B.returns
  have hts := atoms_spec (ws := wsX4_isUnder) B.pre
  have hown : s.vm.findClass RX4 = some m.cls := findClass_of_methodNamed B.named
  have hlocks := B.notSynchronized
  have hK := hEV.1
  have hl := lv_entry ([.ref (ad 0), .int t, .int u, .int v]) (n := 5) (Nat.le_of_ble_eq_true rfl)
  rw [show entryFrame m args 5 = entryFrame m ([.ref (ad 0), .int t, .int u, .int v] : List Value).toArray 5 from by rw [hargs], lg_entry_eq]
  generalize (lg_sl ([.ref (ad 0), .int t, .int u, .int v]) ++ List.replicate (5 - (lg_sl ([.ref (ad 0), .int t, .int u, .int v])).length) Slot.unset).toArray = ls at hl ⊢
  have hl : lv_has ls 5 [(0, .ref (ad 0)), (1, .int t), (2, .int u), (3, .int v)] := hl
  rw [p_X4_isUnder] at hE
  have hR16 := lk.2.2.1
  refine lv_iload_n hx hb dX4_isUnder_0 rfl (lv_at hl 1 rfl) ?_
  refine lv_iconst (v := (2 : Int32)) hx hb dX4_isUnder_1 (by decide) ?_
  refine ro_S [.int t, .int (2 : Int32)] [] ⟨hx, hb, hml, hown, hts⟩ (c_X4_isWithin l D cI cZ cB cR t (2 : Int32)) (va_cwS 2 hts (goodP (ps := [.methodLink RX4 34 yX4_isWithin, .static yX4_isWithin, .initialized RX4]) (all3 mw_1_56 mw_1_57 mw_1_1) mw_1_58) rfl rfl rfl (by decide +kernel) ⟨Nat.le_of_ble_eq_true rfl, Nat.le_of_ble_eq_true rfl⟩) hEV va_P0 rfl hl.1 rfl (Nat.le_of_ble_eq_true rfl) dX4_isUnder_2 ⟨Nat.zero_le _, Nat.zero_le _⟩ ?_
  refine lv_if_eq (tgt := 26) hx hb dX4_isUnder_5 (by decide) (fun c_5 => ?_) (fun c_5 => ?_)
  · have c_5 : ¬ ((wi t (2 : Int32)) = true) := b2i_f c_5
    have hE := (if_neg c_5).symm.trans hE
    refine lv_iconst (v := (0 : Int32)) hx hb dX4_isUnder_26 (by decide) ?_
    exact W.zret hx hb hr rfl (fun t9 ht9 _ => ⟨_, rfl, hE, ht9⟩) (fun _ h9 => by cases h9) dX4_isUnder_27
  · have c_5 : (wi t (2 : Int32)) = true := b2i_t c_5
    have hE := (if_pos c_5).symm.trans hE
    refine lv_iload_n hx hb dX4_isUnder_8 rfl (lv_at hl 2 rfl) ?_
    refine lv_bipush (v := (12 : Int32)) hx hb dX4_isUnder_9 (by decide) ?_
    refine ro_S [.int u, .int (12 : Int32)] [] ⟨hx, hb, hml, hown, hts⟩ (c_X4_isWithin l D cI cZ cB cR u (12 : Int32)) (va_cwS 2 hts (goodP (ps := [.methodLink RX4 34 yX4_isWithin, .static yX4_isWithin, .initialized RX4]) (all3 mw_1_56 mw_1_57 mw_1_1) mw_1_58) rfl rfl rfl (by decide +kernel) ⟨Nat.le_of_ble_eq_true rfl, Nat.le_of_ble_eq_true rfl⟩) hEV va_P0 rfl hl.1 rfl (Nat.le_of_ble_eq_true rfl) dX4_isUnder_11 ⟨Nat.zero_le _, Nat.zero_le _⟩ ?_
    refine lv_if_eq (tgt := 26) hx hb dX4_isUnder_14 (by decide) (fun c_14 => ?_) (fun c_14 => ?_)
    · have c_14 : ¬ ((wi u (12 : Int32)) = true) := b2i_f c_14
      have hE := (if_neg c_14).symm.trans hE
      refine lv_iconst (v := (0 : Int32)) hx hb dX4_isUnder_26 (by decide) ?_
      exact W.zret hx hb hr rfl (fun t9 ht9 _ => ⟨_, rfl, hE, ht9⟩) (fun _ h9 => by cases h9) dX4_isUnder_27
    · have c_14 : (wi u (12 : Int32)) = true := b2i_t c_14
      have hE := (if_pos c_14).symm.trans hE
      refine lv_iload_n hx hb dX4_isUnder_17 rfl (lv_at hl 3 rfl) ?_
      refine lv_bipush (v := (12 : Int32)) hx hb dX4_isUnder_18 (by decide) ?_
      refine ro_S [.int v, .int (12 : Int32)] [] ⟨hx, hb, hml, hown, hts⟩ (c_X4_isWithin l D cI cZ cB cR v (12 : Int32)) (va_cwS 2 hts (goodP (ps := [.methodLink RX4 34 yX4_isWithin, .static yX4_isWithin, .initialized RX4]) (all3 mw_1_56 mw_1_57 mw_1_1) mw_1_58) rfl rfl rfl (by decide +kernel) ⟨Nat.le_of_ble_eq_true rfl, Nat.le_of_ble_eq_true rfl⟩) hEV va_P0 rfl hl.1 rfl (Nat.le_of_ble_eq_true rfl) dX4_isUnder_20 ⟨Nat.zero_le _, Nat.zero_le _⟩ ?_
      refine lv_if_ne (tgt := 28) hx hb dX4_isUnder_23 (by decide) (fun c_23 => ?_) (fun c_23 => ?_)
      · have c_23 : (wi v (12 : Int32)) = true := b2i_t c_23
        have hE := (if_pos c_23).symm.trans hE
        have ht9 := wi_sN (b := 2) (by omega) c_5
        have ht8 := ht9.1
        have hu9 := wi_sN (b := 12) (by omega) c_14
        have hu8 := hu9.1
        have hv9 := wi_sN (b := 12) (by omega) c_23
        have hv8 := hv9.1
        refine lv_aload_n hx hb dX4_isUnder_28 rfl (lv_at hl 0 rfl) ?_
        refine va_get (D := D) (ci := 4) (v := .ref (ad 1)) (C := RX4) (T := TX4) (N := 4) hx hb hts (fun w9 h9 => List.mem_cons_of_mem _ (inT_X4 w9 h9)) hown hK hP 0 rfl rfl 0 (by decide) (hts (.fieldLink RX4 12 "LinkPredictor" "builds" "[LLinkPredictor$Build;") (List.mem_cons_of_mem _ mw_1_164)) (fun _ h9 => h9) rfl dX4_isUnder_29 ?_
        refine lv_iload_n hx hb dX4_isUnder_32 rfl (lv_at hl 1 rfl) ?_
        refine top_eq (ht9.2) ?_
        refine ro_aal hx hb hEV hP 1 2 (j := (sN t)) (v := ad (3 + 15 * (sN t))) rfl rfl rfl (by omega) (by decide) dX4_isUnder_33 ?_
        refine va_getN (D := D) (ci := 0) (v := .ref (aHw ad (sN t) 0)) (C := RX0) (T := TX0) (N := 3) (host := "LinkPredictor") hx hb hts (fun w9 h9 => List.mem_cons_of_mem _ (inT_X0 w9 h9)) hown hK hP (3 + 15 * (sN t)) (wL_b (by omega)) rfl 0 (by decide) (va_Nw.use rfl (hEV.2 (.fieldLinkNest RX4 38 "LinkPredictor$Build" "types" "LLinkPredictor$Hierarchy;" "LinkPredictor") (by decide +kernel))) (fun _ h9 => h9) rfl dX4_isUnder_34 ?_
        refine lv_astore (lv' := [(4, .ref (aHw ad (sN t) 0)), (0, .ref (ad 0)), (1, .int t), (2, .int u), (3, .int v)]) hx hb dX4_isUnder_37 hl (by decide) rfl (fun ls hl => ?_)
        refine lv_aload hx hb dX4_isUnder_39 (lv_at hl 0 rfl) ?_
        refine lv_iload_n hx hb dX4_isUnder_41 rfl (lv_at hl 3 rfl) ?_
        refine top_eq (hu9.2) ?_
        refine ro_V [.int (nI (sN u))] [] ⟨hx, hb, hml, hown, hts⟩ (c_X1_loading l D cI cZ cB cR (aHw ad (sN t)) (T (2 * (sN t))) (τ (sN t)) (sN u) (lk.1 (sN t) (by omega)).1 (by omega)) (cwV (C := RX1) 1 hts (goodP (ps := [.methodLink RX4 83 yX1_loading, .instanceMethod yX1_loading, .selects RX1 yX1_loading yX1_loading, .initialized RX1]) (all4 mw_2_65 mw_2_66 mw_2_67 mw_1_3) mw_2_68) rfl rfl rfl (by decide +kernel) ⟨Nat.le_of_ble_eq_true rfl, Nat.le_of_ble_eq_true rfl⟩) hEV (wL_H (by omega) hP) 0 rfl rfl rfl hl.1 rfl (Nat.le_of_ble_eq_true rfl) dX4_isUnder_42 ⟨Nat.zero_le _, Nat.zero_le _⟩ ?_
        refine ro_S [.int (LV (τ (sN t)) (sN u))] [] ⟨hx, hb, hml, hown, hts⟩ (c_X4_isGood l D cI cZ cB cR (LV (τ (sN t)) (sN u))) (va_cwS 1 hts (goodP (ps := [.methodLink RX4 98 yX4_isGood, .static yX4_isGood, .initialized RX4]) (all3 mw_3_15 mw_1_54 mw_1_1) mw_1_55) rfl rfl rfl (by decide +kernel) ⟨Nat.le_of_ble_eq_true rfl, Nat.le_of_ble_eq_true rfl⟩) hEV va_P0 rfl hl.1 rfl (Nat.le_of_ble_eq_true rfl) dX4_isUnder_45 ⟨Nat.zero_le _, Nat.zero_le _⟩ ?_
        refine lv_if_eq (tgt := 77) hx hb dX4_isUnder_48 (by decide) (fun c_48 => ?_) (fun c_48 => ?_)
        · have c_48 : ¬ ((gd (LV (τ (sN t)) (sN u))) = true) := b2i_f c_48
          have hE := (if_neg c_48).symm.trans hE
          refine lv_iconst (v := (0 : Int32)) hx hb dX4_isUnder_77 (by decide) ?_
          exact W.zret hx hb hr rfl (fun t9 ht9 _ => ⟨_, rfl, hE, ht9⟩) (fun _ h9 => by cases h9) dX4_isUnder_78
        · have c_48 : (gd (LV (τ (sN t)) (sN u))) = true := b2i_t c_48
          have hE := (if_pos c_48).symm.trans hE
          refine lv_aload hx hb dX4_isUnder_51 (lv_at hl 0 rfl) ?_
          refine lv_iload_n hx hb dX4_isUnder_53 rfl (lv_at hl 4 rfl) ?_
          refine top_eq (hv9.2) ?_
          refine ro_V [.int (nI (sN v))] [] ⟨hx, hb, hml, hown, hts⟩ (c_X1_loading l D cI cZ cB cR (aHw ad (sN t)) (T (2 * (sN t))) (τ (sN t)) (sN v) (lk.1 (sN t) (by omega)).1 (by omega)) (cwV (C := RX1) 1 hts (goodP (ps := [.methodLink RX4 83 yX1_loading, .instanceMethod yX1_loading, .selects RX1 yX1_loading yX1_loading, .initialized RX1]) (all4 mw_2_65 mw_2_66 mw_2_67 mw_1_3) mw_2_68) rfl rfl rfl (by decide +kernel) ⟨Nat.le_of_ble_eq_true rfl, Nat.le_of_ble_eq_true rfl⟩) hEV (wL_H (by omega) hP) 0 rfl rfl rfl hl.1 rfl (Nat.le_of_ble_eq_true rfl) dX4_isUnder_54 ⟨Nat.zero_le _, Nat.zero_le _⟩ ?_
          refine ro_S [.int (LV (τ (sN t)) (sN v))] [] ⟨hx, hb, hml, hown, hts⟩ (c_X4_isGood l D cI cZ cB cR (LV (τ (sN t)) (sN v))) (va_cwS 1 hts (goodP (ps := [.methodLink RX4 98 yX4_isGood, .static yX4_isGood, .initialized RX4]) (all3 mw_3_15 mw_1_54 mw_1_1) mw_1_55) rfl rfl rfl (by decide +kernel) ⟨Nat.le_of_ble_eq_true rfl, Nat.le_of_ble_eq_true rfl⟩) hEV va_P0 rfl hl.1 rfl (Nat.le_of_ble_eq_true rfl) dX4_isUnder_57 ⟨Nat.zero_le _, Nat.zero_le _⟩ ?_
          refine lv_if_eq (tgt := 77) hx hb dX4_isUnder_60 (by decide) (fun c_60 => ?_) (fun c_60 => ?_)
          · have c_60 : ¬ ((gd (LV (τ (sN t)) (sN v))) = true) := b2i_f c_60
            have hE := (if_neg c_60).symm.trans hE
            refine lv_iconst (v := (0 : Int32)) hx hb dX4_isUnder_77 (by decide) ?_
            exact W.zret hx hb hr rfl (fun t9 ht9 _ => ⟨_, rfl, hE, ht9⟩) (fun _ h9 => by cases h9) dX4_isUnder_78
          · have c_60 : (gd (LV (τ (sN t)) (sN v))) = true := b2i_t c_60
            have hE := (if_pos c_60).symm.trans hE
            refine lv_aload hx hb dX4_isUnder_63 (lv_at hl 0 rfl) ?_
            refine lv_iload_n hx hb dX4_isUnder_65 rfl (lv_at hl 3 rfl) ?_
            refine top_eq (hu9.2) ?_
            refine lv_iload_n hx hb dX4_isUnder_66 rfl (lv_at hl 4 rfl) ?_
            refine top_eq (hv9.2) ?_
            refine ro_V [.int (nI (sN u)), .int (nI (sN v))] [] ⟨hx, hb, hml, hown, hts⟩ (c_X1_liesUnder l D cI cZ cB cR (aHw ad (sN t)) (T (2 * (sN t))) (τ (sN t)) (sN u) (sN v) (lk.1 (sN t) (by omega)).1 (gdB_iff.mp ((gd_LV (lk.1 (sN t) (by omega)).2.1 hu8).symm.trans c_48)) (by omega) (by omega)) (cwV (C := RX1) 2 hts (goodP (ps := [.methodLink RX4 104 yX1_liesUnder, .instanceMethod yX1_liesUnder, .selects RX1 yX1_liesUnder yX1_liesUnder, .initialized RX1]) (all4 mw_3_28 mw_2_187 mw_2_188 mw_1_3) mw_2_189) rfl rfl rfl (by decide +kernel) ⟨Nat.le_of_ble_eq_true rfl, Nat.le_of_ble_eq_true rfl⟩) hEV (wL_H (by omega) hP) 0 rfl rfl rfl hl.1 rfl (Nat.le_of_ble_eq_true rfl) dX4_isUnder_67 ⟨Nat.zero_le _, Nat.zero_le _⟩ ?_
            refine lv_if_eq (tgt := 77) hx hb dX4_isUnder_70 (by decide) (fun c_70 => ?_) (fun c_70 => ?_)
            · have c_70 : ¬ ((abB (τ (sN t)) (sN u) (sN v) || fcB (τ (sN t)) (sN u) (sN v)) = true) := b2i_f c_70
              have hE := (if_neg c_70).symm.trans hE
              refine lv_iconst (v := (0 : Int32)) hx hb dX4_isUnder_77 (by decide) ?_
              exact W.zret hx hb hr rfl (fun t9 ht9 _ => ⟨_, rfl, hE, ht9⟩) (fun _ h9 => by cases h9) dX4_isUnder_78
            · have c_70 : (abB (τ (sN t)) (sN u) (sN v) || fcB (τ (sN t)) (sN u) (sN v)) = true := b2i_t c_70
              have hE := (if_pos c_70).symm.trans hE
              refine lv_iconst (v := (1 : Int32)) hx hb dX4_isUnder_73 (by decide) ?_
              refine lv_goto (tgt := 78) hx hb dX4_isUnder_74 (by decide) ?_
              exact W.zret hx hb hr rfl (fun t9 ht9 _ => ⟨_, rfl, hE, ht9⟩) (fun _ h9 => by cases h9) dX4_isUnder_78
      · have c_23 : ¬ ((wi v (12 : Int32)) = true) := b2i_f c_23
        have hE := (if_neg c_23).symm.trans hE
        refine lv_iconst (v := (0 : Int32)) hx hb dX4_isUnder_26 (by decide) ?_
        exact W.zret hx hb hr rfl (fun t9 ht9 _ => ⟨_, rfl, hE, ht9⟩) (fun _ h9 => by cases h9) dX4_isUnder_27
noncomputable def p_X4_resolve (T : Nat → Nat → Nat → Int32) (Φ : Nat → Nat → Nat) (τ γ : Nat → Nat → Nat → Int32) (nf : Nat → Nat) (R : Nat) (t : Int32) (u : Int32) : Int32 := if (wi t (2 : Int32)) = true then (if (wi u (nI R)) = true then (p_X0_resolution (T (2 * (sN t))) (τ (sN t)) (T (2 * (sN t) + 1)) (γ (sN t)) (nf (sN t)) (Φ (sN u))) else ((-1 : Int32))) else ((-1 : Int32))
set_option maxHeartbeats 4000000 in
set_option maxRecDepth 100000 in
theorem c_X4_resolve (l : Launch) (D : va_G) (cI cZ cB cR : ClassId) (ad : Nat → Nat) (T : Nat → Nat → Nat → Int32) (Φ : Nat → Nat → Nat) (τ γ : Nat → Nat → Nat → Int32) (nf : Nat → Nat) (R : Nat) (se : Nat → Int32) (rc wr : Int32) (t : Int32) (u : Int32) (lk : LOK T Φ rc τ γ nf R)  : MUi l yX4_resolve wsX4_resolve ({ frames := 26, cells := 0, slots := 0, locals := 658 } : Room) D cI cZ cB cR (wL cI cB cR ad (T, se, Φ, rc, wr)) [.ref (ad 0), .int t, .int u] (fun (se : Nat → Int32) => wL cI cB cR ad (T, se, Φ, rc, wr)) (fun r _ => r = (p_X4_resolve T Φ τ γ nf R t u)) := by
  generalize hE : p_X4_resolve T Φ τ γ nf R t u = tgt
  intro sz
  refine Met.ofW (cc := cX4_resolve) (maxL := 3) (ret := (some .int)) (by decide) rfl ?_
  intro p e s m args below meth c s₁ B hml hv
  obtain ⟨hargs, hsz, hP, hEV, hD0⟩ := hv
  have hx := B.exec
  have hb := B.bytes
  have hr := B.returns
  have hts := atoms_spec (ws := wsX4_resolve) B.pre
  have hown : s.vm.findClass RX4 = some m.cls := findClass_of_methodNamed B.named
  have hlocks := B.notSynchronized
  have hK := hEV.1
  have hl := lv_entry ([.ref (ad 0), .int t, .int u]) (n := 3) (Nat.le_of_ble_eq_true rfl)
  rw [show entryFrame m args 3 = entryFrame m ([.ref (ad 0), .int t, .int u] : List Value).toArray 3 from by rw [hargs], lg_entry_eq]
  generalize (lg_sl ([.ref (ad 0), .int t, .int u]) ++ List.replicate (3 - (lg_sl ([.ref (ad 0), .int t, .int u])).length) Slot.unset).toArray = ls at hl ⊢
  have hl : lv_has ls 3 [(0, .ref (ad 0)), (1, .int t), (2, .int u)] := hl
  subst hsz
  have hD := hD0.self (sz := s.heap.size)
  generalize hAe : va_A (wL cI cB cR ad (T, se, Φ, rc, wr)) s.heap.size = A at hD ⊢
  have hA : ∀ q : Nat, s.heap.size ≤ q → A q := fun q h9 => by rw [← hAe]; exact Or.inr h9
  have hS : va_S A s.heap s.heap [] := va_S.rf
  rw [p_X4_resolve] at hE
  have hR16 := lk.2.2.1
  refine lv_iload_n hx hb dX4_resolve_0 rfl (lv_at hl 1 rfl) ?_
  refine lv_iconst (v := (2 : Int32)) hx hb dX4_resolve_1 (by decide) ?_
  refine ro_S [.int t, .int (2 : Int32)] [] ⟨hx, hb, hml, hown, hts⟩ (c_X4_isWithin l D cI cZ cB cR t (2 : Int32)) (va_cwS 2 hts (goodP (ps := [.methodLink RX4 34 yX4_isWithin, .static yX4_isWithin, .initialized RX4]) (all3 mw_1_56 mw_1_57 mw_1_1) mw_1_58) rfl rfl rfl (by decide +kernel) ⟨Nat.le_of_ble_eq_true rfl, Nat.le_of_ble_eq_true rfl⟩) hEV va_P0 rfl hl.1 rfl (Nat.le_of_ble_eq_true rfl) dX4_resolve_2 ⟨Nat.zero_le _, Nat.zero_le _⟩ ?_
  refine lv_if_eq (tgt := 19) hx hb dX4_resolve_5 (by decide) (fun c_5 => ?_) (fun c_5 => ?_)
  · have c_5 : ¬ ((wi t (2 : Int32)) = true) := b2i_f c_5
    have hE := (if_neg c_5).symm.trans hE
    refine lv_iconst (v := (-1 : Int32)) hx hb dX4_resolve_19 (by decide) ?_
    exact W.iret hx hb hr (fun t9 ht9 _ => ⟨⟨_, se, rfl, hE, by show va_P D vwCl _ t9.heap; rw [ht9]; exact hP⟩, hS.F ht9⟩) hS.2.2 dX4_resolve_20
  · have c_5 : (wi t (2 : Int32)) = true := b2i_t c_5
    have hE := (if_pos c_5).symm.trans hE
    refine lv_iload_n hx hb dX4_resolve_8 rfl (lv_at hl 2 rfl) ?_
    refine lv_aload_n hx hb dX4_resolve_9 rfl (lv_at hl 0 rfl) ?_
    refine va_get (D := D) (ci := 4) (v := .int rc) (C := RX4) (T := TX4) (N := 4) hx hb hts (fun w9 h9 => List.mem_cons_of_mem _ (inT_X4 w9 h9)) hown hK hP 0 rfl rfl 2 (by decide) (hts (.fieldLink RX4 23 "LinkPredictor" "referenceCount" "I") (List.mem_cons_of_mem _ mw_1_166)) (fun _ h9 => h9) rfl dX4_resolve_10 ?_
    refine top_eq (lk.2.1) ?_
    refine ro_S [.int u, .int (nI R)] [] ⟨hx, hb, hml, hown, hts⟩ (c_X4_isWithin l D cI cZ cB cR u (nI R)) (va_cwS 2 hts (goodP (ps := [.methodLink RX4 34 yX4_isWithin, .static yX4_isWithin, .initialized RX4]) (all3 mw_1_56 mw_1_57 mw_1_1) mw_1_58) rfl rfl rfl (by decide +kernel) ⟨Nat.le_of_ble_eq_true rfl, Nat.le_of_ble_eq_true rfl⟩) hEV va_P0 rfl hl.1 rfl (Nat.le_of_ble_eq_true rfl) dX4_resolve_13 ⟨Nat.zero_le _, Nat.zero_le _⟩ ?_
    refine lv_if_ne (tgt := 21) hx hb dX4_resolve_16 (by decide) (fun c_16 => ?_) (fun c_16 => ?_)
    · have c_16 : (wi u (nI R)) = true := b2i_t c_16
      have hE := (if_pos c_16).symm.trans hE
      have ht9 := wi_sN (b := 2) (by omega) c_5
      have ht8 := ht9.1
      have hu9 := wi_sN (b := R) (by omega) c_16
      have hu8 := hu9.1
      refine lv_aload_n hx hb dX4_resolve_21 rfl (lv_at hl 0 rfl) ?_
      refine va_get (D := D) (ci := 4) (v := .ref (ad 1)) (C := RX4) (T := TX4) (N := 4) hx hb hts (fun w9 h9 => List.mem_cons_of_mem _ (inT_X4 w9 h9)) hown hK hP 0 rfl rfl 0 (by decide) (hts (.fieldLink RX4 12 "LinkPredictor" "builds" "[LLinkPredictor$Build;") (List.mem_cons_of_mem _ mw_1_164)) (fun _ h9 => h9) rfl dX4_resolve_22 ?_
      refine lv_iload_n hx hb dX4_resolve_25 rfl (lv_at hl 1 rfl) ?_
      refine top_eq (ht9.2) ?_
      refine ro_aal hx hb hEV hP 1 2 (j := (sN t)) (v := ad (3 + 15 * (sN t))) rfl rfl rfl (by omega) (by decide) dX4_resolve_26 ?_
      refine lv_aload_n hx hb dX4_resolve_27 rfl (lv_at hl 0 rfl) ?_
      refine va_get (D := D) (ci := 4) (v := .ref (ad 2)) (C := RX4) (T := TX4) (N := 4) hx hb hts (fun w9 h9 => List.mem_cons_of_mem _ (inT_X4 w9 h9)) hown hK hP 0 rfl rfl 1 (by decide) (hts (.fieldLink RX4 18 "LinkPredictor" "references" "[LLinkPredictor$Reference;") (List.mem_cons_of_mem _ mw_1_165)) (fun _ h9 => h9) rfl dX4_resolve_28 ?_
      refine lv_iload_n hx hb dX4_resolve_31 rfl (lv_at hl 2 rfl) ?_
      refine top_eq (hu9.2) ?_
      refine ro_aal hx hb hEV hP 2 3 (j := (sN u)) (v := ad (33 + (sN u))) rfl rfl rfl (by omega) (by decide) dX4_resolve_32 ?_
      refine mu_V [.ref (ad (33 + (sN u)))] [] ⟨hx, hb, hml, hown, hts⟩ (c_X0_resolution l D cI cZ cB cR (ad (3 + 15 * (sN t))) (aHw ad (sN t)) (aMw ad (sN t)) (T (2 * (sN t))) (τ (sN t)) (T (2 * (sN t) + 1)) (γ (sN t)) (nf (sN t)) (se (sN t)) (ad (33 + (sN u))) (Φ (sN u)) (lk.1 (sN t) (by omega)).1 (lk.1 (sN t) (by omega)).2.1 (lk.1 (sN t) (by omega)).2.2.1 (lk.1 (sN t) (by omega)).2.2.2 (lk.2.2.2 (sN u) (by omega))) (cwV (C := RX0) 1 hts (goodP (ps := [.methodLink RX4 87 yX0_resolution, .instanceMethod yX0_resolution, .selects RX0 yX0_resolution yX0_resolution, .initialized RX0]) (all4 mw_2_73 mw_2_74 mw_2_75 mw_1_2) mw_2_76) rfl rfl rfl (by decide +kernel) ⟨Nat.le_of_ble_eq_true rfl, Nat.le_of_ble_eq_true rfl⟩) hEV (wL_BR (by omega) (by omega) hP) (wL_DBR (by omega) (by omega) hD) hS hA 0 rfl rfl rfl hl.1 rfl (Nat.le_of_ble_eq_true rfl) dX4_resolve_33 ⟨Nat.zero_le _, Nat.zero_le _⟩ (fun r9 v9 H1 locs hw hP1 hk1 hS => ?_)
      subst hw
      have hP : va_P D vwCl (wL cI cB cR ad (T, seU se (sN t) v9, Φ, rc, wr)) H1 := wL_swS (by omega) (by omega) hP hD hP1 hk1
      have hD : va_D A (wL cI cB cR ad (T, seU se (sN t) v9, Φ, rc, wr)) := hD.adr rfl
      generalize H1 = H at hP hS ⊢
      generalize seU se (sN t) v9 = se at hP hD ⊢
      exact W.iret hx hb hr (fun t9 ht9 _ => ⟨⟨_, se, rfl, hE, by show va_P D vwCl _ t9.heap; rw [ht9]; exact hP⟩, hS.F ht9⟩) hS.2.2 dX4_resolve_36
    · have c_16 : ¬ ((wi u (nI R)) = true) := b2i_f c_16
      have hE := (if_neg c_16).symm.trans hE
      refine lv_iconst (v := (-1 : Int32)) hx hb dX4_resolve_19 (by decide) ?_
      exact W.iret hx hb hr (fun t9 ht9 _ => ⟨⟨_, se, rfl, hE, by show va_P D vwCl _ t9.heap; rw [ht9]; exact hP⟩, hS.F ht9⟩) hS.2.2 dX4_resolve_20
noncomputable def p_X4_areAlike (T : Nat → Nat → Nat → Int32) (Φ : Nat → Nat → Nat) (τ γ : Nat → Nat → Nat → Int32) (nf : Nat → Nat) (R : Nat) (t : Int32) (u : Int32) : Int32 := if (sN t / 64) = (sN u / 64) then (if (sN t % 64) < 16 then (if (sN t % 64) = (sN u % 64) then ((1 : Int32)) else ((0 : Int32))) else (if 16 ≤ (sN u % 64) then (b2i (decide (T (2 * 0 + 1) 0 (sN t % 64 - 16) = T (2 * 1 + 1) 0 (sN u % 64 - 16)) && decide (T (2 * 0 + 1) 1 (sN t % 64 - 16) = T (2 * 1 + 1) 1 (sN u % 64 - 16)))) else (if (sN t % 64) = (sN u % 64) then ((1 : Int32)) else ((0 : Int32))))) else ((0 : Int32))
set_option maxHeartbeats 4000000 in
set_option maxRecDepth 100000 in
theorem c_X4_areAlike (l : Launch) (D : va_G) (cI cZ cB cR : ClassId) (ad : Nat → Nat) (T : Nat → Nat → Nat → Int32) (Φ : Nat → Nat → Nat) (τ γ : Nat → Nat → Nat → Int32) (nf : Nat → Nat) (R : Nat) (se : Nat → Int32) (rc wr : Int32) (t : Int32) (u : Int32) (lk : LOK T Φ rc τ γ nf R) (hrt : rg t) (hru : rg u) : RO l yX4_areAlike wsX4_areAlike ({ frames := 1, cells := 0, slots := 0, locals := 23 } : Room) D cI cZ cB cR (wL cI cB cR ad (T, se, Φ, rc, wr)) [.ref (ad 0), .int t, .int u] (p_X4_areAlike T Φ τ γ nf R t u) := by
  generalize hE : p_X4_areAlike T Φ τ γ nf R t u = tgt
  refine Met.ofW (cc := cX4_areAlike) (maxL := 5) (ret := (some .boolean)) (by decide) rfl ?_
  intro p e s m args below meth c s₁ B hml hv
  obtain ⟨hargs, hP, hEV⟩ := hv
  have hx := B.exec
  have hb := B.bytes
  have hr := B.returns
  have hts := atoms_spec (ws := wsX4_areAlike) B.pre
  have hown : s.vm.findClass RX4 = some m.cls := findClass_of_methodNamed B.named
  have hlocks := B.notSynchronized
  have hK := hEV.1
  have hl := lv_entry ([.ref (ad 0), .int t, .int u]) (n := 5) (Nat.le_of_ble_eq_true rfl)
  rw [show entryFrame m args 5 = entryFrame m ([.ref (ad 0), .int t, .int u] : List Value).toArray 5 from by rw [hargs], lg_entry_eq]
  generalize (lg_sl ([.ref (ad 0), .int t, .int u]) ++ List.replicate (5 - (lg_sl ([.ref (ad 0), .int t, .int u])).length) Slot.unset).toArray = ls at hl ⊢
  have hl : lv_has ls 5 [(0, .ref (ad 0)), (1, .int t), (2, .int u)] := hl
  rw [p_X4_areAlike] at hE
  have hR16 := lk.2.2.1
  obtain ⟨ht7, ht8, ht9⟩ := hrt.s
  obtain ⟨hu7, hu8, hu9⟩ := hru.s
  refine lv_iload_n hx hb dX4_areAlike_0 rfl (lv_at hl 1 rfl) ?_
  refine top_eq (ht9) ?_
  refine lv_bipush (v := (64 : Int32)) hx hb dX4_areAlike_1 (by decide) ?_
  refine lv_idiv hx hb dX4_areAlike_3 (by decide) ?_
  refine top_eq (pk_div (a := sN t) (d := 64) (by omega) (by omega) (by omega)) ?_
  refine lv_iload_n hx hb dX4_areAlike_4 rfl (lv_at hl 2 rfl) ?_
  refine top_eq (hu9) ?_
  refine lv_bipush (v := (64 : Int32)) hx hb dX4_areAlike_5 (by decide) ?_
  refine lv_idiv hx hb dX4_areAlike_7 (by decide) ?_
  refine top_eq (pk_div (a := sN u) (d := 64) (by omega) (by omega) (by omega)) ?_
  refine lv_icmp_eq (tgt := 13) hx hb dX4_areAlike_8 (by decide) (fun c_8 => ?_) (fun c_8 => ?_)
  · have c_8 : (sN t / 64) = (sN u / 64) := (nI_eq (a := (sN t / 64)) (b := (sN u / 64)) (by omega) (by omega)).mp c_8
    have hE := (if_pos c_8).symm.trans hE
    refine lv_iload_n hx hb dX4_areAlike_13 rfl (lv_at hl 1 rfl) ?_
    refine top_eq (ht9) ?_
    refine lv_bipush (v := (64 : Int32)) hx hb dX4_areAlike_14 (by decide) ?_
    refine lv_irem hx hb dX4_areAlike_16 (by decide) ?_
    refine top_eq (pk_rem (a := sN t) (d := 64) (by omega) (by omega) (by omega)) ?_
    refine lv_istore_n (lv' := [(3, .int (nI (sN t % 64))), (0, .ref (ad 0)), (1, .int t), (2, .int u)]) hx hb dX4_areAlike_17 rfl hl (by decide) rfl (fun ls hl => ?_)
    refine lv_iload_n hx hb dX4_areAlike_18 rfl (lv_at hl 3 rfl) ?_
    refine top_eq (hu9) ?_
    refine lv_bipush (v := (64 : Int32)) hx hb dX4_areAlike_19 (by decide) ?_
    refine lv_irem hx hb dX4_areAlike_21 (by decide) ?_
    refine top_eq (pk_rem (a := sN u) (d := 64) (by omega) (by omega) (by omega)) ?_
    refine lv_istore (lv' := [(4, .int (nI (sN u % 64))), (3, .int (nI (sN t % 64))), (0, .ref (ad 0)), (1, .int t), (2, .int u)]) hx hb dX4_areAlike_22 hl (by decide) rfl (fun ls hl => ?_)
    refine lv_iload_n hx hb dX4_areAlike_24 rfl (lv_at hl 1 rfl) ?_
    refine lv_bipush (v := (16 : Int32)) hx hb dX4_areAlike_25 (by decide) ?_
    refine lv_icmp_lt (tgt := 37) hx hb dX4_areAlike_27 (by decide) (fun c_27 => ?_) (fun c_27 => ?_)
    · have c_27 : (sN t % 64) < 16 := (nI_ltI (a := (sN t % 64)) (b := 16) (by omega) (by omega)).mp c_27
      have hE := (if_pos c_27).symm.trans hE
      refine lv_iload_n hx hb dX4_areAlike_37 rfl (lv_at hl 1 rfl) ?_
      refine lv_iload hx hb dX4_areAlike_38 (lv_at hl 0 rfl) ?_
      refine lv_icmp_ne (tgt := 47) hx hb dX4_areAlike_40 (by decide) (fun c_40 => ?_) (fun c_40 => ?_)
      · have c_40 : ¬ ((sN t % 64) = (sN u % 64)) := fun q9 => c_40 ((nI_eq (a := (sN t % 64)) (b := (sN u % 64)) (by omega) (by omega)).mpr q9)
        have hE := (if_neg c_40).symm.trans hE
        refine lv_iconst (v := (0 : Int32)) hx hb dX4_areAlike_47 (by decide) ?_
        exact W.zret hx hb hr rfl (fun t9 ht9 _ => ⟨_, rfl, hE, ht9⟩) (fun _ h9 => by cases h9) dX4_areAlike_48
      · have c_40 : (sN t % 64) = (sN u % 64) := (nI_eq (a := (sN t % 64)) (b := (sN u % 64)) (by omega) (by omega)).mp c_40
        have hE := (if_pos c_40).symm.trans hE
        refine lv_iconst (v := (1 : Int32)) hx hb dX4_areAlike_43 (by decide) ?_
        refine lv_goto (tgt := 48) hx hb dX4_areAlike_44 (by decide) ?_
        exact W.zret hx hb hr rfl (fun t9 ht9 _ => ⟨_, rfl, hE, ht9⟩) (fun _ h9 => by cases h9) dX4_areAlike_48
    · have c_27 : ¬ ((sN t % 64) < 16) := fun q9 => c_27 ((nI_ltI (a := (sN t % 64)) (b := 16) (by omega) (by omega)).mpr q9)
      have hE := (if_neg c_27).symm.trans hE
      refine lv_iload hx hb dX4_areAlike_30 (lv_at hl 0 rfl) ?_
      refine lv_bipush (v := (16 : Int32)) hx hb dX4_areAlike_32 (by decide) ?_
      refine lv_icmp_ge (tgt := 49) hx hb dX4_areAlike_34 (by decide) (fun c_34 => ?_) (fun c_34 => ?_)
      · have c_34 : 16 ≤ (sN u % 64) := (nI_leI (a := 16) (b := (sN u % 64)) (by omega) (by omega)).mp c_34
        have hE := (if_pos c_34).symm.trans hE
        refine lv_aload_n hx hb dX4_areAlike_49 rfl (lv_at hl 2 rfl) ?_
        refine va_get (D := D) (ci := 4) (v := .ref (ad 1)) (C := RX4) (T := TX4) (N := 4) hx hb hts (fun w9 h9 => List.mem_cons_of_mem _ (inT_X4 w9 h9)) hown hK hP 0 rfl rfl 0 (by decide) (hts (.fieldLink RX4 12 "LinkPredictor" "builds" "[LLinkPredictor$Build;") (List.mem_cons_of_mem _ mw_1_164)) (fun _ h9 => h9) rfl dX4_areAlike_50 ?_
        refine lv_iconst (v := (0 : Int32)) hx hb dX4_areAlike_53 (by decide) ?_
        refine ro_aal hx hb hEV hP 1 2 (j := 0) (v := ad (3 + 15 * 0)) rfl rfl rfl (by omega) (by decide) dX4_areAlike_54 ?_
        refine va_getN (D := D) (ci := 0) (v := .ref (aMw ad 0 0)) (C := RX0) (T := TX0) (N := 3) (host := "LinkPredictor") hx hb hts (fun w9 h9 => List.mem_cons_of_mem _ (inT_X0 w9 h9)) hown hK hP (3 + 15 * 0) (wL_b (by omega)) rfl 1 (by decide) (va_Nw.use rfl (hEV.2 (.fieldLinkNest RX4 58 "LinkPredictor$Build" "members" "LLinkPredictor$Members;" "LinkPredictor") (by decide +kernel))) (fun _ h9 => h9) rfl dX4_areAlike_55 ?_
        refine lv_iload_n hx hb dX4_areAlike_58 rfl (lv_at hl 1 rfl) ?_
        refine lv_bipush (v := (16 : Int32)) hx hb dX4_areAlike_59 (by decide) ?_
        refine lv_isub hx hb dX4_areAlike_61 ?_
        refine top_eq (pk_sub (a := sN t % 64) (b := 16) (by omega)) ?_
        refine lv_aload_n hx hb dX4_areAlike_62 rfl (lv_at hl 2 rfl) ?_
        refine va_get (D := D) (ci := 4) (v := .ref (ad 1)) (C := RX4) (T := TX4) (N := 4) hx hb hts (fun w9 h9 => List.mem_cons_of_mem _ (inT_X4 w9 h9)) hown hK hP 0 rfl rfl 0 (by decide) (hts (.fieldLink RX4 12 "LinkPredictor" "builds" "[LLinkPredictor$Build;") (List.mem_cons_of_mem _ mw_1_164)) (fun _ h9 => h9) rfl dX4_areAlike_63 ?_
        refine lv_iconst (v := (1 : Int32)) hx hb dX4_areAlike_66 (by decide) ?_
        refine ro_aal hx hb hEV hP 1 2 (j := 1) (v := ad (3 + 15 * 1)) rfl rfl rfl (by omega) (by decide) dX4_areAlike_67 ?_
        refine va_getN (D := D) (ci := 0) (v := .ref (aMw ad 1 0)) (C := RX0) (T := TX0) (N := 3) (host := "LinkPredictor") hx hb hts (fun w9 h9 => List.mem_cons_of_mem _ (inT_X0 w9 h9)) hown hK hP (3 + 15 * 1) (wL_b (by omega)) rfl 1 (by decide) (va_Nw.use rfl (hEV.2 (.fieldLinkNest RX4 58 "LinkPredictor$Build" "members" "LLinkPredictor$Members;" "LinkPredictor") (by decide +kernel))) (fun _ h9 => h9) rfl dX4_areAlike_68 ?_
        refine lv_iload hx hb dX4_areAlike_71 (lv_at hl 0 rfl) ?_
        refine lv_bipush (v := (16 : Int32)) hx hb dX4_areAlike_73 (by decide) ?_
        refine lv_isub hx hb dX4_areAlike_75 ?_
        refine top_eq (pk_sub (a := sN u % 64) (b := 16) (by omega)) ?_
        refine ro_V [.int (nI (sN t % 64 - 16)), .ref (aMw ad 1 0), .int (nI (sN u % 64 - 16))] [] ⟨hx, hb, hml, hown, hts⟩ (c_X2_isSameThing l D cI cZ cB cR (aMw ad 0) (aMw ad 1) (T (2 * 0 + 1)) (T (2 * 1 + 1)) (sN t % 64 - 16) (sN u % 64 - 16) (by omega) (by omega)) (cwV (C := RX2) 3 hts (goodP (ps := [.methodLink RX4 126 yX2_isSameThing, .instanceMethod yX2_isSameThing, .selects RX2 yX2_isSameThing yX2_isSameThing, .initialized RX2]) (all4 mw_3_11 mw_3_12 mw_3_13 mw_1_4) mw_3_14) rfl rfl rfl (by decide +kernel) ⟨Nat.le_of_ble_eq_true rfl, Nat.le_of_ble_eq_true rfl⟩) hEV (va_P.app (wL_M (w := 0) (by omega) hP) (wL_M (w := 1) (by omega) hP)) 0 rfl rfl rfl hl.1 rfl (Nat.le_of_ble_eq_true rfl) dX4_areAlike_76 ⟨Nat.zero_le _, Nat.zero_le _⟩ ?_
        exact W.zret hx hb hr (b2i_nar _) (fun t9 ht9 _ => ⟨_, rfl, hE, ht9⟩) (fun _ h9 => by cases h9) dX4_areAlike_79
      · have c_34 : ¬ (16 ≤ (sN u % 64)) := fun q9 => c_34 ((nI_leI (a := 16) (b := (sN u % 64)) (by omega) (by omega)).mpr q9)
        have hE := (if_neg c_34).symm.trans hE
        refine lv_iload_n hx hb dX4_areAlike_37 rfl (lv_at hl 1 rfl) ?_
        refine lv_iload hx hb dX4_areAlike_38 (lv_at hl 0 rfl) ?_
        refine lv_icmp_ne (tgt := 47) hx hb dX4_areAlike_40 (by decide) (fun c_40 => ?_) (fun c_40 => ?_)
        · have c_40 : ¬ ((sN t % 64) = (sN u % 64)) := fun q9 => c_40 ((nI_eq (a := (sN t % 64)) (b := (sN u % 64)) (by omega) (by omega)).mpr q9)
          have hE := (if_neg c_40).symm.trans hE
          refine lv_iconst (v := (0 : Int32)) hx hb dX4_areAlike_47 (by decide) ?_
          exact W.zret hx hb hr rfl (fun t9 ht9 _ => ⟨_, rfl, hE, ht9⟩) (fun _ h9 => by cases h9) dX4_areAlike_48
        · have c_40 : (sN t % 64) = (sN u % 64) := (nI_eq (a := (sN t % 64)) (b := (sN u % 64)) (by omega) (by omega)).mp c_40
          have hE := (if_pos c_40).symm.trans hE
          refine lv_iconst (v := (1 : Int32)) hx hb dX4_areAlike_43 (by decide) ?_
          refine lv_goto (tgt := 48) hx hb dX4_areAlike_44 (by decide) ?_
          exact W.zret hx hb hr rfl (fun t9 ht9 _ => ⟨_, rfl, hE, ht9⟩) (fun _ h9 => by cases h9) dX4_areAlike_48
  · have c_8 : ¬ ((sN t / 64) = (sN u / 64)) := fun q9 => c_8 ((nI_eq (a := (sN t / 64)) (b := (sN u / 64)) (by omega) (by omega)).mpr q9)
    have hE := (if_neg c_8).symm.trans hE
    refine lv_iconst (v := (0 : Int32)) hx hb dX4_areAlike_11 (by decide) ?_
    exact W.zret hx hb hr rfl (fun t9 ht9 _ => ⟨_, rfl, hE, ht9⟩) (fun _ h9 => by cases h9) dX4_areAlike_12
noncomputable def p_X4_isSuchReceiver (T : Nat → Nat → Nat → Int32) (Φ : Nat → Nat → Nat) (τ γ : Nat → Nat → Nat → Int32) (nf : Nat → Nat) (R : Nat) (t : Int32) (u : Int32) (v : Int32) : Int32 := if t = 0 then (b2i (gd u)) else (if t = 1 then (b2i (gd v)) else (if t = 2 then (if (gd u) = true then (if (gd v) = true then ((0 : Int32)) else ((1 : Int32))) else ((0 : Int32))) else (if (gd u) = true then (if (gd v) = true then (if (p_X4_areAlike T Φ τ γ nf R u v) = (0 : Int32) then ((1 : Int32)) else ((0 : Int32))) else ((0 : Int32))) else ((0 : Int32)))))
set_option maxHeartbeats 4000000 in
set_option maxRecDepth 100000 in
theorem c_X4_isSuchReceiver (l : Launch) (D : va_G) (cI cZ cB cR : ClassId) (ad : Nat → Nat) (T : Nat → Nat → Nat → Int32) (Φ : Nat → Nat → Nat) (τ γ : Nat → Nat → Nat → Int32) (nf : Nat → Nat) (R : Nat) (se : Nat → Int32) (rc wr : Int32) (t : Int32) (u : Int32) (v : Int32) (lk : LOK T Φ rc τ γ nf R) (hb1 : gd u = true → rg u) (hb2 : gd v = true → rg v) : RO l yX4_isSuchReceiver wsX4_isSuchReceiver ({ frames := 2, cells := 0, slots := 0, locals := 47 } : Room) D cI cZ cB cR (wL cI cB cR ad (T, se, Φ, rc, wr)) [.ref (ad 0), .int t, .int u, .int v] (p_X4_isSuchReceiver T Φ τ γ nf R t u v) := by
  generalize hE : p_X4_isSuchReceiver T Φ τ γ nf R t u v = tgt
  refine Met.ofW (cc := cX4_isSuchReceiver) (maxL := 4) (ret := (some .boolean)) (by decide) rfl ?_
  intro p e s m args below meth c s₁ B hml hv
  obtain ⟨hargs, hP, hEV⟩ := hv
  have hx := B.exec
  have hb := B.bytes
  have hr := B.returns
  have hts := atoms_spec (ws := wsX4_isSuchReceiver) B.pre
  have hown : s.vm.findClass RX4 = some m.cls := findClass_of_methodNamed B.named
  have hlocks := B.notSynchronized
  have hK := hEV.1
  have hl := lv_entry ([.ref (ad 0), .int t, .int u, .int v]) (n := 4) (Nat.le_of_ble_eq_true rfl)
  rw [show entryFrame m args 4 = entryFrame m ([.ref (ad 0), .int t, .int u, .int v] : List Value).toArray 4 from by rw [hargs], lg_entry_eq]
  generalize (lg_sl ([.ref (ad 0), .int t, .int u, .int v]) ++ List.replicate (4 - (lg_sl ([.ref (ad 0), .int t, .int u, .int v])).length) Slot.unset).toArray = ls at hl ⊢
  have hl : lv_has ls 4 [(0, .ref (ad 0)), (1, .int t), (2, .int u), (3, .int v)] := hl
  rw [p_X4_isSuchReceiver] at hE
  have hR16 := lk.2.2.1
  refine lv_iload_n hx hb dX4_isSuchReceiver_0 rfl (lv_at hl 1 rfl) ?_
  by_cases q_0 : t = 0
  · have hE := (if_pos q_0).symm.trans hE
    refine lv_tableIn (off := 27) (tgt := 28) hx hb dX4_isSuchReceiver_1 (by rw [q_0]; decide) (by rw [q_0]; decide) (by rw [q_0]; rfl) (by decide) ?_
    refine lv_iload_n hx hb dX4_isSuchReceiver_28 rfl (lv_at hl 2 rfl) ?_
    refine ro_S [.int u] [] ⟨hx, hb, hml, hown, hts⟩ (c_X4_isGood l D cI cZ cB cR u) (va_cwS 1 hts (goodP (ps := [.methodLink RX4 98 yX4_isGood, .static yX4_isGood, .initialized RX4]) (all3 mw_3_15 mw_1_54 mw_1_1) mw_1_55) rfl rfl rfl (by decide +kernel) ⟨Nat.le_of_ble_eq_true rfl, Nat.le_of_ble_eq_true rfl⟩) hEV va_P0 rfl hl.1 rfl (Nat.le_of_ble_eq_true rfl) dX4_isSuchReceiver_29 ⟨Nat.zero_le _, Nat.zero_le _⟩ ?_
    exact W.zret hx hb hr (b2i_nar _) (fun t9 ht9 _ => ⟨_, rfl, hE, ht9⟩) (fun _ h9 => by cases h9) dX4_isSuchReceiver_32
  · have hE := (if_neg q_0).symm.trans hE
    by_cases q_1 : t = 1
    · have hE := (if_pos q_1).symm.trans hE
      refine lv_tableIn (off := 32) (tgt := 33) hx hb dX4_isSuchReceiver_1 (by rw [q_1]; decide) (by rw [q_1]; decide) (by rw [q_1]; rfl) (by decide) ?_
      refine lv_iload_n hx hb dX4_isSuchReceiver_33 rfl (lv_at hl 3 rfl) ?_
      refine ro_S [.int v] [] ⟨hx, hb, hml, hown, hts⟩ (c_X4_isGood l D cI cZ cB cR v) (va_cwS 1 hts (goodP (ps := [.methodLink RX4 98 yX4_isGood, .static yX4_isGood, .initialized RX4]) (all3 mw_3_15 mw_1_54 mw_1_1) mw_1_55) rfl rfl rfl (by decide +kernel) ⟨Nat.le_of_ble_eq_true rfl, Nat.le_of_ble_eq_true rfl⟩) hEV va_P0 rfl hl.1 rfl (Nat.le_of_ble_eq_true rfl) dX4_isSuchReceiver_34 ⟨Nat.zero_le _, Nat.zero_le _⟩ ?_
      exact W.zret hx hb hr (b2i_nar _) (fun t9 ht9 _ => ⟨_, rfl, hE, ht9⟩) (fun _ h9 => by cases h9) dX4_isSuchReceiver_37
    · have hE := (if_neg q_1).symm.trans hE
      by_cases q_2 : t = 2
      · have hE := (if_pos q_2).symm.trans hE
        refine lv_tableIn (off := 37) (tgt := 38) hx hb dX4_isSuchReceiver_1 (by rw [q_2]; decide) (by rw [q_2]; decide) (by rw [q_2]; rfl) (by decide) ?_
        refine lv_iload_n hx hb dX4_isSuchReceiver_38 rfl (lv_at hl 2 rfl) ?_
        refine ro_S [.int u] [] ⟨hx, hb, hml, hown, hts⟩ (c_X4_isGood l D cI cZ cB cR u) (va_cwS 1 hts (goodP (ps := [.methodLink RX4 98 yX4_isGood, .static yX4_isGood, .initialized RX4]) (all3 mw_3_15 mw_1_54 mw_1_1) mw_1_55) rfl rfl rfl (by decide +kernel) ⟨Nat.le_of_ble_eq_true rfl, Nat.le_of_ble_eq_true rfl⟩) hEV va_P0 rfl hl.1 rfl (Nat.le_of_ble_eq_true rfl) dX4_isSuchReceiver_39 ⟨Nat.zero_le _, Nat.zero_le _⟩ ?_
        refine lv_if_eq (tgt := 56) hx hb dX4_isSuchReceiver_42 (by decide) (fun c_42 => ?_) (fun c_42 => ?_)
        · have c_42 : ¬ ((gd u) = true) := b2i_f c_42
          have hE := (if_neg c_42).symm.trans hE
          refine lv_iconst (v := (0 : Int32)) hx hb dX4_isSuchReceiver_56 (by decide) ?_
          exact W.zret hx hb hr rfl (fun t9 ht9 _ => ⟨_, rfl, hE, ht9⟩) (fun _ h9 => by cases h9) dX4_isSuchReceiver_57
        · have c_42 : (gd u) = true := b2i_t c_42
          have hE := (if_pos c_42).symm.trans hE
          refine lv_iload_n hx hb dX4_isSuchReceiver_45 rfl (lv_at hl 3 rfl) ?_
          refine ro_S [.int v] [] ⟨hx, hb, hml, hown, hts⟩ (c_X4_isGood l D cI cZ cB cR v) (va_cwS 1 hts (goodP (ps := [.methodLink RX4 98 yX4_isGood, .static yX4_isGood, .initialized RX4]) (all3 mw_3_15 mw_1_54 mw_1_1) mw_1_55) rfl rfl rfl (by decide +kernel) ⟨Nat.le_of_ble_eq_true rfl, Nat.le_of_ble_eq_true rfl⟩) hEV va_P0 rfl hl.1 rfl (Nat.le_of_ble_eq_true rfl) dX4_isSuchReceiver_46 ⟨Nat.zero_le _, Nat.zero_le _⟩ ?_
          refine lv_if_ne (tgt := 56) hx hb dX4_isSuchReceiver_49 (by decide) (fun c_49 => ?_) (fun c_49 => ?_)
          · have c_49 : (gd v) = true := b2i_t c_49
            have hE := (if_pos c_49).symm.trans hE
            refine lv_iconst (v := (0 : Int32)) hx hb dX4_isSuchReceiver_56 (by decide) ?_
            exact W.zret hx hb hr rfl (fun t9 ht9 _ => ⟨_, rfl, hE, ht9⟩) (fun _ h9 => by cases h9) dX4_isSuchReceiver_57
          · have c_49 : ¬ ((gd v) = true) := b2i_f c_49
            have hE := (if_neg c_49).symm.trans hE
            refine lv_iconst (v := (1 : Int32)) hx hb dX4_isSuchReceiver_52 (by decide) ?_
            refine lv_goto (tgt := 57) hx hb dX4_isSuchReceiver_53 (by decide) ?_
            exact W.zret hx hb hr rfl (fun t9 ht9 _ => ⟨_, rfl, hE, ht9⟩) (fun _ h9 => by cases h9) dX4_isSuchReceiver_57
      · have hE := (if_neg q_2).symm.trans hE
        have z_0 : ¬ (t).toInt = 0 := lv_neT q_0 rfl
        have z_1 : ¬ (t).toInt = 1 := lv_neT q_1 rfl
        have z_2 : ¬ (t).toInt = 2 := lv_neT q_2 rfl
        refine lv_tableOut (tgt := 58) hx hb dX4_isSuchReceiver_1 (by omega) (by decide) ?_
        refine lv_iload_n hx hb dX4_isSuchReceiver_58 rfl (lv_at hl 2 rfl) ?_
        refine ro_S [.int u] [] ⟨hx, hb, hml, hown, hts⟩ (c_X4_isGood l D cI cZ cB cR u) (va_cwS 1 hts (goodP (ps := [.methodLink RX4 98 yX4_isGood, .static yX4_isGood, .initialized RX4]) (all3 mw_3_15 mw_1_54 mw_1_1) mw_1_55) rfl rfl rfl (by decide +kernel) ⟨Nat.le_of_ble_eq_true rfl, Nat.le_of_ble_eq_true rfl⟩) hEV va_P0 rfl hl.1 rfl (Nat.le_of_ble_eq_true rfl) dX4_isSuchReceiver_59 ⟨Nat.zero_le _, Nat.zero_le _⟩ ?_
        refine lv_if_eq (tgt := 85) hx hb dX4_isSuchReceiver_62 (by decide) (fun c_62 => ?_) (fun c_62 => ?_)
        · have c_62 : ¬ ((gd u) = true) := b2i_f c_62
          have hE := (if_neg c_62).symm.trans hE
          refine lv_iconst (v := (0 : Int32)) hx hb dX4_isSuchReceiver_85 (by decide) ?_
          exact W.zret hx hb hr rfl (fun t9 ht9 _ => ⟨_, rfl, hE, ht9⟩) (fun _ h9 => by cases h9) dX4_isSuchReceiver_86
        · have c_62 : (gd u) = true := b2i_t c_62
          have hE := (if_pos c_62).symm.trans hE
          refine lv_iload_n hx hb dX4_isSuchReceiver_65 rfl (lv_at hl 3 rfl) ?_
          refine ro_S [.int v] [] ⟨hx, hb, hml, hown, hts⟩ (c_X4_isGood l D cI cZ cB cR v) (va_cwS 1 hts (goodP (ps := [.methodLink RX4 98 yX4_isGood, .static yX4_isGood, .initialized RX4]) (all3 mw_3_15 mw_1_54 mw_1_1) mw_1_55) rfl rfl rfl (by decide +kernel) ⟨Nat.le_of_ble_eq_true rfl, Nat.le_of_ble_eq_true rfl⟩) hEV va_P0 rfl hl.1 rfl (Nat.le_of_ble_eq_true rfl) dX4_isSuchReceiver_66 ⟨Nat.zero_le _, Nat.zero_le _⟩ ?_
          refine lv_if_eq (tgt := 85) hx hb dX4_isSuchReceiver_69 (by decide) (fun c_69 => ?_) (fun c_69 => ?_)
          · have c_69 : ¬ ((gd v) = true) := b2i_f c_69
            have hE := (if_neg c_69).symm.trans hE
            refine lv_iconst (v := (0 : Int32)) hx hb dX4_isSuchReceiver_85 (by decide) ?_
            exact W.zret hx hb hr rfl (fun t9 ht9 _ => ⟨_, rfl, hE, ht9⟩) (fun _ h9 => by cases h9) dX4_isSuchReceiver_86
          · have c_69 : (gd v) = true := b2i_t c_69
            have hE := (if_pos c_69).symm.trans hE
            refine lv_aload_n hx hb dX4_isSuchReceiver_72 rfl (lv_at hl 0 rfl) ?_
            refine lv_iload_n hx hb dX4_isSuchReceiver_73 rfl (lv_at hl 2 rfl) ?_
            refine lv_iload_n hx hb dX4_isSuchReceiver_74 rfl (lv_at hl 3 rfl) ?_
            refine ro_V [.int u, .int v] [] ⟨hx, hb, hml, hown, hts⟩ (c_X4_areAlike l D cI cZ cB cR ad T Φ τ γ nf R se rc wr u v lk (hb1 c_62) (hb2 c_69)) (cwV (C := RX4) 2 hts (goodP (ps := [.methodLink RX4 95 yX4_areAlike, .instanceMethod yX4_areAlike, .selects RX4 yX4_areAlike yX4_areAlike, .initialized RX4]) (all4 mw_3_7 mw_3_9 ms_22 mw_1_1) mw_3_10) rfl rfl rfl (by decide +kernel) ⟨Nat.le_of_ble_eq_true rfl, Nat.le_of_ble_eq_true rfl⟩) hEV hP 0 rfl rfl rfl hl.1 rfl (Nat.le_of_ble_eq_true rfl) dX4_isSuchReceiver_75 ⟨Nat.zero_le _, Nat.zero_le _⟩ ?_
            refine lv_if_ne (tgt := 85) hx hb dX4_isSuchReceiver_78 (by decide) (fun c_78 => ?_) (fun c_78 => ?_)
            · skip
              have hE := (if_neg c_78).symm.trans hE
              refine lv_iconst (v := (0 : Int32)) hx hb dX4_isSuchReceiver_85 (by decide) ?_
              exact W.zret hx hb hr rfl (fun t9 ht9 _ => ⟨_, rfl, hE, ht9⟩) (fun _ h9 => by cases h9) dX4_isSuchReceiver_86
            · skip
              have hE := (if_pos c_78).symm.trans hE
              refine lv_iconst (v := (1 : Int32)) hx hb dX4_isSuchReceiver_81 (by decide) ?_
              refine lv_goto (tgt := 86) hx hb dX4_isSuchReceiver_82 (by decide) ?_
              exact W.zret hx hb hr rfl (fun t9 ht9 _ => ⟨_, rfl, hE, ht9⟩) (fun _ h9 => by cases h9) dX4_isSuchReceiver_86
noncomputable def p_X4_select (T : Nat → Nat → Nat → Int32) (Φ : Nat → Nat → Nat) (τ γ : Nat → Nat → Nat → Int32) (nf : Nat → Nat) (R : Nat) (t : Int32) (u : Int32) (v : Int32) : Int32 := if (wi t (2 : Int32)) = true then (if (wi u (nI R)) = true then (if (wi v (12 : Int32)) = true then (p_X0_selection (T (2 * (sN t))) (τ (sN t)) (T (2 * (sN t) + 1)) (γ (sN t)) (nf (sN t)) (Φ (sN u)) (p_X0_resolution (T (2 * (sN t))) (τ (sN t)) (T (2 * (sN t) + 1)) (γ (sN t)) (nf (sN t)) (Φ (sN u))) (sN v)) else ((-1 : Int32))) else ((-1 : Int32))) else ((-1 : Int32))
set_option maxHeartbeats 4000000 in
set_option maxRecDepth 100000 in
theorem c_X4_select (l : Launch) (D : va_G) (cI cZ cB cR : ClassId) (ad : Nat → Nat) (T : Nat → Nat → Nat → Int32) (Φ : Nat → Nat → Nat) (τ γ : Nat → Nat → Nat → Int32) (nf : Nat → Nat) (R : Nat) (se : Nat → Int32) (rc wr : Int32) (t : Int32) (u : Int32) (v : Int32) (lk : LOK T Φ rc τ γ nf R) (hg16 : ∀ w, w < 2 → ∀ i, i < R → decide (Φ i 0 = 4 ∨ Φ i 0 = 7) = true → gd (p_X0_resolution (T (2 * w)) (τ w) (T (2 * w + 1)) (γ w) (nf w) (Φ i)) = true → g16 (nf w) (p_X0_resolution (T (2 * w)) (τ w) (T (2 * w + 1)) (γ w) (nf w) (Φ i))) : MUi l yX4_select wsX4_select ({ frames := 26, cells := 0, slots := 0, locals := 658 } : Room) D cI cZ cB cR (wL cI cB cR ad (T, se, Φ, rc, wr)) [.ref (ad 0), .int t, .int u, .int v] (fun (se : Nat → Int32) => wL cI cB cR ad (T, se, Φ, rc, wr)) (fun r _ => r = (p_X4_select T Φ τ γ nf R t u v)) := by
  generalize hE : p_X4_select T Φ τ γ nf R t u v = tgt
  intro sz
  refine Met.ofW (cc := cX4_select) (maxL := 5) (ret := (some .int)) (by decide) rfl ?_
  intro p e s m args below meth c s₁ B hml hv
  obtain ⟨hargs, hsz, hP, hEV, hD0⟩ := hv
  have hx := B.exec
  have hb := B.bytes
  have hr := B.returns
  have hts := atoms_spec (ws := wsX4_select) B.pre
  have hown : s.vm.findClass RX4 = some m.cls := findClass_of_methodNamed B.named
  have hlocks := B.notSynchronized
  have hK := hEV.1
  have hl := lv_entry ([.ref (ad 0), .int t, .int u, .int v]) (n := 5) (Nat.le_of_ble_eq_true rfl)
  rw [show entryFrame m args 5 = entryFrame m ([.ref (ad 0), .int t, .int u, .int v] : List Value).toArray 5 from by rw [hargs], lg_entry_eq]
  generalize (lg_sl ([.ref (ad 0), .int t, .int u, .int v]) ++ List.replicate (5 - (lg_sl ([.ref (ad 0), .int t, .int u, .int v])).length) Slot.unset).toArray = ls at hl ⊢
  have hl : lv_has ls 5 [(0, .ref (ad 0)), (1, .int t), (2, .int u), (3, .int v)] := hl
  subst hsz
  have hD := hD0.self (sz := s.heap.size)
  generalize hAe : va_A (wL cI cB cR ad (T, se, Φ, rc, wr)) s.heap.size = A at hD ⊢
  have hA : ∀ q : Nat, s.heap.size ≤ q → A q := fun q h9 => by rw [← hAe]; exact Or.inr h9
  have hS : va_S A s.heap s.heap [] := va_S.rf
  rw [p_X4_select] at hE
  have hR16 := lk.2.2.1
  refine lv_iload_n hx hb dX4_select_0 rfl (lv_at hl 1 rfl) ?_
  refine lv_iconst (v := (2 : Int32)) hx hb dX4_select_1 (by decide) ?_
  refine ro_S [.int t, .int (2 : Int32)] [] ⟨hx, hb, hml, hown, hts⟩ (c_X4_isWithin l D cI cZ cB cR t (2 : Int32)) (va_cwS 2 hts (goodP (ps := [.methodLink RX4 34 yX4_isWithin, .static yX4_isWithin, .initialized RX4]) (all3 mw_1_56 mw_1_57 mw_1_1) mw_1_58) rfl rfl rfl (by decide +kernel) ⟨Nat.le_of_ble_eq_true rfl, Nat.le_of_ble_eq_true rfl⟩) hEV va_P0 rfl hl.1 rfl (Nat.le_of_ble_eq_true rfl) dX4_select_2 ⟨Nat.zero_le _, Nat.zero_le _⟩ ?_
  refine lv_if_eq (tgt := 28) hx hb dX4_select_5 (by decide) (fun c_5 => ?_) (fun c_5 => ?_)
  · have c_5 : ¬ ((wi t (2 : Int32)) = true) := b2i_f c_5
    have hE := (if_neg c_5).symm.trans hE
    refine lv_iconst (v := (-1 : Int32)) hx hb dX4_select_28 (by decide) ?_
    exact W.iret hx hb hr (fun t9 ht9 _ => ⟨⟨_, se, rfl, hE, by show va_P D vwCl _ t9.heap; rw [ht9]; exact hP⟩, hS.F ht9⟩) hS.2.2 dX4_select_29
  · have c_5 : (wi t (2 : Int32)) = true := b2i_t c_5
    have hE := (if_pos c_5).symm.trans hE
    refine lv_iload_n hx hb dX4_select_8 rfl (lv_at hl 2 rfl) ?_
    refine lv_aload_n hx hb dX4_select_9 rfl (lv_at hl 0 rfl) ?_
    refine va_get (D := D) (ci := 4) (v := .int rc) (C := RX4) (T := TX4) (N := 4) hx hb hts (fun w9 h9 => List.mem_cons_of_mem _ (inT_X4 w9 h9)) hown hK hP 0 rfl rfl 2 (by decide) (hts (.fieldLink RX4 23 "LinkPredictor" "referenceCount" "I") (List.mem_cons_of_mem _ mw_1_166)) (fun _ h9 => h9) rfl dX4_select_10 ?_
    refine top_eq (lk.2.1) ?_
    refine ro_S [.int u, .int (nI R)] [] ⟨hx, hb, hml, hown, hts⟩ (c_X4_isWithin l D cI cZ cB cR u (nI R)) (va_cwS 2 hts (goodP (ps := [.methodLink RX4 34 yX4_isWithin, .static yX4_isWithin, .initialized RX4]) (all3 mw_1_56 mw_1_57 mw_1_1) mw_1_58) rfl rfl rfl (by decide +kernel) ⟨Nat.le_of_ble_eq_true rfl, Nat.le_of_ble_eq_true rfl⟩) hEV va_P0 rfl hl.1 rfl (Nat.le_of_ble_eq_true rfl) dX4_select_13 ⟨Nat.zero_le _, Nat.zero_le _⟩ ?_
    refine lv_if_eq (tgt := 28) hx hb dX4_select_16 (by decide) (fun c_16 => ?_) (fun c_16 => ?_)
    · have c_16 : ¬ ((wi u (nI R)) = true) := b2i_f c_16
      have hE := (if_neg c_16).symm.trans hE
      refine lv_iconst (v := (-1 : Int32)) hx hb dX4_select_28 (by decide) ?_
      exact W.iret hx hb hr (fun t9 ht9 _ => ⟨⟨_, se, rfl, hE, by show va_P D vwCl _ t9.heap; rw [ht9]; exact hP⟩, hS.F ht9⟩) hS.2.2 dX4_select_29
    · have c_16 : (wi u (nI R)) = true := b2i_t c_16
      have hE := (if_pos c_16).symm.trans hE
      refine lv_iload_n hx hb dX4_select_19 rfl (lv_at hl 3 rfl) ?_
      refine lv_bipush (v := (12 : Int32)) hx hb dX4_select_20 (by decide) ?_
      refine ro_S [.int v, .int (12 : Int32)] [] ⟨hx, hb, hml, hown, hts⟩ (c_X4_isWithin l D cI cZ cB cR v (12 : Int32)) (va_cwS 2 hts (goodP (ps := [.methodLink RX4 34 yX4_isWithin, .static yX4_isWithin, .initialized RX4]) (all3 mw_1_56 mw_1_57 mw_1_1) mw_1_58) rfl rfl rfl (by decide +kernel) ⟨Nat.le_of_ble_eq_true rfl, Nat.le_of_ble_eq_true rfl⟩) hEV va_P0 rfl hl.1 rfl (Nat.le_of_ble_eq_true rfl) dX4_select_22 ⟨Nat.zero_le _, Nat.zero_le _⟩ ?_
      refine lv_if_ne (tgt := 30) hx hb dX4_select_25 (by decide) (fun c_25 => ?_) (fun c_25 => ?_)
      · have c_25 : (wi v (12 : Int32)) = true := b2i_t c_25
        have hE := (if_pos c_25).symm.trans hE
        have ht9 := wi_sN (b := 2) (by omega) c_5
        have ht8 := ht9.1
        have hu9 := wi_sN (b := R) (by omega) c_16
        have hu8 := hu9.1
        have hv9 := wi_sN (b := 12) (by omega) c_25
        have hv8 := hv9.1
        refine lv_aload_n hx hb dX4_select_30 rfl (lv_at hl 0 rfl) ?_
        refine va_get (D := D) (ci := 4) (v := .ref (ad 2)) (C := RX4) (T := TX4) (N := 4) hx hb hts (fun w9 h9 => List.mem_cons_of_mem _ (inT_X4 w9 h9)) hown hK hP 0 rfl rfl 1 (by decide) (hts (.fieldLink RX4 18 "LinkPredictor" "references" "[LLinkPredictor$Reference;") (List.mem_cons_of_mem _ mw_1_165)) (fun _ h9 => h9) rfl dX4_select_31 ?_
        refine lv_iload_n hx hb dX4_select_34 rfl (lv_at hl 2 rfl) ?_
        refine top_eq (hu9.2) ?_
        refine ro_aal hx hb hEV hP 2 3 (j := (sN u)) (v := ad (33 + (sN u))) rfl rfl rfl (by omega) (by decide) dX4_select_35 ?_
        refine lv_astore (lv' := [(4, .ref (ad (33 + (sN u)))), (0, .ref (ad 0)), (1, .int t), (2, .int u), (3, .int v)]) hx hb dX4_select_36 hl (by decide) rfl (fun ls hl => ?_)
        refine lv_aload_n hx hb dX4_select_38 rfl (lv_at hl 1 rfl) ?_
        refine va_get (D := D) (ci := 4) (v := .ref (ad 1)) (C := RX4) (T := TX4) (N := 4) hx hb hts (fun w9 h9 => List.mem_cons_of_mem _ (inT_X4 w9 h9)) hown hK hP 0 rfl rfl 0 (by decide) (hts (.fieldLink RX4 12 "LinkPredictor" "builds" "[LLinkPredictor$Build;") (List.mem_cons_of_mem _ mw_1_164)) (fun _ h9 => h9) rfl dX4_select_39 ?_
        refine lv_iload_n hx hb dX4_select_42 rfl (lv_at hl 2 rfl) ?_
        refine top_eq (ht9.2) ?_
        refine ro_aal hx hb hEV hP 1 2 (j := (sN t)) (v := ad (3 + 15 * (sN t))) rfl rfl rfl (by omega) (by decide) dX4_select_43 ?_
        refine lv_aload hx hb dX4_select_44 (lv_at hl 0 rfl) ?_
        refine lv_aload_n hx hb dX4_select_46 rfl (lv_at hl 1 rfl) ?_
        refine va_get (D := D) (ci := 4) (v := .ref (ad 1)) (C := RX4) (T := TX4) (N := 4) hx hb hts (fun w9 h9 => List.mem_cons_of_mem _ (inT_X4 w9 h9)) hown hK hP 0 rfl rfl 0 (by decide) (hts (.fieldLink RX4 12 "LinkPredictor" "builds" "[LLinkPredictor$Build;") (List.mem_cons_of_mem _ mw_1_164)) (fun _ h9 => h9) rfl dX4_select_47 ?_
        refine lv_iload_n hx hb dX4_select_50 rfl (lv_at hl 2 rfl) ?_
        refine top_eq (ht9.2) ?_
        refine ro_aal hx hb hEV hP 1 2 (j := (sN t)) (v := ad (3 + 15 * (sN t))) rfl rfl rfl (by omega) (by decide) dX4_select_51 ?_
        refine lv_aload hx hb dX4_select_52 (lv_at hl 0 rfl) ?_
        refine mu_V [.ref (ad (33 + (sN u)))] [.ref (ad (33 + (sN u))), .ref (ad (3 + 15 * (sN t)))] ⟨hx, hb, hml, hown, hts⟩ (c_X0_resolution l D cI cZ cB cR (ad (3 + 15 * (sN t))) (aHw ad (sN t)) (aMw ad (sN t)) (T (2 * (sN t))) (τ (sN t)) (T (2 * (sN t) + 1)) (γ (sN t)) (nf (sN t)) (se (sN t)) (ad (33 + (sN u))) (Φ (sN u)) (lk.1 (sN t) (by omega)).1 (lk.1 (sN t) (by omega)).2.1 (lk.1 (sN t) (by omega)).2.2.1 (lk.1 (sN t) (by omega)).2.2.2 (lk.2.2.2 (sN u) (by omega))) (cwV (C := RX0) 1 hts (goodP (ps := [.methodLink RX4 87 yX0_resolution, .instanceMethod yX0_resolution, .selects RX0 yX0_resolution yX0_resolution, .initialized RX0]) (all4 mw_2_73 mw_2_74 mw_2_75 mw_1_2) mw_2_76) rfl rfl rfl (by decide +kernel) ⟨Nat.le_of_ble_eq_true rfl, Nat.le_of_ble_eq_true rfl⟩) hEV (wL_BR (by omega) (by omega) hP) (wL_DBR (by omega) (by omega) hD) hS hA 0 rfl rfl rfl hl.1 rfl (Nat.le_of_ble_eq_true rfl) dX4_select_54 ⟨Nat.zero_le _, Nat.zero_le _⟩ (fun r9 v9 H1 locs hw hP1 hk1 hS => ?_)
        subst hw
        have hP : va_P D vwCl (wL cI cB cR ad (T, seU se (sN t) v9, Φ, rc, wr)) H1 := wL_swS (by omega) (by omega) hP hD hP1 hk1
        have hD : va_D A (wL cI cB cR ad (T, seU se (sN t) v9, Φ, rc, wr)) := hD.adr rfl
        generalize H1 = H at hP hS ⊢
        generalize seU se (sN t) v9 = se at hP hD ⊢
        refine lv_iload_n hx hb dX4_select_57 rfl (lv_at hl 4 rfl) ?_
        refine top_eq (hv9.2) ?_
        refine ro_V [.ref (ad (33 + (sN u))), .int (p_X0_resolution (T (2 * (sN t))) (τ (sN t)) (T (2 * (sN t) + 1)) (γ (sN t)) (nf (sN t)) (Φ (sN u))), .int (nI (sN v))] [] ⟨hx, hb, hml, hown, hts⟩ (c_X0_selection l D cI cZ cB cR (ad (3 + 15 * (sN t))) (aHw ad (sN t)) (aMw ad (sN t)) (T (2 * (sN t))) (τ (sN t)) (T (2 * (sN t) + 1)) (γ (sN t)) (nf (sN t)) (se (sN t)) (ad (33 + (sN u))) (Φ (sN u)) (p_X0_resolution (T (2 * (sN t))) (τ (sN t)) (T (2 * (sN t) + 1)) (γ (sN t)) (nf (sN t)) (Φ (sN u))) (sN v) (lk.1 (sN t) (by omega)).1 (lk.1 (sN t) (by omega)).2.1 (lk.1 (sN t) (by omega)).2.2.1 (lk.1 (sN t) (by omega)).2.2.2 (lk.2.2.2 (sN u) (by omega)) (by omega) (hg16 (sN t) ht8 (sN u) hu8)) (cwV (C := RX0) 3 hts (goodP (ps := [.methodLink RX4 91 yX0_selection, .instanceMethod yX0_selection, .selects RX0 yX0_selection yX0_selection, .initialized RX0]) (all4 mw_2_210 mw_2_211 mw_2_212 mw_1_2) mw_2_213) rfl rfl rfl (by decide +kernel) ⟨Nat.le_of_ble_eq_true rfl, Nat.le_of_ble_eq_true rfl⟩) hEV (wL_BR (by omega) (by omega) hP) 0 rfl rfl rfl hl.1 rfl (Nat.le_of_ble_eq_true rfl) dX4_select_58 ⟨Nat.zero_le _, Nat.zero_le _⟩ ?_
        exact W.iret hx hb hr (fun t9 ht9 _ => ⟨⟨_, se, rfl, hE, by show va_P D vwCl _ t9.heap; rw [ht9]; exact hP⟩, hS.F ht9⟩) hS.2.2 dX4_select_61
      · have c_25 : ¬ ((wi v (12 : Int32)) = true) := b2i_f c_25
        have hE := (if_neg c_25).symm.trans hE
        refine lv_iconst (v := (-1 : Int32)) hx hb dX4_select_28 (by decide) ?_
        exact W.iret hx hb hr (fun t9 ht9 _ => ⟨⟨_, se, rfl, hE, by show va_P D vwCl _ t9.heap; rw [ht9]; exact hP⟩, hS.F ht9⟩) hS.2.2 dX4_select_29
noncomputable def p_X4_compare (T : Nat → Nat → Nat → Int32) (Φ : Nat → Nat → Nat) (τ γ : Nat → Nat → Nat → Int32) (nf : Nat → Nat) (R : Nat) (t : Int32) : Int32 := if (wi t (nI R)) = true then (if (p_X4_areAlike T Φ τ γ nf R (p_X0_resolution (T (2 * 0)) (τ 0) (T (2 * 0 + 1)) (γ 0) (nf 0) (Φ (sN t))) (p_X0_resolution (T (2 * 1)) (τ 1) (T (2 * 1 + 1)) (γ 1) (nf 1) (Φ (sN t)))) = (0 : Int32) then (if (gd (p_X0_resolution (T (2 * 0)) (τ 0) (T (2 * 0 + 1)) (γ 0) (nf 0) (Φ (sN t)))) = true then (if (gd (p_X0_resolution (T (2 * 1)) (τ 1) (T (2 * 1 + 1)) (γ 1) (nf 1) (Φ (sN t)))) = true then ((3 : Int32)) else ((1 : Int32))) else (if (gd (p_X0_resolution (T (2 * 1)) (τ 1) (T (2 * 1 + 1)) (γ 1) (nf 1) (Φ (sN t)))) = true then ((2 : Int32)) else ((4 : Int32)))) else ((0 : Int32))) else ((-1 : Int32))
set_option maxHeartbeats 4000000 in
set_option maxRecDepth 100000 in
theorem c_X4_compare (l : Launch) (D : va_G) (cI cZ cB cR : ClassId) (ad : Nat → Nat) (T : Nat → Nat → Nat → Int32) (Φ : Nat → Nat → Nat) (τ γ : Nat → Nat → Nat → Int32) (nf : Nat → Nat) (R : Nat) (se : Nat → Int32) (rc wr : Int32) (t : Int32) (lk : LOK T Φ rc τ γ nf R) (hrg : ∀ w, w < 2 → ∀ i, i < R → rg (p_X0_resolution (T (2 * w)) (τ w) (T (2 * w + 1)) (γ w) (nf w) (Φ i))) : MUi l yX4_compare wsX4_compare ({ frames := 26, cells := 0, slots := 0, locals := 658 } : Room) D cI cZ cB cR (wL cI cB cR ad (T, se, Φ, rc, wr)) [.ref (ad 0), .int t] (fun (se : Nat → Int32) => wL cI cB cR ad (T, se, Φ, rc, wr)) (fun r _ => r = (p_X4_compare T Φ τ γ nf R t)) := by
  generalize hE : p_X4_compare T Φ τ γ nf R t = tgt
  intro sz
  refine Met.ofW (cc := cX4_compare) (maxL := 4) (ret := (some .int)) (by decide) rfl ?_
  intro p e s m args below meth c s₁ B hml hv
  obtain ⟨hargs, hsz, hP, hEV, hD0⟩ := hv
  have hx := B.exec
  have hb := B.bytes
  have hr := B.returns
  have hts := atoms_spec (ws := wsX4_compare) B.pre
  have hown : s.vm.findClass RX4 = some m.cls := findClass_of_methodNamed B.named
  have hlocks := B.notSynchronized
  have hK := hEV.1
  have hl := lv_entry ([.ref (ad 0), .int t]) (n := 4) (Nat.le_of_ble_eq_true rfl)
  rw [show entryFrame m args 4 = entryFrame m ([.ref (ad 0), .int t] : List Value).toArray 4 from by rw [hargs], lg_entry_eq]
  generalize (lg_sl ([.ref (ad 0), .int t]) ++ List.replicate (4 - (lg_sl ([.ref (ad 0), .int t])).length) Slot.unset).toArray = ls at hl ⊢
  have hl : lv_has ls 4 [(0, .ref (ad 0)), (1, .int t)] := hl
  subst hsz
  have hD := hD0.self (sz := s.heap.size)
  generalize hAe : va_A (wL cI cB cR ad (T, se, Φ, rc, wr)) s.heap.size = A at hD ⊢
  have hA : ∀ q : Nat, s.heap.size ≤ q → A q := fun q h9 => by rw [← hAe]; exact Or.inr h9
  have hS : va_S A s.heap s.heap [] := va_S.rf
  rw [p_X4_compare] at hE
  have hR16 := lk.2.2.1
  refine lv_iload_n hx hb dX4_compare_0 rfl (lv_at hl 1 rfl) ?_
  refine lv_aload_n hx hb dX4_compare_1 rfl (lv_at hl 0 rfl) ?_
  refine va_get (D := D) (ci := 4) (v := .int rc) (C := RX4) (T := TX4) (N := 4) hx hb hts (fun w9 h9 => List.mem_cons_of_mem _ (inT_X4 w9 h9)) hown hK hP 0 rfl rfl 2 (by decide) (hts (.fieldLink RX4 23 "LinkPredictor" "referenceCount" "I") (List.mem_cons_of_mem _ mw_1_166)) (fun _ h9 => h9) rfl dX4_compare_2 ?_
  refine top_eq (lk.2.1) ?_
  refine ro_S [.int t, .int (nI R)] [] ⟨hx, hb, hml, hown, hts⟩ (c_X4_isWithin l D cI cZ cB cR t (nI R)) (va_cwS 2 hts (goodP (ps := [.methodLink RX4 34 yX4_isWithin, .static yX4_isWithin, .initialized RX4]) (all3 mw_1_56 mw_1_57 mw_1_1) mw_1_58) rfl rfl rfl (by decide +kernel) ⟨Nat.le_of_ble_eq_true rfl, Nat.le_of_ble_eq_true rfl⟩) hEV va_P0 rfl hl.1 rfl (Nat.le_of_ble_eq_true rfl) dX4_compare_5 ⟨Nat.zero_le _, Nat.zero_le _⟩ ?_
  refine lv_if_ne (tgt := 13) hx hb dX4_compare_8 (by decide) (fun c_8 => ?_) (fun c_8 => ?_)
  · have c_8 : (wi t (nI R)) = true := b2i_t c_8
    have hE := (if_pos c_8).symm.trans hE
    have ht9 := wi_sN (b := R) (by omega) c_8
    have ht8 := ht9.1
    refine lv_aload_n hx hb dX4_compare_13 rfl (lv_at hl 0 rfl) ?_
    refine va_get (D := D) (ci := 4) (v := .ref (ad 1)) (C := RX4) (T := TX4) (N := 4) hx hb hts (fun w9 h9 => List.mem_cons_of_mem _ (inT_X4 w9 h9)) hown hK hP 0 rfl rfl 0 (by decide) (hts (.fieldLink RX4 12 "LinkPredictor" "builds" "[LLinkPredictor$Build;") (List.mem_cons_of_mem _ mw_1_164)) (fun _ h9 => h9) rfl dX4_compare_14 ?_
    refine lv_iconst (v := (0 : Int32)) hx hb dX4_compare_17 (by decide) ?_
    refine ro_aal hx hb hEV hP 1 2 (j := 0) (v := ad (3 + 15 * 0)) rfl rfl rfl (by omega) (by decide) dX4_compare_18 ?_
    refine lv_aload_n hx hb dX4_compare_19 rfl (lv_at hl 0 rfl) ?_
    refine va_get (D := D) (ci := 4) (v := .ref (ad 2)) (C := RX4) (T := TX4) (N := 4) hx hb hts (fun w9 h9 => List.mem_cons_of_mem _ (inT_X4 w9 h9)) hown hK hP 0 rfl rfl 1 (by decide) (hts (.fieldLink RX4 18 "LinkPredictor" "references" "[LLinkPredictor$Reference;") (List.mem_cons_of_mem _ mw_1_165)) (fun _ h9 => h9) rfl dX4_compare_20 ?_
    refine lv_iload_n hx hb dX4_compare_23 rfl (lv_at hl 1 rfl) ?_
    refine top_eq (ht9.2) ?_
    refine ro_aal hx hb hEV hP 2 3 (j := (sN t)) (v := ad (33 + (sN t))) rfl rfl rfl (by omega) (by decide) dX4_compare_24 ?_
    refine mu_V [.ref (ad (33 + (sN t)))] [] ⟨hx, hb, hml, hown, hts⟩ (c_X0_resolution l D cI cZ cB cR (ad (3 + 15 * 0)) (aHw ad 0) (aMw ad 0) (T (2 * 0)) (τ 0) (T (2 * 0 + 1)) (γ 0) (nf 0) (se 0) (ad (33 + (sN t))) (Φ (sN t)) (lk.1 0 (by omega)).1 (lk.1 0 (by omega)).2.1 (lk.1 0 (by omega)).2.2.1 (lk.1 0 (by omega)).2.2.2 (lk.2.2.2 (sN t) (by omega))) (cwV (C := RX0) 1 hts (goodP (ps := [.methodLink RX4 87 yX0_resolution, .instanceMethod yX0_resolution, .selects RX0 yX0_resolution yX0_resolution, .initialized RX0]) (all4 mw_2_73 mw_2_74 mw_2_75 mw_1_2) mw_2_76) rfl rfl rfl (by decide +kernel) ⟨Nat.le_of_ble_eq_true rfl, Nat.le_of_ble_eq_true rfl⟩) hEV (wL_BR (by omega) (by omega) hP) (wL_DBR (by omega) (by omega) hD) hS hA 0 rfl rfl rfl hl.1 rfl (Nat.le_of_ble_eq_true rfl) dX4_compare_25 ⟨Nat.zero_le _, Nat.zero_le _⟩ (fun r9 v9 H1 locs hw hP1 hk1 hS => ?_)
    subst hw
    have hP : va_P D vwCl (wL cI cB cR ad (T, seU se 0 v9, Φ, rc, wr)) H1 := wL_swS (by omega) (by omega) hP hD hP1 hk1
    have hD : va_D A (wL cI cB cR ad (T, seU se 0 v9, Φ, rc, wr)) := hD.adr rfl
    generalize H1 = H at hP hS ⊢
    generalize seU se 0 v9 = se at hP hD ⊢
    refine lv_istore_n (lv' := [(2, .int (p_X0_resolution (T (2 * 0)) (τ 0) (T (2 * 0 + 1)) (γ 0) (nf 0) (Φ (sN t)))), (0, .ref (ad 0)), (1, .int t)]) hx hb dX4_compare_28 rfl hl (by decide) rfl (fun ls hl => ?_)
    refine lv_aload_n hx hb dX4_compare_29 rfl (lv_at hl 1 rfl) ?_
    refine va_get (D := D) (ci := 4) (v := .ref (ad 1)) (C := RX4) (T := TX4) (N := 4) hx hb hts (fun w9 h9 => List.mem_cons_of_mem _ (inT_X4 w9 h9)) hown hK hP 0 rfl rfl 0 (by decide) (hts (.fieldLink RX4 12 "LinkPredictor" "builds" "[LLinkPredictor$Build;") (List.mem_cons_of_mem _ mw_1_164)) (fun _ h9 => h9) rfl dX4_compare_30 ?_
    refine lv_iconst (v := (1 : Int32)) hx hb dX4_compare_33 (by decide) ?_
    refine ro_aal hx hb hEV hP 1 2 (j := 1) (v := ad (3 + 15 * 1)) rfl rfl rfl (by omega) (by decide) dX4_compare_34 ?_
    refine lv_aload_n hx hb dX4_compare_35 rfl (lv_at hl 1 rfl) ?_
    refine va_get (D := D) (ci := 4) (v := .ref (ad 2)) (C := RX4) (T := TX4) (N := 4) hx hb hts (fun w9 h9 => List.mem_cons_of_mem _ (inT_X4 w9 h9)) hown hK hP 0 rfl rfl 1 (by decide) (hts (.fieldLink RX4 18 "LinkPredictor" "references" "[LLinkPredictor$Reference;") (List.mem_cons_of_mem _ mw_1_165)) (fun _ h9 => h9) rfl dX4_compare_36 ?_
    refine lv_iload_n hx hb dX4_compare_39 rfl (lv_at hl 2 rfl) ?_
    refine top_eq (ht9.2) ?_
    refine ro_aal hx hb hEV hP 2 3 (j := (sN t)) (v := ad (33 + (sN t))) rfl rfl rfl (by omega) (by decide) dX4_compare_40 ?_
    refine mu_V [.ref (ad (33 + (sN t)))] [] ⟨hx, hb, hml, hown, hts⟩ (c_X0_resolution l D cI cZ cB cR (ad (3 + 15 * 1)) (aHw ad 1) (aMw ad 1) (T (2 * 1)) (τ 1) (T (2 * 1 + 1)) (γ 1) (nf 1) (se 1) (ad (33 + (sN t))) (Φ (sN t)) (lk.1 1 (by omega)).1 (lk.1 1 (by omega)).2.1 (lk.1 1 (by omega)).2.2.1 (lk.1 1 (by omega)).2.2.2 (lk.2.2.2 (sN t) (by omega))) (cwV (C := RX0) 1 hts (goodP (ps := [.methodLink RX4 87 yX0_resolution, .instanceMethod yX0_resolution, .selects RX0 yX0_resolution yX0_resolution, .initialized RX0]) (all4 mw_2_73 mw_2_74 mw_2_75 mw_1_2) mw_2_76) rfl rfl rfl (by decide +kernel) ⟨Nat.le_of_ble_eq_true rfl, Nat.le_of_ble_eq_true rfl⟩) hEV (wL_BR (by omega) (by omega) hP) (wL_DBR (by omega) (by omega) hD) hS hA 0 rfl rfl rfl hl.1 rfl (Nat.le_of_ble_eq_true rfl) dX4_compare_41 ⟨Nat.zero_le _, Nat.zero_le _⟩ (fun r9 v9 H1 locs hw hP1 hk1 hS => ?_)
    subst hw
    have hP : va_P D vwCl (wL cI cB cR ad (T, seU se 1 v9, Φ, rc, wr)) H1 := wL_swS (by omega) (by omega) hP hD hP1 hk1
    have hD : va_D A (wL cI cB cR ad (T, seU se 1 v9, Φ, rc, wr)) := hD.adr rfl
    generalize H1 = H at hP hS ⊢
    generalize seU se 1 v9 = se at hP hD ⊢
    refine lv_istore_n (lv' := [(3, .int (p_X0_resolution (T (2 * 1)) (τ 1) (T (2 * 1 + 1)) (γ 1) (nf 1) (Φ (sN t)))), (2, .int (p_X0_resolution (T (2 * 0)) (τ 0) (T (2 * 0 + 1)) (γ 0) (nf 0) (Φ (sN t)))), (0, .ref (ad 0)), (1, .int t)]) hx hb dX4_compare_44 rfl hl (by decide) rfl (fun ls hl => ?_)
    refine lv_aload_n hx hb dX4_compare_45 rfl (lv_at hl 2 rfl) ?_
    refine lv_iload_n hx hb dX4_compare_46 rfl (lv_at hl 1 rfl) ?_
    refine lv_iload_n hx hb dX4_compare_47 rfl (lv_at hl 0 rfl) ?_
    refine ro_V [.int (p_X0_resolution (T (2 * 0)) (τ 0) (T (2 * 0 + 1)) (γ 0) (nf 0) (Φ (sN t))), .int (p_X0_resolution (T (2 * 1)) (τ 1) (T (2 * 1 + 1)) (γ 1) (nf 1) (Φ (sN t)))] [] ⟨hx, hb, hml, hown, hts⟩ (c_X4_areAlike l D cI cZ cB cR ad T Φ τ γ nf R se rc wr (p_X0_resolution (T (2 * 0)) (τ 0) (T (2 * 0 + 1)) (γ 0) (nf 0) (Φ (sN t))) (p_X0_resolution (T (2 * 1)) (τ 1) (T (2 * 1 + 1)) (γ 1) (nf 1) (Φ (sN t))) lk (hrg 0 (by omega) (sN t) ht8) (hrg 1 (by omega) (sN t) ht8)) (cwV (C := RX4) 2 hts (goodP (ps := [.methodLink RX4 95 yX4_areAlike, .instanceMethod yX4_areAlike, .selects RX4 yX4_areAlike yX4_areAlike, .initialized RX4]) (all4 mw_3_7 mw_3_9 ms_22 mw_1_1) mw_3_10) rfl rfl rfl (by decide +kernel) ⟨Nat.le_of_ble_eq_true rfl, Nat.le_of_ble_eq_true rfl⟩) hEV hP 0 rfl rfl rfl hl.1 rfl (Nat.le_of_ble_eq_true rfl) dX4_compare_48 ⟨Nat.zero_le _, Nat.zero_le _⟩ ?_
    refine lv_if_eq (tgt := 56) hx hb dX4_compare_51 (by decide) (fun c_51 => ?_) (fun c_51 => ?_)
    · skip
      have hE := (if_pos c_51).symm.trans hE
      refine lv_iload_n hx hb dX4_compare_56 rfl (lv_at hl 1 rfl) ?_
      refine ro_S [.int (p_X0_resolution (T (2 * 0)) (τ 0) (T (2 * 0 + 1)) (γ 0) (nf 0) (Φ (sN t)))] [] ⟨hx, hb, hml, hown, hts⟩ (c_X4_isGood l D cI cZ cB cR (p_X0_resolution (T (2 * 0)) (τ 0) (T (2 * 0 + 1)) (γ 0) (nf 0) (Φ (sN t)))) (va_cwS 1 hts (goodP (ps := [.methodLink RX4 98 yX4_isGood, .static yX4_isGood, .initialized RX4]) (all3 mw_3_15 mw_1_54 mw_1_1) mw_1_55) rfl rfl rfl (by decide +kernel) ⟨Nat.le_of_ble_eq_true rfl, Nat.le_of_ble_eq_true rfl⟩) hEV va_P0 rfl hl.1 rfl (Nat.le_of_ble_eq_true rfl) dX4_compare_57 ⟨Nat.zero_le _, Nat.zero_le _⟩ ?_
      refine lv_if_eq (tgt := 76) hx hb dX4_compare_60 (by decide) (fun c_60 => ?_) (fun c_60 => ?_)
      · have c_60 : ¬ ((gd (p_X0_resolution (T (2 * 0)) (τ 0) (T (2 * 0 + 1)) (γ 0) (nf 0) (Φ (sN t)))) = true) := b2i_f c_60
        have hE := (if_neg c_60).symm.trans hE
        refine lv_iload_n hx hb dX4_compare_76 rfl (lv_at hl 0 rfl) ?_
        refine ro_S [.int (p_X0_resolution (T (2 * 1)) (τ 1) (T (2 * 1 + 1)) (γ 1) (nf 1) (Φ (sN t)))] [] ⟨hx, hb, hml, hown, hts⟩ (c_X4_isGood l D cI cZ cB cR (p_X0_resolution (T (2 * 1)) (τ 1) (T (2 * 1 + 1)) (γ 1) (nf 1) (Φ (sN t)))) (va_cwS 1 hts (goodP (ps := [.methodLink RX4 98 yX4_isGood, .static yX4_isGood, .initialized RX4]) (all3 mw_3_15 mw_1_54 mw_1_1) mw_1_55) rfl rfl rfl (by decide +kernel) ⟨Nat.le_of_ble_eq_true rfl, Nat.le_of_ble_eq_true rfl⟩) hEV va_P0 rfl hl.1 rfl (Nat.le_of_ble_eq_true rfl) dX4_compare_77 ⟨Nat.zero_le _, Nat.zero_le _⟩ ?_
        refine lv_if_eq (tgt := 87) hx hb dX4_compare_80 (by decide) (fun c_80 => ?_) (fun c_80 => ?_)
        · have c_80 : ¬ ((gd (p_X0_resolution (T (2 * 1)) (τ 1) (T (2 * 1 + 1)) (γ 1) (nf 1) (Φ (sN t)))) = true) := b2i_f c_80
          have hE := (if_neg c_80).symm.trans hE
          refine lv_iconst (v := (4 : Int32)) hx hb dX4_compare_87 (by decide) ?_
          exact W.iret hx hb hr (fun t9 ht9 _ => ⟨⟨_, se, rfl, hE, by show va_P D vwCl _ t9.heap; rw [ht9]; exact hP⟩, hS.F ht9⟩) hS.2.2 dX4_compare_88
        · have c_80 : (gd (p_X0_resolution (T (2 * 1)) (τ 1) (T (2 * 1 + 1)) (γ 1) (nf 1) (Φ (sN t)))) = true := b2i_t c_80
          have hE := (if_pos c_80).symm.trans hE
          refine lv_iconst (v := (2 : Int32)) hx hb dX4_compare_83 (by decide) ?_
          refine lv_goto (tgt := 88) hx hb dX4_compare_84 (by decide) ?_
          exact W.iret hx hb hr (fun t9 ht9 _ => ⟨⟨_, se, rfl, hE, by show va_P D vwCl _ t9.heap; rw [ht9]; exact hP⟩, hS.F ht9⟩) hS.2.2 dX4_compare_88
      · have c_60 : (gd (p_X0_resolution (T (2 * 0)) (τ 0) (T (2 * 0 + 1)) (γ 0) (nf 0) (Φ (sN t)))) = true := b2i_t c_60
        have hE := (if_pos c_60).symm.trans hE
        refine lv_iload_n hx hb dX4_compare_63 rfl (lv_at hl 0 rfl) ?_
        refine ro_S [.int (p_X0_resolution (T (2 * 1)) (τ 1) (T (2 * 1 + 1)) (γ 1) (nf 1) (Φ (sN t)))] [] ⟨hx, hb, hml, hown, hts⟩ (c_X4_isGood l D cI cZ cB cR (p_X0_resolution (T (2 * 1)) (τ 1) (T (2 * 1 + 1)) (γ 1) (nf 1) (Φ (sN t)))) (va_cwS 1 hts (goodP (ps := [.methodLink RX4 98 yX4_isGood, .static yX4_isGood, .initialized RX4]) (all3 mw_3_15 mw_1_54 mw_1_1) mw_1_55) rfl rfl rfl (by decide +kernel) ⟨Nat.le_of_ble_eq_true rfl, Nat.le_of_ble_eq_true rfl⟩) hEV va_P0 rfl hl.1 rfl (Nat.le_of_ble_eq_true rfl) dX4_compare_64 ⟨Nat.zero_le _, Nat.zero_le _⟩ ?_
        refine lv_if_eq (tgt := 74) hx hb dX4_compare_67 (by decide) (fun c_67 => ?_) (fun c_67 => ?_)
        · have c_67 : ¬ ((gd (p_X0_resolution (T (2 * 1)) (τ 1) (T (2 * 1 + 1)) (γ 1) (nf 1) (Φ (sN t)))) = true) := b2i_f c_67
          have hE := (if_neg c_67).symm.trans hE
          refine lv_iconst (v := (1 : Int32)) hx hb dX4_compare_74 (by decide) ?_
          exact W.iret hx hb hr (fun t9 ht9 _ => ⟨⟨_, se, rfl, hE, by show va_P D vwCl _ t9.heap; rw [ht9]; exact hP⟩, hS.F ht9⟩) hS.2.2 dX4_compare_75
        · have c_67 : (gd (p_X0_resolution (T (2 * 1)) (τ 1) (T (2 * 1 + 1)) (γ 1) (nf 1) (Φ (sN t)))) = true := b2i_t c_67
          have hE := (if_pos c_67).symm.trans hE
          refine lv_iconst (v := (3 : Int32)) hx hb dX4_compare_70 (by decide) ?_
          refine lv_goto (tgt := 75) hx hb dX4_compare_71 (by decide) ?_
          exact W.iret hx hb hr (fun t9 ht9 _ => ⟨⟨_, se, rfl, hE, by show va_P D vwCl _ t9.heap; rw [ht9]; exact hP⟩, hS.F ht9⟩) hS.2.2 dX4_compare_75
    · skip
      have hE := (if_neg c_51).symm.trans hE
      refine lv_iconst (v := (0 : Int32)) hx hb dX4_compare_54 (by decide) ?_
      exact W.iret hx hb hr (fun t9 ht9 _ => ⟨⟨_, se, rfl, hE, by show va_P D vwCl _ t9.heap; rw [ht9]; exact hP⟩, hS.F ht9⟩) hS.2.2 dX4_compare_55
  · have c_8 : ¬ ((wi t (nI R)) = true) := b2i_f c_8
    have hE := (if_neg c_8).symm.trans hE
    refine lv_iconst (v := (-1 : Int32)) hx hb dX4_compare_11 (by decide) ?_
    exact W.iret hx hb hr (fun t9 ht9 _ => ⟨⟨_, se, rfl, hE, by show va_P D vwCl _ t9.heap; rw [ht9]; exact hP⟩, hS.F ht9⟩) hS.2.2 dX4_compare_12
noncomputable def p_X4_receivers_58 (T : Nat → Nat → Nat → Int32) (Φ : Nat → Nat → Nat) (τ γ : Nat → Nat → Nat → Int32) (nf : Nat → Nat) (R : Nat) (t : Int32) (u : Int32) : Nat → Nat → Nat → Int32
  | 0, _, _ => 0
  | k + 1, n7, n6 => if 12 ≤ n7 then (nI n6) else (if (p_X4_isSuchReceiver T Φ τ γ nf R u (p_X0_selection (T (2 * 0)) (τ 0) (T (2 * 0 + 1)) (γ 0) (nf 0) (Φ (sN t)) (p_X0_resolution (T (2 * 0)) (τ 0) (T (2 * 0 + 1)) (γ 0) (nf 0) (Φ (sN t))) n7) (p_X0_selection (T (2 * 1)) (τ 1) (T (2 * 1 + 1)) (γ 1) (nf 1) (Φ (sN t)) (p_X0_resolution (T (2 * 1)) (τ 1) (T (2 * 1 + 1)) (γ 1) (nf 1) (Φ (sN t))) n7)) = (0 : Int32) then (p_X4_receivers_58 T Φ τ γ nf R t u k (n7 + 1) (n6 + 0)) else (p_X4_receivers_58 T Φ τ γ nf R t u k (n7 + 1) (n6 + 1)))
noncomputable def p_X4_receivers (T : Nat → Nat → Nat → Int32) (Φ : Nat → Nat → Nat) (τ γ : Nat → Nat → Nat → Int32) (nf : Nat → Nat) (R : Nat) (t : Int32) (u : Int32) : Int32 := if (wi t (nI R)) = true then (if (wi u (4 : Int32)) = true then (p_X4_receivers_58 T Φ τ γ nf R t u 13 0 0) else ((-1 : Int32))) else ((-1 : Int32))
set_option maxHeartbeats 4000000 in
set_option maxRecDepth 100000 in
theorem c_X4_receivers (l : Launch) (D : va_G) (cI cZ cB cR : ClassId) (ad : Nat → Nat) (T : Nat → Nat → Nat → Int32) (Φ : Nat → Nat → Nat) (τ γ : Nat → Nat → Nat → Int32) (nf : Nat → Nat) (R : Nat) (se : Nat → Int32) (rc wr : Int32) (t : Int32) (u : Int32) (lk : LOK T Φ rc τ γ nf R) (hg16 : ∀ w, w < 2 → ∀ i, i < R → decide (Φ i 0 = 4 ∨ Φ i 0 = 7) = true → gd (p_X0_resolution (T (2 * w)) (τ w) (T (2 * w + 1)) (γ w) (nf w) (Φ i)) = true → g16 (nf w) (p_X0_resolution (T (2 * w)) (τ w) (T (2 * w + 1)) (γ w) (nf w) (Φ i))) (hsr : ∀ w, w < 2 → ∀ i, i < R → ∀ q, q < 12 → gd (p_X0_selection (T (2 * w)) (τ w) (T (2 * w + 1)) (γ w) (nf w) (Φ i) (p_X0_resolution (T (2 * w)) (τ w) (T (2 * w + 1)) (γ w) (nf w) (Φ i)) q) = true → rg (p_X0_selection (T (2 * w)) (τ w) (T (2 * w + 1)) (γ w) (nf w) (Φ i) (p_X0_resolution (T (2 * w)) (τ w) (T (2 * w + 1)) (γ w) (nf w) (Φ i)) q)) : MUi l yX4_receivers wsX4_receivers ({ frames := 26, cells := 0, slots := 0, locals := 658 } : Room) D cI cZ cB cR (wL cI cB cR ad (T, se, Φ, rc, wr)) [.ref (ad 0), .int t, .int u] (fun (se : Nat → Int32) => wL cI cB cR ad (T, se, Φ, rc, wr)) (fun r _ => r = (p_X4_receivers T Φ τ γ nf R t u)) := by
  generalize hE : p_X4_receivers T Φ τ γ nf R t u = tgt
  intro sz
  refine Met.ofW (cc := cX4_receivers) (maxL := 10) (ret := (some .int)) (by decide) rfl ?_
  intro p e s m args below meth c s₁ B hml hv
  obtain ⟨hargs, hsz, hP, hEV, hD0⟩ := hv
  have hx := B.exec
  have hb := B.bytes
  have hr := B.returns
  have hts := atoms_spec (ws := wsX4_receivers) B.pre
  have hown : s.vm.findClass RX4 = some m.cls := findClass_of_methodNamed B.named
  have hlocks := B.notSynchronized
  have hK := hEV.1
  have hl := lv_entry ([.ref (ad 0), .int t, .int u]) (n := 10) (Nat.le_of_ble_eq_true rfl)
  rw [show entryFrame m args 10 = entryFrame m ([.ref (ad 0), .int t, .int u] : List Value).toArray 10 from by rw [hargs], lg_entry_eq]
  generalize (lg_sl ([.ref (ad 0), .int t, .int u]) ++ List.replicate (10 - (lg_sl ([.ref (ad 0), .int t, .int u])).length) Slot.unset).toArray = ls at hl ⊢
  have hl : lv_has ls 10 [(0, .ref (ad 0)), (1, .int t), (2, .int u)] := hl
  subst hsz
  have hD := hD0.self (sz := s.heap.size)
  generalize hAe : va_A (wL cI cB cR ad (T, se, Φ, rc, wr)) s.heap.size = A at hD ⊢
  have hA : ∀ q : Nat, s.heap.size ≤ q → A q := fun q h9 => by rw [← hAe]; exact Or.inr h9
  have hS : va_S A s.heap s.heap [] := va_S.rf
  rw [p_X4_receivers] at hE
  have hR16 := lk.2.2.1
  have key_58 : ∀ (k_58 : Nat) (n7 : Nat) (n6 : Nat) (ls : Array Slot) (se : Nat → Int32) (H : Heap) (locs : List Loc) (hP : va_P D vwCl (wL cI cB cR ad (T, se, Φ, rc, wr)) H) (hD : va_D A (wL cI cB cR ad (T, se, Φ, rc, wr))) (hS : va_S A s.heap H locs), (12 - n7) < k_58 → wi t (nI R) = true → n7 ≤ 12 → lv_has ls 10 [(7, .int (nI n7)), (6, .int (nI n6)), (5, .int (p_X0_resolution (T (2 * 1)) (τ 1) (T (2 * 1 + 1)) (γ 1) (nf 1) (Φ (sN t)))), (4, .int (p_X0_resolution (T (2 * 0)) (τ 0) (T (2 * 0 + 1)) (γ 0) (nf 0) (Φ (sN t)))), (3, .ref (ad (33 + (sN t)))), (0, .ref (ad 0)), (2, .int u)] → p_X4_receivers_58 T Φ τ γ nf R t u k_58 n7 n6 = tgt → W p l e (headSpec wsX4_receivers ({ frames := 26, cells := 0, slots := 0, locals := 658 } : Room)).room s m args below meth c H locs 0 0 (MQ below (va_Qi (fun r (_ : (Nat → Int32)) => r = tgt) (fun u t => va_P D vwCl ((fun (se : Nat → Int32) => wL cI cB cR ad (T, se, Φ, rc, wr)) u) t.heap) A) args s 0 0 A) (F0 m 58 ls []) := by
    intro k_58
    induction k_58 with
    | zero => intro n7 n6 ls se H locs hP hD hS hm; exact absurd hm (Nat.not_lt_zero _)
    | succ k_58 ih_58 =>
      intro n7 n6 ls se H locs hP hD hS hm_58 hi_58_0 hi_58_1 hl hE
      rw [p_X4_receivers_58] at hE
      have ht9 := wi_sN (b := R) (by omega) hi_58_0
      have ht8 := ht9.1
      have hk9 := hi_58_0
      refine lv_iload hx hb dX4_receivers_58 (lv_at hl 0 rfl) ?_
      refine lv_bipush (v := (12 : Int32)) hx hb dX4_receivers_60 (by decide) ?_
      refine lv_icmp_ge (tgt := 125) hx hb dX4_receivers_62 (by decide) (fun c_62 => ?_) (fun c_62 => ?_)
      · have c_62 : 12 ≤ n7 := (nI_leI (a := 12) (b := n7) (by omega) (by omega)).mp c_62
        have hE := (if_pos c_62).symm.trans hE
        refine lv_iload hx hb dX4_receivers_125 (lv_at hl 1 rfl) ?_
        exact W.iret hx hb hr (fun t9 ht9 _ => ⟨⟨_, se, rfl, hE, by show va_P D vwCl _ t9.heap; rw [ht9]; exact hP⟩, hS.F ht9⟩) hS.2.2 dX4_receivers_127
      · have c_62 : ¬ (12 ≤ n7) := fun q9 => c_62 ((nI_leI (a := 12) (b := n7) (by omega) (by omega)).mpr q9)
        have hE := (if_neg c_62).symm.trans hE
        refine lv_aload_n hx hb dX4_receivers_65 rfl (lv_at hl 5 rfl) ?_
        refine va_get (D := D) (ci := 4) (v := .ref (ad 1)) (C := RX4) (T := TX4) (N := 4) hx hb hts (fun w9 h9 => List.mem_cons_of_mem _ (inT_X4 w9 h9)) hown hK hP 0 rfl rfl 0 (by decide) (hts (.fieldLink RX4 12 "LinkPredictor" "builds" "[LLinkPredictor$Build;") (List.mem_cons_of_mem _ mw_1_164)) (fun _ h9 => h9) rfl dX4_receivers_66 ?_
        refine lv_iconst (v := (0 : Int32)) hx hb dX4_receivers_69 (by decide) ?_
        refine ro_aal hx hb hEV hP 1 2 (j := 0) (v := ad (3 + 15 * 0)) rfl rfl rfl (by omega) (by decide) dX4_receivers_70 ?_
        refine lv_aload_n hx hb dX4_receivers_71 rfl (lv_at hl 4 rfl) ?_
        refine lv_iload hx hb dX4_receivers_72 (lv_at hl 3 rfl) ?_
        refine lv_iload hx hb dX4_receivers_74 (lv_at hl 0 rfl) ?_
        refine ro_V [.ref (ad (33 + (sN t))), .int (p_X0_resolution (T (2 * 0)) (τ 0) (T (2 * 0 + 1)) (γ 0) (nf 0) (Φ (sN t))), .int (nI n7)] [] ⟨hx, hb, hml, hown, hts⟩ (c_X0_selection l D cI cZ cB cR (ad (3 + 15 * 0)) (aHw ad 0) (aMw ad 0) (T (2 * 0)) (τ 0) (T (2 * 0 + 1)) (γ 0) (nf 0) (se 0) (ad (33 + (sN t))) (Φ (sN t)) (p_X0_resolution (T (2 * 0)) (τ 0) (T (2 * 0 + 1)) (γ 0) (nf 0) (Φ (sN t))) n7 (lk.1 0 (by omega)).1 (lk.1 0 (by omega)).2.1 (lk.1 0 (by omega)).2.2.1 (lk.1 0 (by omega)).2.2.2 (lk.2.2.2 (sN t) (by omega)) (by omega) (hg16 0 (by omega) (sN t) ht8)) (cwV (C := RX0) 3 hts (goodP (ps := [.methodLink RX4 91 yX0_selection, .instanceMethod yX0_selection, .selects RX0 yX0_selection yX0_selection, .initialized RX0]) (all4 mw_2_210 mw_2_211 mw_2_212 mw_1_2) mw_2_213) rfl rfl rfl (by decide +kernel) ⟨Nat.le_of_ble_eq_true rfl, Nat.le_of_ble_eq_true rfl⟩) hEV (wL_BR (by omega) (by omega) hP) 0 rfl rfl rfl hl.1 rfl (Nat.le_of_ble_eq_true rfl) dX4_receivers_76 ⟨Nat.zero_le _, Nat.zero_le _⟩ ?_
        refine lv_istore (lv' := [(8, .int (p_X0_selection (T (2 * 0)) (τ 0) (T (2 * 0 + 1)) (γ 0) (nf 0) (Φ (sN t)) (p_X0_resolution (T (2 * 0)) (τ 0) (T (2 * 0 + 1)) (γ 0) (nf 0) (Φ (sN t))) n7)), (7, .int (nI n7)), (6, .int (nI n6)), (5, .int (p_X0_resolution (T (2 * 1)) (τ 1) (T (2 * 1 + 1)) (γ 1) (nf 1) (Φ (sN t)))), (4, .int (p_X0_resolution (T (2 * 0)) (τ 0) (T (2 * 0 + 1)) (γ 0) (nf 0) (Φ (sN t)))), (3, .ref (ad (33 + (sN t)))), (0, .ref (ad 0)), (2, .int u)]) hx hb dX4_receivers_79 hl (by decide) rfl (fun ls hl => ?_)
        refine lv_aload_n hx hb dX4_receivers_81 rfl (lv_at hl 6 rfl) ?_
        refine va_get (D := D) (ci := 4) (v := .ref (ad 1)) (C := RX4) (T := TX4) (N := 4) hx hb hts (fun w9 h9 => List.mem_cons_of_mem _ (inT_X4 w9 h9)) hown hK hP 0 rfl rfl 0 (by decide) (hts (.fieldLink RX4 12 "LinkPredictor" "builds" "[LLinkPredictor$Build;") (List.mem_cons_of_mem _ mw_1_164)) (fun _ h9 => h9) rfl dX4_receivers_82 ?_
        refine lv_iconst (v := (1 : Int32)) hx hb dX4_receivers_85 (by decide) ?_
        refine ro_aal hx hb hEV hP 1 2 (j := 1) (v := ad (3 + 15 * 1)) rfl rfl rfl (by omega) (by decide) dX4_receivers_86 ?_
        refine lv_aload_n hx hb dX4_receivers_87 rfl (lv_at hl 5 rfl) ?_
        refine lv_iload hx hb dX4_receivers_88 (lv_at hl 3 rfl) ?_
        refine lv_iload hx hb dX4_receivers_90 (lv_at hl 1 rfl) ?_
        refine ro_V [.ref (ad (33 + (sN t))), .int (p_X0_resolution (T (2 * 1)) (τ 1) (T (2 * 1 + 1)) (γ 1) (nf 1) (Φ (sN t))), .int (nI n7)] [] ⟨hx, hb, hml, hown, hts⟩ (c_X0_selection l D cI cZ cB cR (ad (3 + 15 * 1)) (aHw ad 1) (aMw ad 1) (T (2 * 1)) (τ 1) (T (2 * 1 + 1)) (γ 1) (nf 1) (se 1) (ad (33 + (sN t))) (Φ (sN t)) (p_X0_resolution (T (2 * 1)) (τ 1) (T (2 * 1 + 1)) (γ 1) (nf 1) (Φ (sN t))) n7 (lk.1 1 (by omega)).1 (lk.1 1 (by omega)).2.1 (lk.1 1 (by omega)).2.2.1 (lk.1 1 (by omega)).2.2.2 (lk.2.2.2 (sN t) (by omega)) (by omega) (hg16 1 (by omega) (sN t) ht8)) (cwV (C := RX0) 3 hts (goodP (ps := [.methodLink RX4 91 yX0_selection, .instanceMethod yX0_selection, .selects RX0 yX0_selection yX0_selection, .initialized RX0]) (all4 mw_2_210 mw_2_211 mw_2_212 mw_1_2) mw_2_213) rfl rfl rfl (by decide +kernel) ⟨Nat.le_of_ble_eq_true rfl, Nat.le_of_ble_eq_true rfl⟩) hEV (wL_BR (by omega) (by omega) hP) 0 rfl rfl rfl hl.1 rfl (Nat.le_of_ble_eq_true rfl) dX4_receivers_92 ⟨Nat.zero_le _, Nat.zero_le _⟩ ?_
        refine lv_istore (lv' := [(9, .int (p_X0_selection (T (2 * 1)) (τ 1) (T (2 * 1 + 1)) (γ 1) (nf 1) (Φ (sN t)) (p_X0_resolution (T (2 * 1)) (τ 1) (T (2 * 1 + 1)) (γ 1) (nf 1) (Φ (sN t))) n7)), (8, .int (p_X0_selection (T (2 * 0)) (τ 0) (T (2 * 0 + 1)) (γ 0) (nf 0) (Φ (sN t)) (p_X0_resolution (T (2 * 0)) (τ 0) (T (2 * 0 + 1)) (γ 0) (nf 0) (Φ (sN t))) n7)), (7, .int (nI n7)), (6, .int (nI n6)), (5, .int (p_X0_resolution (T (2 * 1)) (τ 1) (T (2 * 1 + 1)) (γ 1) (nf 1) (Φ (sN t)))), (4, .int (p_X0_resolution (T (2 * 0)) (τ 0) (T (2 * 0 + 1)) (γ 0) (nf 0) (Φ (sN t)))), (3, .ref (ad (33 + (sN t)))), (0, .ref (ad 0)), (2, .int u)]) hx hb dX4_receivers_95 hl (by decide) rfl (fun ls hl => ?_)
        refine lv_iload hx hb dX4_receivers_97 (lv_at hl 3 rfl) ?_
        refine lv_aload_n hx hb dX4_receivers_99 rfl (lv_at hl 7 rfl) ?_
        refine lv_iload_n hx hb dX4_receivers_100 rfl (lv_at hl 8 rfl) ?_
        refine lv_iload hx hb dX4_receivers_101 (lv_at hl 1 rfl) ?_
        refine lv_iload hx hb dX4_receivers_103 (lv_at hl 0 rfl) ?_
        refine ro_V [.int u, .int (p_X0_selection (T (2 * 0)) (τ 0) (T (2 * 0 + 1)) (γ 0) (nf 0) (Φ (sN t)) (p_X0_resolution (T (2 * 0)) (τ 0) (T (2 * 0 + 1)) (γ 0) (nf 0) (Φ (sN t))) n7), .int (p_X0_selection (T (2 * 1)) (τ 1) (T (2 * 1 + 1)) (γ 1) (nf 1) (Φ (sN t)) (p_X0_resolution (T (2 * 1)) (τ 1) (T (2 * 1 + 1)) (γ 1) (nf 1) (Φ (sN t))) n7)] [.int (nI n6)] ⟨hx, hb, hml, hown, hts⟩ (c_X4_isSuchReceiver l D cI cZ cB cR ad T Φ τ γ nf R se rc wr u (p_X0_selection (T (2 * 0)) (τ 0) (T (2 * 0 + 1)) (γ 0) (nf 0) (Φ (sN t)) (p_X0_resolution (T (2 * 0)) (τ 0) (T (2 * 0 + 1)) (γ 0) (nf 0) (Φ (sN t))) n7) (p_X0_selection (T (2 * 1)) (τ 1) (T (2 * 1 + 1)) (γ 1) (nf 1) (Φ (sN t)) (p_X0_resolution (T (2 * 1)) (τ 1) (T (2 * 1 + 1)) (γ 1) (nf 1) (Φ (sN t))) n7) lk (hsr 0 (by omega) (sN t) ht8 n7 (by omega)) (hsr 1 (by omega) (sN t) ht8 n7 (by omega))) (cwV (C := RX4) 3 hts (goodP (ps := [.methodLink RX4 101 yX4_isSuchReceiver, .instanceMethod yX4_isSuchReceiver, .selects RX4 yX4_isSuchReceiver yX4_isSuchReceiver, .initialized RX4]) (all4 mw_3_20 mw_3_22 ms_23 mw_1_1) mw_3_23) rfl rfl rfl (by decide +kernel) ⟨Nat.le_of_ble_eq_true rfl, Nat.le_of_ble_eq_true rfl⟩) hEV hP 0 rfl rfl rfl hl.1 rfl (Nat.le_of_ble_eq_true rfl) dX4_receivers_105 ⟨Nat.zero_le _, Nat.zero_le _⟩ ?_
        refine lv_if_eq (tgt := 115) hx hb dX4_receivers_108 (by decide) (fun c_108 => ?_) (fun c_108 => ?_)
        · skip
          have hE := (if_pos c_108).symm.trans hE
          refine lv_iconst (v := (0 : Int32)) hx hb dX4_receivers_115 (by decide) ?_
          refine lv_iadd hx hb dX4_receivers_116 ?_
          refine top_eq (nI_add n6 0) ?_
          refine lv_istore (lv' := [(6, .int (nI (n6 + 0))), (9, .int (p_X0_selection (T (2 * 1)) (τ 1) (T (2 * 1 + 1)) (γ 1) (nf 1) (Φ (sN t)) (p_X0_resolution (T (2 * 1)) (τ 1) (T (2 * 1 + 1)) (γ 1) (nf 1) (Φ (sN t))) n7)), (8, .int (p_X0_selection (T (2 * 0)) (τ 0) (T (2 * 0 + 1)) (γ 0) (nf 0) (Φ (sN t)) (p_X0_resolution (T (2 * 0)) (τ 0) (T (2 * 0 + 1)) (γ 0) (nf 0) (Φ (sN t))) n7)), (7, .int (nI n7)), (5, .int (p_X0_resolution (T (2 * 1)) (τ 1) (T (2 * 1 + 1)) (γ 1) (nf 1) (Φ (sN t)))), (4, .int (p_X0_resolution (T (2 * 0)) (τ 0) (T (2 * 0 + 1)) (γ 0) (nf 0) (Φ (sN t)))), (3, .ref (ad (33 + (sN t)))), (0, .ref (ad 0)), (2, .int u)]) hx hb dX4_receivers_117 hl (by decide) rfl (fun ls hl => ?_)
          refine lv_iinc (v := nI (n7 + 1)) (lv' := [(7, .int (nI (n7 + 1))), (6, .int (nI (n6 + 0))), (9, .int (p_X0_selection (T (2 * 1)) (τ 1) (T (2 * 1 + 1)) (γ 1) (nf 1) (Φ (sN t)) (p_X0_resolution (T (2 * 1)) (τ 1) (T (2 * 1 + 1)) (γ 1) (nf 1) (Φ (sN t))) n7)), (8, .int (p_X0_selection (T (2 * 0)) (τ 0) (T (2 * 0 + 1)) (γ 0) (nf 0) (Φ (sN t)) (p_X0_resolution (T (2 * 0)) (τ 0) (T (2 * 0 + 1)) (γ 0) (nf 0) (Φ (sN t))) n7)), (5, .int (p_X0_resolution (T (2 * 1)) (τ 1) (T (2 * 1 + 1)) (γ 1) (nf 1) (Φ (sN t)))), (4, .int (p_X0_resolution (T (2 * 0)) (τ 0) (T (2 * 0 + 1)) (γ 0) (nf 0) (Φ (sN t)))), (3, .ref (ad (33 + (sN t)))), (0, .ref (ad 0)), (2, .int u)]) hx hb dX4_receivers_119 hl (k := 3) rfl (nI_1 _) (by decide) rfl (fun ls hl => ?_)
          refine lv_goto (tgt := 58) hx hb dX4_receivers_122 (by decide) ?_
          exact ih_58 (n7 + 1) (n6 + 0) ls _ _ _ hP hD hS (by omega) (by first | omega | assumption) (by first | omega | assumption) (lv_sub hl [0, 1, 4, 5, 6, 7, 8] rfl) hE
        · skip
          have hE := (if_neg c_108).symm.trans hE
          refine lv_iconst (v := (1 : Int32)) hx hb dX4_receivers_111 (by decide) ?_
          refine lv_goto (tgt := 116) hx hb dX4_receivers_112 (by decide) ?_
          refine lv_iadd hx hb dX4_receivers_116 ?_
          refine top_eq (nI_add n6 1) ?_
          refine lv_istore (lv' := [(6, .int (nI (n6 + 1))), (9, .int (p_X0_selection (T (2 * 1)) (τ 1) (T (2 * 1 + 1)) (γ 1) (nf 1) (Φ (sN t)) (p_X0_resolution (T (2 * 1)) (τ 1) (T (2 * 1 + 1)) (γ 1) (nf 1) (Φ (sN t))) n7)), (8, .int (p_X0_selection (T (2 * 0)) (τ 0) (T (2 * 0 + 1)) (γ 0) (nf 0) (Φ (sN t)) (p_X0_resolution (T (2 * 0)) (τ 0) (T (2 * 0 + 1)) (γ 0) (nf 0) (Φ (sN t))) n7)), (7, .int (nI n7)), (5, .int (p_X0_resolution (T (2 * 1)) (τ 1) (T (2 * 1 + 1)) (γ 1) (nf 1) (Φ (sN t)))), (4, .int (p_X0_resolution (T (2 * 0)) (τ 0) (T (2 * 0 + 1)) (γ 0) (nf 0) (Φ (sN t)))), (3, .ref (ad (33 + (sN t)))), (0, .ref (ad 0)), (2, .int u)]) hx hb dX4_receivers_117 hl (by decide) rfl (fun ls hl => ?_)
          refine lv_iinc (v := nI (n7 + 1)) (lv' := [(7, .int (nI (n7 + 1))), (6, .int (nI (n6 + 1))), (9, .int (p_X0_selection (T (2 * 1)) (τ 1) (T (2 * 1 + 1)) (γ 1) (nf 1) (Φ (sN t)) (p_X0_resolution (T (2 * 1)) (τ 1) (T (2 * 1 + 1)) (γ 1) (nf 1) (Φ (sN t))) n7)), (8, .int (p_X0_selection (T (2 * 0)) (τ 0) (T (2 * 0 + 1)) (γ 0) (nf 0) (Φ (sN t)) (p_X0_resolution (T (2 * 0)) (τ 0) (T (2 * 0 + 1)) (γ 0) (nf 0) (Φ (sN t))) n7)), (5, .int (p_X0_resolution (T (2 * 1)) (τ 1) (T (2 * 1 + 1)) (γ 1) (nf 1) (Φ (sN t)))), (4, .int (p_X0_resolution (T (2 * 0)) (τ 0) (T (2 * 0 + 1)) (γ 0) (nf 0) (Φ (sN t)))), (3, .ref (ad (33 + (sN t)))), (0, .ref (ad 0)), (2, .int u)]) hx hb dX4_receivers_119 hl (k := 3) rfl (nI_1 _) (by decide) rfl (fun ls hl => ?_)
          refine lv_goto (tgt := 58) hx hb dX4_receivers_122 (by decide) ?_
          exact ih_58 (n7 + 1) (n6 + 1) ls _ _ _ hP hD hS (by omega) (by first | omega | assumption) (by first | omega | assumption) (lv_sub hl [0, 1, 4, 5, 6, 7, 8] rfl) hE
  refine lv_iload_n hx hb dX4_receivers_0 rfl (lv_at hl 1 rfl) ?_
  refine lv_aload_n hx hb dX4_receivers_1 rfl (lv_at hl 0 rfl) ?_
  refine va_get (D := D) (ci := 4) (v := .int rc) (C := RX4) (T := TX4) (N := 4) hx hb hts (fun w9 h9 => List.mem_cons_of_mem _ (inT_X4 w9 h9)) hown hK hP 0 rfl rfl 2 (by decide) (hts (.fieldLink RX4 23 "LinkPredictor" "referenceCount" "I") (List.mem_cons_of_mem _ mw_1_166)) (fun _ h9 => h9) rfl dX4_receivers_2 ?_
  refine top_eq (lk.2.1) ?_
  refine ro_S [.int t, .int (nI R)] [] ⟨hx, hb, hml, hown, hts⟩ (c_X4_isWithin l D cI cZ cB cR t (nI R)) (va_cwS 2 hts (goodP (ps := [.methodLink RX4 34 yX4_isWithin, .static yX4_isWithin, .initialized RX4]) (all3 mw_1_56 mw_1_57 mw_1_1) mw_1_58) rfl rfl rfl (by decide +kernel) ⟨Nat.le_of_ble_eq_true rfl, Nat.le_of_ble_eq_true rfl⟩) hEV va_P0 rfl hl.1 rfl (Nat.le_of_ble_eq_true rfl) dX4_receivers_5 ⟨Nat.zero_le _, Nat.zero_le _⟩ ?_
  refine lv_if_eq (tgt := 19) hx hb dX4_receivers_8 (by decide) (fun c_8 => ?_) (fun c_8 => ?_)
  · have c_8 : ¬ ((wi t (nI R)) = true) := b2i_f c_8
    have hE := (if_neg c_8).symm.trans hE
    refine lv_iconst (v := (-1 : Int32)) hx hb dX4_receivers_19 (by decide) ?_
    exact W.iret hx hb hr (fun t9 ht9 _ => ⟨⟨_, se, rfl, hE, by show va_P D vwCl _ t9.heap; rw [ht9]; exact hP⟩, hS.F ht9⟩) hS.2.2 dX4_receivers_20
  · have c_8 : (wi t (nI R)) = true := b2i_t c_8
    have hE := (if_pos c_8).symm.trans hE
    refine lv_iload_n hx hb dX4_receivers_11 rfl (lv_at hl 2 rfl) ?_
    refine lv_iconst (v := (4 : Int32)) hx hb dX4_receivers_12 (by decide) ?_
    refine ro_S [.int u, .int (4 : Int32)] [] ⟨hx, hb, hml, hown, hts⟩ (c_X4_isWithin l D cI cZ cB cR u (4 : Int32)) (va_cwS 2 hts (goodP (ps := [.methodLink RX4 34 yX4_isWithin, .static yX4_isWithin, .initialized RX4]) (all3 mw_1_56 mw_1_57 mw_1_1) mw_1_58) rfl rfl rfl (by decide +kernel) ⟨Nat.le_of_ble_eq_true rfl, Nat.le_of_ble_eq_true rfl⟩) hEV va_P0 rfl hl.1 rfl (Nat.le_of_ble_eq_true rfl) dX4_receivers_13 ⟨Nat.zero_le _, Nat.zero_le _⟩ ?_
    refine lv_if_ne (tgt := 21) hx hb dX4_receivers_16 (by decide) (fun c_16 => ?_) (fun c_16 => ?_)
    · have c_16 : (wi u (4 : Int32)) = true := b2i_t c_16
      have hE := (if_pos c_16).symm.trans hE
      have ht9 := wi_sN (b := R) (by omega) c_8
      have ht8 := ht9.1
      have hk9 := c_8
      refine lv_aload_n hx hb dX4_receivers_21 rfl (lv_at hl 0 rfl) ?_
      refine va_get (D := D) (ci := 4) (v := .ref (ad 2)) (C := RX4) (T := TX4) (N := 4) hx hb hts (fun w9 h9 => List.mem_cons_of_mem _ (inT_X4 w9 h9)) hown hK hP 0 rfl rfl 1 (by decide) (hts (.fieldLink RX4 18 "LinkPredictor" "references" "[LLinkPredictor$Reference;") (List.mem_cons_of_mem _ mw_1_165)) (fun _ h9 => h9) rfl dX4_receivers_22 ?_
      refine lv_iload_n hx hb dX4_receivers_25 rfl (lv_at hl 1 rfl) ?_
      refine top_eq (ht9.2) ?_
      refine ro_aal hx hb hEV hP 2 3 (j := (sN t)) (v := ad (33 + (sN t))) rfl rfl rfl (by omega) (by decide) dX4_receivers_26 ?_
      refine lv_astore_n (lv' := [(3, .ref (ad (33 + (sN t)))), (0, .ref (ad 0)), (1, .int t), (2, .int u)]) hx hb dX4_receivers_27 rfl hl (by decide) rfl (fun ls hl => ?_)
      refine lv_aload_n hx hb dX4_receivers_28 rfl (lv_at hl 1 rfl) ?_
      refine va_get (D := D) (ci := 4) (v := .ref (ad 1)) (C := RX4) (T := TX4) (N := 4) hx hb hts (fun w9 h9 => List.mem_cons_of_mem _ (inT_X4 w9 h9)) hown hK hP 0 rfl rfl 0 (by decide) (hts (.fieldLink RX4 12 "LinkPredictor" "builds" "[LLinkPredictor$Build;") (List.mem_cons_of_mem _ mw_1_164)) (fun _ h9 => h9) rfl dX4_receivers_29 ?_
      refine lv_iconst (v := (0 : Int32)) hx hb dX4_receivers_32 (by decide) ?_
      refine ro_aal hx hb hEV hP 1 2 (j := 0) (v := ad (3 + 15 * 0)) rfl rfl rfl (by omega) (by decide) dX4_receivers_33 ?_
      refine lv_aload_n hx hb dX4_receivers_34 rfl (lv_at hl 0 rfl) ?_
      refine mu_V [.ref (ad (33 + (sN t)))] [] ⟨hx, hb, hml, hown, hts⟩ (c_X0_resolution l D cI cZ cB cR (ad (3 + 15 * 0)) (aHw ad 0) (aMw ad 0) (T (2 * 0)) (τ 0) (T (2 * 0 + 1)) (γ 0) (nf 0) (se 0) (ad (33 + (sN t))) (Φ (sN t)) (lk.1 0 (by omega)).1 (lk.1 0 (by omega)).2.1 (lk.1 0 (by omega)).2.2.1 (lk.1 0 (by omega)).2.2.2 (lk.2.2.2 (sN t) (by omega))) (cwV (C := RX0) 1 hts (goodP (ps := [.methodLink RX4 87 yX0_resolution, .instanceMethod yX0_resolution, .selects RX0 yX0_resolution yX0_resolution, .initialized RX0]) (all4 mw_2_73 mw_2_74 mw_2_75 mw_1_2) mw_2_76) rfl rfl rfl (by decide +kernel) ⟨Nat.le_of_ble_eq_true rfl, Nat.le_of_ble_eq_true rfl⟩) hEV (wL_BR (by omega) (by omega) hP) (wL_DBR (by omega) (by omega) hD) hS hA 0 rfl rfl rfl hl.1 rfl (Nat.le_of_ble_eq_true rfl) dX4_receivers_35 ⟨Nat.zero_le _, Nat.zero_le _⟩ (fun r9 v9 H1 locs hw hP1 hk1 hS => ?_)
      subst hw
      have hP : va_P D vwCl (wL cI cB cR ad (T, seU se 0 v9, Φ, rc, wr)) H1 := wL_swS (by omega) (by omega) hP hD hP1 hk1
      have hD : va_D A (wL cI cB cR ad (T, seU se 0 v9, Φ, rc, wr)) := hD.adr rfl
      generalize H1 = H at hP hS ⊢
      generalize seU se 0 v9 = se at hP hD ⊢
      refine lv_istore (lv' := [(4, .int (p_X0_resolution (T (2 * 0)) (τ 0) (T (2 * 0 + 1)) (γ 0) (nf 0) (Φ (sN t)))), (3, .ref (ad (33 + (sN t)))), (0, .ref (ad 0)), (1, .int t), (2, .int u)]) hx hb dX4_receivers_38 hl (by decide) rfl (fun ls hl => ?_)
      refine lv_aload_n hx hb dX4_receivers_40 rfl (lv_at hl 2 rfl) ?_
      refine va_get (D := D) (ci := 4) (v := .ref (ad 1)) (C := RX4) (T := TX4) (N := 4) hx hb hts (fun w9 h9 => List.mem_cons_of_mem _ (inT_X4 w9 h9)) hown hK hP 0 rfl rfl 0 (by decide) (hts (.fieldLink RX4 12 "LinkPredictor" "builds" "[LLinkPredictor$Build;") (List.mem_cons_of_mem _ mw_1_164)) (fun _ h9 => h9) rfl dX4_receivers_41 ?_
      refine lv_iconst (v := (1 : Int32)) hx hb dX4_receivers_44 (by decide) ?_
      refine ro_aal hx hb hEV hP 1 2 (j := 1) (v := ad (3 + 15 * 1)) rfl rfl rfl (by omega) (by decide) dX4_receivers_45 ?_
      refine lv_aload_n hx hb dX4_receivers_46 rfl (lv_at hl 1 rfl) ?_
      refine mu_V [.ref (ad (33 + (sN t)))] [] ⟨hx, hb, hml, hown, hts⟩ (c_X0_resolution l D cI cZ cB cR (ad (3 + 15 * 1)) (aHw ad 1) (aMw ad 1) (T (2 * 1)) (τ 1) (T (2 * 1 + 1)) (γ 1) (nf 1) (se 1) (ad (33 + (sN t))) (Φ (sN t)) (lk.1 1 (by omega)).1 (lk.1 1 (by omega)).2.1 (lk.1 1 (by omega)).2.2.1 (lk.1 1 (by omega)).2.2.2 (lk.2.2.2 (sN t) (by omega))) (cwV (C := RX0) 1 hts (goodP (ps := [.methodLink RX4 87 yX0_resolution, .instanceMethod yX0_resolution, .selects RX0 yX0_resolution yX0_resolution, .initialized RX0]) (all4 mw_2_73 mw_2_74 mw_2_75 mw_1_2) mw_2_76) rfl rfl rfl (by decide +kernel) ⟨Nat.le_of_ble_eq_true rfl, Nat.le_of_ble_eq_true rfl⟩) hEV (wL_BR (by omega) (by omega) hP) (wL_DBR (by omega) (by omega) hD) hS hA 0 rfl rfl rfl hl.1 rfl (Nat.le_of_ble_eq_true rfl) dX4_receivers_47 ⟨Nat.zero_le _, Nat.zero_le _⟩ (fun r9 v9 H1 locs hw hP1 hk1 hS => ?_)
      subst hw
      have hP : va_P D vwCl (wL cI cB cR ad (T, seU se 1 v9, Φ, rc, wr)) H1 := wL_swS (by omega) (by omega) hP hD hP1 hk1
      have hD : va_D A (wL cI cB cR ad (T, seU se 1 v9, Φ, rc, wr)) := hD.adr rfl
      generalize H1 = H at hP hS ⊢
      generalize seU se 1 v9 = se at hP hD ⊢
      refine lv_istore (lv' := [(5, .int (p_X0_resolution (T (2 * 1)) (τ 1) (T (2 * 1 + 1)) (γ 1) (nf 1) (Φ (sN t)))), (4, .int (p_X0_resolution (T (2 * 0)) (τ 0) (T (2 * 0 + 1)) (γ 0) (nf 0) (Φ (sN t)))), (3, .ref (ad (33 + (sN t)))), (0, .ref (ad 0)), (1, .int t), (2, .int u)]) hx hb dX4_receivers_50 hl (by decide) rfl (fun ls hl => ?_)
      refine lv_iconst (v := (0 : Int32)) hx hb dX4_receivers_52 (by decide) ?_
      refine lv_istore (lv' := [(6, .int (0 : Int32)), (5, .int (p_X0_resolution (T (2 * 1)) (τ 1) (T (2 * 1 + 1)) (γ 1) (nf 1) (Φ (sN t)))), (4, .int (p_X0_resolution (T (2 * 0)) (τ 0) (T (2 * 0 + 1)) (γ 0) (nf 0) (Φ (sN t)))), (3, .ref (ad (33 + (sN t)))), (0, .ref (ad 0)), (1, .int t), (2, .int u)]) hx hb dX4_receivers_53 hl (by decide) rfl (fun ls hl => ?_)
      refine lv_iconst (v := (0 : Int32)) hx hb dX4_receivers_55 (by decide) ?_
      refine lv_istore (lv' := [(7, .int (0 : Int32)), (6, .int (0 : Int32)), (5, .int (p_X0_resolution (T (2 * 1)) (τ 1) (T (2 * 1 + 1)) (γ 1) (nf 1) (Φ (sN t)))), (4, .int (p_X0_resolution (T (2 * 0)) (τ 0) (T (2 * 0 + 1)) (γ 0) (nf 0) (Φ (sN t)))), (3, .ref (ad (33 + (sN t)))), (0, .ref (ad 0)), (1, .int t), (2, .int u)]) hx hb dX4_receivers_56 hl (by decide) rfl (fun ls hl => ?_)
      exact key_58 13 0 0 ls _ _ _ hP hD hS (by omega) (by first | omega | assumption) (by first | omega | assumption) (lv_sub hl [0, 1, 2, 3, 4, 5, 7] rfl) hE
    · have c_16 : ¬ ((wi u (4 : Int32)) = true) := b2i_f c_16
      have hE := (if_neg c_16).symm.trans hE
      refine lv_iconst (v := (-1 : Int32)) hx hb dX4_receivers_19 (by decide) ?_
      exact W.iret hx hb hr (fun t9 ht9 _ => ⟨⟨_, se, rfl, hE, by show va_P D vwCl _ t9.heap; rw [ht9]; exact hP⟩, hS.F ht9⟩) hS.2.2 dX4_receivers_20
noncomputable def p_X4_countGoodReferences_4 (T : Nat → Nat → Nat → Int32) (Φ : Nat → Nat → Nat) (τ γ : Nat → Nat → Nat → Int32) (nf : Nat → Nat) (R : Nat) (w : Nat)  : Nat → Nat → Nat → Int32
  | 0, _, _ => 0
  | k + 1, n3, n2 => if R ≤ n3 then (nI n2) else (if (gd (p_X0_resolution (T (2 * w)) (τ w) (T (2 * w + 1)) (γ w) (nf w) (Φ n3))) = true then (p_X4_countGoodReferences_4 T Φ τ γ nf R w  k (n3 + 1) (n2 + 1)) else (p_X4_countGoodReferences_4 T Φ τ γ nf R w  k (n3 + 1) (n2 + 0)))
noncomputable def p_X4_countGoodReferences (T : Nat → Nat → Nat → Int32) (Φ : Nat → Nat → Nat) (τ γ : Nat → Nat → Nat → Int32) (nf : Nat → Nat) (R : Nat) (w : Nat)  : Int32 := p_X4_countGoodReferences_4 T Φ τ γ nf R w  17 0 0
set_option maxHeartbeats 4000000 in
set_option maxRecDepth 100000 in
theorem c_X4_countGoodReferences (l : Launch) (D : va_G) (cI cZ cB cR : ClassId) (ad : Nat → Nat) (T : Nat → Nat → Nat → Int32) (Φ : Nat → Nat → Nat) (τ γ : Nat → Nat → Nat → Int32) (nf : Nat → Nat) (R : Nat) (se : Nat → Int32) (rc wr : Int32) (w : Nat)  (lk : LOK T Φ rc τ γ nf R) (hw : w < 2) : MUi l yX4_countGoodReferences wsX4_countGoodReferences ({ frames := 26, cells := 0, slots := 0, locals := 658 } : Room) D cI cZ cB cR (wL cI cB cR ad (T, se, Φ, rc, wr)) [.ref (ad 0), .ref (ad (3 + 15 * w))] (fun (se : Nat → Int32) => wL cI cB cR ad (T, se, Φ, rc, wr)) (fun r _ => r = (p_X4_countGoodReferences T Φ τ γ nf R w )) := by
  generalize hE : p_X4_countGoodReferences T Φ τ γ nf R w  = tgt
  intro sz
  refine Met.ofW (cc := cX4_countGoodReferences) (maxL := 4) (ret := (some .int)) (by decide) rfl ?_
  intro p e s m args below meth c s₁ B hml hv
  obtain ⟨hargs, hsz, hP, hEV, hD0⟩ := hv
  have hx := B.exec
  have hb := B.bytes
  have hr := B.returns
  have hts := atoms_spec (ws := wsX4_countGoodReferences) B.pre
  have hown : s.vm.findClass RX4 = some m.cls := findClass_of_methodNamed B.named
  have hlocks := B.notSynchronized
  have hK := hEV.1
  have hl := lv_entry ([.ref (ad 0), .ref (ad (3 + 15 * w))]) (n := 4) (Nat.le_of_ble_eq_true rfl)
  rw [show entryFrame m args 4 = entryFrame m ([.ref (ad 0), .ref (ad (3 + 15 * w))] : List Value).toArray 4 from by rw [hargs], lg_entry_eq]
  generalize (lg_sl ([.ref (ad 0), .ref (ad (3 + 15 * w))]) ++ List.replicate (4 - (lg_sl ([.ref (ad 0), .ref (ad (3 + 15 * w))])).length) Slot.unset).toArray = ls at hl ⊢
  have hl : lv_has ls 4 [(0, .ref (ad 0)), (1, .ref (ad (3 + 15 * w)))] := hl
  subst hsz
  have hD := hD0.self (sz := s.heap.size)
  generalize hAe : va_A (wL cI cB cR ad (T, se, Φ, rc, wr)) s.heap.size = A at hD ⊢
  have hA : ∀ q : Nat, s.heap.size ≤ q → A q := fun q h9 => by rw [← hAe]; exact Or.inr h9
  have hS : va_S A s.heap s.heap [] := va_S.rf
  rw [p_X4_countGoodReferences] at hE
  have hR16 := lk.2.2.1
  have key_4 : ∀ (k_4 : Nat) (n3 : Nat) (n2 : Nat) (ls : Array Slot) (se : Nat → Int32) (H : Heap) (locs : List Loc) (hP : va_P D vwCl (wL cI cB cR ad (T, se, Φ, rc, wr)) H) (hD : va_D A (wL cI cB cR ad (T, se, Φ, rc, wr))) (hS : va_S A s.heap H locs), (R - n3) < k_4 → n3 ≤ R → lv_has ls 4 [(3, .int (nI n3)), (2, .int (nI n2)), (0, .ref (ad 0)), (1, .ref (ad (3 + 15 * w)))] → p_X4_countGoodReferences_4 T Φ τ γ nf R w  k_4 n3 n2 = tgt → W p l e (headSpec wsX4_countGoodReferences ({ frames := 26, cells := 0, slots := 0, locals := 658 } : Room)).room s m args below meth c H locs 0 0 (MQ below (va_Qi (fun r (_ : (Nat → Int32)) => r = tgt) (fun u t => va_P D vwCl ((fun (se : Nat → Int32) => wL cI cB cR ad (T, se, Φ, rc, wr)) u) t.heap) A) args s 0 0 A) (F0 m 4 ls []) := by
    intro k_4
    induction k_4 with
    | zero => intro n3 n2 ls se H locs hP hD hS hm; exact absurd hm (Nat.not_lt_zero _)
    | succ k_4 ih_4 =>
      intro n3 n2 ls se H locs hP hD hS hm_4 hi_4_0 hl hE
      rw [p_X4_countGoodReferences_4] at hE
      refine lv_iload_n hx hb dX4_countGoodReferences_4 rfl (lv_at hl 0 rfl) ?_
      refine lv_aload_n hx hb dX4_countGoodReferences_5 rfl (lv_at hl 2 rfl) ?_
      refine va_get (D := D) (ci := 4) (v := .int rc) (C := RX4) (T := TX4) (N := 4) hx hb hts (fun w9 h9 => List.mem_cons_of_mem _ (inT_X4 w9 h9)) hown hK hP 0 rfl rfl 2 (by decide) (hts (.fieldLink RX4 23 "LinkPredictor" "referenceCount" "I") (List.mem_cons_of_mem _ mw_1_166)) (fun _ h9 => h9) rfl dX4_countGoodReferences_6 ?_
      refine top_eq (lk.2.1) ?_
      refine lv_icmp_ge (tgt := 42) hx hb dX4_countGoodReferences_9 (by decide) (fun c_9 => ?_) (fun c_9 => ?_)
      · have c_9 : R ≤ n3 := (nI_leI (a := R) (b := n3) (by omega) (by omega)).mp c_9
        have hE := (if_pos c_9).symm.trans hE
        refine lv_iload_n hx hb dX4_countGoodReferences_42 rfl (lv_at hl 1 rfl) ?_
        exact W.iret hx hb hr (fun t9 ht9 _ => ⟨⟨_, se, rfl, hE, by show va_P D vwCl _ t9.heap; rw [ht9]; exact hP⟩, hS.F ht9⟩) hS.2.2 dX4_countGoodReferences_43
      · have c_9 : ¬ (R ≤ n3) := fun q9 => c_9 ((nI_leI (a := R) (b := n3) (by omega) (by omega)).mpr q9)
        have hE := (if_neg c_9).symm.trans hE
        refine lv_iload_n hx hb dX4_countGoodReferences_12 rfl (lv_at hl 1 rfl) ?_
        refine lv_aload_n hx hb dX4_countGoodReferences_13 rfl (lv_at hl 3 rfl) ?_
        refine lv_aload_n hx hb dX4_countGoodReferences_14 rfl (lv_at hl 2 rfl) ?_
        refine va_get (D := D) (ci := 4) (v := .ref (ad 2)) (C := RX4) (T := TX4) (N := 4) hx hb hts (fun w9 h9 => List.mem_cons_of_mem _ (inT_X4 w9 h9)) hown hK hP 0 rfl rfl 1 (by decide) (hts (.fieldLink RX4 18 "LinkPredictor" "references" "[LLinkPredictor$Reference;") (List.mem_cons_of_mem _ mw_1_165)) (fun _ h9 => h9) rfl dX4_countGoodReferences_15 ?_
        refine lv_iload_n hx hb dX4_countGoodReferences_18 rfl (lv_at hl 0 rfl) ?_
        refine ro_aal hx hb hEV hP 2 3 (j := n3) (v := ad (33 + n3)) rfl rfl rfl (by omega) (by decide) dX4_countGoodReferences_19 ?_
        refine mu_V [.ref (ad (33 + n3))] [.int (nI n2)] ⟨hx, hb, hml, hown, hts⟩ (c_X0_resolution l D cI cZ cB cR (ad (3 + 15 * w)) (aHw ad w) (aMw ad w) (T (2 * w)) (τ w) (T (2 * w + 1)) (γ w) (nf w) (se w) (ad (33 + n3)) (Φ n3) (lk.1 w (by omega)).1 (lk.1 w (by omega)).2.1 (lk.1 w (by omega)).2.2.1 (lk.1 w (by omega)).2.2.2 (lk.2.2.2 n3 (by omega))) (cwV (C := RX0) 1 hts (goodP (ps := [.methodLink RX4 87 yX0_resolution, .instanceMethod yX0_resolution, .selects RX0 yX0_resolution yX0_resolution, .initialized RX0]) (all4 mw_2_73 mw_2_74 mw_2_75 mw_1_2) mw_2_76) rfl rfl rfl (by decide +kernel) ⟨Nat.le_of_ble_eq_true rfl, Nat.le_of_ble_eq_true rfl⟩) hEV (wL_BR (by omega) (by omega) hP) (wL_DBR (by omega) (by omega) hD) hS hA 0 rfl rfl rfl hl.1 rfl (Nat.le_of_ble_eq_true rfl) dX4_countGoodReferences_20 ⟨Nat.zero_le _, Nat.zero_le _⟩ (fun r9 v9 H1 locs hw hP1 hk1 hS => ?_)
        subst hw
        have hP : va_P D vwCl (wL cI cB cR ad (T, seU se w v9, Φ, rc, wr)) H1 := wL_swS (by omega) (by omega) hP hD hP1 hk1
        have hD : va_D A (wL cI cB cR ad (T, seU se w v9, Φ, rc, wr)) := hD.adr rfl
        generalize H1 = H at hP hS ⊢
        generalize seU se w v9 = se at hP hD ⊢
        refine ro_S [.int (p_X0_resolution (T (2 * w)) (τ w) (T (2 * w + 1)) (γ w) (nf w) (Φ n3))] [.int (nI n2)] ⟨hx, hb, hml, hown, hts⟩ (c_X4_isGood l D cI cZ cB cR (p_X0_resolution (T (2 * w)) (τ w) (T (2 * w + 1)) (γ w) (nf w) (Φ n3))) (va_cwS 1 hts (goodP (ps := [.methodLink RX4 98 yX4_isGood, .static yX4_isGood, .initialized RX4]) (all3 mw_3_15 mw_1_54 mw_1_1) mw_1_55) rfl rfl rfl (by decide +kernel) ⟨Nat.le_of_ble_eq_true rfl, Nat.le_of_ble_eq_true rfl⟩) hEV va_P0 rfl hl.1 rfl (Nat.le_of_ble_eq_true rfl) dX4_countGoodReferences_23 ⟨Nat.zero_le _, Nat.zero_le _⟩ ?_
        refine lv_if_eq (tgt := 33) hx hb dX4_countGoodReferences_26 (by decide) (fun c_26 => ?_) (fun c_26 => ?_)
        · have c_26 : ¬ ((gd (p_X0_resolution (T (2 * w)) (τ w) (T (2 * w + 1)) (γ w) (nf w) (Φ n3))) = true) := b2i_f c_26
          have hE := (if_neg c_26).symm.trans hE
          refine lv_iconst (v := (0 : Int32)) hx hb dX4_countGoodReferences_33 (by decide) ?_
          refine lv_iadd hx hb dX4_countGoodReferences_34 ?_
          refine top_eq (nI_add n2 0) ?_
          refine lv_istore_n (lv' := [(2, .int (nI (n2 + 0))), (3, .int (nI n3)), (0, .ref (ad 0)), (1, .ref (ad (3 + 15 * w)))]) hx hb dX4_countGoodReferences_35 rfl hl (by decide) rfl (fun ls hl => ?_)
          refine lv_iinc (v := nI (n3 + 1)) (lv' := [(3, .int (nI (n3 + 1))), (2, .int (nI (n2 + 0))), (0, .ref (ad 0)), (1, .ref (ad (3 + 15 * w)))]) hx hb dX4_countGoodReferences_36 hl (k := 1) rfl (nI_1 _) (by decide) rfl (fun ls hl => ?_)
          refine lv_goto (tgt := 4) hx hb dX4_countGoodReferences_39 (by decide) ?_
          exact ih_4 (n3 + 1) (n2 + 0) ls _ _ _ hP hD hS (by omega) (by omega) (lv_sub hl [0, 1, 2, 3] rfl) hE
        · have c_26 : (gd (p_X0_resolution (T (2 * w)) (τ w) (T (2 * w + 1)) (γ w) (nf w) (Φ n3))) = true := b2i_t c_26
          have hE := (if_pos c_26).symm.trans hE
          refine lv_iconst (v := (1 : Int32)) hx hb dX4_countGoodReferences_29 (by decide) ?_
          refine lv_goto (tgt := 34) hx hb dX4_countGoodReferences_30 (by decide) ?_
          refine lv_iadd hx hb dX4_countGoodReferences_34 ?_
          refine top_eq (nI_add n2 1) ?_
          refine lv_istore_n (lv' := [(2, .int (nI (n2 + 1))), (3, .int (nI n3)), (0, .ref (ad 0)), (1, .ref (ad (3 + 15 * w)))]) hx hb dX4_countGoodReferences_35 rfl hl (by decide) rfl (fun ls hl => ?_)
          refine lv_iinc (v := nI (n3 + 1)) (lv' := [(3, .int (nI (n3 + 1))), (2, .int (nI (n2 + 1))), (0, .ref (ad 0)), (1, .ref (ad (3 + 15 * w)))]) hx hb dX4_countGoodReferences_36 hl (k := 1) rfl (nI_1 _) (by decide) rfl (fun ls hl => ?_)
          refine lv_goto (tgt := 4) hx hb dX4_countGoodReferences_39 (by decide) ?_
          exact ih_4 (n3 + 1) (n2 + 1) ls _ _ _ hP hD hS (by omega) (by omega) (lv_sub hl [0, 1, 2, 3] rfl) hE
  refine lv_iconst (v := (0 : Int32)) hx hb dX4_countGoodReferences_0 (by decide) ?_
  refine lv_istore_n (lv' := [(2, .int (0 : Int32)), (0, .ref (ad 0)), (1, .ref (ad (3 + 15 * w)))]) hx hb dX4_countGoodReferences_1 rfl hl (by decide) rfl (fun ls hl => ?_)
  refine lv_iconst (v := (0 : Int32)) hx hb dX4_countGoodReferences_2 (by decide) ?_
  refine lv_istore_n (lv' := [(3, .int (0 : Int32)), (2, .int (0 : Int32)), (0, .ref (ad 0)), (1, .ref (ad (3 + 15 * w)))]) hx hb dX4_countGoodReferences_3 rfl hl (by decide) rfl (fun ls hl => ?_)
  exact key_4 17 0 0 ls _ _ _ hP hD hS (by omega) (by omega) (lv_sub hl [0, 1, 2, 3] rfl) hE
noncomputable def p_X4_count (T : Nat → Nat → Nat → Int32) (Φ : Nat → Nat → Nat) (τ γ : Nat → Nat → Nat → Int32) (nf : Nat → Nat) (R : Nat) (t : Int32) (u : Int32) : Int32 := if (wi t (2 : Int32)) = true then (if u = 0 then (nI (cnF (thB (τ (sN t))) 12)) else (if u = 1 then (nI ((nf (sN t)) - cnF (goB (γ (sN t))) (nf (sN t)))) else (if u = 2 then (nI ((nf (sN t)))) else (if u = 3 then (p_X4_countGoodReferences T Φ τ γ nf R (sN t)) else (if u = 4 then (nI (cnF (gdB (τ (sN t))) 12)) else (if u = 5 then (nI (cnF (abM (γ (sN t))) (nf (sN t)))) else (if u = 6 then (shI (τ (sN t))) else ((-1 : Int32))))))))) else ((-1 : Int32))
set_option maxHeartbeats 4000000 in
set_option maxRecDepth 100000 in
theorem c_X4_count (l : Launch) (D : va_G) (cI cZ cB cR : ClassId) (ad : Nat → Nat) (T : Nat → Nat → Nat → Int32) (Φ : Nat → Nat → Nat) (τ γ : Nat → Nat → Nat → Int32) (nf : Nat → Nat) (R : Nat) (se : Nat → Int32) (rc wr : Int32) (t : Int32) (u : Int32) (lk : LOK T Φ rc τ γ nf R)  : MUi l yX4_count wsX4_count ({ frames := 27, cells := 0, slots := 0, locals := 681 } : Room) D cI cZ cB cR (wL cI cB cR ad (T, se, Φ, rc, wr)) [.ref (ad 0), .int t, .int u] (fun (se : Nat → Int32) => wL cI cB cR ad (T, se, Φ, rc, wr)) (fun r _ => r = (p_X4_count T Φ τ γ nf R t u)) := by
  generalize hE : p_X4_count T Φ τ γ nf R t u = tgt
  intro sz
  refine Met.ofW (cc := cX4_count) (maxL := 4) (ret := (some .int)) (by decide) rfl ?_
  intro p e s m args below meth c s₁ B hml hv
  obtain ⟨hargs, hsz, hP, hEV, hD0⟩ := hv
  have hx := B.exec
  have hb := B.bytes
  have hr := B.returns
  have hts := atoms_spec (ws := wsX4_count) B.pre
  have hown : s.vm.findClass RX4 = some m.cls := findClass_of_methodNamed B.named
  have hlocks := B.notSynchronized
  have hK := hEV.1
  have hl := lv_entry ([.ref (ad 0), .int t, .int u]) (n := 4) (Nat.le_of_ble_eq_true rfl)
  rw [show entryFrame m args 4 = entryFrame m ([.ref (ad 0), .int t, .int u] : List Value).toArray 4 from by rw [hargs], lg_entry_eq]
  generalize (lg_sl ([.ref (ad 0), .int t, .int u]) ++ List.replicate (4 - (lg_sl ([.ref (ad 0), .int t, .int u])).length) Slot.unset).toArray = ls at hl ⊢
  have hl : lv_has ls 4 [(0, .ref (ad 0)), (1, .int t), (2, .int u)] := hl
  subst hsz
  have hD := hD0.self (sz := s.heap.size)
  generalize hAe : va_A (wL cI cB cR ad (T, se, Φ, rc, wr)) s.heap.size = A at hD ⊢
  have hA : ∀ q : Nat, s.heap.size ≤ q → A q := fun q h9 => by rw [← hAe]; exact Or.inr h9
  have hS : va_S A s.heap s.heap [] := va_S.rf
  rw [p_X4_count] at hE
  have hR16 := lk.2.2.1
  refine lv_iload_n hx hb dX4_count_0 rfl (lv_at hl 1 rfl) ?_
  refine lv_iconst (v := (2 : Int32)) hx hb dX4_count_1 (by decide) ?_
  refine ro_S [.int t, .int (2 : Int32)] [] ⟨hx, hb, hml, hown, hts⟩ (c_X4_isWithin l D cI cZ cB cR t (2 : Int32)) (va_cwS 2 hts (goodP (ps := [.methodLink RX4 34 yX4_isWithin, .static yX4_isWithin, .initialized RX4]) (all3 mw_1_56 mw_1_57 mw_1_1) mw_1_58) rfl rfl rfl (by decide +kernel) ⟨Nat.le_of_ble_eq_true rfl, Nat.le_of_ble_eq_true rfl⟩) hEV va_P0 rfl hl.1 rfl (Nat.le_of_ble_eq_true rfl) dX4_count_2 ⟨Nat.zero_le _, Nat.zero_le _⟩ ?_
  refine lv_if_ne (tgt := 10) hx hb dX4_count_5 (by decide) (fun c_5 => ?_) (fun c_5 => ?_)
  · have c_5 : (wi t (2 : Int32)) = true := b2i_t c_5
    have hE := (if_pos c_5).symm.trans hE
    have ht9 := wi_sN (b := 2) (by omega) c_5
    have ht8 := ht9.1
    refine lv_aload_n hx hb dX4_count_10 rfl (lv_at hl 0 rfl) ?_
    refine va_get (D := D) (ci := 4) (v := .ref (ad 1)) (C := RX4) (T := TX4) (N := 4) hx hb hts (fun w9 h9 => List.mem_cons_of_mem _ (inT_X4 w9 h9)) hown hK hP 0 rfl rfl 0 (by decide) (hts (.fieldLink RX4 12 "LinkPredictor" "builds" "[LLinkPredictor$Build;") (List.mem_cons_of_mem _ mw_1_164)) (fun _ h9 => h9) rfl dX4_count_11 ?_
    refine lv_iload_n hx hb dX4_count_14 rfl (lv_at hl 1 rfl) ?_
    refine top_eq (ht9.2) ?_
    refine ro_aal hx hb hEV hP 1 2 (j := (sN t)) (v := ad (3 + 15 * (sN t))) rfl rfl rfl (by omega) (by decide) dX4_count_15 ?_
    refine lv_astore_n (lv' := [(3, .ref (ad (3 + 15 * (sN t)))), (0, .ref (ad 0)), (1, .int t), (2, .int u)]) hx hb dX4_count_16 rfl hl (by decide) rfl (fun ls hl => ?_)
    refine lv_iload_n hx hb dX4_count_17 rfl (lv_at hl 3 rfl) ?_
    by_cases q_0 : u = 0
    · have hE := (if_pos q_0).symm.trans hE
      refine lv_tableIn (off := 42) (tgt := 60) hx hb dX4_count_18 (by rw [q_0]; decide) (by rw [q_0]; decide) (by rw [q_0]; rfl) (by decide) ?_
      refine lv_aload_n hx hb dX4_count_60 rfl (lv_at hl 0 rfl) ?_
      refine va_getN (D := D) (ci := 0) (v := .ref (aHw ad (sN t) 0)) (C := RX0) (T := TX0) (N := 3) (host := "LinkPredictor") hx hb hts (fun w9 h9 => List.mem_cons_of_mem _ (inT_X0 w9 h9)) hown hK hP (3 + 15 * (sN t)) (wL_b (by omega)) rfl 0 (by decide) (va_Nw.use rfl (hEV.2 (.fieldLinkNest RX4 38 "LinkPredictor$Build" "types" "LLinkPredictor$Hierarchy;" "LinkPredictor") (by decide +kernel))) (fun _ h9 => h9) rfl dX4_count_61 ?_
      refine ro_V [] [] ⟨hx, hb, hml, hown, hts⟩ (c_X1_countThere l D cI cZ cB cR (aHw ad (sN t)) (T (2 * (sN t))) (τ (sN t))  (lk.1 (sN t) (by omega)).1) (cwV (C := RX1) 0 hts (goodP (ps := [.methodLink RX4 75 yX1_countThere, .instanceMethod yX1_countThere, .selects RX1 yX1_countThere yX1_countThere, .initialized RX1]) (all4 mw_2_35 mw_2_36 mw_2_37 mw_1_3) mw_2_38) rfl rfl rfl (by decide +kernel) ⟨Nat.le_of_ble_eq_true rfl, Nat.le_of_ble_eq_true rfl⟩) hEV (wL_H (by omega) hP) 0 rfl rfl rfl hl.1 rfl (Nat.le_of_ble_eq_true rfl) dX4_count_64 ⟨Nat.zero_le _, Nat.zero_le _⟩ ?_
      exact W.iret hx hb hr (fun t9 ht9 _ => ⟨⟨_, se, rfl, hE, by show va_P D vwCl _ t9.heap; rw [ht9]; exact hP⟩, hS.F ht9⟩) hS.2.2 dX4_count_67
    · have hE := (if_neg q_0).symm.trans hE
      by_cases q_1 : u = 1
      · have hE := (if_pos q_1).symm.trans hE
        refine lv_tableIn (off := 50) (tgt := 68) hx hb dX4_count_18 (by rw [q_1]; decide) (by rw [q_1]; decide) (by rw [q_1]; rfl) (by decide) ?_
        refine lv_aload_n hx hb dX4_count_68 rfl (lv_at hl 0 rfl) ?_
        refine va_getN (D := D) (ci := 0) (v := .ref (aMw ad (sN t) 0)) (C := RX0) (T := TX0) (N := 3) (host := "LinkPredictor") hx hb hts (fun w9 h9 => List.mem_cons_of_mem _ (inT_X0 w9 h9)) hown hK hP (3 + 15 * (sN t)) (wL_b (by omega)) rfl 1 (by decide) (va_Nw.use rfl (hEV.2 (.fieldLinkNest RX4 58 "LinkPredictor$Build" "members" "LLinkPredictor$Members;" "LinkPredictor") (by decide +kernel))) (fun _ h9 => h9) rfl dX4_count_69 ?_
        refine ro_V [] [] ⟨hx, hb, hml, hown, hts⟩ (c_X2_countPresent l D cI cZ cB cR (aMw ad (sN t)) (T (2 * (sN t) + 1)) (γ (sN t)) (nf (sN t))  (lk.1 (sN t) (by omega)).2.2.1) (cwV (C := RX2) 0 hts (goodP (ps := [.methodLink RX4 107 yX2_countPresent, .instanceMethod yX2_countPresent, .selects RX2 yX2_countPresent yX2_countPresent, .initialized RX2]) (all4 mw_3_33 mw_3_34 mw_3_35 mw_1_4) mw_3_36) rfl rfl rfl (by decide +kernel) ⟨Nat.le_of_ble_eq_true rfl, Nat.le_of_ble_eq_true rfl⟩) hEV (wL_M (by omega) hP) 0 rfl rfl rfl hl.1 rfl (Nat.le_of_ble_eq_true rfl) dX4_count_72 ⟨Nat.zero_le _, Nat.zero_le _⟩ ?_
        exact W.iret hx hb hr (fun t9 ht9 _ => ⟨⟨_, se, rfl, hE, by show va_P D vwCl _ t9.heap; rw [ht9]; exact hP⟩, hS.F ht9⟩) hS.2.2 dX4_count_75
      · have hE := (if_neg q_1).symm.trans hE
        by_cases q_2 : u = 2
        · have hE := (if_pos q_2).symm.trans hE
          refine lv_tableIn (off := 58) (tgt := 76) hx hb dX4_count_18 (by rw [q_2]; decide) (by rw [q_2]; decide) (by rw [q_2]; rfl) (by decide) ?_
          refine lv_aload_n hx hb dX4_count_76 rfl (lv_at hl 0 rfl) ?_
          refine va_getN (D := D) (ci := 0) (v := .ref (aMw ad (sN t) 0)) (C := RX0) (T := TX0) (N := 3) (host := "LinkPredictor") hx hb hts (fun w9 h9 => List.mem_cons_of_mem _ (inT_X0 w9 h9)) hown hK hP (3 + 15 * (sN t)) (wL_b (by omega)) rfl 1 (by decide) (va_Nw.use rfl (hEV.2 (.fieldLinkNest RX4 58 "LinkPredictor$Build" "members" "LLinkPredictor$Members;" "LinkPredictor") (by decide +kernel))) (fun _ h9 => h9) rfl dX4_count_77 ?_
          refine ro_V [] [] ⟨hx, hb, hml, hown, hts⟩ (c_X2_countAll l D cI cZ cB cR (aMw ad (sN t)) (T (2 * (sN t) + 1)) (γ (sN t)) (nf (sN t))  (lk.1 (sN t) (by omega)).2.2.1) (cwV (C := RX2) 0 hts (goodP (ps := [.methodLink RX4 110 yX2_countAll, .instanceMethod yX2_countAll, .selects RX2 yX2_countAll yX2_countAll, .initialized RX2]) (all4 mw_3_38 mw_3_39 mw_3_40 mw_1_4) mw_3_41) rfl rfl rfl (by decide +kernel) ⟨Nat.le_of_ble_eq_true rfl, Nat.le_of_ble_eq_true rfl⟩) hEV (wL_M (by omega) hP) 0 rfl rfl rfl hl.1 rfl (Nat.le_of_ble_eq_true rfl) dX4_count_80 ⟨Nat.zero_le _, Nat.zero_le _⟩ ?_
          exact W.iret hx hb hr (fun t9 ht9 _ => ⟨⟨_, se, rfl, hE, by show va_P D vwCl _ t9.heap; rw [ht9]; exact hP⟩, hS.F ht9⟩) hS.2.2 dX4_count_83
        · have hE := (if_neg q_2).symm.trans hE
          by_cases q_3 : u = 3
          · have hE := (if_pos q_3).symm.trans hE
            refine lv_tableIn (off := 66) (tgt := 84) hx hb dX4_count_18 (by rw [q_3]; decide) (by rw [q_3]; decide) (by rw [q_3]; rfl) (by decide) ?_
            refine lv_aload_n hx hb dX4_count_84 rfl (lv_at hl 1 rfl) ?_
            refine lv_aload_n hx hb dX4_count_85 rfl (lv_at hl 0 rfl) ?_
            refine mu_V [.ref (ad (3 + 15 * (sN t)))] [] ⟨hx, hb, hml, hown, hts⟩ (c_X4_countGoodReferences l D cI cZ cB cR ad T Φ τ γ nf R se rc wr (sN t) lk (by omega)) (cwV (C := RX4) 1 hts (goodP (ps := [.methodLink RX4 113 yX4_countGoodReferences, .instanceMethod yX4_countGoodReferences, .selects RX4 yX4_countGoodReferences yX4_countGoodReferences, .initialized RX4]) (all4 mw_3_42 mw_3_44 ms_24 mw_1_1) mw_3_45) rfl rfl rfl (by decide +kernel) ⟨Nat.le_of_ble_eq_true rfl, Nat.le_of_ble_eq_true rfl⟩) hEV hP hD hS hA 0 rfl rfl rfl hl.1 rfl (Nat.le_of_ble_eq_true rfl) dX4_count_86 ⟨Nat.zero_le _, Nat.zero_le _⟩ (fun r9 se H1 locs hw hP1 hk1 hS => ?_)
            subst hw
            have hP : va_P D vwCl (wL cI cB cR ad (T, se, Φ, rc, wr)) H1 := hP1
            have hD : va_D A (wL cI cB cR ad (T, se, Φ, rc, wr)) := hD.adr rfl
            generalize H1 = H at hP hS ⊢
            exact W.iret hx hb hr (fun t9 ht9 _ => ⟨⟨_, se, rfl, hE, by show va_P D vwCl _ t9.heap; rw [ht9]; exact hP⟩, hS.F ht9⟩) hS.2.2 dX4_count_89
          · have hE := (if_neg q_3).symm.trans hE
            by_cases q_4 : u = 4
            · have hE := (if_pos q_4).symm.trans hE
              refine lv_tableIn (off := 72) (tgt := 90) hx hb dX4_count_18 (by rw [q_4]; decide) (by rw [q_4]; decide) (by rw [q_4]; rfl) (by decide) ?_
              refine lv_aload_n hx hb dX4_count_90 rfl (lv_at hl 0 rfl) ?_
              refine va_getN (D := D) (ci := 0) (v := .ref (aHw ad (sN t) 0)) (C := RX0) (T := TX0) (N := 3) (host := "LinkPredictor") hx hb hts (fun w9 h9 => List.mem_cons_of_mem _ (inT_X0 w9 h9)) hown hK hP (3 + 15 * (sN t)) (wL_b (by omega)) rfl 0 (by decide) (va_Nw.use rfl (hEV.2 (.fieldLinkNest RX4 38 "LinkPredictor$Build" "types" "LLinkPredictor$Hierarchy;" "LinkPredictor") (by decide +kernel))) (fun _ h9 => h9) rfl dX4_count_91 ?_
              refine ro_V [] [] ⟨hx, hb, hml, hown, hts⟩ (c_X1_countLoaded l D cI cZ cB cR (aHw ad (sN t)) (T (2 * (sN t))) (τ (sN t))  (lk.1 (sN t) (by omega)).1) (cwV (C := RX1) 0 hts (goodP (ps := [.methodLink RX4 117 yX1_countLoaded, .instanceMethod yX1_countLoaded, .selects RX1 yX1_countLoaded yX1_countLoaded, .initialized RX1]) (all4 mw_3_46 mw_3_47 mw_3_48 mw_1_3) mw_3_49) rfl rfl rfl (by decide +kernel) ⟨Nat.le_of_ble_eq_true rfl, Nat.le_of_ble_eq_true rfl⟩) hEV (wL_H (by omega) hP) 0 rfl rfl rfl hl.1 rfl (Nat.le_of_ble_eq_true rfl) dX4_count_94 ⟨Nat.zero_le _, Nat.zero_le _⟩ ?_
              exact W.iret hx hb hr (fun t9 ht9 _ => ⟨⟨_, se, rfl, hE, by show va_P D vwCl _ t9.heap; rw [ht9]; exact hP⟩, hS.F ht9⟩) hS.2.2 dX4_count_97
            · have hE := (if_neg q_4).symm.trans hE
              by_cases q_5 : u = 5
              · have hE := (if_pos q_5).symm.trans hE
                refine lv_tableIn (off := 80) (tgt := 98) hx hb dX4_count_18 (by rw [q_5]; decide) (by rw [q_5]; decide) (by rw [q_5]; rfl) (by decide) ?_
                refine lv_aload_n hx hb dX4_count_98 rfl (lv_at hl 0 rfl) ?_
                refine va_getN (D := D) (ci := 0) (v := .ref (aMw ad (sN t) 0)) (C := RX0) (T := TX0) (N := 3) (host := "LinkPredictor") hx hb hts (fun w9 h9 => List.mem_cons_of_mem _ (inT_X0 w9 h9)) hown hK hP (3 + 15 * (sN t)) (wL_b (by omega)) rfl 1 (by decide) (va_Nw.use rfl (hEV.2 (.fieldLinkNest RX4 58 "LinkPredictor$Build" "members" "LLinkPredictor$Members;" "LinkPredictor") (by decide +kernel))) (fun _ h9 => h9) rfl dX4_count_99 ?_
                refine ro_V [] [] ⟨hx, hb, hml, hown, hts⟩ (c_X2_countAbstractMethods l D cI cZ cB cR (aMw ad (sN t)) (T (2 * (sN t) + 1)) (γ (sN t)) (nf (sN t))  (lk.1 (sN t) (by omega)).2.2.1) (cwV (C := RX2) 0 hts (goodP (ps := [.methodLink RX4 120 yX2_countAbstractMethods, .instanceMethod yX2_countAbstractMethods, .selects RX2 yX2_countAbstractMethods yX2_countAbstractMethods, .initialized RX2]) (all4 mw_3_50 mw_3_51 mw_3_52 mw_1_4) mw_3_53) rfl rfl rfl (by decide +kernel) ⟨Nat.le_of_ble_eq_true rfl, Nat.le_of_ble_eq_true rfl⟩) hEV (wL_M (by omega) hP) 0 rfl rfl rfl hl.1 rfl (Nat.le_of_ble_eq_true rfl) dX4_count_102 ⟨Nat.zero_le _, Nat.zero_le _⟩ ?_
                exact W.iret hx hb hr (fun t9 ht9 _ => ⟨⟨_, se, rfl, hE, by show va_P D vwCl _ t9.heap; rw [ht9]; exact hP⟩, hS.F ht9⟩) hS.2.2 dX4_count_105
              · have hE := (if_neg q_5).symm.trans hE
                by_cases q_6 : u = 6
                · have hE := (if_pos q_6).symm.trans hE
                  refine lv_tableIn (off := 88) (tgt := 106) hx hb dX4_count_18 (by rw [q_6]; decide) (by rw [q_6]; decide) (by rw [q_6]; rfl) (by decide) ?_
                  refine lv_aload_n hx hb dX4_count_106 rfl (lv_at hl 0 rfl) ?_
                  refine va_getN (D := D) (ci := 0) (v := .ref (aHw ad (sN t) 0)) (C := RX0) (T := TX0) (N := 3) (host := "LinkPredictor") hx hb hts (fun w9 h9 => List.mem_cons_of_mem _ (inT_X0 w9 h9)) hown hK hP (3 + 15 * (sN t)) (wL_b (by omega)) rfl 0 (by decide) (va_Nw.use rfl (hEV.2 (.fieldLinkNest RX4 38 "LinkPredictor$Build" "types" "LLinkPredictor$Hierarchy;" "LinkPredictor") (by decide +kernel))) (fun _ h9 => h9) rfl dX4_count_107 ?_
                  refine ro_V [] [] ⟨hx, hb, hml, hown, hts⟩ (c_X1_nestSharers l D cI cZ cB cR (aHw ad (sN t)) (T (2 * (sN t))) (τ (sN t))  (lk.1 (sN t) (by omega)).1 (lk.1 (sN t) (by omega)).2.1) (cwV (C := RX1) 0 hts (goodP (ps := [.methodLink RX4 123 yX1_nestSharers, .instanceMethod yX1_nestSharers, .selects RX1 yX1_nestSharers yX1_nestSharers, .initialized RX1]) (all4 mw_3_55 mw_3_56 mw_3_57 mw_1_3) mw_3_58) rfl rfl rfl (by decide +kernel) ⟨Nat.le_of_ble_eq_true rfl, Nat.le_of_ble_eq_true rfl⟩) hEV (wL_H (by omega) hP) 0 rfl rfl rfl hl.1 rfl (Nat.le_of_ble_eq_true rfl) dX4_count_110 ⟨Nat.zero_le _, Nat.zero_le _⟩ ?_
                  exact W.iret hx hb hr (fun t9 ht9 _ => ⟨⟨_, se, rfl, hE, by show va_P D vwCl _ t9.heap; rw [ht9]; exact hP⟩, hS.F ht9⟩) hS.2.2 dX4_count_113
                · have hE := (if_neg q_6).symm.trans hE
                  have z_0 : ¬ (u).toInt = 0 := lv_neT q_0 rfl
                  have z_1 : ¬ (u).toInt = 1 := lv_neT q_1 rfl
                  have z_2 : ¬ (u).toInt = 2 := lv_neT q_2 rfl
                  have z_3 : ¬ (u).toInt = 3 := lv_neT q_3 rfl
                  have z_4 : ¬ (u).toInt = 4 := lv_neT q_4 rfl
                  have z_5 : ¬ (u).toInt = 5 := lv_neT q_5 rfl
                  have z_6 : ¬ (u).toInt = 6 := lv_neT q_6 rfl
                  refine lv_tableOut (tgt := 114) hx hb dX4_count_18 (by omega) (by decide) ?_
                  refine lv_iconst (v := (-1 : Int32)) hx hb dX4_count_114 (by decide) ?_
                  exact W.iret hx hb hr (fun t9 ht9 _ => ⟨⟨_, se, rfl, hE, by show va_P D vwCl _ t9.heap; rw [ht9]; exact hP⟩, hS.F ht9⟩) hS.2.2 dX4_count_115
  · have c_5 : ¬ ((wi t (2 : Int32)) = true) := b2i_f c_5
    have hE := (if_neg c_5).symm.trans hE
    refine lv_iconst (v := (-1 : Int32)) hx hb dX4_count_8 (by decide) ?_
    exact W.iret hx hb hr (fun t9 ht9 _ => ⟨⟨_, se, rfl, hE, by show va_P D vwCl _ t9.heap; rw [ht9]; exact hP⟩, hS.F ht9⟩) hS.2.2 dX4_count_9
