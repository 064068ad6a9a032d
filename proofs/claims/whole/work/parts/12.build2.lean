/-- a good verdict with a member -/
def g16 (n : Nat) (v : Int32) : Prop := ∃ k, k < n ∧ v = nI (16 + k)
theorem g16_sub {n : Nat} {v : Int32} (hn : n ≤ 30) (h : g16 n v) : sN v - 16 < n ∧ v - 16 = nI (sN v - 16) := by
  obtain ⟨k, hk, e⟩ := h
  have e2 : sN v = 16 + k := by rw [e]; exact sN_nI (by omega)
  rw [e2, e]
  refine ⟨by omega, ?_⟩
  show nI (16 + k) - nI 16 = _
  rw [pk_sub (by omega)]
theorem fowb_cases (h τ g γ : Nat → Nat → Int32) (n : Nat) (x y : Int32) : p_X0_findOnlyWithBody h τ g γ n x y = -2 ∨ p_X0_findOnlyWithBody h τ g γ n x y = -4 ∨ ∃ k, k < n ∧ p_X0_findOnlyWithBody h τ g γ n x y = nI k := by
  have key : ∀ k i v, 12 - i < k → i ≤ 12 → (v = -2 ∨ v = -4 ∨ ∃ k, k < n ∧ v = nI k) → (p_X0_findOnlyWithBody_6 h τ g γ n x y k i v = -2 ∨ p_X0_findOnlyWithBody_6 h τ g γ n x y k i v = -4 ∨ ∃ j, j < n ∧ p_X0_findOnlyWithBody_6 h τ g γ n x y k i v = nI j) := by
    intro k
    induction k with
    | zero => intro i v h1; omega
    | succ k ih =>
      intro i v hk hi hv
      rw [p_X0_findOnlyWithBody_6]
      split
      · exact hv
      · split
        · split
          · exact ih _ _ (by omega) (by omega) hv
          · rename_i c3
            split
            · exact ih _ _ (by omega) (by omega) hv
            · split
              · exact ih _ _ (by omega) (by omega) (Or.inr (Or.inr ⟨_, fdI_nat c3⟩))
              · exact ih _ _ (by omega) (by omega) (Or.inr (Or.inl rfl))
        · exact ih _ _ (by omega) (by omega) hv
  rw [p_X0_findOnlyWithBody]
  exact key 13 0 _ (by omega) (by omega) (Or.inl rfl)
theorem sff_g16 (h τ g γ : Nat → Nat → Int32) (n : Nat) (hn : n ≤ 30) (x : Nat) (hx : x < 12) (y : Int32) (q : gd (p_X0_selectFromFaces h τ g γ n x y) = true) : g16 n (p_X0_selectFromFaces h τ g γ n x y) := by
  rw [p_X0_selectFromFaces] at q ⊢
  rcases fowb_cases h τ g γ n (msI h ((h 7 x) &&& (owI γ n (kyF true y)))) y with e | e | ⟨k, hk, e⟩
  · rw [e] at q ⊢
    rw [if_neg (by decide), if_pos rfl, gd_nI (by omega), decide_eq_false (by omega)] at q
    exact absurd q (by decide)
  · rw [e] at q ⊢
    rw [if_pos rfl, gd_nI (by omega), decide_eq_false (by omega)] at q
    exact absurd q (by decide)
  · have h1 : ¬ nI k = -4 := fun z => by have := congrArg Int32.toInt z; rw [nI_toInt (by omega)] at this; simp at this
    have h2 : ¬ nI k = -2 := fun z => by have := congrArg Int32.toInt z; rw [nI_toInt (by omega)] at this; simp at this
    rw [e, if_neg h1, if_neg h2]
    exact ⟨k, hk, nI_add 16 k⟩
noncomputable def p_X0_selectFor_6 (h τ g γ : Nat → Nat → Int32) (n : Nat) (x : Nat) (y : Nat) (z : Int32) : Nat → Nat → Int32 → Int32
  | 0, _, _ => 0
  | k + 1, n5, v4 => if 12 ≤ n5 then (p_X0_selectFromFaces h τ g γ n x z) else (if v4 = (-1 : Int32) then (p_X0_selectFromFaces h τ g γ n x z) else (if (fdI γ n (sN v4) (kyF true z)) = (-2 : Int32) then (p_X0_selectFor_6 h τ g γ n x y z k (n5 + 1) (τ 3 (sN v4))) else (if (p_X0_overrides h τ g γ n (fdN γ n (sN v4) (kyF true z)) y) = (0 : Int32) then (p_X0_selectFor_6 h τ g γ n x y z k (n5 + 1) (τ 3 (sN v4))) else (nI (16 + (fdN γ n (sN v4) (kyF true z)))))))
noncomputable def p_X0_selectFor (h τ g γ : Nat → Nat → Int32) (n : Nat) (x : Nat) (y : Nat) (z : Int32) : Int32 := p_X0_selectFor_6 h τ g γ n x y z 13 0 (nI x)
set_option maxHeartbeats 4000000 in
set_option maxRecDepth 100000 in
theorem c_X0_selectFor (l : Launch) (D : va_G) (cI cZ cB cR : ClassId) (b : Nat) (aH aM : Nat → Nat) (h τ g γ : Nat → Nat → Int32) (n : Nat) (se : Int32) (x : Nat) (y : Nat) (z : Int32) (okh : OKH h τ) (wf : WFT τ) (okm : OKM g γ n) (wm : WFM γ n) (hnx : x < 12) (hny : y < n)  : RO l yX0_selectFor wsX0_selectFor ({ frames := 4, cells := 0, slots := 0, locals := 95 } : Room) D cI cZ cB cR (wB cI b aH aM h g se) [.ref b, .int (nI x), .int (nI y), .int z] (p_X0_selectFor h τ g γ n x y z) := by
  generalize hE : p_X0_selectFor h τ g γ n x y z = tgt
  refine Met.ofW (cc := cX0_selectFor) (maxL := 7) (ret := (some .int)) (by decide) rfl ?_
  intro p e s m args below meth c s₁ B hml hv
  obtain ⟨hargs, hP, hEV⟩ := hv
  have hx := B.exec
  have hb := B.bytes
  have hr := B.returns
  have hts := atoms_spec (ws := wsX0_selectFor) B.pre
  have hown : s.vm.findClass RX0 = some m.cls := findClass_of_methodNamed B.named
  have hlocks := B.notSynchronized
  have hK := hEV.1
  have hl := lv_entry ([.ref b, .int (nI x), .int (nI y), .int z]) (n := 7) (Nat.le_of_ble_eq_true rfl)
  rw [show entryFrame m args 7 = entryFrame m ([.ref b, .int (nI x), .int (nI y), .int z] : List Value).toArray 7 from by rw [hargs], lg_entry_eq]
  generalize (lg_sl ([.ref b, .int (nI x), .int (nI y), .int z]) ++ List.replicate (7 - (lg_sl ([.ref b, .int (nI x), .int (nI y), .int z])).length) Slot.unset).toArray = ls at hl ⊢
  have hl : lv_has ls 7 [(0, .ref b), (1, .int (nI x)), (2, .int (nI y)), (3, .int z)] := hl
  rw [p_X0_selectFor] at hE
  have hn30 := okm.2.1
  have key_6 : ∀ (k_6 : Nat) (n5 : Nat) (v4 : Int32) (ls : Array Slot), (12 - n5) < k_6 → v4 = -1 ∨ isT v4 → n5 ≤ 12 → lv_has ls 7 [(5, .int (nI n5)), (4, .int v4), (0, .ref b), (1, .int (nI x)), (2, .int (nI y)), (3, .int z)] → p_X0_selectFor_6 h τ g γ n x y z k_6 n5 v4 = tgt → W p l e (headSpec wsX0_selectFor ({ frames := 4, cells := 0, slots := 0, locals := 95 } : Room)).room s m args below meth c s.heap [] 0 0 (MQ below (vp_Si (fun r => r = tgt)) args s 0 0 (fun _ => False)) (F0 m 6 ls []) := by
    intro k_6
    induction k_6 with
    | zero => intro n5 v4 ls hm; exact absurd hm (Nat.not_lt_zero _)
    | succ k_6 ih_6 =>
      intro n5 v4 ls hm_6 hi_6_0 hi_6_1 hl hE
      rw [p_X0_selectFor_6] at hE
      refine lv_iload hx hb dX0_selectFor_6 (lv_at hl 0 rfl) ?_
      refine lv_bipush (v := (12 : Int32)) hx hb dX0_selectFor_8 (by decide) ?_
      refine lv_icmp_ge (tgt := 72) hx hb dX0_selectFor_10 (by decide) (fun c_10 => ?_) (fun c_10 => ?_)
      · have c_10 : 12 ≤ n5 := (nI_leI (a := 12) (b := n5) (by omega) (by omega)).mp c_10
        have hE := (if_pos c_10).symm.trans hE
        refine lv_aload_n hx hb dX0_selectFor_72 rfl (lv_at hl 2 rfl) ?_
        refine lv_iload_n hx hb dX0_selectFor_73 rfl (lv_at hl 3 rfl) ?_
        refine lv_iload_n hx hb dX0_selectFor_74 rfl (lv_at hl 5 rfl) ?_
        refine ro_V [.int (nI x), .int z] [] ⟨hx, hb, hml, hown, hts⟩ (c_X0_selectFromFaces l D cI cZ cB cR b aH aM h τ g γ n se x z okh wf okm wm (by omega) ) (cwV (C := RX0) 2 hts (goodP (ps := [.methodLink RX0 202 yX0_selectFromFaces, .instanceMethod yX0_selectFromFaces, .selects RX0 yX0_selectFromFaces yX0_selectFromFaces, .initialized RX0]) (all4 mw_2_235 mw_2_237 ms_20 mw_1_2) mw_2_238) rfl rfl rfl (by decide +kernel) ⟨Nat.le_of_ble_eq_true rfl, Nat.le_of_ble_eq_true rfl⟩) hEV hP 0 rfl rfl rfl hl.1 rfl (Nat.le_of_ble_eq_true rfl) dX0_selectFor_75 ⟨Nat.zero_le _, Nat.zero_le _⟩ ?_
        exact W.iret hx hb hr (fun t9 ht9 _ => ⟨_, rfl, hE, ht9⟩) (fun _ h9 => by cases h9) dX0_selectFor_78
      · have c_10 : ¬ (12 ≤ n5) := fun q9 => c_10 ((nI_leI (a := 12) (b := n5) (by omega) (by omega)).mpr q9)
        have hE := (if_neg c_10).symm.trans hE
        refine lv_iload hx hb dX0_selectFor_13 (lv_at hl 1 rfl) ?_
        refine lv_iconst (v := (-1 : Int32)) hx hb dX0_selectFor_15 (by decide) ?_
        refine lv_icmp_eq (tgt := 72) hx hb dX0_selectFor_16 (by decide) (fun c_16 => ?_) (fun c_16 => ?_)
        · skip
          have hE := (if_pos c_16).symm.trans hE
          refine lv_aload_n hx hb dX0_selectFor_72 rfl (lv_at hl 2 rfl) ?_
          refine lv_iload_n hx hb dX0_selectFor_73 rfl (lv_at hl 3 rfl) ?_
          refine lv_iload_n hx hb dX0_selectFor_74 rfl (lv_at hl 5 rfl) ?_
          refine ro_V [.int (nI x), .int z] [] ⟨hx, hb, hml, hown, hts⟩ (c_X0_selectFromFaces l D cI cZ cB cR b aH aM h τ g γ n se x z okh wf okm wm (by omega) ) (cwV (C := RX0) 2 hts (goodP (ps := [.methodLink RX0 202 yX0_selectFromFaces, .instanceMethod yX0_selectFromFaces, .selects RX0 yX0_selectFromFaces yX0_selectFromFaces, .initialized RX0]) (all4 mw_2_235 mw_2_237 ms_20 mw_1_2) mw_2_238) rfl rfl rfl (by decide +kernel) ⟨Nat.le_of_ble_eq_true rfl, Nat.le_of_ble_eq_true rfl⟩) hEV hP 0 rfl rfl rfl hl.1 rfl (Nat.le_of_ble_eq_true rfl) dX0_selectFor_75 ⟨Nat.zero_le _, Nat.zero_le _⟩ ?_
          exact W.iret hx hb hr (fun t9 ht9 _ => ⟨_, rfl, hE, ht9⟩) (fun _ h9 => by cases h9) dX0_selectFor_78
        · skip
          have hE := (if_neg c_16).symm.trans hE
          have hv9 := hi_6_0.resolve_left c_16
          have hv8 := hv9.1
          refine lv_aload_n hx hb dX0_selectFor_19 rfl (lv_at hl 2 rfl) ?_
          refine va_get (D := D) (ci := 0) (v := .ref (aM 0)) (C := RX0) (T := TX0) (N := 3) hx hb hts (fun w9 h9 => List.mem_cons_of_mem _ (inT_X0 w9 h9)) hown hK hP 0 rfl rfl 1 (by decide) (hts (.fieldLink RX0 21 "LinkPredictor$Build" "members" "LLinkPredictor$Members;") (List.mem_cons_of_mem _ mw_1_130)) (fun _ h9 => h9) rfl dX0_selectFor_20 ?_
          refine lv_iload hx hb dX0_selectFor_23 (lv_at hl 1 rfl) ?_
          refine top_eq (hv9.2) ?_
          refine lv_iconst (v := (1 : Int32)) hx hb dX0_selectFor_25 (by decide) ?_
          refine lv_iload_n hx hb dX0_selectFor_26 rfl (lv_at hl 5 rfl) ?_
          refine ro_V [.int (nI (sN v4)), .int (1 : Int32), .int z] [] ⟨hx, hb, hml, hown, hts⟩ (c_X2_find l D cI cZ cB cR aM g γ n (sN v4) true z okm (by omega)) (cwV (C := RX2) 3 hts (goodP (ps := [.methodLink RX0 36 yX2_find, .instanceMethod yX2_find, .selects RX2 yX2_find yX2_find, .initialized RX2]) (all4 mw_1_222 mw_1_223 mw_1_224 mw_1_4) mw_1_225) rfl rfl rfl (by decide +kernel) ⟨Nat.le_of_ble_eq_true rfl, Nat.le_of_ble_eq_true rfl⟩) hEV (wB_M hP) 0 rfl rfl rfl hl.1 rfl (Nat.le_of_ble_eq_true rfl) dX0_selectFor_27 ⟨Nat.zero_le _, Nat.zero_le _⟩ ?_
          refine lv_istore (lv' := [(6, .int (fdI γ n (sN v4) (kyF true z))), (5, .int (nI n5)), (4, .int v4), (0, .ref b), (1, .int (nI x)), (2, .int (nI y)), (3, .int z)]) hx hb dX0_selectFor_30 hl (by decide) rfl (fun ls hl => ?_)
          refine lv_iload hx hb dX0_selectFor_32 (lv_at hl 0 rfl) ?_
          refine lv_bipush (v := (-2 : Int32)) hx hb dX0_selectFor_34 (by decide) ?_
          refine lv_icmp_eq (tgt := 55) hx hb dX0_selectFor_36 (by decide) (fun c_36 => ?_) (fun c_36 => ?_)
          · skip
            have hE := (if_pos c_36).symm.trans hE
            refine lv_aload_n hx hb dX0_selectFor_55 rfl (lv_at hl 3 rfl) ?_
            refine va_get (D := D) (ci := 0) (v := .ref (aH 0)) (C := RX0) (T := TX0) (N := 3) hx hb hts (fun w9 h9 => List.mem_cons_of_mem _ (inT_X0 w9 h9)) hown hK hP 0 rfl rfl 0 (by decide) (hts (.fieldLink RX0 12 "LinkPredictor$Build" "types" "LLinkPredictor$Hierarchy;") (List.mem_cons_of_mem _ mw_1_128)) (fun _ h9 => h9) rfl dX0_selectFor_56 ?_
            refine lv_iload hx hb dX0_selectFor_59 (lv_at hl 2 rfl) ?_
            refine top_eq (hv9.2) ?_
            refine ro_V [.int (nI (sN v4))] [] ⟨hx, hb, hml, hown, hts⟩ (c_X1_superOf l D cI cZ cB cR aH h τ (sN v4) okh.b (by omega)) (cwV (C := RX1) 1 hts (goodP (ps := [.methodLink RX0 124 yX1_superOf, .instanceMethod yX1_superOf, .selects RX1 yX1_superOf yX1_superOf, .initialized RX1]) (all4 mw_2_105 mw_2_106 mw_2_107 mw_1_3) mw_2_108) rfl rfl rfl (by decide +kernel) ⟨Nat.le_of_ble_eq_true rfl, Nat.le_of_ble_eq_true rfl⟩) hEV (wB_H hP) 0 rfl rfl rfl hl.1 rfl (Nat.le_of_ble_eq_true rfl) dX0_selectFor_61 ⟨Nat.zero_le _, Nat.zero_le _⟩ ?_
            refine lv_istore (lv' := [(4, .int (τ 3 (sN v4))), (6, .int (fdI γ n (sN v4) (kyF true z))), (5, .int (nI n5)), (0, .ref b), (1, .int (nI x)), (2, .int (nI y)), (3, .int z)]) hx hb dX0_selectFor_64 hl (by decide) rfl (fun ls hl => ?_)
            refine lv_iinc (v := nI (n5 + 1)) (lv' := [(5, .int (nI (n5 + 1))), (4, .int (τ 3 (sN v4))), (6, .int (fdI γ n (sN v4) (kyF true z))), (0, .ref b), (1, .int (nI x)), (2, .int (nI y)), (3, .int z)]) hx hb dX0_selectFor_66 hl (k := 2) rfl (nI_1 _) (by decide) rfl (fun ls hl => ?_)
            refine lv_goto (tgt := 6) hx hb dX0_selectFor_69 (by decide) ?_
            exact ih_6 (n5 + 1) (τ 3 (sN v4)) ls (by omega) (by first | omega | exact Or.inr (isT_nI (by omega)) | exact (wf.1 _ hv8).1) (by first | omega | exact Or.inr (isT_nI (by omega)) | exact (wf.1 _ hv8).1) (lv_sub hl [0, 1, 3, 4, 5, 6] rfl) hE
          · skip
            have hE := (if_neg c_36).symm.trans hE
            have hk9 := (fdI_nat c_36).1
            refine lv_aload_n hx hb dX0_selectFor_39 rfl (lv_at hl 3 rfl) ?_
            refine lv_iload hx hb dX0_selectFor_40 (lv_at hl 0 rfl) ?_
            refine top_eq ((fdI_nat c_36).2) ?_
            refine lv_iload_n hx hb dX0_selectFor_42 rfl (lv_at hl 5 rfl) ?_
            refine ro_V [.int (nI (fdN γ n (sN v4) (kyF true z))), .int (nI y)] [] ⟨hx, hb, hml, hown, hts⟩ (c_X0_overrides l D cI cZ cB cR b aH aM h τ g γ n se (fdN γ n (sN v4) (kyF true z)) y okh wf okm wm (by omega) (by omega) ) (cwV (C := RX0) 2 hts (goodP (ps := [.methodLink RX0 199 yX0_overrides, .instanceMethod yX0_overrides, .selects RX0 yX0_overrides yX0_overrides, .initialized RX0]) (all4 mw_2_230 mw_2_232 ms_19 mw_1_2) mw_2_233) rfl rfl rfl (by decide +kernel) ⟨Nat.le_of_ble_eq_true rfl, Nat.le_of_ble_eq_true rfl⟩) hEV hP 0 rfl rfl rfl hl.1 rfl (Nat.le_of_ble_eq_true rfl) dX0_selectFor_43 ⟨Nat.zero_le _, Nat.zero_le _⟩ ?_
            refine lv_if_eq (tgt := 55) hx hb dX0_selectFor_46 (by decide) (fun c_46 => ?_) (fun c_46 => ?_)
            · skip
              have hE := (if_pos c_46).symm.trans hE
              refine lv_aload_n hx hb dX0_selectFor_55 rfl (lv_at hl 3 rfl) ?_
              refine va_get (D := D) (ci := 0) (v := .ref (aH 0)) (C := RX0) (T := TX0) (N := 3) hx hb hts (fun w9 h9 => List.mem_cons_of_mem _ (inT_X0 w9 h9)) hown hK hP 0 rfl rfl 0 (by decide) (hts (.fieldLink RX0 12 "LinkPredictor$Build" "types" "LLinkPredictor$Hierarchy;") (List.mem_cons_of_mem _ mw_1_128)) (fun _ h9 => h9) rfl dX0_selectFor_56 ?_
              refine lv_iload hx hb dX0_selectFor_59 (lv_at hl 2 rfl) ?_
              refine top_eq (hv9.2) ?_
              refine ro_V [.int (nI (sN v4))] [] ⟨hx, hb, hml, hown, hts⟩ (c_X1_superOf l D cI cZ cB cR aH h τ (sN v4) okh.b (by omega)) (cwV (C := RX1) 1 hts (goodP (ps := [.methodLink RX0 124 yX1_superOf, .instanceMethod yX1_superOf, .selects RX1 yX1_superOf yX1_superOf, .initialized RX1]) (all4 mw_2_105 mw_2_106 mw_2_107 mw_1_3) mw_2_108) rfl rfl rfl (by decide +kernel) ⟨Nat.le_of_ble_eq_true rfl, Nat.le_of_ble_eq_true rfl⟩) hEV (wB_H hP) 0 rfl rfl rfl hl.1 rfl (Nat.le_of_ble_eq_true rfl) dX0_selectFor_61 ⟨Nat.zero_le _, Nat.zero_le _⟩ ?_
              refine lv_istore (lv' := [(4, .int (τ 3 (sN v4))), (6, .int (fdI γ n (sN v4) (kyF true z))), (5, .int (nI n5)), (0, .ref b), (1, .int (nI x)), (2, .int (nI y)), (3, .int z)]) hx hb dX0_selectFor_64 hl (by decide) rfl (fun ls hl => ?_)
              refine lv_iinc (v := nI (n5 + 1)) (lv' := [(5, .int (nI (n5 + 1))), (4, .int (τ 3 (sN v4))), (6, .int (fdI γ n (sN v4) (kyF true z))), (0, .ref b), (1, .int (nI x)), (2, .int (nI y)), (3, .int z)]) hx hb dX0_selectFor_66 hl (k := 2) rfl (nI_1 _) (by decide) rfl (fun ls hl => ?_)
              refine lv_goto (tgt := 6) hx hb dX0_selectFor_69 (by decide) ?_
              exact ih_6 (n5 + 1) (τ 3 (sN v4)) ls (by omega) (by first | omega | exact Or.inr (isT_nI (by omega)) | exact (wf.1 _ hv8).1) (by first | omega | exact Or.inr (isT_nI (by omega)) | exact (wf.1 _ hv8).1) (lv_sub hl [0, 1, 3, 4, 5, 6] rfl) hE
            · skip
              have hE := (if_neg c_46).symm.trans hE
              refine lv_bipush (v := (16 : Int32)) hx hb dX0_selectFor_49 (by decide) ?_
              refine lv_iload hx hb dX0_selectFor_51 (lv_at hl 0 rfl) ?_
              refine top_eq ((fdI_nat c_36).2) ?_
              refine lv_iadd hx hb dX0_selectFor_53 ?_
              refine top_eq (nI_add 16 (fdN γ n (sN v4) (kyF true z))) ?_
              exact W.iret hx hb hr (fun t9 ht9 _ => ⟨_, rfl, hE, ht9⟩) (fun _ h9 => by cases h9) dX0_selectFor_54
  refine lv_iload_n hx hb dX0_selectFor_0 rfl (lv_at hl 1 rfl) ?_
  refine lv_istore (lv' := [(4, .int (nI x)), (0, .ref b), (1, .int (nI x)), (2, .int (nI y)), (3, .int z)]) hx hb dX0_selectFor_1 hl (by decide) rfl (fun ls hl => ?_)
  refine lv_iconst (v := (0 : Int32)) hx hb dX0_selectFor_3 (by decide) ?_
  refine lv_istore (lv' := [(5, .int (0 : Int32)), (4, .int (nI x)), (0, .ref b), (1, .int (nI x)), (2, .int (nI y)), (3, .int z)]) hx hb dX0_selectFor_4 hl (by decide) rfl (fun ls hl => ?_)
  exact key_6 13 0 (nI x) ls (by omega) (by first | omega | exact Or.inr (isT_nI (by omega)) | exact (wf.1 _ hv8).1) (by first | omega | exact Or.inr (isT_nI (by omega)) | exact (wf.1 _ hv8).1) (lv_sub hl [0, 1, 2, 3, 4, 5] rfl) hE
theorem sf_g16 (h τ g γ : Nat → Nat → Int32) (n : Nat) (hn : n ≤ 30) (x : Nat) (hx : x < 12) (y : Nat) (z : Int32) : gd (p_X0_selectFor h τ g γ n x y z) = true → g16 n (p_X0_selectFor h τ g γ n x y z) := by
  have key : ∀ k i v, 12 - i < k → i ≤ 12 → gd (p_X0_selectFor_6 h τ g γ n x y z k i v) = true → g16 n (p_X0_selectFor_6 h τ g γ n x y z k i v) := by
    intro k
    induction k with
    | zero => intro i v h1; omega
    | succ k ih =>
      intro i v hk hi q
      rw [p_X0_selectFor_6] at q ⊢
      split at q
      · rename_i c; rw [if_pos c]; exact sff_g16 h τ g γ n hn x hx z q
      · rename_i c
        rw [if_neg c]
        split at q
        · rename_i c1; rw [if_pos c1]; exact sff_g16 h τ g γ n hn x hx z q
        · rename_i c1
          rw [if_neg c1]
          split at q
          · rename_i c2; rw [if_pos c2]; exact ih _ _ (by omega) (by omega) q
          · rename_i c2
            rw [if_neg c2]
            split at q
            · rename_i c3; rw [if_pos c3]; exact ih _ _ (by omega) (by omega) q
            · rename_i c3; rw [if_neg c3]; exact ⟨_, (fdI_nat c2).1, rfl⟩
  rw [p_X0_selectFor]
  exact key 13 0 _ (by omega) (by omega)
noncomputable def p_X0_checkSelected (h τ g γ : Nat → Nat → Int32) (n : Nat) (φ : Nat → Nat) (x : Nat) : Int32 := if (bt (γ 3 x) 1) = true then (nI (464 + x)) else (if (φ 0) = 7 then (if (γ 2 x) = (3 : Int32) then (nI (16 + x)) else (if (γ 2 x) = (0 : Int32) then (nI (16 + x)) else (nI (272 + x)))) else (nI (16 + x)))
set_option maxHeartbeats 4000000 in
set_option maxRecDepth 100000 in
theorem c_X0_checkSelected (l : Launch) (D : va_G) (cI cZ cB cR : ClassId) (b : Nat) (aH aM : Nat → Nat) (h τ g γ : Nat → Nat → Int32) (n : Nat) (se : Int32) (r : Nat) (φ : Nat → Nat) (x : Nat) (okh : OKH h τ) (wf : WFT τ) (okm : OKM g γ n) (wm : WFM γ n) (hφ : φR φ) (hnx : x < n)  : RO l yX0_checkSelected wsX0_checkSelected ({ frames := 1, cells := 0, slots := 0, locals := 21 } : Room) D cI cZ cB cR (wBR cI b aH aM h g se r φ) [.ref b, .ref r, .int (nI x)] (p_X0_checkSelected h τ g γ n φ x) := by
  generalize hE : p_X0_checkSelected h τ g γ n φ x = tgt
  refine Met.ofW (cc := cX0_checkSelected) (maxL := 4) (ret := (some .int)) (by decide) rfl ?_
  intro p e s m args below meth c s₁ B hml hv
  obtain ⟨hargs, hP, hEV⟩ := hv
  have hx := B.exec
  have hb := B.bytes
  have hr := B.returns
  have hts := atoms_spec (ws := wsX0_checkSelected) B.pre
  have hown : s.vm.findClass RX0 = some m.cls := findClass_of_methodNamed B.named
  have hlocks := B.notSynchronized
  have hK := hEV.1
  have hl := lv_entry ([.ref b, .ref r, .int (nI x)]) (n := 4) (Nat.le_of_ble_eq_true rfl)
  rw [show entryFrame m args 4 = entryFrame m ([.ref b, .ref r, .int (nI x)] : List Value).toArray 4 from by rw [hargs], lg_entry_eq]
  generalize (lg_sl ([.ref b, .ref r, .int (nI x)]) ++ List.replicate (4 - (lg_sl ([.ref b, .ref r, .int (nI x)])).length) Slot.unset).toArray = ls at hl ⊢
  have hl : lv_has ls 4 [(0, .ref b), (1, .ref r), (2, .int (nI x))] := hl
  rw [p_X0_checkSelected] at hE
  have hn30 := okm.2.1
  obtain ⟨hf0, hf1, hf2, hf3⟩ := id hφ
  refine lv_aload_n hx hb dX0_checkSelected_0 rfl (lv_at hl 0 rfl) ?_
  refine va_get (D := D) (ci := 0) (v := .ref (aM 0)) (C := RX0) (T := TX0) (N := 3) hx hb hts (fun w9 h9 => List.mem_cons_of_mem _ (inT_X0 w9 h9)) hown hK hP 0 rfl rfl 1 (by decide) (hts (.fieldLink RX0 21 "LinkPredictor$Build" "members" "LLinkPredictor$Members;") (List.mem_cons_of_mem _ mw_1_130)) (fun _ h9 => h9) rfl dX0_checkSelected_1 ?_
  refine lv_iload_n hx hb dX0_checkSelected_4 rfl (lv_at hl 2 rfl) ?_
  refine ro_V [.int (nI x)] [] ⟨hx, hb, hml, hown, hts⟩ (c_X2_isAbstract l D cI cZ cB cR aM g γ n x okm (by omega)) (cwV (C := RX2) 1 hts (goodP (ps := [.methodLink RX0 162 yX2_isAbstract, .instanceMethod yX2_isAbstract, .selects RX2 yX2_isAbstract yX2_isAbstract, .initialized RX2]) (all4 mw_2_154 mw_2_155 mw_2_156 mw_1_4) mw_2_157) rfl rfl rfl (by decide +kernel) ⟨Nat.le_of_ble_eq_true rfl, Nat.le_of_ble_eq_true rfl⟩) hEV (wBR_M hP) 0 rfl rfl rfl hl.1 rfl (Nat.le_of_ble_eq_true rfl) dX0_checkSelected_5 ⟨Nat.zero_le _, Nat.zero_le _⟩ ?_
  refine lv_if_eq (tgt := 17) hx hb dX0_checkSelected_8 (by decide) (fun c_8 => ?_) (fun c_8 => ?_)
  · have c_8 : ¬ ((bt (γ 3 x) 1) = true) := b2i_f c_8
    have hE := (if_neg c_8).symm.trans hE
    refine lv_aload_n hx hb dX0_checkSelected_17 rfl (lv_at hl 0 rfl) ?_
    refine va_get (D := D) (ci := 0) (v := .ref (aM 0)) (C := RX0) (T := TX0) (N := 3) hx hb hts (fun w9 h9 => List.mem_cons_of_mem _ (inT_X0 w9 h9)) hown hK hP 0 rfl rfl 1 (by decide) (hts (.fieldLink RX0 21 "LinkPredictor$Build" "members" "LLinkPredictor$Members;") (List.mem_cons_of_mem _ mw_1_130)) (fun _ h9 => h9) rfl dX0_checkSelected_18 ?_
    refine lv_iload_n hx hb dX0_checkSelected_21 rfl (lv_at hl 2 rfl) ?_
    refine ro_V [.int (nI x)] [] ⟨hx, hb, hml, hown, hts⟩ (c_X2_accessOf l D cI cZ cB cR aM g γ n x okm (by omega)) (cwV (C := RX2) 1 hts (goodP (ps := [.methodLink RX0 96 yX2_accessOf, .instanceMethod yX2_accessOf, .selects RX2 yX2_accessOf yX2_accessOf, .initialized RX2]) (all4 mw_2_118 mw_2_119 mw_2_120 mw_1_4) mw_2_121) rfl rfl rfl (by decide +kernel) ⟨Nat.le_of_ble_eq_true rfl, Nat.le_of_ble_eq_true rfl⟩) hEV (wBR_M hP) 0 rfl rfl rfl hl.1 rfl (Nat.le_of_ble_eq_true rfl) dX0_checkSelected_22 ⟨Nat.zero_le _, Nat.zero_le _⟩ ?_
    refine lv_istore_n (lv' := [(3, .int (γ 2 x)), (0, .ref b), (1, .ref r), (2, .int (nI x))]) hx hb dX0_checkSelected_25 rfl hl (by decide) rfl (fun ls hl => ?_)
    refine lv_aload_n hx hb dX0_checkSelected_26 rfl (lv_at hl 2 rfl) ?_
    refine va_getN (D := D) (ci := 3) (v := .int (nI (φ 0))) (C := RX3) (T := TX3) (N := 4) (host := "LinkPredictor") hx hb hts (fun w9 h9 => List.mem_cons_of_mem _ (inT_X3 w9 h9)) hown hK hP 15 rfl rfl 0 (by decide) (va_Nw.use rfl (hEV.2 (.fieldLinkNest RX0 71 "LinkPredictor$Reference" "kind" "I" "LinkPredictor") (by decide +kernel))) (fun _ h9 => h9) rfl dX0_checkSelected_27 ?_
    refine lv_bipush (v := (7 : Int32)) hx hb dX0_checkSelected_30 (by decide) ?_
    refine lv_icmp_ne (tgt := 50) hx hb dX0_checkSelected_32 (by decide) (fun c_32 => ?_) (fun c_32 => ?_)
    · have c_32 : ¬ ((φ 0) = 7) := fun q9 => c_32 ((nI_eq (a := (φ 0)) (b := 7) (by omega) (by omega)).mpr q9)
      have hE := (if_neg c_32).symm.trans hE
      refine lv_bipush (v := (16 : Int32)) hx hb dX0_checkSelected_50 (by decide) ?_
      refine lv_iload_n hx hb dX0_checkSelected_52 rfl (lv_at hl 3 rfl) ?_
      refine lv_iadd hx hb dX0_checkSelected_53 ?_
      refine top_eq (nI_add 16 x) ?_
      exact W.iret hx hb hr (fun t9 ht9 _ => ⟨_, rfl, hE, ht9⟩) (fun _ h9 => by cases h9) dX0_checkSelected_54
    · have c_32 : (φ 0) = 7 := (nI_eq (a := (φ 0)) (b := 7) (by omega) (by omega)).mp c_32
      have hE := (if_pos c_32).symm.trans hE
      refine lv_iload_n hx hb dX0_checkSelected_35 rfl (lv_at hl 0 rfl) ?_
      refine lv_iconst (v := (3 : Int32)) hx hb dX0_checkSelected_36 (by decide) ?_
      refine lv_icmp_eq (tgt := 50) hx hb dX0_checkSelected_37 (by decide) (fun c_37 => ?_) (fun c_37 => ?_)
      · skip
        have hE := (if_pos c_37).symm.trans hE
        refine lv_bipush (v := (16 : Int32)) hx hb dX0_checkSelected_50 (by decide) ?_
        refine lv_iload_n hx hb dX0_checkSelected_52 rfl (lv_at hl 3 rfl) ?_
        refine lv_iadd hx hb dX0_checkSelected_53 ?_
        refine top_eq (nI_add 16 x) ?_
        exact W.iret hx hb hr (fun t9 ht9 _ => ⟨_, rfl, hE, ht9⟩) (fun _ h9 => by cases h9) dX0_checkSelected_54
      · skip
        have hE := (if_neg c_37).symm.trans hE
        refine lv_iload_n hx hb dX0_checkSelected_40 rfl (lv_at hl 0 rfl) ?_
        refine lv_if_eq (tgt := 50) hx hb dX0_checkSelected_41 (by decide) (fun c_41 => ?_) (fun c_41 => ?_)
        · skip
          have hE := (if_pos c_41).symm.trans hE
          refine lv_bipush (v := (16 : Int32)) hx hb dX0_checkSelected_50 (by decide) ?_
          refine lv_iload_n hx hb dX0_checkSelected_52 rfl (lv_at hl 3 rfl) ?_
          refine lv_iadd hx hb dX0_checkSelected_53 ?_
          refine top_eq (nI_add 16 x) ?_
          exact W.iret hx hb hr (fun t9 ht9 _ => ⟨_, rfl, hE, ht9⟩) (fun _ h9 => by cases h9) dX0_checkSelected_54
        · skip
          have hE := (if_neg c_41).symm.trans hE
          refine lv_sipush (v := (272 : Int32)) hx hb dX0_checkSelected_44 (by decide) ?_
          refine lv_iload_n hx hb dX0_checkSelected_47 rfl (lv_at hl 3 rfl) ?_
          refine lv_iadd hx hb dX0_checkSelected_48 ?_
          refine top_eq (nI_add 272 x) ?_
          exact W.iret hx hb hr (fun t9 ht9 _ => ⟨_, rfl, hE, ht9⟩) (fun _ h9 => by cases h9) dX0_checkSelected_49
  · have c_8 : (bt (γ 3 x) 1) = true := b2i_t c_8
    have hE := (if_pos c_8).symm.trans hE
    refine lv_sipush (v := (464 : Int32)) hx hb dX0_checkSelected_11 (by decide) ?_
    refine lv_iload_n hx hb dX0_checkSelected_14 rfl (lv_at hl 2 rfl) ?_
    refine lv_iadd hx hb dX0_checkSelected_15 ?_
    refine top_eq (nI_add 464 x) ?_
    exact W.iret hx hb hr (fun t9 ht9 _ => ⟨_, rfl, hE, ht9⟩) (fun _ h9 => by cases h9) dX0_checkSelected_16
noncomputable def p_X0_checkMember_117 (h τ g γ : Nat → Nat → Int32) (n : Nat) (φ : Nat → Nat) (x : Nat) : Int32 := if (φ 0) = 5 then (if (bt (γ 3 x) 1) = true then (nI (464 + x)) else (nI (16 + x))) else (nI (16 + x))
noncomputable def p_X0_checkMember_82 (h τ g γ : Nat → Nat → Int32) (n : Nat) (φ : Nat → Nat) (x : Nat) : Int32 := if (φ 0) = 5 then (if (abB τ (φ 1) (φ 2) || fcB τ (φ 1) (φ 2)) = true then (p_X0_checkMember_117 h τ g γ n φ x ) else (nI (192 + (φ 2)))) else (p_X0_checkMember_117 h τ g γ n φ x )
noncomputable def p_X0_checkMember (h τ g γ : Nat → Nat → Int32) (n : Nat) (φ : Nat → Nat) (x : Nat) : Int32 := if (p_X0_isAccessible h τ g γ n x (φ 2) (φ 1)) = (0 : Int32) then (nI (272 + x)) else (if (b2i (bt (γ 3 x) 0)) = (b2i (decide (φ 0 = 2 ∨ φ 0 = 3 ∨ φ 0 = 6))) then (if (decide (φ 0 = 1 ∨ φ 0 = 3)) = true then (if (bt (γ 3 x) 2) = true then (if (γ 0 x) = (nI (φ 1)) then (p_X0_checkMember_82 h τ g γ n φ x ) else (nI (272 + x))) else (p_X0_checkMember_82 h τ g γ n φ x )) else (p_X0_checkMember_82 h τ g γ n φ x )) else (nI (208 + x)))
set_option maxHeartbeats 4000000 in
set_option maxRecDepth 100000 in
theorem c_X0_checkMember (l : Launch) (D : va_G) (cI cZ cB cR : ClassId) (b : Nat) (aH aM : Nat → Nat) (h τ g γ : Nat → Nat → Int32) (n : Nat) (se : Int32) (r : Nat) (φ : Nat → Nat) (x : Nat) (okh : OKH h τ) (wf : WFT τ) (okm : OKM g γ n) (wm : WFM γ n) (hφ : φR φ) (hnx : x < n) (gh : Gd τ (φ 1)) (gw : Gd τ (φ 2)) : RO l yX0_checkMember wsX0_checkMember ({ frames := 4, cells := 0, slots := 0, locals := 90 } : Room) D cI cZ cB cR (wBR cI b aH aM h g se r φ) [.ref b, .ref r, .int (nI x)] (p_X0_checkMember h τ g γ n φ x) := by
  generalize hE : p_X0_checkMember h τ g γ n φ x = tgt
  refine Met.ofW (cc := cX0_checkMember) (maxL := 3) (ret := (some .int)) (by decide) rfl ?_
  intro p e s m args below meth c s₁ B hml hv
  obtain ⟨hargs, hP, hEV⟩ := hv
  have hx := B.exec
  have hb := B.bytes
  have hr := B.returns
  have hts := atoms_spec (ws := wsX0_checkMember) B.pre
  have hown : s.vm.findClass RX0 = some m.cls := findClass_of_methodNamed B.named
  have hlocks := B.notSynchronized
  have hK := hEV.1
  have hl := lv_entry ([.ref b, .ref r, .int (nI x)]) (n := 3) (Nat.le_of_ble_eq_true rfl)
  rw [show entryFrame m args 3 = entryFrame m ([.ref b, .ref r, .int (nI x)] : List Value).toArray 3 from by rw [hargs], lg_entry_eq]
  generalize (lg_sl ([.ref b, .ref r, .int (nI x)]) ++ List.replicate (3 - (lg_sl ([.ref b, .ref r, .int (nI x)])).length) Slot.unset).toArray = ls at hl ⊢
  have hl : lv_has ls 3 [(0, .ref b), (1, .ref r), (2, .int (nI x))] := hl
  rw [p_X0_checkMember] at hE
  have hn30 := okm.2.1
  obtain ⟨hf0, hf1, hf2, hf3⟩ := id hφ
  have key_117 : ∀ (ls : Array Slot), lv_has ls 3 [(0, .ref b), (1, .ref r), (2, .int (nI x))] → p_X0_checkMember_117 h τ g γ n φ x  = tgt → W p l e (headSpec wsX0_checkMember ({ frames := 4, cells := 0, slots := 0, locals := 90 } : Room)).room s m args below meth c s.heap [] 0 0 (MQ below (vp_Si (fun r => r = tgt)) args s 0 0 (fun _ => False)) (F0 m 117 ls []) := by
    intro  ls  hl hE
    rw [p_X0_checkMember_117] at hE
    refine lv_aload_n hx hb dX0_checkMember_117 rfl (lv_at hl 1 rfl) ?_
    refine va_getN (D := D) (ci := 3) (v := .int (nI (φ 0))) (C := RX3) (T := TX3) (N := 4) (host := "LinkPredictor") hx hb hts (fun w9 h9 => List.mem_cons_of_mem _ (inT_X3 w9 h9)) hown hK hP 15 rfl rfl 0 (by decide) (va_Nw.use rfl (hEV.2 (.fieldLinkNest RX0 71 "LinkPredictor$Reference" "kind" "I" "LinkPredictor") (by decide +kernel))) (fun _ h9 => h9) rfl dX0_checkMember_118 ?_
    refine lv_iconst (v := (5 : Int32)) hx hb dX0_checkMember_121 (by decide) ?_
    refine lv_icmp_ne (tgt := 142) hx hb dX0_checkMember_122 (by decide) (fun c_122 => ?_) (fun c_122 => ?_)
    · have c_122 : ¬ ((φ 0) = 5) := fun q9 => c_122 ((nI_eq (a := (φ 0)) (b := 5) (by omega) (by omega)).mpr q9)
      have hE := (if_neg c_122).symm.trans hE
      refine lv_bipush (v := (16 : Int32)) hx hb dX0_checkMember_142 (by decide) ?_
      refine lv_iload_n hx hb dX0_checkMember_144 rfl (lv_at hl 2 rfl) ?_
      refine lv_iadd hx hb dX0_checkMember_145 ?_
      refine top_eq (nI_add 16 x) ?_
      exact W.iret hx hb hr (fun t9 ht9 _ => ⟨_, rfl, hE, ht9⟩) (fun _ h9 => by cases h9) dX0_checkMember_146
    · have c_122 : (φ 0) = 5 := (nI_eq (a := (φ 0)) (b := 5) (by omega) (by omega)).mp c_122
      have hE := (if_pos c_122).symm.trans hE
      refine lv_aload_n hx hb dX0_checkMember_125 rfl (lv_at hl 0 rfl) ?_
      refine va_get (D := D) (ci := 0) (v := .ref (aM 0)) (C := RX0) (T := TX0) (N := 3) hx hb hts (fun w9 h9 => List.mem_cons_of_mem _ (inT_X0 w9 h9)) hown hK hP 0 rfl rfl 1 (by decide) (hts (.fieldLink RX0 21 "LinkPredictor$Build" "members" "LLinkPredictor$Members;") (List.mem_cons_of_mem _ mw_1_130)) (fun _ h9 => h9) rfl dX0_checkMember_126 ?_
      refine lv_iload_n hx hb dX0_checkMember_129 rfl (lv_at hl 2 rfl) ?_
      refine ro_V [.int (nI x)] [] ⟨hx, hb, hml, hown, hts⟩ (c_X2_isAbstract l D cI cZ cB cR aM g γ n x okm (by omega)) (cwV (C := RX2) 1 hts (goodP (ps := [.methodLink RX0 162 yX2_isAbstract, .instanceMethod yX2_isAbstract, .selects RX2 yX2_isAbstract yX2_isAbstract, .initialized RX2]) (all4 mw_2_154 mw_2_155 mw_2_156 mw_1_4) mw_2_157) rfl rfl rfl (by decide +kernel) ⟨Nat.le_of_ble_eq_true rfl, Nat.le_of_ble_eq_true rfl⟩) hEV (wBR_M hP) 0 rfl rfl rfl hl.1 rfl (Nat.le_of_ble_eq_true rfl) dX0_checkMember_130 ⟨Nat.zero_le _, Nat.zero_le _⟩ ?_
      refine lv_if_eq (tgt := 142) hx hb dX0_checkMember_133 (by decide) (fun c_133 => ?_) (fun c_133 => ?_)
      · have c_133 : ¬ ((bt (γ 3 x) 1) = true) := b2i_f c_133
        have hE := (if_neg c_133).symm.trans hE
        refine lv_bipush (v := (16 : Int32)) hx hb dX0_checkMember_142 (by decide) ?_
        refine lv_iload_n hx hb dX0_checkMember_144 rfl (lv_at hl 2 rfl) ?_
        refine lv_iadd hx hb dX0_checkMember_145 ?_
        refine top_eq (nI_add 16 x) ?_
        exact W.iret hx hb hr (fun t9 ht9 _ => ⟨_, rfl, hE, ht9⟩) (fun _ h9 => by cases h9) dX0_checkMember_146
      · have c_133 : (bt (γ 3 x) 1) = true := b2i_t c_133
        have hE := (if_pos c_133).symm.trans hE
        refine lv_sipush (v := (464 : Int32)) hx hb dX0_checkMember_136 (by decide) ?_
        refine lv_iload_n hx hb dX0_checkMember_139 rfl (lv_at hl 2 rfl) ?_
        refine lv_iadd hx hb dX0_checkMember_140 ?_
        refine top_eq (nI_add 464 x) ?_
        exact W.iret hx hb hr (fun t9 ht9 _ => ⟨_, rfl, hE, ht9⟩) (fun _ h9 => by cases h9) dX0_checkMember_141
  have key_82 : ∀ (ls : Array Slot), lv_has ls 3 [(0, .ref b), (1, .ref r), (2, .int (nI x))] → p_X0_checkMember_82 h τ g γ n φ x  = tgt → W p l e (headSpec wsX0_checkMember ({ frames := 4, cells := 0, slots := 0, locals := 90 } : Room)).room s m args below meth c s.heap [] 0 0 (MQ below (vp_Si (fun r => r = tgt)) args s 0 0 (fun _ => False)) (F0 m 82 ls []) := by
    intro  ls  hl hE
    rw [p_X0_checkMember_82] at hE
    refine lv_aload_n hx hb dX0_checkMember_82 rfl (lv_at hl 1 rfl) ?_
    refine va_getN (D := D) (ci := 3) (v := .int (nI (φ 0))) (C := RX3) (T := TX3) (N := 4) (host := "LinkPredictor") hx hb hts (fun w9 h9 => List.mem_cons_of_mem _ (inT_X3 w9 h9)) hown hK hP 15 rfl rfl 0 (by decide) (va_Nw.use rfl (hEV.2 (.fieldLinkNest RX0 71 "LinkPredictor$Reference" "kind" "I" "LinkPredictor") (by decide +kernel))) (fun _ h9 => h9) rfl dX0_checkMember_83 ?_
    refine lv_iconst (v := (5 : Int32)) hx hb dX0_checkMember_86 (by decide) ?_
    refine lv_icmp_ne (tgt := 117) hx hb dX0_checkMember_87 (by decide) (fun c_87 => ?_) (fun c_87 => ?_)
    · have c_87 : ¬ ((φ 0) = 5) := fun q9 => c_87 ((nI_eq (a := (φ 0)) (b := 5) (by omega) (by omega)).mpr q9)
      have hE := (if_neg c_87).symm.trans hE
      exact key_117  ls  (lv_sub hl [0, 1, 2] rfl) hE
    · have c_87 : (φ 0) = 5 := (nI_eq (a := (φ 0)) (b := 5) (by omega) (by omega)).mp c_87
      have hE := (if_pos c_87).symm.trans hE
      refine lv_aload_n hx hb dX0_checkMember_90 rfl (lv_at hl 0 rfl) ?_
      refine va_get (D := D) (ci := 0) (v := .ref (aH 0)) (C := RX0) (T := TX0) (N := 3) hx hb hts (fun w9 h9 => List.mem_cons_of_mem _ (inT_X0 w9 h9)) hown hK hP 0 rfl rfl 0 (by decide) (hts (.fieldLink RX0 12 "LinkPredictor$Build" "types" "LLinkPredictor$Hierarchy;") (List.mem_cons_of_mem _ mw_1_128)) (fun _ h9 => h9) rfl dX0_checkMember_91 ?_
      refine lv_aload_n hx hb dX0_checkMember_94 rfl (lv_at hl 1 rfl) ?_
      refine va_getN (D := D) (ci := 3) (v := .int (nI (φ 1))) (C := RX3) (T := TX3) (N := 4) (host := "LinkPredictor") hx hb hts (fun w9 h9 => List.mem_cons_of_mem _ (inT_X3 w9 h9)) hown hK hP 15 rfl rfl 1 (by decide) (va_Nw.use rfl (hEV.2 (.fieldLinkNest RX0 51 "LinkPredictor$Reference" "holder" "I" "LinkPredictor") (by decide +kernel))) (fun _ h9 => h9) rfl dX0_checkMember_95 ?_
      refine lv_aload_n hx hb dX0_checkMember_98 rfl (lv_at hl 1 rfl) ?_
      refine va_getN (D := D) (ci := 3) (v := .int (nI (φ 2))) (C := RX3) (T := TX3) (N := 4) (host := "LinkPredictor") hx hb hts (fun w9 h9 => List.mem_cons_of_mem _ (inT_X3 w9 h9)) hown hK hP 15 rfl rfl 2 (by decide) (va_Nw.use rfl (hEV.2 (.fieldLinkNest RX0 64 "LinkPredictor$Reference" "way" "I" "LinkPredictor") (by decide +kernel))) (fun _ h9 => h9) rfl dX0_checkMember_99 ?_
      refine ro_V [.int (nI (φ 1)), .int (nI (φ 2))] [] ⟨hx, hb, hml, hown, hts⟩ (c_X1_liesUnder l D cI cZ cB cR aH h τ (φ 1) (φ 2) okh gh (by omega) (by omega)) (cwV (C := RX1) 2 hts (goodP (ps := [.methodLink RX0 181 yX1_liesUnder, .instanceMethod yX1_liesUnder, .selects RX1 yX1_liesUnder yX1_liesUnder, .initialized RX1]) (all4 mw_2_186 mw_2_187 mw_2_188 mw_1_3) mw_2_189) rfl rfl rfl (by decide +kernel) ⟨Nat.le_of_ble_eq_true rfl, Nat.le_of_ble_eq_true rfl⟩) hEV (wBR_H hP) 0 rfl rfl rfl hl.1 rfl (Nat.le_of_ble_eq_true rfl) dX0_checkMember_102 ⟨Nat.zero_le _, Nat.zero_le _⟩ ?_
      refine lv_if_ne (tgt := 117) hx hb dX0_checkMember_105 (by decide) (fun c_105 => ?_) (fun c_105 => ?_)
      · have c_105 : (abB τ (φ 1) (φ 2) || fcB τ (φ 1) (φ 2)) = true := b2i_t c_105
        have hE := (if_pos c_105).symm.trans hE
        exact key_117  ls  (lv_sub hl [0, 1, 2] rfl) hE
      · have c_105 : ¬ ((abB τ (φ 1) (φ 2) || fcB τ (φ 1) (φ 2)) = true) := b2i_f c_105
        have hE := (if_neg c_105).symm.trans hE
        refine lv_sipush (v := (192 : Int32)) hx hb dX0_checkMember_108 (by decide) ?_
        refine lv_aload_n hx hb dX0_checkMember_111 rfl (lv_at hl 1 rfl) ?_
        refine va_getN (D := D) (ci := 3) (v := .int (nI (φ 2))) (C := RX3) (T := TX3) (N := 4) (host := "LinkPredictor") hx hb hts (fun w9 h9 => List.mem_cons_of_mem _ (inT_X3 w9 h9)) hown hK hP 15 rfl rfl 2 (by decide) (va_Nw.use rfl (hEV.2 (.fieldLinkNest RX0 64 "LinkPredictor$Reference" "way" "I" "LinkPredictor") (by decide +kernel))) (fun _ h9 => h9) rfl dX0_checkMember_112 ?_
        refine lv_iadd hx hb dX0_checkMember_115 ?_
        refine top_eq (nI_add 192 (φ 2)) ?_
        exact W.iret hx hb hr (fun t9 ht9 _ => ⟨_, rfl, hE, ht9⟩) (fun _ h9 => by cases h9) dX0_checkMember_116
  refine lv_aload_n hx hb dX0_checkMember_0 rfl (lv_at hl 0 rfl) ?_
  refine lv_iload_n hx hb dX0_checkMember_1 rfl (lv_at hl 2 rfl) ?_
  refine lv_aload_n hx hb dX0_checkMember_2 rfl (lv_at hl 1 rfl) ?_
  refine va_getN (D := D) (ci := 3) (v := .int (nI (φ 2))) (C := RX3) (T := TX3) (N := 4) (host := "LinkPredictor") hx hb hts (fun w9 h9 => List.mem_cons_of_mem _ (inT_X3 w9 h9)) hown hK hP 15 rfl rfl 2 (by decide) (va_Nw.use rfl (hEV.2 (.fieldLinkNest RX0 64 "LinkPredictor$Reference" "way" "I" "LinkPredictor") (by decide +kernel))) (fun _ h9 => h9) rfl dX0_checkMember_3 ?_
  refine lv_aload_n hx hb dX0_checkMember_6 rfl (lv_at hl 1 rfl) ?_
  refine va_getN (D := D) (ci := 3) (v := .int (nI (φ 1))) (C := RX3) (T := TX3) (N := 4) (host := "LinkPredictor") hx hb hts (fun w9 h9 => List.mem_cons_of_mem _ (inT_X3 w9 h9)) hown hK hP 15 rfl rfl 1 (by decide) (va_Nw.use rfl (hEV.2 (.fieldLinkNest RX0 51 "LinkPredictor$Reference" "holder" "I" "LinkPredictor") (by decide +kernel))) (fun _ h9 => h9) rfl dX0_checkMember_7 ?_
  refine ro_V [.int (nI x), .int (nI (φ 2)), .int (nI (φ 1))] [] ⟨hx, hb, hml, hown, hts⟩ (c_X0_isAccessible l D cI cZ cB cR b aH aM h τ g γ n se x (φ 2) (φ 1) okh wf okm wm (by omega) (by omega) (by omega) gw gh) (cwV (C := RX0) 3 hts (goodP (ps := [.methodLink RX0 165 yX0_isAccessible, .instanceMethod yX0_isAccessible, .selects RX0 yX0_isAccessible yX0_isAccessible, .initialized RX0]) (all4 mw_2_169 mw_2_171 ms_15 mw_1_2) mw_2_172) rfl rfl rfl (by decide +kernel) ⟨Nat.le_of_ble_eq_true rfl, Nat.le_of_ble_eq_true rfl⟩) hEV (wBR_B hP) 0 rfl rfl rfl hl.1 rfl (Nat.le_of_ble_eq_true rfl) dX0_checkMember_10 ⟨Nat.zero_le _, Nat.zero_le _⟩ ?_
  refine lv_if_ne (tgt := 22) hx hb dX0_checkMember_13 (by decide) (fun c_13 => ?_) (fun c_13 => ?_)
  · skip
    have hE := (if_neg c_13).symm.trans hE
    refine lv_aload_n hx hb dX0_checkMember_22 rfl (lv_at hl 0 rfl) ?_
    refine va_get (D := D) (ci := 0) (v := .ref (aM 0)) (C := RX0) (T := TX0) (N := 3) hx hb hts (fun w9 h9 => List.mem_cons_of_mem _ (inT_X0 w9 h9)) hown hK hP 0 rfl rfl 1 (by decide) (hts (.fieldLink RX0 21 "LinkPredictor$Build" "members" "LLinkPredictor$Members;") (List.mem_cons_of_mem _ mw_1_130)) (fun _ h9 => h9) rfl dX0_checkMember_23 ?_
    refine lv_iload_n hx hb dX0_checkMember_26 rfl (lv_at hl 2 rfl) ?_
    refine ro_V [.int (nI x)] [] ⟨hx, hb, hml, hown, hts⟩ (c_X2_isStatic l D cI cZ cB cR aM g γ n x okm (by omega)) (cwV (C := RX2) 1 hts (goodP (ps := [.methodLink RX0 139 yX2_isStatic, .instanceMethod yX2_isStatic, .selects RX2 yX2_isStatic yX2_isStatic, .initialized RX2]) (all4 mw_2_122 mw_2_123 mw_2_124 mw_1_4) mw_2_125) rfl rfl rfl (by decide +kernel) ⟨Nat.le_of_ble_eq_true rfl, Nat.le_of_ble_eq_true rfl⟩) hEV (wBR_M hP) 0 rfl rfl rfl hl.1 rfl (Nat.le_of_ble_eq_true rfl) dX0_checkMember_27 ⟨Nat.zero_le _, Nat.zero_le _⟩ ?_
    refine lv_aload_n hx hb dX0_checkMember_30 rfl (lv_at hl 1 rfl) ?_
    refine ro_V [] [.int (b2i (bt (γ 3 x) 0))] ⟨hx, hb, hml, hown, hts⟩ (c_X3_needsStatic l D cI cZ cB cR r φ hφ) (cwV (C := RX3) 0 hts (goodP (ps := [.methodLink RX0 169 yX3_needsStatic, .instanceMethod yX3_needsStatic, .selects RX3 yX3_needsStatic yX3_needsStatic, .initialized RX3]) (all4 mw_2_194 mw_2_195 mw_2_196 mw_1_5) mw_2_197) rfl rfl rfl (by decide +kernel) ⟨Nat.le_of_ble_eq_true rfl, Nat.le_of_ble_eq_true rfl⟩) hEV (wBR_R hP) 0 rfl rfl rfl hl.1 rfl (Nat.le_of_ble_eq_true rfl) dX0_checkMember_31 ⟨Nat.zero_le _, Nat.zero_le _⟩ ?_
    refine lv_icmp_eq (tgt := 43) hx hb dX0_checkMember_34 (by decide) (fun c_34 => ?_) (fun c_34 => ?_)
    · skip
      have hE := (if_pos c_34).symm.trans hE
      refine lv_aload_n hx hb dX0_checkMember_43 rfl (lv_at hl 1 rfl) ?_
      refine ro_V [] [] ⟨hx, hb, hml, hown, hts⟩ (c_X3_isPut l D cI cZ cB cR r φ hφ) (cwV (C := RX3) 0 hts (goodP (ps := [.methodLink RX0 172 yX3_isPut, .instanceMethod yX3_isPut, .selects RX3 yX3_isPut yX3_isPut, .initialized RX3]) (all4 mw_2_198 mw_2_199 mw_2_200 mw_1_5) mw_2_201) rfl rfl rfl (by decide +kernel) ⟨Nat.le_of_ble_eq_true rfl, Nat.le_of_ble_eq_true rfl⟩) hEV (wBR_R hP) 0 rfl rfl rfl hl.1 rfl (Nat.le_of_ble_eq_true rfl) dX0_checkMember_44 ⟨Nat.zero_le _, Nat.zero_le _⟩ ?_
      refine lv_if_eq (tgt := 82) hx hb dX0_checkMember_47 (by decide) (fun c_47 => ?_) (fun c_47 => ?_)
      · have c_47 : ¬ ((decide (φ 0 = 1 ∨ φ 0 = 3)) = true) := b2i_f c_47
        have hE := (if_neg c_47).symm.trans hE
        exact key_82  ls  (lv_sub hl [0, 1, 2] rfl) hE
      · have c_47 : (decide (φ 0 = 1 ∨ φ 0 = 3)) = true := b2i_t c_47
        have hE := (if_pos c_47).symm.trans hE
        refine lv_aload_n hx hb dX0_checkMember_50 rfl (lv_at hl 0 rfl) ?_
        refine va_get (D := D) (ci := 0) (v := .ref (aM 0)) (C := RX0) (T := TX0) (N := 3) hx hb hts (fun w9 h9 => List.mem_cons_of_mem _ (inT_X0 w9 h9)) hown hK hP 0 rfl rfl 1 (by decide) (hts (.fieldLink RX0 21 "LinkPredictor$Build" "members" "LLinkPredictor$Members;") (List.mem_cons_of_mem _ mw_1_130)) (fun _ h9 => h9) rfl dX0_checkMember_51 ?_
        refine lv_iload_n hx hb dX0_checkMember_54 rfl (lv_at hl 2 rfl) ?_
        refine ro_V [.int (nI x)] [] ⟨hx, hb, hml, hown, hts⟩ (c_X2_isFinal l D cI cZ cB cR aM g γ n x okm (by omega)) (cwV (C := RX2) 1 hts (goodP (ps := [.methodLink RX0 175 yX2_isFinal, .instanceMethod yX2_isFinal, .selects RX2 yX2_isFinal yX2_isFinal, .initialized RX2]) (all4 mw_2_202 mw_2_203 mw_2_204 mw_1_4) mw_2_205) rfl rfl rfl (by decide +kernel) ⟨Nat.le_of_ble_eq_true rfl, Nat.le_of_ble_eq_true rfl⟩) hEV (wBR_M hP) 0 rfl rfl rfl hl.1 rfl (Nat.le_of_ble_eq_true rfl) dX0_checkMember_55 ⟨Nat.zero_le _, Nat.zero_le _⟩ ?_
        refine lv_if_eq (tgt := 82) hx hb dX0_checkMember_58 (by decide) (fun c_58 => ?_) (fun c_58 => ?_)
        · have c_58 : ¬ ((bt (γ 3 x) 2) = true) := b2i_f c_58
          have hE := (if_neg c_58).symm.trans hE
          exact key_82  ls  (lv_sub hl [0, 1, 2] rfl) hE
        · have c_58 : (bt (γ 3 x) 2) = true := b2i_t c_58
          have hE := (if_pos c_58).symm.trans hE
          refine lv_aload_n hx hb dX0_checkMember_61 rfl (lv_at hl 0 rfl) ?_
          refine va_get (D := D) (ci := 0) (v := .ref (aM 0)) (C := RX0) (T := TX0) (N := 3) hx hb hts (fun w9 h9 => List.mem_cons_of_mem _ (inT_X0 w9 h9)) hown hK hP 0 rfl rfl 1 (by decide) (hts (.fieldLink RX0 21 "LinkPredictor$Build" "members" "LLinkPredictor$Members;") (List.mem_cons_of_mem _ mw_1_130)) (fun _ h9 => h9) rfl dX0_checkMember_62 ?_
          refine lv_iload_n hx hb dX0_checkMember_65 rfl (lv_at hl 2 rfl) ?_
          refine ro_V [.int (nI x)] [] ⟨hx, hb, hml, hown, hts⟩ (c_X2_ownerOf l D cI cZ cB cR aM g γ n x okm (by omega)) (cwV (C := RX2) 1 hts (goodP (ps := [.methodLink RX0 178 yX2_ownerOf, .instanceMethod yX2_ownerOf, .selects RX2 yX2_ownerOf yX2_ownerOf, .initialized RX2]) (all4 mw_2_173 mw_2_174 mw_2_175 mw_1_4) mw_2_176) rfl rfl rfl (by decide +kernel) ⟨Nat.le_of_ble_eq_true rfl, Nat.le_of_ble_eq_true rfl⟩) hEV (wBR_M hP) 0 rfl rfl rfl hl.1 rfl (Nat.le_of_ble_eq_true rfl) dX0_checkMember_66 ⟨Nat.zero_le _, Nat.zero_le _⟩ ?_
          refine lv_aload_n hx hb dX0_checkMember_69 rfl (lv_at hl 1 rfl) ?_
          refine va_getN (D := D) (ci := 3) (v := .int (nI (φ 1))) (C := RX3) (T := TX3) (N := 4) (host := "LinkPredictor") hx hb hts (fun w9 h9 => List.mem_cons_of_mem _ (inT_X3 w9 h9)) hown hK hP 15 rfl rfl 1 (by decide) (va_Nw.use rfl (hEV.2 (.fieldLinkNest RX0 51 "LinkPredictor$Reference" "holder" "I" "LinkPredictor") (by decide +kernel))) (fun _ h9 => h9) rfl dX0_checkMember_70 ?_
          refine lv_icmp_eq (tgt := 82) hx hb dX0_checkMember_73 (by decide) (fun c_73 => ?_) (fun c_73 => ?_)
          · skip
            have hE := (if_pos c_73).symm.trans hE
            exact key_82  ls  (lv_sub hl [0, 1, 2] rfl) hE
          · skip
            have hE := (if_neg c_73).symm.trans hE
            refine lv_sipush (v := (272 : Int32)) hx hb dX0_checkMember_76 (by decide) ?_
            refine lv_iload_n hx hb dX0_checkMember_79 rfl (lv_at hl 2 rfl) ?_
            refine lv_iadd hx hb dX0_checkMember_80 ?_
            refine top_eq (nI_add 272 x) ?_
            exact W.iret hx hb hr (fun t9 ht9 _ => ⟨_, rfl, hE, ht9⟩) (fun _ h9 => by cases h9) dX0_checkMember_81
    · skip
      have hE := (if_neg c_34).symm.trans hE
      refine lv_sipush (v := (208 : Int32)) hx hb dX0_checkMember_37 (by decide) ?_
      refine lv_iload_n hx hb dX0_checkMember_40 rfl (lv_at hl 2 rfl) ?_
      refine lv_iadd hx hb dX0_checkMember_41 ?_
      refine top_eq (nI_add 208 x) ?_
      exact W.iret hx hb hr (fun t9 ht9 _ => ⟨_, rfl, hE, ht9⟩) (fun _ h9 => by cases h9) dX0_checkMember_42
  · skip
    have hE := (if_pos c_13).symm.trans hE
    refine lv_sipush (v := (272 : Int32)) hx hb dX0_checkMember_16 (by decide) ?_
    refine lv_iload_n hx hb dX0_checkMember_19 rfl (lv_at hl 2 rfl) ?_
    refine lv_iadd hx hb dX0_checkMember_20 ?_
    refine top_eq (nI_add 272 x) ?_
    exact W.iret hx hb hr (fun t9 ht9 _ => ⟨_, rfl, hE, ht9⟩) (fun _ h9 => by cases h9) dX0_checkMember_21
noncomputable def p_X0_lookUpMethod_97 (h τ g γ : Nat → Nat → Int32) (n : Nat) (φ : Nat → Nat)  (v3 : Int32) : Int32 := if v3 = (-2 : Int32) then (nI (384 + (φ 2))) else ((16 : Int32) + v3)
noncomputable def p_X0_lookUpMethod_77 (h τ g γ : Nat → Nat → Int32) (n : Nat) (φ : Nat → Nat)  (vs0 : Int32) : Int32 := if vs0 = (-2 : Int32) then (p_X0_lookUpMethod_97 h τ g γ n φ  (p_X0_findBest h τ g γ n (φ 2) (nI (φ 3)))) else (p_X0_lookUpMethod_97 h τ g γ n φ  vs0)
noncomputable def p_X0_lookUpMethod_46 (h τ g γ : Nat → Nat → Int32) (n : Nat) (φ : Nat → Nat)  (z2 : Bool) : Int32 := if z2 = true then (p_X0_lookUpMethod_77 h τ g γ n φ  (p_X0_findInInterface h τ g γ n (φ 2) (nI (φ 3)))) else (p_X0_lookUpMethod_77 h τ g γ n φ  (p_X0_findInAbove h τ g γ n (φ 2) (nI (φ 3))))
noncomputable def p_X0_lookUpMethod_24 (h τ g γ : Nat → Nat → Int32) (n : Nat) (φ : Nat → Nat)  (z2 : Bool) : Int32 := if (φ 0) = 7 then (if z2 = true then (p_X0_lookUpMethod_46 h τ g γ n φ  z2) else (nI (192 + (φ 2)))) else (p_X0_lookUpMethod_46 h τ g γ n φ  z2)
noncomputable def p_X0_lookUpMethod (h τ g γ : Nat → Nat → Int32) (n : Nat) (φ : Nat → Nat)  : Int32 := if (φ 0) = 4 then (if (bt (τ 1 (φ 2)) 1) = true then (nI (192 + (φ 2))) else (p_X0_lookUpMethod_24 h τ g γ n φ  (bt (τ 1 (φ 2)) 1))) else (p_X0_lookUpMethod_24 h τ g γ n φ  (bt (τ 1 (φ 2)) 1))
set_option maxHeartbeats 4000000 in
set_option maxRecDepth 100000 in
theorem c_X0_lookUpMethod (l : Launch) (D : va_G) (cI cZ cB cR : ClassId) (b : Nat) (aH aM : Nat → Nat) (h τ g γ : Nat → Nat → Int32) (n : Nat) (se : Int32) (r : Nat) (φ : Nat → Nat)  (okh : OKH h τ) (wf : WFT τ) (okm : OKM g γ n) (wm : WFM γ n) (hφ : φR φ)   : RO l yX0_lookUpMethod wsX0_lookUpMethod ({ frames := 4, cells := 0, slots := 0, locals := 95 } : Room) D cI cZ cB cR (wBR cI b aH aM h g se r φ) [.ref b, .ref r] (p_X0_lookUpMethod h τ g γ n φ ) := by
  generalize hE : p_X0_lookUpMethod h τ g γ n φ  = tgt
  refine Met.ofW (cc := cX0_lookUpMethod) (maxL := 4) (ret := (some .int)) (by decide) rfl ?_
  intro p e s m args below meth c s₁ B hml hv
  obtain ⟨hargs, hP, hEV⟩ := hv
  have hx := B.exec
  have hb := B.bytes
  have hr := B.returns
  have hts := atoms_spec (ws := wsX0_lookUpMethod) B.pre
  have hown : s.vm.findClass RX0 = some m.cls := findClass_of_methodNamed B.named
  have hlocks := B.notSynchronized
  have hK := hEV.1
  have hl := lv_entry ([.ref b, .ref r]) (n := 4) (Nat.le_of_ble_eq_true rfl)
  rw [show entryFrame m args 4 = entryFrame m ([.ref b, .ref r] : List Value).toArray 4 from by rw [hargs], lg_entry_eq]
  generalize (lg_sl ([.ref b, .ref r]) ++ List.replicate (4 - (lg_sl ([.ref b, .ref r])).length) Slot.unset).toArray = ls at hl ⊢
  have hl : lv_has ls 4 [(0, .ref b), (1, .ref r)] := hl
  rw [p_X0_lookUpMethod] at hE
  have hn30 := okm.2.1
  obtain ⟨hf0, hf1, hf2, hf3⟩ := id hφ
  have key_97 : ∀ (v3 : Int32) (ls : Array Slot), lv_has ls 4 [(3, .int v3), (1, .ref r)] → p_X0_lookUpMethod_97 h τ g γ n φ  v3 = tgt → W p l e (headSpec wsX0_lookUpMethod ({ frames := 4, cells := 0, slots := 0, locals := 95 } : Room)).room s m args below meth c s.heap [] 0 0 (MQ below (vp_Si (fun r => r = tgt)) args s 0 0 (fun _ => False)) (F0 m 97 ls []) := by
    intro v3 ls  hl hE
    rw [p_X0_lookUpMethod_97] at hE
    refine lv_iload_n hx hb dX0_lookUpMethod_97 rfl (lv_at hl 0 rfl) ?_
    refine lv_bipush (v := (-2 : Int32)) hx hb dX0_lookUpMethod_98 (by decide) ?_
    refine lv_icmp_ne (tgt := 114) hx hb dX0_lookUpMethod_100 (by decide) (fun c_100 => ?_) (fun c_100 => ?_)
    · skip
      have hE := (if_neg c_100).symm.trans hE
      refine lv_bipush (v := (16 : Int32)) hx hb dX0_lookUpMethod_114 (by decide) ?_
      refine lv_iload_n hx hb dX0_lookUpMethod_116 rfl (lv_at hl 0 rfl) ?_
      refine lv_iadd hx hb dX0_lookUpMethod_117 ?_
      exact W.iret hx hb hr (fun t9 ht9 _ => ⟨_, rfl, hE, ht9⟩) (fun _ h9 => by cases h9) dX0_lookUpMethod_118
    · skip
      have hE := (if_pos c_100).symm.trans hE
      refine lv_sipush (v := (384 : Int32)) hx hb dX0_lookUpMethod_103 (by decide) ?_
      refine lv_aload_n hx hb dX0_lookUpMethod_106 rfl (lv_at hl 1 rfl) ?_
      refine va_getN (D := D) (ci := 3) (v := .int (nI (φ 2))) (C := RX3) (T := TX3) (N := 4) (host := "LinkPredictor") hx hb hts (fun w9 h9 => List.mem_cons_of_mem _ (inT_X3 w9 h9)) hown hK hP 15 rfl rfl 2 (by decide) (va_Nw.use rfl (hEV.2 (.fieldLinkNest RX0 64 "LinkPredictor$Reference" "way" "I" "LinkPredictor") (by decide +kernel))) (fun _ h9 => h9) rfl dX0_lookUpMethod_107 ?_
      refine lv_iadd hx hb dX0_lookUpMethod_110 ?_
      refine top_eq (nI_add 384 (φ 2)) ?_
      refine lv_goto (tgt := 118) hx hb dX0_lookUpMethod_111 (by decide) ?_
      exact W.iret hx hb hr (fun t9 ht9 _ => ⟨_, rfl, hE, ht9⟩) (fun _ h9 => by cases h9) dX0_lookUpMethod_118
  have key_77 : ∀ (vs0 : Int32) (ls : Array Slot), lv_has ls 4 [(0, .ref b), (1, .ref r)] → p_X0_lookUpMethod_77 h τ g γ n φ  vs0 = tgt → W p l e (headSpec wsX0_lookUpMethod ({ frames := 4, cells := 0, slots := 0, locals := 95 } : Room)).room s m args below meth c s.heap [] 0 0 (MQ below (vp_Si (fun r => r = tgt)) args s 0 0 (fun _ => False)) (F0 m 77 ls [.int vs0]) := by
    intro vs0 ls  hl hE
    rw [p_X0_lookUpMethod_77] at hE
    refine lv_istore_n (lv' := [(3, .int vs0), (0, .ref b), (1, .ref r)]) hx hb dX0_lookUpMethod_77 rfl hl (by decide) rfl (fun ls hl => ?_)
    refine lv_iload_n hx hb dX0_lookUpMethod_78 rfl (lv_at hl 0 rfl) ?_
    refine lv_bipush (v := (-2 : Int32)) hx hb dX0_lookUpMethod_79 (by decide) ?_
    refine lv_icmp_ne (tgt := 97) hx hb dX0_lookUpMethod_81 (by decide) (fun c_81 => ?_) (fun c_81 => ?_)
    · skip
      have hE := (if_neg c_81).symm.trans hE
      exact key_97 vs0 ls  (lv_sub hl [0, 2] rfl) hE
    · skip
      have hE := (if_pos c_81).symm.trans hE
      refine lv_aload_n hx hb dX0_lookUpMethod_84 rfl (lv_at hl 1 rfl) ?_
      refine lv_aload_n hx hb dX0_lookUpMethod_85 rfl (lv_at hl 2 rfl) ?_
      refine va_getN (D := D) (ci := 3) (v := .int (nI (φ 2))) (C := RX3) (T := TX3) (N := 4) (host := "LinkPredictor") hx hb hts (fun w9 h9 => List.mem_cons_of_mem _ (inT_X3 w9 h9)) hown hK hP 15 rfl rfl 2 (by decide) (va_Nw.use rfl (hEV.2 (.fieldLinkNest RX0 64 "LinkPredictor$Reference" "way" "I" "LinkPredictor") (by decide +kernel))) (fun _ h9 => h9) rfl dX0_lookUpMethod_86 ?_
      refine lv_aload_n hx hb dX0_lookUpMethod_89 rfl (lv_at hl 2 rfl) ?_
      refine va_getN (D := D) (ci := 3) (v := .int (nI (φ 3))) (C := RX3) (T := TX3) (N := 4) (host := "LinkPredictor") hx hb hts (fun w9 h9 => List.mem_cons_of_mem _ (inT_X3 w9 h9)) hown hK hP 15 rfl rfl 3 (by decide) (va_Nw.use rfl (hEV.2 (.fieldLinkNest RX0 99 "LinkPredictor$Reference" "sign" "I" "LinkPredictor") (by decide +kernel))) (fun _ h9 => h9) rfl dX0_lookUpMethod_90 ?_
      refine ro_V [.int (nI (φ 2)), .int (nI (φ 3))] [] ⟨hx, hb, hml, hown, hts⟩ (c_X0_findBest l D cI cZ cB cR b aH aM h τ g γ n se (φ 2) (nI (φ 3)) okh wf okm wm (by omega) ) (cwV (C := RX0) 2 hts (goodP (ps := [.methodLink RX0 136 yX0_findBest, .instanceMethod yX0_findBest, .selects RX0 yX0_findBest yX0_findBest, .initialized RX0]) (all4 mw_2_130 mw_2_132 ms_11 mw_1_2) mw_2_133) rfl rfl rfl (by decide +kernel) ⟨Nat.le_of_ble_eq_true rfl, Nat.le_of_ble_eq_true rfl⟩) hEV (wBR_B hP) 0 rfl rfl rfl hl.1 rfl (Nat.le_of_ble_eq_true rfl) dX0_lookUpMethod_93 ⟨Nat.zero_le _, Nat.zero_le _⟩ ?_
      refine lv_istore_n (lv' := [(3, .int (p_X0_findBest h τ g γ n (φ 2) (nI (φ 3)))), (0, .ref b), (1, .ref r)]) hx hb dX0_lookUpMethod_96 rfl hl (by decide) rfl (fun ls hl => ?_)
      exact key_97 (p_X0_findBest h τ g γ n (φ 2) (nI (φ 3))) ls  (lv_sub hl [0, 2] rfl) hE
  have key_46 : ∀ (z2 : Bool) (ls : Array Slot), lv_has ls 4 [(2, .int (b2i z2)), (0, .ref b), (1, .ref r)] → p_X0_lookUpMethod_46 h τ g γ n φ  z2 = tgt → W p l e (headSpec wsX0_lookUpMethod ({ frames := 4, cells := 0, slots := 0, locals := 95 } : Room)).room s m args below meth c s.heap [] 0 0 (MQ below (vp_Si (fun r => r = tgt)) args s 0 0 (fun _ => False)) (F0 m 46 ls []) := by
    intro z2 ls  hl hE
    rw [p_X0_lookUpMethod_46] at hE
    refine lv_iload_n hx hb dX0_lookUpMethod_46 rfl (lv_at hl 0 rfl) ?_
    refine lv_if_eq (tgt := 65) hx hb dX0_lookUpMethod_47 (by decide) (fun c_47 => ?_) (fun c_47 => ?_)
    · have c_47 : ¬ (z2 = true) := b2i_f c_47
      have hE := (if_neg c_47).symm.trans hE
      refine lv_aload_n hx hb dX0_lookUpMethod_65 rfl (lv_at hl 1 rfl) ?_
      refine lv_aload_n hx hb dX0_lookUpMethod_66 rfl (lv_at hl 2 rfl) ?_
      refine va_getN (D := D) (ci := 3) (v := .int (nI (φ 2))) (C := RX3) (T := TX3) (N := 4) (host := "LinkPredictor") hx hb hts (fun w9 h9 => List.mem_cons_of_mem _ (inT_X3 w9 h9)) hown hK hP 15 rfl rfl 2 (by decide) (va_Nw.use rfl (hEV.2 (.fieldLinkNest RX0 64 "LinkPredictor$Reference" "way" "I" "LinkPredictor") (by decide +kernel))) (fun _ h9 => h9) rfl dX0_lookUpMethod_67 ?_
      refine lv_aload_n hx hb dX0_lookUpMethod_70 rfl (lv_at hl 2 rfl) ?_
      refine va_getN (D := D) (ci := 3) (v := .int (nI (φ 3))) (C := RX3) (T := TX3) (N := 4) (host := "LinkPredictor") hx hb hts (fun w9 h9 => List.mem_cons_of_mem _ (inT_X3 w9 h9)) hown hK hP 15 rfl rfl 3 (by decide) (va_Nw.use rfl (hEV.2 (.fieldLinkNest RX0 99 "LinkPredictor$Reference" "sign" "I" "LinkPredictor") (by decide +kernel))) (fun _ h9 => h9) rfl dX0_lookUpMethod_71 ?_
      refine ro_V [.int (nI (φ 2)), .int (nI (φ 3))] [] ⟨hx, hb, hml, hown, hts⟩ (c_X0_findInAbove l D cI cZ cB cR b aH aM h τ g γ n se (φ 2) (nI (φ 3)) okh wf okm wm (by omega) ) (cwV (C := RX0) 2 hts (goodP (ps := [.methodLink RX0 133 yX0_findInAbove, .instanceMethod yX0_findInAbove, .selects RX0 yX0_findInAbove yX0_findInAbove, .initialized RX0]) (all4 mw_2_126 mw_2_128 ms_10 mw_1_2) mw_2_129) rfl rfl rfl (by decide +kernel) ⟨Nat.le_of_ble_eq_true rfl, Nat.le_of_ble_eq_true rfl⟩) hEV (wBR_B hP) 0 rfl rfl rfl hl.1 rfl (Nat.le_of_ble_eq_true rfl) dX0_lookUpMethod_74 ⟨Nat.zero_le _, Nat.zero_le _⟩ ?_
      exact key_77 (p_X0_findInAbove h τ g γ n (φ 2) (nI (φ 3))) ls  (lv_sub hl [1, 2] rfl) hE
    · have c_47 : z2 = true := b2i_t c_47
      have hE := (if_pos c_47).symm.trans hE
      refine lv_aload_n hx hb dX0_lookUpMethod_50 rfl (lv_at hl 1 rfl) ?_
      refine lv_aload_n hx hb dX0_lookUpMethod_51 rfl (lv_at hl 2 rfl) ?_
      refine va_getN (D := D) (ci := 3) (v := .int (nI (φ 2))) (C := RX3) (T := TX3) (N := 4) (host := "LinkPredictor") hx hb hts (fun w9 h9 => List.mem_cons_of_mem _ (inT_X3 w9 h9)) hown hK hP 15 rfl rfl 2 (by decide) (va_Nw.use rfl (hEV.2 (.fieldLinkNest RX0 64 "LinkPredictor$Reference" "way" "I" "LinkPredictor") (by decide +kernel))) (fun _ h9 => h9) rfl dX0_lookUpMethod_52 ?_
      refine lv_aload_n hx hb dX0_lookUpMethod_55 rfl (lv_at hl 2 rfl) ?_
      refine va_getN (D := D) (ci := 3) (v := .int (nI (φ 3))) (C := RX3) (T := TX3) (N := 4) (host := "LinkPredictor") hx hb hts (fun w9 h9 => List.mem_cons_of_mem _ (inT_X3 w9 h9)) hown hK hP 15 rfl rfl 3 (by decide) (va_Nw.use rfl (hEV.2 (.fieldLinkNest RX0 99 "LinkPredictor$Reference" "sign" "I" "LinkPredictor") (by decide +kernel))) (fun _ h9 => h9) rfl dX0_lookUpMethod_56 ?_
      refine ro_V [.int (nI (φ 2)), .int (nI (φ 3))] [] ⟨hx, hb, hml, hown, hts⟩ (c_X0_findInInterface l D cI cZ cB cR b aH aM h τ g γ n se (φ 2) (nI (φ 3)) okh wf okm wm (by omega) ) (cwV (C := RX0) 2 hts (goodP (ps := [.methodLink RX0 130 yX0_findInInterface, .instanceMethod yX0_findInInterface, .selects RX0 yX0_findInInterface yX0_findInInterface, .initialized RX0]) (all4 mw_2_114 mw_2_116 ms_9 mw_1_2) mw_2_117) rfl rfl rfl (by decide +kernel) ⟨Nat.le_of_ble_eq_true rfl, Nat.le_of_ble_eq_true rfl⟩) hEV (wBR_B hP) 0 rfl rfl rfl hl.1 rfl (Nat.le_of_ble_eq_true rfl) dX0_lookUpMethod_59 ⟨Nat.zero_le _, Nat.zero_le _⟩ ?_
      refine lv_goto (tgt := 77) hx hb dX0_lookUpMethod_62 (by decide) ?_
      exact key_77 (p_X0_findInInterface h τ g γ n (φ 2) (nI (φ 3))) ls  (lv_sub hl [1, 2] rfl) hE
  have key_24 : ∀ (z2 : Bool) (ls : Array Slot), lv_has ls 4 [(2, .int (b2i z2)), (0, .ref b), (1, .ref r)] → p_X0_lookUpMethod_24 h τ g γ n φ  z2 = tgt → W p l e (headSpec wsX0_lookUpMethod ({ frames := 4, cells := 0, slots := 0, locals := 95 } : Room)).room s m args below meth c s.heap [] 0 0 (MQ below (vp_Si (fun r => r = tgt)) args s 0 0 (fun _ => False)) (F0 m 24 ls []) := by
    intro z2 ls  hl hE
    rw [p_X0_lookUpMethod_24] at hE
    refine lv_aload_n hx hb dX0_lookUpMethod_24 rfl (lv_at hl 2 rfl) ?_
    refine va_getN (D := D) (ci := 3) (v := .int (nI (φ 0))) (C := RX3) (T := TX3) (N := 4) (host := "LinkPredictor") hx hb hts (fun w9 h9 => List.mem_cons_of_mem _ (inT_X3 w9 h9)) hown hK hP 15 rfl rfl 0 (by decide) (va_Nw.use rfl (hEV.2 (.fieldLinkNest RX0 71 "LinkPredictor$Reference" "kind" "I" "LinkPredictor") (by decide +kernel))) (fun _ h9 => h9) rfl dX0_lookUpMethod_25 ?_
    refine lv_bipush (v := (7 : Int32)) hx hb dX0_lookUpMethod_28 (by decide) ?_
    refine lv_icmp_ne (tgt := 46) hx hb dX0_lookUpMethod_30 (by decide) (fun c_30 => ?_) (fun c_30 => ?_)
    · have c_30 : ¬ ((φ 0) = 7) := fun q9 => c_30 ((nI_eq (a := (φ 0)) (b := 7) (by omega) (by omega)).mpr q9)
      have hE := (if_neg c_30).symm.trans hE
      exact key_46 z2 ls  (lv_sub hl [0, 1, 2] rfl) hE
    · have c_30 : (φ 0) = 7 := (nI_eq (a := (φ 0)) (b := 7) (by omega) (by omega)).mp c_30
      have hE := (if_pos c_30).symm.trans hE
      refine lv_iload_n hx hb dX0_lookUpMethod_33 rfl (lv_at hl 0 rfl) ?_
      refine lv_if_ne (tgt := 46) hx hb dX0_lookUpMethod_34 (by decide) (fun c_34 => ?_) (fun c_34 => ?_)
      · have c_34 : z2 = true := b2i_t c_34
        have hE := (if_pos c_34).symm.trans hE
        exact key_46 z2 ls  (lv_sub hl [0, 1, 2] rfl) hE
      · have c_34 : ¬ (z2 = true) := b2i_f c_34
        have hE := (if_neg c_34).symm.trans hE
        refine lv_sipush (v := (192 : Int32)) hx hb dX0_lookUpMethod_37 (by decide) ?_
        refine lv_aload_n hx hb dX0_lookUpMethod_40 rfl (lv_at hl 2 rfl) ?_
        refine va_getN (D := D) (ci := 3) (v := .int (nI (φ 2))) (C := RX3) (T := TX3) (N := 4) (host := "LinkPredictor") hx hb hts (fun w9 h9 => List.mem_cons_of_mem _ (inT_X3 w9 h9)) hown hK hP 15 rfl rfl 2 (by decide) (va_Nw.use rfl (hEV.2 (.fieldLinkNest RX0 64 "LinkPredictor$Reference" "way" "I" "LinkPredictor") (by decide +kernel))) (fun _ h9 => h9) rfl dX0_lookUpMethod_41 ?_
        refine lv_iadd hx hb dX0_lookUpMethod_44 ?_
        refine top_eq (nI_add 192 (φ 2)) ?_
        exact W.iret hx hb hr (fun t9 ht9 _ => ⟨_, rfl, hE, ht9⟩) (fun _ h9 => by cases h9) dX0_lookUpMethod_45
  refine lv_aload_n hx hb dX0_lookUpMethod_0 rfl (lv_at hl 0 rfl) ?_
  refine va_get (D := D) (ci := 0) (v := .ref (aH 0)) (C := RX0) (T := TX0) (N := 3) hx hb hts (fun w9 h9 => List.mem_cons_of_mem _ (inT_X0 w9 h9)) hown hK hP 0 rfl rfl 0 (by decide) (hts (.fieldLink RX0 12 "LinkPredictor$Build" "types" "LLinkPredictor$Hierarchy;") (List.mem_cons_of_mem _ mw_1_128)) (fun _ h9 => h9) rfl dX0_lookUpMethod_1 ?_
  refine lv_aload_n hx hb dX0_lookUpMethod_4 rfl (lv_at hl 1 rfl) ?_
  refine va_getN (D := D) (ci := 3) (v := .int (nI (φ 2))) (C := RX3) (T := TX3) (N := 4) (host := "LinkPredictor") hx hb hts (fun w9 h9 => List.mem_cons_of_mem _ (inT_X3 w9 h9)) hown hK hP 15 rfl rfl 2 (by decide) (va_Nw.use rfl (hEV.2 (.fieldLinkNest RX0 64 "LinkPredictor$Reference" "way" "I" "LinkPredictor") (by decide +kernel))) (fun _ h9 => h9) rfl dX0_lookUpMethod_5 ?_
  refine ro_V [.int (nI (φ 2))] [] ⟨hx, hb, hml, hown, hts⟩ (c_X1_isInterface l D cI cZ cB cR aH h τ (φ 2) okh.b (by omega)) (cwV (C := RX1) 1 hts (goodP (ps := [.methodLink RX0 127 yX1_isInterface, .instanceMethod yX1_isInterface, .selects RX1 yX1_isInterface yX1_isInterface, .initialized RX1]) (all4 mw_2_113 mw_1_64 mw_1_65 mw_1_3) mw_1_66) rfl rfl rfl (by decide +kernel) ⟨Nat.le_of_ble_eq_true rfl, Nat.le_of_ble_eq_true rfl⟩) hEV (wBR_H hP) 0 rfl rfl rfl hl.1 rfl (Nat.le_of_ble_eq_true rfl) dX0_lookUpMethod_8 ⟨Nat.zero_le _, Nat.zero_le _⟩ ?_
  refine lv_istore_n (lv' := [(2, .int (b2i (bt (τ 1 (φ 2)) 1))), (0, .ref b), (1, .ref r)]) hx hb dX0_lookUpMethod_11 rfl hl (by decide) rfl (fun ls hl => ?_)
  refine lv_aload_n hx hb dX0_lookUpMethod_12 rfl (lv_at hl 2 rfl) ?_
  refine va_getN (D := D) (ci := 3) (v := .int (nI (φ 0))) (C := RX3) (T := TX3) (N := 4) (host := "LinkPredictor") hx hb hts (fun w9 h9 => List.mem_cons_of_mem _ (inT_X3 w9 h9)) hown hK hP 15 rfl rfl 0 (by decide) (va_Nw.use rfl (hEV.2 (.fieldLinkNest RX0 71 "LinkPredictor$Reference" "kind" "I" "LinkPredictor") (by decide +kernel))) (fun _ h9 => h9) rfl dX0_lookUpMethod_13 ?_
  refine lv_iconst (v := (4 : Int32)) hx hb dX0_lookUpMethod_16 (by decide) ?_
  refine lv_icmp_ne (tgt := 24) hx hb dX0_lookUpMethod_17 (by decide) (fun c_17 => ?_) (fun c_17 => ?_)
  · have c_17 : ¬ ((φ 0) = 4) := fun q9 => c_17 ((nI_eq (a := (φ 0)) (b := 4) (by omega) (by omega)).mpr q9)
    have hE := (if_neg c_17).symm.trans hE
    exact key_24 (bt (τ 1 (φ 2)) 1) ls  (lv_sub hl [0, 1, 2] rfl) hE
  · have c_17 : (φ 0) = 4 := (nI_eq (a := (φ 0)) (b := 4) (by omega) (by omega)).mp c_17
    have hE := (if_pos c_17).symm.trans hE
    refine lv_iload_n hx hb dX0_lookUpMethod_20 rfl (lv_at hl 0 rfl) ?_
    refine lv_if_ne (tgt := 37) hx hb dX0_lookUpMethod_21 (by decide) (fun c_21 => ?_) (fun c_21 => ?_)
    · have c_21 : (bt (τ 1 (φ 2)) 1) = true := b2i_t c_21
      have hE := (if_pos c_21).symm.trans hE
      refine lv_sipush (v := (192 : Int32)) hx hb dX0_lookUpMethod_37 (by decide) ?_
      refine lv_aload_n hx hb dX0_lookUpMethod_40 rfl (lv_at hl 2 rfl) ?_
      refine va_getN (D := D) (ci := 3) (v := .int (nI (φ 2))) (C := RX3) (T := TX3) (N := 4) (host := "LinkPredictor") hx hb hts (fun w9 h9 => List.mem_cons_of_mem _ (inT_X3 w9 h9)) hown hK hP 15 rfl rfl 2 (by decide) (va_Nw.use rfl (hEV.2 (.fieldLinkNest RX0 64 "LinkPredictor$Reference" "way" "I" "LinkPredictor") (by decide +kernel))) (fun _ h9 => h9) rfl dX0_lookUpMethod_41 ?_
      refine lv_iadd hx hb dX0_lookUpMethod_44 ?_
      refine top_eq (nI_add 192 (φ 2)) ?_
      exact W.iret hx hb hr (fun t9 ht9 _ => ⟨_, rfl, hE, ht9⟩) (fun _ h9 => by cases h9) dX0_lookUpMethod_45
    · have c_21 : ¬ ((bt (τ 1 (φ 2)) 1) = true) := b2i_f c_21
      have hE := (if_neg c_21).symm.trans hE
      exact key_24 (bt (τ 1 (φ 2)) 1) ls  (lv_sub hl [0, 1, 2] rfl) hE
noncomputable def p_X0_selection_68 (h τ g γ : Nat → Nat → Int32) (n : Nat) (φ : Nat → Nat) (x : Int32) (y : Nat) (vs0 : Int32) : Int32 := if (gd vs0) = true then (p_X0_checkSelected h τ g γ n φ (sN vs0 - 16)) else (vs0)
noncomputable def p_X0_selection (h τ g γ : Nat → Nat → Int32) (n : Nat) (φ : Nat → Nat) (x : Int32) (y : Nat) : Int32 := if (decide (φ 0 = 4 ∨ φ 0 = 7)) = true then (if (gd x) = true then (if (p_X0_isFit h τ g γ n y (φ 2)) = (0 : Int32) then (nI (512 + y)) else (if (γ 2 (sN x - 16)) = (0 : Int32) then (p_X0_selection_68 h τ g γ n φ x y x) else (p_X0_selection_68 h τ g γ n φ x y (p_X0_selectFor h τ g γ n y (sN x - 16) (nI (φ 3)))))) else ((-2 : Int32))) else ((-2 : Int32))
set_option maxHeartbeats 4000000 in
set_option maxRecDepth 100000 in
theorem c_X0_selection (l : Launch) (D : va_G) (cI cZ cB cR : ClassId) (b : Nat) (aH aM : Nat → Nat) (h τ g γ : Nat → Nat → Int32) (n : Nat) (se : Int32) (r : Nat) (φ : Nat → Nat) (x : Int32) (y : Nat) (okh : OKH h τ) (wf : WFT τ) (okm : OKM g γ n) (wm : WFM γ n) (hφ : φR φ) (hny : y < 12) (hy1 : decide (φ 0 = 4 ∨ φ 0 = 7) = true → gd x = true → g16 n x) : RO l yX0_selection wsX0_selection ({ frames := 5, cells := 0, slots := 0, locals := 121 } : Room) D cI cZ cB cR (wBR cI b aH aM h g se r φ) [.ref b, .ref r, .int x, .int (nI y)] (p_X0_selection h τ g γ n φ x y) := by
  generalize hE : p_X0_selection h τ g γ n φ x y = tgt
  refine Met.ofW (cc := cX0_selection) (maxL := 6) (ret := (some .int)) (by decide) rfl ?_
  intro p e s m args below meth c s₁ B hml hv
  obtain ⟨hargs, hP, hEV⟩ := hv
  have hx := B.exec
  have hb := B.bytes
  have hr := B.returns
  have hts := atoms_spec (ws := wsX0_selection) B.pre
  have hown : s.vm.findClass RX0 = some m.cls := findClass_of_methodNamed B.named
  have hlocks := B.notSynchronized
  have hK := hEV.1
  have hl := lv_entry ([.ref b, .ref r, .int x, .int (nI y)]) (n := 6) (Nat.le_of_ble_eq_true rfl)
  rw [show entryFrame m args 6 = entryFrame m ([.ref b, .ref r, .int x, .int (nI y)] : List Value).toArray 6 from by rw [hargs], lg_entry_eq]
  generalize (lg_sl ([.ref b, .ref r, .int x, .int (nI y)]) ++ List.replicate (6 - (lg_sl ([.ref b, .ref r, .int x, .int (nI y)])).length) Slot.unset).toArray = ls at hl ⊢
  have hl : lv_has ls 6 [(0, .ref b), (1, .ref r), (2, .int x), (3, .int (nI y))] := hl
  rw [p_X0_selection] at hE
  have hn30 := okm.2.1
  obtain ⟨hf0, hf1, hf2, hf3⟩ := id hφ
  have key_68 : ∀ (vs0 : Int32) (ls : Array Slot), (gd vs0 = true → g16 n vs0) → lv_has ls 6 [(0, .ref b), (1, .ref r)] → p_X0_selection_68 h τ g γ n φ x y vs0 = tgt → W p l e (headSpec wsX0_selection ({ frames := 5, cells := 0, slots := 0, locals := 121 } : Room)).room s m args below meth c s.heap [] 0 0 (MQ below (vp_Si (fun r => r = tgt)) args s 0 0 (fun _ => False)) (F0 m 68 ls [.int vs0]) := by
    intro vs0 ls hi_68_0 hl hE
    rw [p_X0_selection_68] at hE
    refine lv_istore (lv' := [(5, .int vs0), (0, .ref b), (1, .ref r)]) hx hb dX0_selection_68 hl (by decide) rfl (fun ls hl => ?_)
    refine lv_iload hx hb dX0_selection_70 (lv_at hl 0 rfl) ?_
    refine ro_SN [.int vs0] [] ⟨hx, hb, hml, hown, hts⟩ (c_X4_isGood l D cI cZ cB cR vs0) (va_cnB (host := "LinkPredictor") 1 hts (goodC mw_1_55) rfl rfl rfl (hEV.2 (.methodLinkNest RX0 61 yX4_isGood "LinkPredictor") (by decide +kernel)) (hts (.initialized RX4) (List.mem_cons_of_mem _ mw_1_1)) (by decide +kernel) ⟨Nat.le_of_ble_eq_true rfl, Nat.le_of_ble_eq_true rfl⟩) (hts (.static yX4_isGood) (List.mem_cons_of_mem _ mw_1_54)) hEV va_P0 rfl hl.1 rfl (Nat.le_of_ble_eq_true rfl) dX0_selection_72 ⟨Nat.zero_le _, Nat.zero_le _⟩ ?_
    refine lv_if_eq (tgt := 91) hx hb dX0_selection_75 (by decide) (fun c_75 => ?_) (fun c_75 => ?_)
    · have c_75 : ¬ ((gd vs0) = true) := b2i_f c_75
      have hE := (if_neg c_75).symm.trans hE
      refine lv_iload hx hb dX0_selection_91 (lv_at hl 0 rfl) ?_
      exact W.iret hx hb hr (fun t9 ht9 _ => ⟨_, rfl, hE, ht9⟩) (fun _ h9 => by cases h9) dX0_selection_93
    · have c_75 : (gd vs0) = true := b2i_t c_75
      have hE := (if_pos c_75).symm.trans hE
      have hm9 := (g16_sub hn30 (hi_68_0 c_75)).1
      refine lv_aload_n hx hb dX0_selection_78 rfl (lv_at hl 1 rfl) ?_
      refine lv_aload_n hx hb dX0_selection_79 rfl (lv_at hl 2 rfl) ?_
      refine lv_iload hx hb dX0_selection_80 (lv_at hl 0 rfl) ?_
      refine lv_bipush (v := (16 : Int32)) hx hb dX0_selection_82 (by decide) ?_
      refine lv_isub hx hb dX0_selection_84 ?_
      refine top_eq ((g16_sub hn30 (hi_68_0 c_75)).2) ?_
      refine ro_V [.ref r, .int (nI (sN vs0 - 16))] [] ⟨hx, hb, hml, hown, hts⟩ (c_X0_checkSelected l D cI cZ cB cR b aH aM h τ g γ n se r φ (sN vs0 - 16) okh wf okm wm hφ (by omega) ) (cwV (C := RX0) 2 hts (goodP (ps := [.methodLink RX0 106 yX0_checkSelected, .instanceMethod yX0_checkSelected, .selects RX0 yX0_checkSelected yX0_checkSelected, .initialized RX0]) (all4 mw_2_239 mw_3_1 ms_21 mw_1_2) mw_3_2) rfl rfl rfl (by decide +kernel) ⟨Nat.le_of_ble_eq_true rfl, Nat.le_of_ble_eq_true rfl⟩) hEV hP 0 rfl rfl rfl hl.1 rfl (Nat.le_of_ble_eq_true rfl) dX0_selection_85 ⟨Nat.zero_le _, Nat.zero_le _⟩ ?_
      refine lv_goto (tgt := 93) hx hb dX0_selection_88 (by decide) ?_
      exact W.iret hx hb hr (fun t9 ht9 _ => ⟨_, rfl, hE, ht9⟩) (fun _ h9 => by cases h9) dX0_selection_93
  refine lv_aload_n hx hb dX0_selection_0 rfl (lv_at hl 1 rfl) ?_
  refine ro_V [] [] ⟨hx, hb, hml, hown, hts⟩ (c_X3_hasReceiver l D cI cZ cB cR r φ hφ) (cwV (C := RX3) 0 hts (goodP (ps := [.methodLink RX0 89 yX3_hasReceiver, .instanceMethod yX3_hasReceiver, .selects RX3 yX3_hasReceiver yX3_hasReceiver, .initialized RX3]) (all4 mw_2_214 mw_2_215 mw_2_216 mw_1_5) mw_2_217) rfl rfl rfl (by decide +kernel) ⟨Nat.le_of_ble_eq_true rfl, Nat.le_of_ble_eq_true rfl⟩) hEV (wBR_R hP) 0 rfl rfl rfl hl.1 rfl (Nat.le_of_ble_eq_true rfl) dX0_selection_1 ⟨Nat.zero_le _, Nat.zero_le _⟩ ?_
  refine lv_if_eq (tgt := 14) hx hb dX0_selection_4 (by decide) (fun c_4 => ?_) (fun c_4 => ?_)
  · have c_4 : ¬ ((decide (φ 0 = 4 ∨ φ 0 = 7)) = true) := b2i_f c_4
    have hE := (if_neg c_4).symm.trans hE
    refine lv_bipush (v := (-2 : Int32)) hx hb dX0_selection_14 (by decide) ?_
    exact W.iret hx hb hr (fun t9 ht9 _ => ⟨_, rfl, hE, ht9⟩) (fun _ h9 => by cases h9) dX0_selection_16
  · have c_4 : (decide (φ 0 = 4 ∨ φ 0 = 7)) = true := b2i_t c_4
    have hE := (if_pos c_4).symm.trans hE
    refine lv_iload_n hx hb dX0_selection_7 rfl (lv_at hl 2 rfl) ?_
    refine ro_SN [.int x] [] ⟨hx, hb, hml, hown, hts⟩ (c_X4_isGood l D cI cZ cB cR x) (va_cnB (host := "LinkPredictor") 1 hts (goodC mw_1_55) rfl rfl rfl (hEV.2 (.methodLinkNest RX0 61 yX4_isGood "LinkPredictor") (by decide +kernel)) (hts (.initialized RX4) (List.mem_cons_of_mem _ mw_1_1)) (by decide +kernel) ⟨Nat.le_of_ble_eq_true rfl, Nat.le_of_ble_eq_true rfl⟩) (hts (.static yX4_isGood) (List.mem_cons_of_mem _ mw_1_54)) hEV va_P0 rfl hl.1 rfl (Nat.le_of_ble_eq_true rfl) dX0_selection_8 ⟨Nat.zero_le _, Nat.zero_le _⟩ ?_
    refine lv_if_ne (tgt := 17) hx hb dX0_selection_11 (by decide) (fun c_11 => ?_) (fun c_11 => ?_)
    · have c_11 : (gd x) = true := b2i_t c_11
      have hE := (if_pos c_11).symm.trans hE
      refine lv_aload_n hx hb dX0_selection_17 rfl (lv_at hl 0 rfl) ?_
      refine lv_iload_n hx hb dX0_selection_18 rfl (lv_at hl 3 rfl) ?_
      refine lv_aload_n hx hb dX0_selection_19 rfl (lv_at hl 1 rfl) ?_
      refine va_getN (D := D) (ci := 3) (v := .int (nI (φ 2))) (C := RX3) (T := TX3) (N := 4) (host := "LinkPredictor") hx hb hts (fun w9 h9 => List.mem_cons_of_mem _ (inT_X3 w9 h9)) hown hK hP 15 rfl rfl 2 (by decide) (va_Nw.use rfl (hEV.2 (.fieldLinkNest RX0 64 "LinkPredictor$Reference" "way" "I" "LinkPredictor") (by decide +kernel))) (fun _ h9 => h9) rfl dX0_selection_20 ?_
      refine ro_V [.int (nI y), .int (nI (φ 2))] [] ⟨hx, hb, hml, hown, hts⟩ (c_X0_isFit l D cI cZ cB cR b aH aM h τ g γ n se y (φ 2) okh wf okm wm (by omega) (by omega) ) (cwV (C := RX0) 2 hts (goodP (ps := [.methodLink RX0 92 yX0_isFit, .instanceMethod yX0_isFit, .selects RX0 yX0_isFit yX0_isFit, .initialized RX0]) (all4 mw_2_218 mw_2_220 ms_17 mw_1_2) mw_2_221) rfl rfl rfl (by decide +kernel) ⟨Nat.le_of_ble_eq_true rfl, Nat.le_of_ble_eq_true rfl⟩) hEV (wBR_B hP) 0 rfl rfl rfl hl.1 rfl (Nat.le_of_ble_eq_true rfl) dX0_selection_23 ⟨Nat.zero_le _, Nat.zero_le _⟩ ?_
      refine lv_if_ne (tgt := 35) hx hb dX0_selection_26 (by decide) (fun c_26 => ?_) (fun c_26 => ?_)
      · skip
        have hE := (if_neg c_26).symm.trans hE
        have hm9 := (g16_sub hn30 (hy1 c_4 c_11)).1
        refine lv_iload_n hx hb dX0_selection_35 rfl (lv_at hl 2 rfl) ?_
        refine lv_bipush (v := (16 : Int32)) hx hb dX0_selection_36 (by decide) ?_
        refine lv_isub hx hb dX0_selection_38 ?_
        refine top_eq ((g16_sub hn30 (hy1 c_4 c_11)).2) ?_
        refine lv_istore (lv' := [(4, .int (nI (sN x - 16))), (0, .ref b), (1, .ref r), (2, .int x), (3, .int (nI y))]) hx hb dX0_selection_39 hl (by decide) rfl (fun ls hl => ?_)
        refine lv_aload_n hx hb dX0_selection_41 rfl (lv_at hl 1 rfl) ?_
        refine va_get (D := D) (ci := 0) (v := .ref (aM 0)) (C := RX0) (T := TX0) (N := 3) hx hb hts (fun w9 h9 => List.mem_cons_of_mem _ (inT_X0 w9 h9)) hown hK hP 0 rfl rfl 1 (by decide) (hts (.fieldLink RX0 21 "LinkPredictor$Build" "members" "LLinkPredictor$Members;") (List.mem_cons_of_mem _ mw_1_130)) (fun _ h9 => h9) rfl dX0_selection_42 ?_
        refine lv_iload hx hb dX0_selection_45 (lv_at hl 0 rfl) ?_
        refine ro_V [.int (nI (sN x - 16))] [] ⟨hx, hb, hml, hown, hts⟩ (c_X2_accessOf l D cI cZ cB cR aM g γ n (sN x - 16) okm (by omega)) (cwV (C := RX2) 1 hts (goodP (ps := [.methodLink RX0 96 yX2_accessOf, .instanceMethod yX2_accessOf, .selects RX2 yX2_accessOf yX2_accessOf, .initialized RX2]) (all4 mw_2_118 mw_2_119 mw_2_120 mw_1_4) mw_2_121) rfl rfl rfl (by decide +kernel) ⟨Nat.le_of_ble_eq_true rfl, Nat.le_of_ble_eq_true rfl⟩) hEV (wBR_M hP) 0 rfl rfl rfl hl.1 rfl (Nat.le_of_ble_eq_true rfl) dX0_selection_47 ⟨Nat.zero_le _, Nat.zero_le _⟩ ?_
        refine lv_if_ne (tgt := 57) hx hb dX0_selection_50 (by decide) (fun c_50 => ?_) (fun c_50 => ?_)
        · skip
          have hE := (if_neg c_50).symm.trans hE
          refine lv_aload_n hx hb dX0_selection_57 rfl (lv_at hl 1 rfl) ?_
          refine lv_iload_n hx hb dX0_selection_58 rfl (lv_at hl 4 rfl) ?_
          refine lv_iload hx hb dX0_selection_59 (lv_at hl 0 rfl) ?_
          refine lv_aload_n hx hb dX0_selection_61 rfl (lv_at hl 2 rfl) ?_
          refine va_getN (D := D) (ci := 3) (v := .int (nI (φ 3))) (C := RX3) (T := TX3) (N := 4) (host := "LinkPredictor") hx hb hts (fun w9 h9 => List.mem_cons_of_mem _ (inT_X3 w9 h9)) hown hK hP 15 rfl rfl 3 (by decide) (va_Nw.use rfl (hEV.2 (.fieldLinkNest RX0 99 "LinkPredictor$Reference" "sign" "I" "LinkPredictor") (by decide +kernel))) (fun _ h9 => h9) rfl dX0_selection_62 ?_
          refine ro_V [.int (nI y), .int (nI (sN x - 16)), .int (nI (φ 3))] [] ⟨hx, hb, hml, hown, hts⟩ (c_X0_selectFor l D cI cZ cB cR b aH aM h τ g γ n se y (sN x - 16) (nI (φ 3)) okh wf okm wm (by omega) (by omega) ) (cwV (C := RX0) 3 hts (goodP (ps := [.methodLink RX0 102 yX0_selectFor, .instanceMethod yX0_selectFor, .selects RX0 yX0_selectFor yX0_selectFor, .initialized RX0]) (all4 mw_2_226 mw_2_228 ms_18 mw_1_2) mw_2_229) rfl rfl rfl (by decide +kernel) ⟨Nat.le_of_ble_eq_true rfl, Nat.le_of_ble_eq_true rfl⟩) hEV (wBR_B hP) 0 rfl rfl rfl hl.1 rfl (Nat.le_of_ble_eq_true rfl) dX0_selection_65 ⟨Nat.zero_le _, Nat.zero_le _⟩ ?_
          exact key_68 (p_X0_selectFor h τ g γ n y (sN x - 16) (nI (φ 3))) ls (by first | exact hy1 c_4 | exact fun q9 => sf_g16 h τ g γ n hn30 _ (by omega) _ _ q9) (lv_sub hl [1, 2] rfl) hE
        · skip
          have hE := (if_pos c_50).symm.trans hE
          refine lv_iload_n hx hb dX0_selection_53 rfl (lv_at hl 3 rfl) ?_
          refine lv_goto (tgt := 68) hx hb dX0_selection_54 (by decide) ?_
          exact key_68 x ls (by first | exact hy1 c_4 | exact fun q9 => sf_g16 h τ g γ n hn30 _ (by omega) _ _ q9) (lv_sub hl [1, 2] rfl) hE
      · skip
        have hE := (if_pos c_26).symm.trans hE
        refine lv_sipush (v := (512 : Int32)) hx hb dX0_selection_29 (by decide) ?_
        refine lv_iload_n hx hb dX0_selection_32 rfl (lv_at hl 3 rfl) ?_
        refine lv_iadd hx hb dX0_selection_33 ?_
        refine top_eq (nI_add 512 y) ?_
        exact W.iret hx hb hr (fun t9 ht9 _ => ⟨_, rfl, hE, ht9⟩) (fun _ h9 => by cases h9) dX0_selection_34
    · have c_11 : ¬ ((gd x) = true) := b2i_f c_11
      have hE := (if_neg c_11).symm.trans hE
      refine lv_bipush (v := (-2 : Int32)) hx hb dX0_selection_14 (by decide) ?_
      exact W.iret hx hb hr (fun t9 ht9 _ => ⟨_, rfl, hE, ht9⟩) (fun _ h9 => by cases h9) dX0_selection_16
