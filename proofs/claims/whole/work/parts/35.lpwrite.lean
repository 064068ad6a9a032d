section WL2
variable {D : va_G} {A : Nat → Prop} {cI cB cR : ClassId} {ad : Nat → Nat} {S S' : LSt} {H H1 : Heap} {w i : Nat}
theorem wL_DH (hw : w < 2) (hD : va_D A (wL cI cB cR ad S)) : va_D A (wH cI (aHw ad w) (S.1 (2 * w))) := wB_DH (wL_DB hw hD)
theorem wL_DM (hw : w < 2) (hD : va_D A (wL cI cB cR ad S)) : va_D A (wM cI (aMw ad w) (S.1 (2 * w + 1))) := wB_DM (wL_DB hw hD)
theorem wL_BB (hP : va_P D vwCl (wL cI cB cR ad S) H) : va_P D vwCl (wBB cI (ad (3 + 15 * 1)) (ad (3 + 15 * 0)) (aHw ad 1) (aMw ad 1) (aHw ad 0) (aMw ad 0) (bs2 S 1) (S.1 (2 * 0)) (S.1 (2 * 0 + 1)) (S.2.1 1) (S.2.1 0)) H := hP.sub [18, 3, 19, 20, 21, 22, 23, 24, 25, 26, 27, 4, 5, 6, 7, 8, 9, 10, 11, 12, 28, 29, 30, 31, 32, 13, 14, 15, 16, 17] rfl
theorem wL_DBB (hD : va_D A (wL cI cB cR ad S)) : va_D A (wBB cI (ad (3 + 15 * 1)) (ad (3 + 15 * 0)) (aHw ad 1) (aMw ad 1) (aHw ad 0) (aMw ad 0) (bs2 S 1) (S.1 (2 * 0)) (S.1 (2 * 0 + 1)) (S.2.1 1) (S.2.1 0)) := hD.sub [18, 3, 19, 20, 21, 22, 23, 24, 25, 26, 27, 4, 5, 6, 7, 8, 9, 10, 11, 12, 28, 29, 30, 31, 32, 13, 14, 15, 16, 17] (by decide) rfl
theorem mBB {b b9 : Nat} {aH aM oH oM : Nat → Nat} {σ : Nat → Nat → Nat → Int32} {kH kM : Nat → Nat → Int32} {se s9 : Int32} {q : Nat × va_E} : q ∈ wBB cI b b9 aH aM oH oM σ kH kM se s9 ↔ q ∈ wB cI b aH aM (σ 0) (σ 1) se ∨ q ∈ wB cI b9 oH oM kH kM s9 := by
  unfold wBB wB
  simp only [List.mem_append, List.mem_cons, List.not_mem_nil, or_false]
  constructor
  · rintro ((h | h) | ((h | h) | (h | h)))
    · exact Or.inl (Or.inl h)
    · exact Or.inr (Or.inl h)
    · exact Or.inl (Or.inr (Or.inl h))
    · exact Or.inr (Or.inr (Or.inl h))
    · exact Or.inl (Or.inr (Or.inr h))
    · exact Or.inr (Or.inr (Or.inr h))
  · rintro ((h | (h | h)) | (h | (h | h)))
    · exact Or.inl (Or.inl h)
    · exact Or.inr (Or.inl (Or.inl h))
    · exact Or.inr (Or.inr (Or.inl h))
    · exact Or.inl (Or.inr h)
    · exact Or.inr (Or.inl (Or.inr h))
    · exact Or.inr (Or.inr (Or.inr h))
theorem wL_swBB {σ : Nat → Nat → Nat → Int32} (hP : va_P D vwCl (wL cI cB cR ad S) H) (hD : va_D A (wL cI cB cR ad S)) (hP1 : va_P D vwCl (wBB cI (ad (3 + 15 * 1)) (ad (3 + 15 * 0)) (aHw ad 1) (aMw ad 1) (aHw ad 0) (aMw ad 0) σ (S.1 (2 * 0)) (S.1 (2 * 0 + 1)) (S.2.1 1) (S.2.1 0)) H1) (hk : ∀ q : Nat, q < H.size → ¬ va_A (wBB cI (ad (3 + 15 * 1)) (ad (3 + 15 * 0)) (aHw ad 1) (aMw ad 1) (aHw ad 0) (aMw ad 0) (bs2 S 1) (S.1 (2 * 0)) (S.1 (2 * 0 + 1)) (S.2.1 1) (S.2.1 0)) H.size q → H1[q]? = H[q]?) : va_P D vwCl (wL cI cB cR ad (lsT (lsT S 2 (σ 0)) 3 (σ 1))) H1 := by
  refine va_repl hP hD (fun q h => ?_) hP1 hk (fun q h => ?_)
  · rcases mBB.mp h with h | h
    · exact wL_mB (w := 1) (by omega) h
    · exact wL_mB (w := 0) (by omega) h
  · rcases List.mem_append.mp h with h | h
    · refine Or.inr ⟨List.mem_append_left _ h, fun z => ?_⟩
      rcases mBB.mp z with z | z
      · exact wL_dhd (w := 1) hD h (Or.inl z) (by omega) rfl
      · exact wL_dhd (w := 0) hD h (Or.inl z) (by omega) rfl
    · rcases List.mem_append.mp h with h | h
      · exact Or.inl (mBB.mpr (Or.inr h))
      · rcases List.mem_append.mp h with h | h
        · exact Or.inl (mBB.mpr (Or.inl h))
        · refine Or.inr ⟨wL_mR h, fun z => ?_⟩
          rcases mBB.mp z with z | z
          · exact wL_dBR (w := 1) (by omega) hD z h rfl
          · exact wL_dBR (w := 0) (by omega) hD z h rfl
end WL2
noncomputable def p_X4_type (τ γ : Nat → Nat → Nat → Int32) (nf : Nat → Nat) (R w : Nat) (t : Int32) (u : Int32) (v : Int32) (y : Int32) (z : Int32) (S : LSt) : Int32 × LSt := if (ot t) = true then (if (wi u (16 : Int32)) = true then (if (wi v (4 : Int32)) = true then (if (wi y (12 : Int32)) = true then (if (wi z (4096 : Int32)) = true then (((1 : Int32), lsT S (2 * w) (p_X1_define  (sN t) u v y z (S.1 (2 * w))))) else (((0 : Int32), S))) else (((0 : Int32), S))) else (((0 : Int32), S))) else (((0 : Int32), S))) else (((0 : Int32), S))
set_option maxHeartbeats 4000000 in
set_option maxRecDepth 100000 in
theorem c_X4_type (l : Launch) (D : va_G) (cI cZ cB cR : ClassId) (ad : Nat → Nat) (τ γ : Nat → Nat → Nat → Int32) (nf : Nat → Nat) (R w : Nat) (S : LSt) (t : Int32) (u : Int32) (v : Int32) (y : Int32) (z : Int32) (lk : LOK S.1 S.2.2.1 S.2.2.2.1 τ γ nf R) (hw : w < 2) (hwr : S.2.2.2.2 = nI w) (wfd : ot t = true → wi u 16 = true → wi v 4 = true → wi y 12 = true → wi z 4096 = true → WFT (vwH (hdF (sN t) u v y z (S.1 (2 * w))))) : MUi l yX4_type wsX4_type ({ frames := 39, cells := 0, slots := 0, locals := 1049 } : Room) D cI cZ cB cR (wL cI cB cR ad S) [.ref (ad 0), .int t, .int u, .int v, .int y, .int z] (fun (_ : Unit) => wL cI cB cR ad ((p_X4_type τ γ nf R w t u v y z S).2)) (fun r _ => r = (p_X4_type τ γ nf R w t u v y z S).1) := by
  generalize hE : p_X4_type τ γ nf R w t u v y z S = tgt
  intro sz
  refine Met.ofW (cc := cX4_type) (maxL := 6) (ret := (some .boolean)) (by decide) rfl ?_
  intro p e s m args below meth c s₁ B hml hv
  obtain ⟨hargs, hsz, hP, hEV, hD0⟩ := hv
  have hx := B.exec
  have hb := B.bytes
  have hr := B.returns
  have hts := atoms_spec (ws := wsX4_type) B.pre
  have hown : s.vm.findClass RX4 = some m.cls := findClass_of_methodNamed B.named
  have hlocks := B.notSynchronized
  have hK := hEV.1
  have hl := lv_entry ([.ref (ad 0), .int t, .int u, .int v, .int y, .int z]) (n := 6) (Nat.le_of_ble_eq_true rfl)
  rw [show entryFrame m args 6 = entryFrame m ([.ref (ad 0), .int t, .int u, .int v, .int y, .int z] : List Value).toArray 6 from by rw [hargs], lg_entry_eq]
  generalize (lg_sl ([.ref (ad 0), .int t, .int u, .int v, .int y, .int z]) ++ List.replicate (6 - (lg_sl ([.ref (ad 0), .int t, .int u, .int v, .int y, .int z])).length) Slot.unset).toArray = ls at hl ⊢
  have hl : lv_has ls 6 [(0, .ref (ad 0)), (1, .int t), (2, .int u), (3, .int v), (4, .int y), (5, .int z)] := hl
  subst hsz
  have hD := hD0.self (sz := s.heap.size)
  generalize hAe : va_A (wL cI cB cR ad S) s.heap.size = A at hD ⊢
  have hA : ∀ q : Nat, s.heap.size ≤ q → A q := fun q h9 => by rw [← hAe]; exact Or.inr h9
  have hS : va_S A s.heap s.heap [] := va_S.rf
  rw [p_X4_type] at hE
  have hR16 := lk.2.2.1
  refine lv_iload_n hx hb dX4_type_0 rfl (lv_at hl 1 rfl) ?_
  refine ro_S [.int t] [] ⟨hx, hb, hml, hown, hts⟩ (c_X4_isOrdinaryType l D cI cZ cB cR t) (va_cwS 1 hts (goodP (ps := [.methodLink RX4 30 yX4_isOrdinaryType, .static yX4_isOrdinaryType, .initialized RX4]) (all3 mw_1_181 mw_1_182 mw_1_1) mw_1_183) rfl rfl rfl (by decide +kernel) ⟨Nat.le_of_ble_eq_true rfl, Nat.le_of_ble_eq_true rfl⟩) hEV va_P0 rfl hl.1 rfl (Nat.le_of_ble_eq_true rfl) dX4_type_1 ⟨Nat.zero_le _, Nat.zero_le _⟩ ?_
  refine lv_if_eq (tgt := 45) hx hb dX4_type_4 (by decide) (fun c_4 => ?_) (fun c_4 => ?_)
  · have c_4 : ¬ ((ot t) = true) := b2i_f c_4
    have hE := (if_neg c_4).symm.trans hE
    refine lv_iconst (v := (0 : Int32)) hx hb dX4_type_45 (by decide) ?_
    exact W.zret hx hb hr rfl (fun t9 ht9 _ => ⟨⟨_, (), rfl, congrArg Prod.fst hE, by show va_P D vwCl _ t9.heap; rw [ht9, ← congrArg Prod.snd hE]; exact hP⟩, hS.F ht9⟩) hS.2.2 dX4_type_46
  · have c_4 : (ot t) = true := b2i_t c_4
    have hE := (if_pos c_4).symm.trans hE
    refine lv_iload_n hx hb dX4_type_7 rfl (lv_at hl 2 rfl) ?_
    refine lv_bipush (v := (16 : Int32)) hx hb dX4_type_8 (by decide) ?_
    refine ro_S [.int u, .int (16 : Int32)] [] ⟨hx, hb, hml, hown, hts⟩ (c_X4_isWithin l D cI cZ cB cR u (16 : Int32)) (va_cwS 2 hts (goodP (ps := [.methodLink RX4 34 yX4_isWithin, .static yX4_isWithin, .initialized RX4]) (all3 mw_1_56 mw_1_57 mw_1_1) mw_1_58) rfl rfl rfl (by decide +kernel) ⟨Nat.le_of_ble_eq_true rfl, Nat.le_of_ble_eq_true rfl⟩) hEV va_P0 rfl hl.1 rfl (Nat.le_of_ble_eq_true rfl) dX4_type_10 ⟨Nat.zero_le _, Nat.zero_le _⟩ ?_
    refine lv_if_eq (tgt := 45) hx hb dX4_type_13 (by decide) (fun c_13 => ?_) (fun c_13 => ?_)
    · have c_13 : ¬ ((wi u (16 : Int32)) = true) := b2i_f c_13
      have hE := (if_neg c_13).symm.trans hE
      refine lv_iconst (v := (0 : Int32)) hx hb dX4_type_45 (by decide) ?_
      exact W.zret hx hb hr rfl (fun t9 ht9 _ => ⟨⟨_, (), rfl, congrArg Prod.fst hE, by show va_P D vwCl _ t9.heap; rw [ht9, ← congrArg Prod.snd hE]; exact hP⟩, hS.F ht9⟩) hS.2.2 dX4_type_46
    · have c_13 : (wi u (16 : Int32)) = true := b2i_t c_13
      have hE := (if_pos c_13).symm.trans hE
      refine lv_iload_n hx hb dX4_type_16 rfl (lv_at hl 3 rfl) ?_
      refine lv_iconst (v := (4 : Int32)) hx hb dX4_type_17 (by decide) ?_
      refine ro_S [.int v, .int (4 : Int32)] [] ⟨hx, hb, hml, hown, hts⟩ (c_X4_isWithin l D cI cZ cB cR v (4 : Int32)) (va_cwS 2 hts (goodP (ps := [.methodLink RX4 34 yX4_isWithin, .static yX4_isWithin, .initialized RX4]) (all3 mw_1_56 mw_1_57 mw_1_1) mw_1_58) rfl rfl rfl (by decide +kernel) ⟨Nat.le_of_ble_eq_true rfl, Nat.le_of_ble_eq_true rfl⟩) hEV va_P0 rfl hl.1 rfl (Nat.le_of_ble_eq_true rfl) dX4_type_18 ⟨Nat.zero_le _, Nat.zero_le _⟩ ?_
      refine lv_if_eq (tgt := 45) hx hb dX4_type_21 (by decide) (fun c_21 => ?_) (fun c_21 => ?_)
      · have c_21 : ¬ ((wi v (4 : Int32)) = true) := b2i_f c_21
        have hE := (if_neg c_21).symm.trans hE
        refine lv_iconst (v := (0 : Int32)) hx hb dX4_type_45 (by decide) ?_
        exact W.zret hx hb hr rfl (fun t9 ht9 _ => ⟨⟨_, (), rfl, congrArg Prod.fst hE, by show va_P D vwCl _ t9.heap; rw [ht9, ← congrArg Prod.snd hE]; exact hP⟩, hS.F ht9⟩) hS.2.2 dX4_type_46
      · have c_21 : (wi v (4 : Int32)) = true := b2i_t c_21
        have hE := (if_pos c_21).symm.trans hE
        refine lv_iload hx hb dX4_type_24 (lv_at hl 4 rfl) ?_
        refine lv_bipush (v := (12 : Int32)) hx hb dX4_type_26 (by decide) ?_
        refine ro_S [.int y, .int (12 : Int32)] [] ⟨hx, hb, hml, hown, hts⟩ (c_X4_isWithin l D cI cZ cB cR y (12 : Int32)) (va_cwS 2 hts (goodP (ps := [.methodLink RX4 34 yX4_isWithin, .static yX4_isWithin, .initialized RX4]) (all3 mw_1_56 mw_1_57 mw_1_1) mw_1_58) rfl rfl rfl (by decide +kernel) ⟨Nat.le_of_ble_eq_true rfl, Nat.le_of_ble_eq_true rfl⟩) hEV va_P0 rfl hl.1 rfl (Nat.le_of_ble_eq_true rfl) dX4_type_28 ⟨Nat.zero_le _, Nat.zero_le _⟩ ?_
        refine lv_if_eq (tgt := 45) hx hb dX4_type_31 (by decide) (fun c_31 => ?_) (fun c_31 => ?_)
        · have c_31 : ¬ ((wi y (12 : Int32)) = true) := b2i_f c_31
          have hE := (if_neg c_31).symm.trans hE
          refine lv_iconst (v := (0 : Int32)) hx hb dX4_type_45 (by decide) ?_
          exact W.zret hx hb hr rfl (fun t9 ht9 _ => ⟨⟨_, (), rfl, congrArg Prod.fst hE, by show va_P D vwCl _ t9.heap; rw [ht9, ← congrArg Prod.snd hE]; exact hP⟩, hS.F ht9⟩) hS.2.2 dX4_type_46
        · have c_31 : (wi y (12 : Int32)) = true := b2i_t c_31
          have hE := (if_pos c_31).symm.trans hE
          refine lv_iload hx hb dX4_type_34 (lv_at hl 5 rfl) ?_
          refine lv_sipush (v := (4096 : Int32)) hx hb dX4_type_36 (by decide) ?_
          refine ro_S [.int z, .int (4096 : Int32)] [] ⟨hx, hb, hml, hown, hts⟩ (c_X4_isWithin l D cI cZ cB cR z (4096 : Int32)) (va_cwS 2 hts (goodP (ps := [.methodLink RX4 34 yX4_isWithin, .static yX4_isWithin, .initialized RX4]) (all3 mw_1_56 mw_1_57 mw_1_1) mw_1_58) rfl rfl rfl (by decide +kernel) ⟨Nat.le_of_ble_eq_true rfl, Nat.le_of_ble_eq_true rfl⟩) hEV va_P0 rfl hl.1 rfl (Nat.le_of_ble_eq_true rfl) dX4_type_39 ⟨Nat.zero_le _, Nat.zero_le _⟩ ?_
          refine lv_if_ne (tgt := 47) hx hb dX4_type_42 (by decide) (fun c_42 => ?_) (fun c_42 => ?_)
          · have c_42 : (wi z (4096 : Int32)) = true := b2i_t c_42
            have hE := (if_pos c_42).symm.trans hE
            have ht7 := Bool.and_eq_true_iff.mp c_4
            have ht9 := wi_sN (b := 12) (by omega) ht7.2
            have ht8 := ht9.1
            refine lv_aload_n hx hb dX4_type_47 rfl (lv_at hl 0 rfl) ?_
            refine va_get (D := D) (ci := 4) (v := .ref (ad 1)) (C := RX4) (T := TX4) (N := 4) hx hb hts (fun w9 h9 => List.mem_cons_of_mem _ (inT_X4 w9 h9)) hown hK hP 0 rfl rfl 0 (by decide) (hts (.fieldLink RX4 12 "LinkPredictor" "builds" "[LLinkPredictor$Build;") (List.mem_cons_of_mem _ mw_1_164)) (fun _ h9 => h9) rfl dX4_type_48 ?_
            refine lv_aload_n hx hb dX4_type_51 rfl (lv_at hl 0 rfl) ?_
            refine va_get (D := D) (ci := 4) (v := .int S.2.2.2.2) (C := RX4) (T := TX4) (N := 4) hx hb hts (fun w9 h9 => List.mem_cons_of_mem _ (inT_X4 w9 h9)) hown hK hP 0 rfl rfl 3 (by decide) (hts (.fieldLink RX4 27 "LinkPredictor" "written" "I") (List.mem_cons_of_mem _ mw_1_167)) (fun _ h9 => h9) rfl dX4_type_52 ?_
            refine top_eq (hwr) ?_
            refine ro_aal hx hb hEV hP 1 2 (j := w) (v := ad (3 + 15 * w)) rfl rfl rfl (by omega) (by decide) dX4_type_55 ?_
            refine va_getN (D := D) (ci := 0) (v := .ref (aHw ad w 0)) (C := RX0) (T := TX0) (N := 3) (host := "LinkPredictor") hx hb hts (fun w9 h9 => List.mem_cons_of_mem _ (inT_X0 w9 h9)) hown hK hP (3 + 15 * w) (wL_b (by omega)) rfl 0 (by decide) (va_Nw.use rfl (hEV.2 (.fieldLinkNest RX4 38 "LinkPredictor$Build" "types" "LLinkPredictor$Hierarchy;" "LinkPredictor") (by decide +kernel))) (fun _ h9 => h9) rfl dX4_type_56 ?_
            refine lv_iload_n hx hb dX4_type_59 rfl (lv_at hl 1 rfl) ?_
            refine top_eq (ht9.2) ?_
            refine lv_iload_n hx hb dX4_type_60 rfl (lv_at hl 2 rfl) ?_
            refine lv_iload_n hx hb dX4_type_61 rfl (lv_at hl 3 rfl) ?_
            refine lv_iload hx hb dX4_type_62 (lv_at hl 4 rfl) ?_
            refine lv_iload hx hb dX4_type_64 (lv_at hl 5 rfl) ?_
            refine mu_Vv [.int (nI (sN t)), .int u, .int v, .int y, .int z] [] ⟨hx, hb, hml, hown, hts⟩ (c_X1_define l D cI cZ cB cR (aHw ad w) (S.1 (2 * w)) (sN t) u v y z (wfd c_4 c_13 c_21 c_31 c_42) (by omega)) (cwV (C := RX1) 5 hts (goodP (ps := [.methodLink RX4 42 yX1_define, .instanceMethod yX1_define, .selects RX1 yX1_define yX1_define, .initialized RX1]) (all4 mw_1_184 mw_1_185 mw_1_186 mw_1_3) mw_1_187) rfl rfl rfl (by decide +kernel) ⟨Nat.le_of_ble_eq_true rfl, Nat.le_of_ble_eq_true rfl⟩) hEV (wL_H (by omega) hP) (wL_DH (by omega) hD) hS hA 0 rfl rfl rfl hl.1 rfl (Nat.le_of_ble_eq_true rfl) dX4_type_66 ⟨Nat.zero_le _, Nat.zero_le _⟩ (fun u9 H1 locs hw hP1 hk1 hS => ?_)
            have hP : va_P D vwCl (wL cI cB cR ad (lsT S (2 * w) (p_X1_define  (sN t) u v y z (S.1 (2 * w))))) H1 := wL_swH (by omega) hP hD hP1 hk1
            have hD : va_D A (wL cI cB cR ad (lsT S (2 * w) (p_X1_define  (sN t) u v y z (S.1 (2 * w))))) := hD.adr rfl
            generalize H1 = H at hP hS ⊢
            refine lv_iconst (v := (1 : Int32)) hx hb dX4_type_69 (by decide) ?_
            exact W.zret hx hb hr rfl (fun t9 ht9 _ => ⟨⟨_, (), rfl, congrArg Prod.fst hE, by show va_P D vwCl _ t9.heap; rw [ht9, ← congrArg Prod.snd hE]; exact hP⟩, hS.F ht9⟩) hS.2.2 dX4_type_70
          · have c_42 : ¬ ((wi z (4096 : Int32)) = true) := b2i_f c_42
            have hE := (if_neg c_42).symm.trans hE
            refine lv_iconst (v := (0 : Int32)) hx hb dX4_type_45 (by decide) ?_
            exact W.zret hx hb hr rfl (fun t9 ht9 _ => ⟨⟨_, (), rfl, congrArg Prod.fst hE, by show va_P D vwCl _ t9.heap; rw [ht9, ← congrArg Prod.snd hE]; exact hP⟩, hS.F ht9⟩) hS.2.2 dX4_type_46
theorem ph01 (τ : Nat → Nat → Int32) (x : Nat) (y : Int32) (h : Nat → Nat → Int32) : (p_X1_putHost τ x y h).1 = 0 ∨ (p_X1_putHost τ x y h).1 = 1 := by unfold p_X1_putHost; split <;> simp
theorem ch01 (γ : Nat → Nat → Int32) (n : Nat) (x y z : Int32) (g : Nat → Nat → Int32) : (p_X2_change γ n x y z g).1 = 0 ∨ (p_X2_change γ n x y z g).1 = 1 := by unfold p_X2_change; split <;> simp
theorem di01 (γ : Nat → Nat → Int32) (n : Nat) (x : Int32) (g : Nat → Nat → Int32) : (p_X2_discard γ n x g).1 = 0 ∨ (p_X2_discard γ n x g).1 = 1 := by unfold p_X2_discard; split <;> simp
theorem dt01 (τ γ : Nat → Nat → Int32) (n x : Nat) (σ : Nat → Nat → Nat → Int32) : (p_X0_discardType τ γ n x σ).1 = 0 ∨ (p_X0_discardType τ γ n x σ).1 = 1 := by
  unfold p_X0_discardType p_X0_discardType_8; split <;> simp
noncomputable def p_X4_nest (τ γ : Nat → Nat → Nat → Int32) (nf : Nat → Nat) (R w : Nat) (t : Int32) (u : Int32) (S : LSt) : Int32 × LSt := if (ot t) = true then (if (wi u (12 : Int32)) = true then (((p_X1_putHost (τ w) (sN t) u (S.1 (2 * w))).1, lsT S (2 * w) ((p_X1_putHost (τ w) (sN t) u (S.1 (2 * w))).2))) else (((0 : Int32), S))) else (((0 : Int32), S))
set_option maxHeartbeats 4000000 in
set_option maxRecDepth 100000 in
theorem c_X4_nest (l : Launch) (D : va_G) (cI cZ cB cR : ClassId) (ad : Nat → Nat) (τ γ : Nat → Nat → Nat → Int32) (nf : Nat → Nat) (R w : Nat) (S : LSt) (t : Int32) (u : Int32) (lk : LOK S.1 S.2.2.1 S.2.2.2.1 τ γ nf R) (hw : w < 2) (hwr : S.2.2.2.2 = nI w)  : MUi l yX4_nest wsX4_nest ({ frames := 3, cells := 0, slots := 0, locals := 64 } : Room) D cI cZ cB cR (wL cI cB cR ad S) [.ref (ad 0), .int t, .int u] (fun (_ : Unit) => wL cI cB cR ad ((p_X4_nest τ γ nf R w t u S).2)) (fun r _ => r = (p_X4_nest τ γ nf R w t u S).1) := by
  generalize hE : p_X4_nest τ γ nf R w t u S = tgt
  intro sz
  refine Met.ofW (cc := cX4_nest) (maxL := 3) (ret := (some .boolean)) (by decide) rfl ?_
  intro p e s m args below meth c s₁ B hml hv
  obtain ⟨hargs, hsz, hP, hEV, hD0⟩ := hv
  have hx := B.exec
  have hb := B.bytes
  have hr := B.returns
  have hts := atoms_spec (ws := wsX4_nest) B.pre
  have hown : s.vm.findClass RX4 = some m.cls := findClass_of_methodNamed B.named
  have hlocks := B.notSynchronized
  have hK := hEV.1
  have hl := lv_entry ([.ref (ad 0), .int t, .int u]) (n := 3) (Nat.le_of_ble_eq_true rfl)
  rw [show entryFrame m args 3 = entryFrame m ([.ref (ad 0), .int t, .int u] : List Value).toArray 3 from by rw [hargs], lg_entry_eq]
  generalize (lg_sl ([.ref (ad 0), .int t, .int u]) ++ List.replicate (3 - (lg_sl ([.ref (ad 0), .int t, .int u])).length) Slot.unset).toArray = ls at hl ⊢
  have hl : lv_has ls 3 [(0, .ref (ad 0)), (1, .int t), (2, .int u)] := hl
  subst hsz
  have hD := hD0.self (sz := s.heap.size)
  generalize hAe : va_A (wL cI cB cR ad S) s.heap.size = A at hD ⊢
  have hA : ∀ q : Nat, s.heap.size ≤ q → A q := fun q h9 => by rw [← hAe]; exact Or.inr h9
  have hS : va_S A s.heap s.heap [] := va_S.rf
  rw [p_X4_nest] at hE
  have hR16 := lk.2.2.1
  refine lv_iload_n hx hb dX4_nest_0 rfl (lv_at hl 1 rfl) ?_
  refine ro_S [.int t] [] ⟨hx, hb, hml, hown, hts⟩ (c_X4_isOrdinaryType l D cI cZ cB cR t) (va_cwS 1 hts (goodP (ps := [.methodLink RX4 30 yX4_isOrdinaryType, .static yX4_isOrdinaryType, .initialized RX4]) (all3 mw_1_181 mw_1_182 mw_1_1) mw_1_183) rfl rfl rfl (by decide +kernel) ⟨Nat.le_of_ble_eq_true rfl, Nat.le_of_ble_eq_true rfl⟩) hEV va_P0 rfl hl.1 rfl (Nat.le_of_ble_eq_true rfl) dX4_nest_1 ⟨Nat.zero_le _, Nat.zero_le _⟩ ?_
  refine lv_if_eq (tgt := 16) hx hb dX4_nest_4 (by decide) (fun c_4 => ?_) (fun c_4 => ?_)
  · have c_4 : ¬ ((ot t) = true) := b2i_f c_4
    have hE := (if_neg c_4).symm.trans hE
    refine lv_iconst (v := (0 : Int32)) hx hb dX4_nest_16 (by decide) ?_
    exact W.zret hx hb hr rfl (fun t9 ht9 _ => ⟨⟨_, (), rfl, congrArg Prod.fst hE, by show va_P D vwCl _ t9.heap; rw [ht9, ← congrArg Prod.snd hE]; exact hP⟩, hS.F ht9⟩) hS.2.2 dX4_nest_17
  · have c_4 : (ot t) = true := b2i_t c_4
    have hE := (if_pos c_4).symm.trans hE
    refine lv_iload_n hx hb dX4_nest_7 rfl (lv_at hl 2 rfl) ?_
    refine lv_bipush (v := (12 : Int32)) hx hb dX4_nest_8 (by decide) ?_
    refine ro_S [.int u, .int (12 : Int32)] [] ⟨hx, hb, hml, hown, hts⟩ (c_X4_isWithin l D cI cZ cB cR u (12 : Int32)) (va_cwS 2 hts (goodP (ps := [.methodLink RX4 34 yX4_isWithin, .static yX4_isWithin, .initialized RX4]) (all3 mw_1_56 mw_1_57 mw_1_1) mw_1_58) rfl rfl rfl (by decide +kernel) ⟨Nat.le_of_ble_eq_true rfl, Nat.le_of_ble_eq_true rfl⟩) hEV va_P0 rfl hl.1 rfl (Nat.le_of_ble_eq_true rfl) dX4_nest_10 ⟨Nat.zero_le _, Nat.zero_le _⟩ ?_
    refine lv_if_ne (tgt := 18) hx hb dX4_nest_13 (by decide) (fun c_13 => ?_) (fun c_13 => ?_)
    · have c_13 : (wi u (12 : Int32)) = true := b2i_t c_13
      have hE := (if_pos c_13).symm.trans hE
      have ht7 := Bool.and_eq_true_iff.mp c_4
      have ht9 := wi_sN (b := 12) (by omega) ht7.2
      have ht8 := ht9.1
      refine lv_aload_n hx hb dX4_nest_18 rfl (lv_at hl 0 rfl) ?_
      refine va_get (D := D) (ci := 4) (v := .ref (ad 1)) (C := RX4) (T := TX4) (N := 4) hx hb hts (fun w9 h9 => List.mem_cons_of_mem _ (inT_X4 w9 h9)) hown hK hP 0 rfl rfl 0 (by decide) (hts (.fieldLink RX4 12 "LinkPredictor" "builds" "[LLinkPredictor$Build;") (List.mem_cons_of_mem _ mw_1_164)) (fun _ h9 => h9) rfl dX4_nest_19 ?_
      refine lv_aload_n hx hb dX4_nest_22 rfl (lv_at hl 0 rfl) ?_
      refine va_get (D := D) (ci := 4) (v := .int S.2.2.2.2) (C := RX4) (T := TX4) (N := 4) hx hb hts (fun w9 h9 => List.mem_cons_of_mem _ (inT_X4 w9 h9)) hown hK hP 0 rfl rfl 3 (by decide) (hts (.fieldLink RX4 27 "LinkPredictor" "written" "I") (List.mem_cons_of_mem _ mw_1_167)) (fun _ h9 => h9) rfl dX4_nest_23 ?_
      refine top_eq (hwr) ?_
      refine ro_aal hx hb hEV hP 1 2 (j := w) (v := ad (3 + 15 * w)) rfl rfl rfl (by omega) (by decide) dX4_nest_26 ?_
      refine va_getN (D := D) (ci := 0) (v := .ref (aHw ad w 0)) (C := RX0) (T := TX0) (N := 3) (host := "LinkPredictor") hx hb hts (fun w9 h9 => List.mem_cons_of_mem _ (inT_X0 w9 h9)) hown hK hP (3 + 15 * w) (wL_b (by omega)) rfl 0 (by decide) (va_Nw.use rfl (hEV.2 (.fieldLinkNest RX4 38 "LinkPredictor$Build" "types" "LLinkPredictor$Hierarchy;" "LinkPredictor") (by decide +kernel))) (fun _ h9 => h9) rfl dX4_nest_27 ?_
      refine lv_iload_n hx hb dX4_nest_30 rfl (lv_at hl 1 rfl) ?_
      refine top_eq (ht9.2) ?_
      refine lv_iload_n hx hb dX4_nest_31 rfl (lv_at hl 2 rfl) ?_
      refine mu_V [.int (nI (sN t)), .int u] [] ⟨hx, hb, hml, hown, hts⟩ (c_X1_putHost l D cI cZ cB cR (aHw ad w) (S.1 (2 * w)) (τ w) (sN t) u (lk.1 w (by omega)).1.b (by omega)) (cwV (C := RX1) 2 hts (goodP (ps := [.methodLink RX4 48 yX1_putHost, .instanceMethod yX1_putHost, .selects RX1 yX1_putHost yX1_putHost, .initialized RX1]) (all4 mw_1_192 mw_1_193 mw_1_194 mw_1_3) mw_1_195) rfl rfl rfl (by decide +kernel) ⟨Nat.le_of_ble_eq_true rfl, Nat.le_of_ble_eq_true rfl⟩) hEV (wL_H (by omega) hP) (wL_DH (by omega) hD) hS hA 0 rfl rfl rfl hl.1 rfl (Nat.le_of_ble_eq_true rfl) dX4_nest_32 ⟨Nat.zero_le _, Nat.zero_le _⟩ (fun r9 u9 H1 locs hw hP1 hk1 hS => ?_)
      subst hw
      have hP : va_P D vwCl (wL cI cB cR ad (lsT S (2 * w) ((p_X1_putHost (τ w) (sN t) u (S.1 (2 * w))).2))) H1 := wL_swH (by omega) hP hD hP1 hk1
      have hD : va_D A (wL cI cB cR ad (lsT S (2 * w) ((p_X1_putHost (τ w) (sN t) u (S.1 (2 * w))).2))) := hD.adr rfl
      generalize H1 = H at hP hS ⊢
      exact W.zret hx hb hr (nar01 (ph01 _ _ _ _)) (fun t9 ht9 _ => ⟨⟨_, (), rfl, congrArg Prod.fst hE, by show va_P D vwCl _ t9.heap; rw [ht9, ← congrArg Prod.snd hE]; exact hP⟩, hS.F ht9⟩) hS.2.2 dX4_nest_35
    · have c_13 : ¬ ((wi u (12 : Int32)) = true) := b2i_f c_13
      have hE := (if_neg c_13).symm.trans hE
      refine lv_iconst (v := (0 : Int32)) hx hb dX4_nest_16 (by decide) ?_
      exact W.zret hx hb hr rfl (fun t9 ht9 _ => ⟨⟨_, (), rfl, congrArg Prod.fst hE, by show va_P D vwCl _ t9.heap; rw [ht9, ← congrArg Prod.snd hE]; exact hP⟩, hS.F ht9⟩) hS.2.2 dX4_nest_17
noncomputable def p_X4_remake (τ γ : Nat → Nat → Nat → Int32) (nf : Nat → Nat) (R w : Nat) (t : Int32) (u : Int32) (v : Int32) (S : LSt) : Int32 × LSt := if (wi u (4 : Int32)) = true then (if (wi v (8 : Int32)) = true then (((p_X2_change (γ w) (nf w) t u v (S.1 (2 * w + 1))).1, lsT S (2 * w + 1) ((p_X2_change (γ w) (nf w) t u v (S.1 (2 * w + 1))).2))) else (((0 : Int32), S))) else (((0 : Int32), S))
set_option maxHeartbeats 4000000 in
set_option maxRecDepth 100000 in
theorem c_X4_remake (l : Launch) (D : va_G) (cI cZ cB cR : ClassId) (ad : Nat → Nat) (τ γ : Nat → Nat → Nat → Int32) (nf : Nat → Nat) (R w : Nat) (S : LSt) (t : Int32) (u : Int32) (v : Int32) (lk : LOK S.1 S.2.2.1 S.2.2.2.1 τ γ nf R) (hw : w < 2) (hwr : S.2.2.2.2 = nI w)  : MUi l yX4_remake wsX4_remake ({ frames := 3, cells := 0, slots := 0, locals := 65 } : Room) D cI cZ cB cR (wL cI cB cR ad S) [.ref (ad 0), .int t, .int u, .int v] (fun (_ : Unit) => wL cI cB cR ad ((p_X4_remake τ γ nf R w t u v S).2)) (fun r _ => r = (p_X4_remake τ γ nf R w t u v S).1) := by
  generalize hE : p_X4_remake τ γ nf R w t u v S = tgt
  intro sz
  refine Met.ofW (cc := cX4_remake) (maxL := 4) (ret := (some .boolean)) (by decide) rfl ?_
  intro p e s m args below meth c s₁ B hml hv
  obtain ⟨hargs, hsz, hP, hEV, hD0⟩ := hv
  have hx := B.exec
  have hb := B.bytes
  have hr := B.returns
  have hts := atoms_spec (ws := wsX4_remake) B.pre
  have hown : s.vm.findClass RX4 = some m.cls := findClass_of_methodNamed B.named
  have hlocks := B.notSynchronized
  have hK := hEV.1
  have hl := lv_entry ([.ref (ad 0), .int t, .int u, .int v]) (n := 4) (Nat.le_of_ble_eq_true rfl)
  rw [show entryFrame m args 4 = entryFrame m ([.ref (ad 0), .int t, .int u, .int v] : List Value).toArray 4 from by rw [hargs], lg_entry_eq]
  generalize (lg_sl ([.ref (ad 0), .int t, .int u, .int v]) ++ List.replicate (4 - (lg_sl ([.ref (ad 0), .int t, .int u, .int v])).length) Slot.unset).toArray = ls at hl ⊢
  have hl : lv_has ls 4 [(0, .ref (ad 0)), (1, .int t), (2, .int u), (3, .int v)] := hl
  subst hsz
  have hD := hD0.self (sz := s.heap.size)
  generalize hAe : va_A (wL cI cB cR ad S) s.heap.size = A at hD ⊢
  have hA : ∀ q : Nat, s.heap.size ≤ q → A q := fun q h9 => by rw [← hAe]; exact Or.inr h9
  have hS : va_S A s.heap s.heap [] := va_S.rf
  rw [p_X4_remake] at hE
  have hR16 := lk.2.2.1
  refine lv_iload_n hx hb dX4_remake_0 rfl (lv_at hl 2 rfl) ?_
  refine lv_iconst (v := (4 : Int32)) hx hb dX4_remake_1 (by decide) ?_
  refine ro_S [.int u, .int (4 : Int32)] [] ⟨hx, hb, hml, hown, hts⟩ (c_X4_isWithin l D cI cZ cB cR u (4 : Int32)) (va_cwS 2 hts (goodP (ps := [.methodLink RX4 34 yX4_isWithin, .static yX4_isWithin, .initialized RX4]) (all3 mw_1_56 mw_1_57 mw_1_1) mw_1_58) rfl rfl rfl (by decide +kernel) ⟨Nat.le_of_ble_eq_true rfl, Nat.le_of_ble_eq_true rfl⟩) hEV va_P0 rfl hl.1 rfl (Nat.le_of_ble_eq_true rfl) dX4_remake_2 ⟨Nat.zero_le _, Nat.zero_le _⟩ ?_
  refine lv_if_eq (tgt := 17) hx hb dX4_remake_5 (by decide) (fun c_5 => ?_) (fun c_5 => ?_)
  · have c_5 : ¬ ((wi u (4 : Int32)) = true) := b2i_f c_5
    have hE := (if_neg c_5).symm.trans hE
    refine lv_iconst (v := (0 : Int32)) hx hb dX4_remake_17 (by decide) ?_
    exact W.zret hx hb hr rfl (fun t9 ht9 _ => ⟨⟨_, (), rfl, congrArg Prod.fst hE, by show va_P D vwCl _ t9.heap; rw [ht9, ← congrArg Prod.snd hE]; exact hP⟩, hS.F ht9⟩) hS.2.2 dX4_remake_18
  · have c_5 : (wi u (4 : Int32)) = true := b2i_t c_5
    have hE := (if_pos c_5).symm.trans hE
    refine lv_iload_n hx hb dX4_remake_8 rfl (lv_at hl 3 rfl) ?_
    refine lv_bipush (v := (8 : Int32)) hx hb dX4_remake_9 (by decide) ?_
    refine ro_S [.int v, .int (8 : Int32)] [] ⟨hx, hb, hml, hown, hts⟩ (c_X4_isWithin l D cI cZ cB cR v (8 : Int32)) (va_cwS 2 hts (goodP (ps := [.methodLink RX4 34 yX4_isWithin, .static yX4_isWithin, .initialized RX4]) (all3 mw_1_56 mw_1_57 mw_1_1) mw_1_58) rfl rfl rfl (by decide +kernel) ⟨Nat.le_of_ble_eq_true rfl, Nat.le_of_ble_eq_true rfl⟩) hEV va_P0 rfl hl.1 rfl (Nat.le_of_ble_eq_true rfl) dX4_remake_11 ⟨Nat.zero_le _, Nat.zero_le _⟩ ?_
    refine lv_if_ne (tgt := 19) hx hb dX4_remake_14 (by decide) (fun c_14 => ?_) (fun c_14 => ?_)
    · have c_14 : (wi v (8 : Int32)) = true := b2i_t c_14
      have hE := (if_pos c_14).symm.trans hE
      refine lv_aload_n hx hb dX4_remake_19 rfl (lv_at hl 0 rfl) ?_
      refine va_get (D := D) (ci := 4) (v := .ref (ad 1)) (C := RX4) (T := TX4) (N := 4) hx hb hts (fun w9 h9 => List.mem_cons_of_mem _ (inT_X4 w9 h9)) hown hK hP 0 rfl rfl 0 (by decide) (hts (.fieldLink RX4 12 "LinkPredictor" "builds" "[LLinkPredictor$Build;") (List.mem_cons_of_mem _ mw_1_164)) (fun _ h9 => h9) rfl dX4_remake_20 ?_
      refine lv_aload_n hx hb dX4_remake_23 rfl (lv_at hl 0 rfl) ?_
      refine va_get (D := D) (ci := 4) (v := .int S.2.2.2.2) (C := RX4) (T := TX4) (N := 4) hx hb hts (fun w9 h9 => List.mem_cons_of_mem _ (inT_X4 w9 h9)) hown hK hP 0 rfl rfl 3 (by decide) (hts (.fieldLink RX4 27 "LinkPredictor" "written" "I") (List.mem_cons_of_mem _ mw_1_167)) (fun _ h9 => h9) rfl dX4_remake_24 ?_
      refine top_eq (hwr) ?_
      refine ro_aal hx hb hEV hP 1 2 (j := w) (v := ad (3 + 15 * w)) rfl rfl rfl (by omega) (by decide) dX4_remake_27 ?_
      refine va_getN (D := D) (ci := 0) (v := .ref (aMw ad w 0)) (C := RX0) (T := TX0) (N := 3) (host := "LinkPredictor") hx hb hts (fun w9 h9 => List.mem_cons_of_mem _ (inT_X0 w9 h9)) hown hK hP (3 + 15 * w) (wL_b (by omega)) rfl 1 (by decide) (va_Nw.use rfl (hEV.2 (.fieldLinkNest RX4 58 "LinkPredictor$Build" "members" "LLinkPredictor$Members;" "LinkPredictor") (by decide +kernel))) (fun _ h9 => h9) rfl dX4_remake_28 ?_
      refine lv_iload_n hx hb dX4_remake_31 rfl (lv_at hl 1 rfl) ?_
      refine lv_iload_n hx hb dX4_remake_32 rfl (lv_at hl 2 rfl) ?_
      refine lv_iload_n hx hb dX4_remake_33 rfl (lv_at hl 3 rfl) ?_
      refine mu_V [.int t, .int u, .int v] [] ⟨hx, hb, hml, hown, hts⟩ (c_X2_change l D cI cZ cB cR (aMw ad w) (S.1 (2 * w + 1)) (γ w) (nf w) t u v (lk.1 w (by omega)).2.2.1) (cwV (C := RX2) 3 hts (goodP (ps := [.methodLink RX4 62 yX2_change, .instanceMethod yX2_change, .selects RX2 yX2_change yX2_change, .initialized RX2]) (all4 mw_1_238 mw_1_239 mw_2_0 mw_1_4) mw_2_1) rfl rfl rfl (by decide +kernel) ⟨Nat.le_of_ble_eq_true rfl, Nat.le_of_ble_eq_true rfl⟩) hEV (wL_M (by omega) hP) (wL_DM (by omega) hD) hS hA 0 rfl rfl rfl hl.1 rfl (Nat.le_of_ble_eq_true rfl) dX4_remake_34 ⟨Nat.zero_le _, Nat.zero_le _⟩ (fun r9 u9 H1 locs hw hP1 hk1 hS => ?_)
      subst hw
      have hP : va_P D vwCl (wL cI cB cR ad (lsT S (2 * w + 1) ((p_X2_change (γ w) (nf w) t u v (S.1 (2 * w + 1))).2))) H1 := wL_swM (by omega) hP hD hP1 hk1
      have hD : va_D A (wL cI cB cR ad (lsT S (2 * w + 1) ((p_X2_change (γ w) (nf w) t u v (S.1 (2 * w + 1))).2))) := hD.adr rfl
      generalize H1 = H at hP hS ⊢
      exact W.zret hx hb hr (nar01 (ch01 _ _ _ _ _ _)) (fun t9 ht9 _ => ⟨⟨_, (), rfl, congrArg Prod.fst hE, by show va_P D vwCl _ t9.heap; rw [ht9, ← congrArg Prod.snd hE]; exact hP⟩, hS.F ht9⟩) hS.2.2 dX4_remake_37
    · have c_14 : ¬ ((wi v (8 : Int32)) = true) := b2i_f c_14
      have hE := (if_neg c_14).symm.trans hE
      refine lv_iconst (v := (0 : Int32)) hx hb dX4_remake_17 (by decide) ?_
      exact W.zret hx hb hr rfl (fun t9 ht9 _ => ⟨⟨_, (), rfl, congrArg Prod.fst hE, by show va_P D vwCl _ t9.heap; rw [ht9, ← congrArg Prod.snd hE]; exact hP⟩, hS.F ht9⟩) hS.2.2 dX4_remake_18
noncomputable def p_X4_remove (τ γ : Nat → Nat → Nat → Int32) (nf : Nat → Nat) (R w : Nat) (t : Int32) (S : LSt) : Int32 × LSt := ((p_X2_discard (γ w) (nf w) t (S.1 (2 * w + 1))).1, lsT S (2 * w + 1) ((p_X2_discard (γ w) (nf w) t (S.1 (2 * w + 1))).2))
set_option maxHeartbeats 4000000 in
set_option maxRecDepth 100000 in
theorem c_X4_remove (l : Launch) (D : va_G) (cI cZ cB cR : ClassId) (ad : Nat → Nat) (τ γ : Nat → Nat → Nat → Int32) (nf : Nat → Nat) (R w : Nat) (S : LSt) (t : Int32) (lk : LOK S.1 S.2.2.1 S.2.2.2.1 τ γ nf R) (hw : w < 2) (hwr : S.2.2.2.2 = nI w)  : MUi l yX4_remove wsX4_remove ({ frames := 3, cells := 0, slots := 0, locals := 63 } : Room) D cI cZ cB cR (wL cI cB cR ad S) [.ref (ad 0), .int t] (fun (_ : Unit) => wL cI cB cR ad ((p_X4_remove τ γ nf R w t S).2)) (fun r _ => r = (p_X4_remove τ γ nf R w t S).1) := by
  generalize hE : p_X4_remove τ γ nf R w t S = tgt
  intro sz
  refine Met.ofW (cc := cX4_remove) (maxL := 2) (ret := (some .boolean)) (by decide) rfl ?_
  intro p e s m args below meth c s₁ B hml hv
  obtain ⟨hargs, hsz, hP, hEV, hD0⟩ := hv
  have hx := B.exec
  have hb := B.bytes
  have hr := B.returns
  have hts := atoms_spec (ws := wsX4_remove) B.pre
  have hown : s.vm.findClass RX4 = some m.cls := findClass_of_methodNamed B.named
  have hlocks := B.notSynchronized
  have hK := hEV.1
  have hl := lv_entry ([.ref (ad 0), .int t]) (n := 2) (Nat.le_of_ble_eq_true rfl)
  rw [show entryFrame m args 2 = entryFrame m ([.ref (ad 0), .int t] : List Value).toArray 2 from by rw [hargs], lg_entry_eq]
  generalize (lg_sl ([.ref (ad 0), .int t]) ++ List.replicate (2 - (lg_sl ([.ref (ad 0), .int t])).length) Slot.unset).toArray = ls at hl ⊢
  have hl : lv_has ls 2 [(0, .ref (ad 0)), (1, .int t)] := hl
  subst hsz
  have hD := hD0.self (sz := s.heap.size)
  generalize hAe : va_A (wL cI cB cR ad S) s.heap.size = A at hD ⊢
  have hA : ∀ q : Nat, s.heap.size ≤ q → A q := fun q h9 => by rw [← hAe]; exact Or.inr h9
  have hS : va_S A s.heap s.heap [] := va_S.rf
  rw [p_X4_remove] at hE
  have hR16 := lk.2.2.1
  refine lv_aload_n hx hb dX4_remove_0 rfl (lv_at hl 0 rfl) ?_
  refine va_get (D := D) (ci := 4) (v := .ref (ad 1)) (C := RX4) (T := TX4) (N := 4) hx hb hts (fun w9 h9 => List.mem_cons_of_mem _ (inT_X4 w9 h9)) hown hK hP 0 rfl rfl 0 (by decide) (hts (.fieldLink RX4 12 "LinkPredictor" "builds" "[LLinkPredictor$Build;") (List.mem_cons_of_mem _ mw_1_164)) (fun _ h9 => h9) rfl dX4_remove_1 ?_
  refine lv_aload_n hx hb dX4_remove_4 rfl (lv_at hl 0 rfl) ?_
  refine va_get (D := D) (ci := 4) (v := .int S.2.2.2.2) (C := RX4) (T := TX4) (N := 4) hx hb hts (fun w9 h9 => List.mem_cons_of_mem _ (inT_X4 w9 h9)) hown hK hP 0 rfl rfl 3 (by decide) (hts (.fieldLink RX4 27 "LinkPredictor" "written" "I") (List.mem_cons_of_mem _ mw_1_167)) (fun _ h9 => h9) rfl dX4_remove_5 ?_
  refine top_eq (hwr) ?_
  refine ro_aal hx hb hEV hP 1 2 (j := w) (v := ad (3 + 15 * w)) rfl rfl rfl (by omega) (by decide) dX4_remove_8 ?_
  refine va_getN (D := D) (ci := 0) (v := .ref (aMw ad w 0)) (C := RX0) (T := TX0) (N := 3) (host := "LinkPredictor") hx hb hts (fun w9 h9 => List.mem_cons_of_mem _ (inT_X0 w9 h9)) hown hK hP (3 + 15 * w) (wL_b (by omega)) rfl 1 (by decide) (va_Nw.use rfl (hEV.2 (.fieldLinkNest RX4 58 "LinkPredictor$Build" "members" "LLinkPredictor$Members;" "LinkPredictor") (by decide +kernel))) (fun _ h9 => h9) rfl dX4_remove_9 ?_
  refine lv_iload_n hx hb dX4_remove_12 rfl (lv_at hl 1 rfl) ?_
  refine mu_V [.int t] [] ⟨hx, hb, hml, hown, hts⟩ (c_X2_discard l D cI cZ cB cR (aMw ad w) (S.1 (2 * w + 1)) (γ w) (nf w) t (lk.1 w (by omega)).2.2.1) (cwV (C := RX2) 1 hts (goodP (ps := [.methodLink RX4 68 yX2_discard, .instanceMethod yX2_discard, .selects RX2 yX2_discard yX2_discard, .initialized RX2]) (all4 mw_2_11 mw_2_12 mw_2_13 mw_1_4) mw_2_14) rfl rfl rfl (by decide +kernel) ⟨Nat.le_of_ble_eq_true rfl, Nat.le_of_ble_eq_true rfl⟩) hEV (wL_M (by omega) hP) (wL_DM (by omega) hD) hS hA 0 rfl rfl rfl hl.1 rfl (Nat.le_of_ble_eq_true rfl) dX4_remove_13 ⟨Nat.zero_le _, Nat.zero_le _⟩ (fun r9 u9 H1 locs hw hP1 hk1 hS => ?_)
  subst hw
  have hP : va_P D vwCl (wL cI cB cR ad (lsT S (2 * w + 1) ((p_X2_discard (γ w) (nf w) t (S.1 (2 * w + 1))).2))) H1 := wL_swM (by omega) hP hD hP1 hk1
  have hD : va_D A (wL cI cB cR ad (lsT S (2 * w + 1) ((p_X2_discard (γ w) (nf w) t (S.1 (2 * w + 1))).2))) := hD.adr rfl
  generalize H1 = H at hP hS ⊢
  exact W.zret hx hb hr (nar01 (di01 _ _ _ _)) (fun t9 ht9 _ => ⟨⟨_, (), rfl, congrArg Prod.fst hE, by show va_P D vwCl _ t9.heap; rw [ht9, ← congrArg Prod.snd hE]; exact hP⟩, hS.F ht9⟩) hS.2.2 dX4_remove_16
noncomputable def p_X4_drop (τ γ : Nat → Nat → Nat → Int32) (nf : Nat → Nat) (R w : Nat) (t : Int32) (S : LSt) : Int32 × LSt := if (ot t) = true then (((p_X0_discardType (τ w) (γ w) (nf w) (sN t) (bs2 S w)).1, lsT (lsT S (2 * w) ((p_X0_discardType (τ w) (γ w) (nf w) (sN t) (bs2 S w)).2 0)) (2 * w + 1) ((p_X0_discardType (τ w) (γ w) (nf w) (sN t) (bs2 S w)).2 1))) else (((0 : Int32), S))
set_option maxHeartbeats 4000000 in
set_option maxRecDepth 100000 in
theorem c_X4_drop (l : Launch) (D : va_G) (cI cZ cB cR : ClassId) (ad : Nat → Nat) (τ γ : Nat → Nat → Nat → Int32) (nf : Nat → Nat) (R w : Nat) (S : LSt) (t : Int32) (lk : LOK S.1 S.2.2.1 S.2.2.2.1 τ γ nf R) (hw : w < 2) (hwr : S.2.2.2.2 = nI w) (wft : ot t = true → WFT (vwH (htF (sN t) (S.1 (2 * w))))) : MUi l yX4_drop wsX4_drop ({ frames := 40, cells := 0, slots := 0, locals := 1066 } : Room) D cI cZ cB cR (wL cI cB cR ad S) [.ref (ad 0), .int t] (fun (_ : Unit) => wL cI cB cR ad ((p_X4_drop τ γ nf R w t S).2)) (fun r _ => r = (p_X4_drop τ γ nf R w t S).1) := by
  generalize hE : p_X4_drop τ γ nf R w t S = tgt
  intro sz
  refine Met.ofW (cc := cX4_drop) (maxL := 2) (ret := (some .boolean)) (by decide) rfl ?_
  intro p e s m args below meth c s₁ B hml hv
  obtain ⟨hargs, hsz, hP, hEV, hD0⟩ := hv
  have hx := B.exec
  have hb := B.bytes
  have hr := B.returns
  have hts := atoms_spec (ws := wsX4_drop) B.pre
  have hown : s.vm.findClass RX4 = some m.cls := findClass_of_methodNamed B.named
  have hlocks := B.notSynchronized
  have hK := hEV.1
  have hl := lv_entry ([.ref (ad 0), .int t]) (n := 2) (Nat.le_of_ble_eq_true rfl)
  rw [show entryFrame m args 2 = entryFrame m ([.ref (ad 0), .int t] : List Value).toArray 2 from by rw [hargs], lg_entry_eq]
  generalize (lg_sl ([.ref (ad 0), .int t]) ++ List.replicate (2 - (lg_sl ([.ref (ad 0), .int t])).length) Slot.unset).toArray = ls at hl ⊢
  have hl : lv_has ls 2 [(0, .ref (ad 0)), (1, .int t)] := hl
  subst hsz
  have hD := hD0.self (sz := s.heap.size)
  generalize hAe : va_A (wL cI cB cR ad S) s.heap.size = A at hD ⊢
  have hA : ∀ q : Nat, s.heap.size ≤ q → A q := fun q h9 => by rw [← hAe]; exact Or.inr h9
  have hS : va_S A s.heap s.heap [] := va_S.rf
  rw [p_X4_drop] at hE
  have hR16 := lk.2.2.1
  refine lv_iload_n hx hb dX4_drop_0 rfl (lv_at hl 1 rfl) ?_
  refine ro_S [.int t] [] ⟨hx, hb, hml, hown, hts⟩ (c_X4_isOrdinaryType l D cI cZ cB cR t) (va_cwS 1 hts (goodP (ps := [.methodLink RX4 30 yX4_isOrdinaryType, .static yX4_isOrdinaryType, .initialized RX4]) (all3 mw_1_181 mw_1_182 mw_1_1) mw_1_183) rfl rfl rfl (by decide +kernel) ⟨Nat.le_of_ble_eq_true rfl, Nat.le_of_ble_eq_true rfl⟩) hEV va_P0 rfl hl.1 rfl (Nat.le_of_ble_eq_true rfl) dX4_drop_1 ⟨Nat.zero_le _, Nat.zero_le _⟩ ?_
  refine lv_if_ne (tgt := 9) hx hb dX4_drop_4 (by decide) (fun c_4 => ?_) (fun c_4 => ?_)
  · have c_4 : (ot t) = true := b2i_t c_4
    have hE := (if_pos c_4).symm.trans hE
    have ht7 := Bool.and_eq_true_iff.mp c_4
    have ht9 := wi_sN (b := 12) (by omega) ht7.2
    have ht8 := ht9.1
    refine lv_aload_n hx hb dX4_drop_9 rfl (lv_at hl 0 rfl) ?_
    refine va_get (D := D) (ci := 4) (v := .ref (ad 1)) (C := RX4) (T := TX4) (N := 4) hx hb hts (fun w9 h9 => List.mem_cons_of_mem _ (inT_X4 w9 h9)) hown hK hP 0 rfl rfl 0 (by decide) (hts (.fieldLink RX4 12 "LinkPredictor" "builds" "[LLinkPredictor$Build;") (List.mem_cons_of_mem _ mw_1_164)) (fun _ h9 => h9) rfl dX4_drop_10 ?_
    refine lv_aload_n hx hb dX4_drop_13 rfl (lv_at hl 0 rfl) ?_
    refine va_get (D := D) (ci := 4) (v := .int S.2.2.2.2) (C := RX4) (T := TX4) (N := 4) hx hb hts (fun w9 h9 => List.mem_cons_of_mem _ (inT_X4 w9 h9)) hown hK hP 0 rfl rfl 3 (by decide) (hts (.fieldLink RX4 27 "LinkPredictor" "written" "I") (List.mem_cons_of_mem _ mw_1_167)) (fun _ h9 => h9) rfl dX4_drop_14 ?_
    refine top_eq (hwr) ?_
    refine ro_aal hx hb hEV hP 1 2 (j := w) (v := ad (3 + 15 * w)) rfl rfl rfl (by omega) (by decide) dX4_drop_17 ?_
    refine lv_iload_n hx hb dX4_drop_18 rfl (lv_at hl 1 rfl) ?_
    refine top_eq (ht9.2) ?_
    refine mu_V [.int (nI (sN t))] [] ⟨hx, hb, hml, hown, hts⟩ (c_X0_discardType l D cI cZ cB cR (ad (3 + 15 * w)) (aHw ad w) (aMw ad w) (τ w) (γ w) (nf w) (bs2 S w) (S.2.1 w) (sN t) (lk.1 w (by omega)).1 (lk.1 w (by omega)).2.2.1 (wft c_4) (by omega)) (cwV (C := RX0) 1 hts (goodP (ps := [.methodLink RX4 51 yX0_discardType, .instanceMethod yX0_discardType, .selects RX0 yX0_discardType yX0_discardType, .initialized RX0]) (all4 mw_1_200 mw_1_201 mw_1_202 mw_1_2) mw_1_203) rfl rfl rfl (by decide +kernel) ⟨Nat.le_of_ble_eq_true rfl, Nat.le_of_ble_eq_true rfl⟩) hEV (wL_B (by omega) hP) (wL_DB (by omega) hD) hS hA 0 rfl rfl rfl hl.1 rfl (Nat.le_of_ble_eq_true rfl) dX4_drop_19 ⟨Nat.zero_le _, Nat.zero_le _⟩ (fun r9 u9 H1 locs hw hP1 hk1 hS => ?_)
    subst hw
    have hP : va_P D vwCl (wL cI cB cR ad (lsT (lsT S (2 * w) ((p_X0_discardType (τ w) (γ w) (nf w) (sN t) (bs2 S w)).2 0)) (2 * w + 1) ((p_X0_discardType (τ w) (γ w) (nf w) (sN t) (bs2 S w)).2 1))) H1 := wL_swB (by omega) hP hD hP1 hk1
    have hD : va_D A (wL cI cB cR ad (lsT (lsT S (2 * w) ((p_X0_discardType (τ w) (γ w) (nf w) (sN t) (bs2 S w)).2 0)) (2 * w + 1) ((p_X0_discardType (τ w) (γ w) (nf w) (sN t) (bs2 S w)).2 1))) := hD.adr rfl
    generalize H1 = H at hP hS ⊢
    exact W.zret hx hb hr (nar01 (dt01 _ _ _ _ _)) (fun t9 ht9 _ => ⟨⟨_, (), rfl, congrArg Prod.fst hE, by show va_P D vwCl _ t9.heap; rw [ht9, ← congrArg Prod.snd hE]; exact hP⟩, hS.F ht9⟩) hS.2.2 dX4_drop_22
  · have c_4 : ¬ ((ot t) = true) := b2i_f c_4
    have hE := (if_neg c_4).symm.trans hE
    refine lv_iconst (v := (0 : Int32)) hx hb dX4_drop_7 (by decide) ?_
    exact W.zret hx hb hr rfl (fun t9 ht9 _ => ⟨⟨_, (), rfl, congrArg Prod.fst hE, by show va_P D vwCl _ t9.heap; rw [ht9, ← congrArg Prod.snd hE]; exact hP⟩, hS.F ht9⟩) hS.2.2 dX4_drop_8
noncomputable def p_X4_member (τ γ : Nat → Nat → Nat → Int32) (nf : Nat → Nat) (R w : Nat) (t : Int32) (u : Bool) (v : Int32) (y : Int32) (z : Int32) (S : LSt) : Int32 × LSt := if (wi t (12 : Int32)) = true then (if (wi v (15 : Int32)) = true then (if (wi y (4 : Int32)) = true then (if (wi z (8 : Int32)) = true then (((p_X0_addMember (τ w) (γ w) (nf w) (sN t) u v y z (bs2 S w)).1, lsT (lsT S (2 * w) ((p_X0_addMember (τ w) (γ w) (nf w) (sN t) u v y z (bs2 S w)).2 0)) (2 * w + 1) ((p_X0_addMember (τ w) (γ w) (nf w) (sN t) u v y z (bs2 S w)).2 1))) else (((-1 : Int32), S))) else (((-1 : Int32), S))) else (((-1 : Int32), S))) else (((-1 : Int32), S))
set_option maxHeartbeats 4000000 in
set_option maxRecDepth 100000 in
theorem c_X4_member (l : Launch) (D : va_G) (cI cZ cB cR : ClassId) (ad : Nat → Nat) (τ γ : Nat → Nat → Nat → Int32) (nf : Nat → Nat) (R w : Nat) (S : LSt) (t : Int32) (u : Bool) (v : Int32) (y : Int32) (z : Int32) (lk : LOK S.1 S.2.2.1 S.2.2.2.1 τ γ nf R) (hw : w < 2) (hwr : S.2.2.2.2 = nI w)  : MUi l yX4_member wsX4_member ({ frames := 3, cells := 0, slots := 0, locals := 72 } : Room) D cI cZ cB cR (wL cI cB cR ad S) [.ref (ad 0), .int t, .int (b2i u), .int v, .int y, .int z] (fun (_ : Unit) => wL cI cB cR ad ((p_X4_member τ γ nf R w t u v y z S).2)) (fun r _ => r = (p_X4_member τ γ nf R w t u v y z S).1) := by
  generalize hE : p_X4_member τ γ nf R w t u v y z S = tgt
  intro sz
  refine Met.ofW (cc := cX4_member) (maxL := 6) (ret := (some .int)) (by decide) rfl ?_
  intro p e s m args below meth c s₁ B hml hv
  obtain ⟨hargs, hsz, hP, hEV, hD0⟩ := hv
  have hx := B.exec
  have hb := B.bytes
  have hr := B.returns
  have hts := atoms_spec (ws := wsX4_member) B.pre
  have hown : s.vm.findClass RX4 = some m.cls := findClass_of_methodNamed B.named
  have hlocks := B.notSynchronized
  have hK := hEV.1
  have hl := lv_entry ([.ref (ad 0), .int t, .int (b2i u), .int v, .int y, .int z]) (n := 6) (Nat.le_of_ble_eq_true rfl)
  rw [show entryFrame m args 6 = entryFrame m ([.ref (ad 0), .int t, .int (b2i u), .int v, .int y, .int z] : List Value).toArray 6 from by rw [hargs], lg_entry_eq]
  generalize (lg_sl ([.ref (ad 0), .int t, .int (b2i u), .int v, .int y, .int z]) ++ List.replicate (6 - (lg_sl ([.ref (ad 0), .int t, .int (b2i u), .int v, .int y, .int z])).length) Slot.unset).toArray = ls at hl ⊢
  have hl : lv_has ls 6 [(0, .ref (ad 0)), (1, .int t), (2, .int (b2i u)), (3, .int v), (4, .int y), (5, .int z)] := hl
  subst hsz
  have hD := hD0.self (sz := s.heap.size)
  generalize hAe : va_A (wL cI cB cR ad S) s.heap.size = A at hD ⊢
  have hA : ∀ q : Nat, s.heap.size ≤ q → A q := fun q h9 => by rw [← hAe]; exact Or.inr h9
  have hS : va_S A s.heap s.heap [] := va_S.rf
  rw [p_X4_member] at hE
  have hR16 := lk.2.2.1
  refine lv_iload_n hx hb dX4_member_0 rfl (lv_at hl 1 rfl) ?_
  refine lv_bipush (v := (12 : Int32)) hx hb dX4_member_1 (by decide) ?_
  refine ro_S [.int t, .int (12 : Int32)] [] ⟨hx, hb, hml, hown, hts⟩ (c_X4_isWithin l D cI cZ cB cR t (12 : Int32)) (va_cwS 2 hts (goodP (ps := [.methodLink RX4 34 yX4_isWithin, .static yX4_isWithin, .initialized RX4]) (all3 mw_1_56 mw_1_57 mw_1_1) mw_1_58) rfl rfl rfl (by decide +kernel) ⟨Nat.le_of_ble_eq_true rfl, Nat.le_of_ble_eq_true rfl⟩) hEV va_P0 rfl hl.1 rfl (Nat.le_of_ble_eq_true rfl) dX4_member_3 ⟨Nat.zero_le _, Nat.zero_le _⟩ ?_
  refine lv_if_eq (tgt := 37) hx hb dX4_member_6 (by decide) (fun c_6 => ?_) (fun c_6 => ?_)
  · have c_6 : ¬ ((wi t (12 : Int32)) = true) := b2i_f c_6
    have hE := (if_neg c_6).symm.trans hE
    refine lv_iconst (v := (-1 : Int32)) hx hb dX4_member_37 (by decide) ?_
    exact W.iret hx hb hr (fun t9 ht9 _ => ⟨⟨_, (), rfl, congrArg Prod.fst hE, by show va_P D vwCl _ t9.heap; rw [ht9, ← congrArg Prod.snd hE]; exact hP⟩, hS.F ht9⟩) hS.2.2 dX4_member_38
  · have c_6 : (wi t (12 : Int32)) = true := b2i_t c_6
    have hE := (if_pos c_6).symm.trans hE
    refine lv_iload_n hx hb dX4_member_9 rfl (lv_at hl 3 rfl) ?_
    refine lv_bipush (v := (15 : Int32)) hx hb dX4_member_10 (by decide) ?_
    refine ro_S [.int v, .int (15 : Int32)] [] ⟨hx, hb, hml, hown, hts⟩ (c_X4_isWithin l D cI cZ cB cR v (15 : Int32)) (va_cwS 2 hts (goodP (ps := [.methodLink RX4 34 yX4_isWithin, .static yX4_isWithin, .initialized RX4]) (all3 mw_1_56 mw_1_57 mw_1_1) mw_1_58) rfl rfl rfl (by decide +kernel) ⟨Nat.le_of_ble_eq_true rfl, Nat.le_of_ble_eq_true rfl⟩) hEV va_P0 rfl hl.1 rfl (Nat.le_of_ble_eq_true rfl) dX4_member_12 ⟨Nat.zero_le _, Nat.zero_le _⟩ ?_
    refine lv_if_eq (tgt := 37) hx hb dX4_member_15 (by decide) (fun c_15 => ?_) (fun c_15 => ?_)
    · have c_15 : ¬ ((wi v (15 : Int32)) = true) := b2i_f c_15
      have hE := (if_neg c_15).symm.trans hE
      refine lv_iconst (v := (-1 : Int32)) hx hb dX4_member_37 (by decide) ?_
      exact W.iret hx hb hr (fun t9 ht9 _ => ⟨⟨_, (), rfl, congrArg Prod.fst hE, by show va_P D vwCl _ t9.heap; rw [ht9, ← congrArg Prod.snd hE]; exact hP⟩, hS.F ht9⟩) hS.2.2 dX4_member_38
    · have c_15 : (wi v (15 : Int32)) = true := b2i_t c_15
      have hE := (if_pos c_15).symm.trans hE
      refine lv_iload hx hb dX4_member_18 (lv_at hl 4 rfl) ?_
      refine lv_iconst (v := (4 : Int32)) hx hb dX4_member_20 (by decide) ?_
      refine ro_S [.int y, .int (4 : Int32)] [] ⟨hx, hb, hml, hown, hts⟩ (c_X4_isWithin l D cI cZ cB cR y (4 : Int32)) (va_cwS 2 hts (goodP (ps := [.methodLink RX4 34 yX4_isWithin, .static yX4_isWithin, .initialized RX4]) (all3 mw_1_56 mw_1_57 mw_1_1) mw_1_58) rfl rfl rfl (by decide +kernel) ⟨Nat.le_of_ble_eq_true rfl, Nat.le_of_ble_eq_true rfl⟩) hEV va_P0 rfl hl.1 rfl (Nat.le_of_ble_eq_true rfl) dX4_member_21 ⟨Nat.zero_le _, Nat.zero_le _⟩ ?_
      refine lv_if_eq (tgt := 37) hx hb dX4_member_24 (by decide) (fun c_24 => ?_) (fun c_24 => ?_)
      · have c_24 : ¬ ((wi y (4 : Int32)) = true) := b2i_f c_24
        have hE := (if_neg c_24).symm.trans hE
        refine lv_iconst (v := (-1 : Int32)) hx hb dX4_member_37 (by decide) ?_
        exact W.iret hx hb hr (fun t9 ht9 _ => ⟨⟨_, (), rfl, congrArg Prod.fst hE, by show va_P D vwCl _ t9.heap; rw [ht9, ← congrArg Prod.snd hE]; exact hP⟩, hS.F ht9⟩) hS.2.2 dX4_member_38
      · have c_24 : (wi y (4 : Int32)) = true := b2i_t c_24
        have hE := (if_pos c_24).symm.trans hE
        refine lv_iload hx hb dX4_member_27 (lv_at hl 5 rfl) ?_
        refine lv_bipush (v := (8 : Int32)) hx hb dX4_member_29 (by decide) ?_
        refine ro_S [.int z, .int (8 : Int32)] [] ⟨hx, hb, hml, hown, hts⟩ (c_X4_isWithin l D cI cZ cB cR z (8 : Int32)) (va_cwS 2 hts (goodP (ps := [.methodLink RX4 34 yX4_isWithin, .static yX4_isWithin, .initialized RX4]) (all3 mw_1_56 mw_1_57 mw_1_1) mw_1_58) rfl rfl rfl (by decide +kernel) ⟨Nat.le_of_ble_eq_true rfl, Nat.le_of_ble_eq_true rfl⟩) hEV va_P0 rfl hl.1 rfl (Nat.le_of_ble_eq_true rfl) dX4_member_31 ⟨Nat.zero_le _, Nat.zero_le _⟩ ?_
        refine lv_if_ne (tgt := 39) hx hb dX4_member_34 (by decide) (fun c_34 => ?_) (fun c_34 => ?_)
        · have c_34 : (wi z (8 : Int32)) = true := b2i_t c_34
          have hE := (if_pos c_34).symm.trans hE
          have ht9 := wi_sN (b := 12) (by omega) c_6
          have ht8 := ht9.1
          refine lv_aload_n hx hb dX4_member_39 rfl (lv_at hl 0 rfl) ?_
          refine va_get (D := D) (ci := 4) (v := .ref (ad 1)) (C := RX4) (T := TX4) (N := 4) hx hb hts (fun w9 h9 => List.mem_cons_of_mem _ (inT_X4 w9 h9)) hown hK hP 0 rfl rfl 0 (by decide) (hts (.fieldLink RX4 12 "LinkPredictor" "builds" "[LLinkPredictor$Build;") (List.mem_cons_of_mem _ mw_1_164)) (fun _ h9 => h9) rfl dX4_member_40 ?_
          refine lv_aload_n hx hb dX4_member_43 rfl (lv_at hl 0 rfl) ?_
          refine va_get (D := D) (ci := 4) (v := .int S.2.2.2.2) (C := RX4) (T := TX4) (N := 4) hx hb hts (fun w9 h9 => List.mem_cons_of_mem _ (inT_X4 w9 h9)) hown hK hP 0 rfl rfl 3 (by decide) (hts (.fieldLink RX4 27 "LinkPredictor" "written" "I") (List.mem_cons_of_mem _ mw_1_167)) (fun _ h9 => h9) rfl dX4_member_44 ?_
          refine top_eq (hwr) ?_
          refine ro_aal hx hb hEV hP 1 2 (j := w) (v := ad (3 + 15 * w)) rfl rfl rfl (by omega) (by decide) dX4_member_47 ?_
          refine lv_iload_n hx hb dX4_member_48 rfl (lv_at hl 1 rfl) ?_
          refine top_eq (ht9.2) ?_
          refine lv_iload_n hx hb dX4_member_49 rfl (lv_at hl 2 rfl) ?_
          refine lv_iload_n hx hb dX4_member_50 rfl (lv_at hl 3 rfl) ?_
          refine lv_iload hx hb dX4_member_51 (lv_at hl 4 rfl) ?_
          refine lv_iload hx hb dX4_member_53 (lv_at hl 5 rfl) ?_
          refine mu_V [.int (nI (sN t)), .int (b2i u), .int v, .int y, .int z] [] ⟨hx, hb, hml, hown, hts⟩ (c_X0_addMember l D cI cZ cB cR (ad (3 + 15 * w)) (aHw ad w) (aMw ad w) (τ w) (γ w) (nf w) (bs2 S w) (S.2.1 w) (sN t) u v y z (lk.1 w (by omega)).1 (lk.1 w (by omega)).2.2.1 (by omega)) (cwV (C := RX0) 5 hts (goodP (ps := [.methodLink RX4 54 yX0_addMember, .instanceMethod yX0_addMember, .selects RX0 yX0_addMember yX0_addMember, .initialized RX0]) (all4 mw_1_217 mw_1_218 mw_1_219 mw_1_2) mw_1_220) rfl rfl rfl (by decide +kernel) ⟨Nat.le_of_ble_eq_true rfl, Nat.le_of_ble_eq_true rfl⟩) hEV (wL_B (by omega) hP) (wL_DB (by omega) hD) hS hA 0 rfl rfl rfl hl.1 rfl (Nat.le_of_ble_eq_true rfl) dX4_member_55 ⟨Nat.zero_le _, Nat.zero_le _⟩ (fun r9 u9 H1 locs hw hP1 hk1 hS => ?_)
          subst hw
          have hP : va_P D vwCl (wL cI cB cR ad (lsT (lsT S (2 * w) ((p_X0_addMember (τ w) (γ w) (nf w) (sN t) u v y z (bs2 S w)).2 0)) (2 * w + 1) ((p_X0_addMember (τ w) (γ w) (nf w) (sN t) u v y z (bs2 S w)).2 1))) H1 := wL_swB (by omega) hP hD hP1 hk1
          have hD : va_D A (wL cI cB cR ad (lsT (lsT S (2 * w) ((p_X0_addMember (τ w) (γ w) (nf w) (sN t) u v y z (bs2 S w)).2 0)) (2 * w + 1) ((p_X0_addMember (τ w) (γ w) (nf w) (sN t) u v y z (bs2 S w)).2 1))) := hD.adr rfl
          generalize H1 = H at hP hS ⊢
          exact W.iret hx hb hr (fun t9 ht9 _ => ⟨⟨_, (), rfl, congrArg Prod.fst hE, by show va_P D vwCl _ t9.heap; rw [ht9, ← congrArg Prod.snd hE]; exact hP⟩, hS.F ht9⟩) hS.2.2 dX4_member_58
        · have c_34 : ¬ ((wi z (8 : Int32)) = true) := b2i_f c_34
          have hE := (if_neg c_34).symm.trans hE
          refine lv_iconst (v := (-1 : Int32)) hx hb dX4_member_37 (by decide) ?_
          exact W.iret hx hb hr (fun t9 ht9 _ => ⟨⟨_, (), rfl, congrArg Prod.fst hE, by show va_P D vwCl _ t9.heap; rw [ht9, ← congrArg Prod.snd hE]; exact hP⟩, hS.F ht9⟩) hS.2.2 dX4_member_38
noncomputable def lsB (S : LSt) : LSt := lsT (lsT S 2 (p_X0_becomeAs (S.1 (2 * 0)) (S.1 (2 * 0 + 1)) (bs2 S 1) 0)) 3 (p_X0_becomeAs (S.1 (2 * 0)) (S.1 (2 * 0 + 1)) (bs2 S 1) 1)
noncomputable def p_X4_branch_15 (τ γ : Nat → Nat → Nat → Int32) (nf : Nat → Nat) (R w : Nat)  (S : LSt) : Int32 × LSt := (nI (cnF (thB (τ 0)) 12), lsW S (1 : Int32))
noncomputable def p_X4_branch (τ γ : Nat → Nat → Nat → Int32) (nf : Nat → Nat) (R w : Nat)  (S : LSt) : Int32 × LSt := p_X4_branch_15 τ γ nf R w  (lsT (lsT S 2 ((p_X0_becomeAs (S.1 (2 * 0)) (S.1 (2 * 0 + 1)) (bs2 S 1)) 0)) 3 ((p_X0_becomeAs (S.1 (2 * 0)) (S.1 (2 * 0 + 1)) (bs2 S 1)) 1))
set_option maxHeartbeats 4000000 in
set_option maxRecDepth 100000 in
theorem c_X4_branch (l : Launch) (D : va_G) (cI cZ cB cR : ClassId) (ad : Nat → Nat) (τ γ : Nat → Nat → Nat → Int32) (nf : Nat → Nat) (R w : Nat) (S : LSt)  (lk : LOK S.1 S.2.2.1 S.2.2.2.1 τ γ nf R) (hw : w < 2) (hwr : S.2.2.2.2 = nI w) (wfb : WFT (vwH (hbF (S.1 (2 * 0)) (S.1 (2 * 1))))) (hokb : OKH ((lsB S).1 (2 * 1)) (τ 0)) : MUi l yX4_branch wsX4_branch ({ frames := 40, cells := 0, slots := 0, locals := 1066 } : Room) D cI cZ cB cR (wL cI cB cR ad S) [.ref (ad 0)] (fun (_ : Unit) => wL cI cB cR ad ((p_X4_branch τ γ nf R w  S).2)) (fun r _ => r = (p_X4_branch τ γ nf R w  S).1) := by
  generalize hE : p_X4_branch τ γ nf R w  S = tgt
  intro sz
  refine Met.ofW (cc := cX4_branch) (maxL := 1) (ret := (some .int)) (by decide) rfl ?_
  intro p e s m args below meth c s₁ B hml hv
  obtain ⟨hargs, hsz, hP, hEV, hD0⟩ := hv
  have hx := B.exec
  have hb := B.bytes
  have hr := B.returns
  have hts := atoms_spec (ws := wsX4_branch) B.pre
  have hown : s.vm.findClass RX4 = some m.cls := findClass_of_methodNamed B.named
  have hlocks := B.notSynchronized
  have hK := hEV.1
  have hl := lv_entry ([.ref (ad 0)]) (n := 1) (Nat.le_of_ble_eq_true rfl)
  rw [show entryFrame m args 1 = entryFrame m ([.ref (ad 0)] : List Value).toArray 1 from by rw [hargs], lg_entry_eq]
  generalize (lg_sl ([.ref (ad 0)]) ++ List.replicate (1 - (lg_sl ([.ref (ad 0)])).length) Slot.unset).toArray = ls at hl ⊢
  have hl : lv_has ls 1 [(0, .ref (ad 0))] := hl
  subst hsz
  have hD := hD0.self (sz := s.heap.size)
  generalize hAe : va_A (wL cI cB cR ad S) s.heap.size = A at hD ⊢
  have hA : ∀ q : Nat, s.heap.size ≤ q → A q := fun q h9 => by rw [← hAe]; exact Or.inr h9
  have hS : va_S A s.heap s.heap [] := va_S.rf
  rw [p_X4_branch] at hE
  have hR16 := lk.2.2.1
  have key_15 : ∀ (S : LSt) (ls : Array Slot) (H : Heap) (locs : List Loc) (hP : va_P D vwCl (wL cI cB cR ad S) H) (hD : va_D A (wL cI cB cR ad S)) (hS : va_S A s.heap H locs), OKH (S.1 (2 * 1)) (τ 0) → lv_has ls 1 [(0, .ref (ad 0))] → p_X4_branch_15 τ γ nf R w  S = tgt → W p l e (headSpec wsX4_branch ({ frames := 40, cells := 0, slots := 0, locals := 1066 } : Room)).room s m args below meth c H locs 0 0 (MQ below (va_Qi (fun r (_ : Unit) => r = tgt.1) (fun _ t => va_P D vwCl (wL cI cB cR ad tgt.2) t.heap) A) args s 0 0 A) (F0 m 15 ls []) := by
    intro S ls H locs hP hD hS hi_15_0 hl hE
    rw [p_X4_branch_15] at hE
    have hokb := hi_15_0
    refine lv_aload_n hx hb dX4_branch_15 rfl (lv_at hl 0 rfl) ?_
    refine lv_iconst (v := (1 : Int32)) hx hb dX4_branch_16 (by decide) ?_
    refine va_put (D := D) (ci := 4) (v := .int (1 : Int32)) (ty := .int) (C := RX4) (T := TX4) (N := 4) hx hb hts (fun w9 h9 => List.mem_cons_of_mem _ (inT_X4 w9 h9)) tyX4 tyX4_ok nmX4 hown hK hP hD hS 0 rfl rfl 3 (by decide) (hts (.fieldLink RX4 27 "LinkPredictor" "written" "I") (List.mem_cons_of_mem _ mw_1_167)) (fun _ h9 => h9) rfl (by decide +kernel) rfl rfl (Nat.le_of_ble_eq_true rfl) dX4_branch_17 (fun H locs hP hD hS => ?_)
    have hP : va_P D vwCl (wL cI cB cR ad (lsW S (1 : Int32))) _ := hP
    have hD : va_D A (wL cI cB cR ad (lsW S (1 : Int32))) := hD
    refine lv_aload_n hx hb dX4_branch_20 rfl (lv_at hl 0 rfl) ?_
    refine va_get (D := D) (ci := 4) (v := .ref (ad 1)) (C := RX4) (T := TX4) (N := 4) hx hb hts (fun w9 h9 => List.mem_cons_of_mem _ (inT_X4 w9 h9)) hown hK hP 0 rfl rfl 0 (by decide) (hts (.fieldLink RX4 12 "LinkPredictor" "builds" "[LLinkPredictor$Build;") (List.mem_cons_of_mem _ mw_1_164)) (fun _ h9 => h9) rfl dX4_branch_21 ?_
    refine lv_iconst (v := (1 : Int32)) hx hb dX4_branch_24 (by decide) ?_
    refine ro_aal hx hb hEV hP 1 2 (j := 1) (v := ad (3 + 15 * 1)) rfl rfl rfl (by omega) (by decide) dX4_branch_25 ?_
    refine va_getN (D := D) (ci := 0) (v := .ref (aHw ad 1 0)) (C := RX0) (T := TX0) (N := 3) (host := "LinkPredictor") hx hb hts (fun w9 h9 => List.mem_cons_of_mem _ (inT_X0 w9 h9)) hown hK hP (3 + 15 * 1) (wL_b (by omega)) rfl 0 (by decide) (va_Nw.use rfl (hEV.2 (.fieldLinkNest RX4 38 "LinkPredictor$Build" "types" "LLinkPredictor$Hierarchy;" "LinkPredictor") (by decide +kernel))) (fun _ h9 => h9) rfl dX4_branch_26 ?_
    refine ro_V [] [] ⟨hx, hb, hml, hown, hts⟩ (c_X1_countThere l D cI cZ cB cR (aHw ad 1) ((lsW S (1 : Int32)).1 (2 * 1)) (τ 0) hokb) (cwV (C := RX1) 0 hts (goodP (ps := [.methodLink RX4 75 yX1_countThere, .instanceMethod yX1_countThere, .selects RX1 yX1_countThere yX1_countThere, .initialized RX1]) (all4 mw_2_35 mw_2_36 mw_2_37 mw_1_3) mw_2_38) rfl rfl rfl (by decide +kernel) ⟨Nat.le_of_ble_eq_true rfl, Nat.le_of_ble_eq_true rfl⟩) hEV (wL_H (w := 1) (by omega) hP) 0 rfl rfl rfl hl.1 rfl (Nat.le_of_ble_eq_true rfl) dX4_branch_29 ⟨Nat.zero_le _, Nat.zero_le _⟩ ?_
    exact W.iret hx hb hr (fun t9 ht9 _ => ⟨⟨_, (), rfl, congrArg Prod.fst hE, by show va_P D vwCl _ t9.heap; rw [ht9, ← congrArg Prod.snd hE]; exact hP⟩, hS.F ht9⟩) hS.2.2 dX4_branch_32
  refine lv_aload_n hx hb dX4_branch_0 rfl (lv_at hl 0 rfl) ?_
  refine va_get (D := D) (ci := 4) (v := .ref (ad 1)) (C := RX4) (T := TX4) (N := 4) hx hb hts (fun w9 h9 => List.mem_cons_of_mem _ (inT_X4 w9 h9)) hown hK hP 0 rfl rfl 0 (by decide) (hts (.fieldLink RX4 12 "LinkPredictor" "builds" "[LLinkPredictor$Build;") (List.mem_cons_of_mem _ mw_1_164)) (fun _ h9 => h9) rfl dX4_branch_1 ?_
  refine lv_iconst (v := (1 : Int32)) hx hb dX4_branch_4 (by decide) ?_
  refine ro_aal hx hb hEV hP 1 2 (j := 1) (v := ad (3 + 15 * 1)) rfl rfl rfl (by omega) (by decide) dX4_branch_5 ?_
  refine lv_aload_n hx hb dX4_branch_6 rfl (lv_at hl 0 rfl) ?_
  refine va_get (D := D) (ci := 4) (v := .ref (ad 1)) (C := RX4) (T := TX4) (N := 4) hx hb hts (fun w9 h9 => List.mem_cons_of_mem _ (inT_X4 w9 h9)) hown hK hP 0 rfl rfl 0 (by decide) (hts (.fieldLink RX4 12 "LinkPredictor" "builds" "[LLinkPredictor$Build;") (List.mem_cons_of_mem _ mw_1_164)) (fun _ h9 => h9) rfl dX4_branch_7 ?_
  refine lv_iconst (v := (0 : Int32)) hx hb dX4_branch_10 (by decide) ?_
  refine ro_aal hx hb hEV hP 1 2 (j := 0) (v := ad (3 + 15 * 0)) rfl rfl rfl (by omega) (by decide) dX4_branch_11 ?_
  refine mu_Vv [.ref (ad (3 + 15 * 0))] [] ⟨hx, hb, hml, hown, hts⟩ (c_X0_becomeAs l D cI cZ cB cR (ad (3 + 15 * 1)) (ad (3 + 15 * 0)) (aHw ad 1) (aMw ad 1) (aHw ad 0) (aMw ad 0) (bs2 S 1) (S.1 (2 * 0)) (S.1 (2 * 0 + 1)) (S.2.1 1) (S.2.1 0) wfb) (cwV (C := RX0) 1 hts (goodP (ps := [.methodLink RX4 71 yX0_becomeAs, .instanceMethod yX0_becomeAs, .selects RX0 yX0_becomeAs yX0_becomeAs, .initialized RX0]) (all4 mw_2_19 mw_2_20 mw_2_21 mw_1_2) mw_2_22) rfl rfl rfl (by decide +kernel) ⟨Nat.le_of_ble_eq_true rfl, Nat.le_of_ble_eq_true rfl⟩) hEV (wL_BB hP) (wL_DBB hD) hS hA 0 rfl rfl rfl hl.1 rfl (Nat.le_of_ble_eq_true rfl) dX4_branch_12 ⟨Nat.zero_le _, Nat.zero_le _⟩ (fun u9 H1 locs hw hP1 hk1 hS => ?_)
  have hP : va_P D vwCl (wL cI cB cR ad (lsT (lsT S 2 ((p_X0_becomeAs (S.1 (2 * 0)) (S.1 (2 * 0 + 1)) (bs2 S 1)) 0)) 3 ((p_X0_becomeAs (S.1 (2 * 0)) (S.1 (2 * 0 + 1)) (bs2 S 1)) 1))) H1 := wL_swBB hP hD hP1 hk1
  have hD : va_D A (wL cI cB cR ad (lsT (lsT S 2 ((p_X0_becomeAs (S.1 (2 * 0)) (S.1 (2 * 0 + 1)) (bs2 S 1)) 0)) 3 ((p_X0_becomeAs (S.1 (2 * 0)) (S.1 (2 * 0 + 1)) (bs2 S 1)) 1))) := hD.adr rfl
  generalize H1 = H at hP hS ⊢
  exact key_15 (lsT (lsT S 2 ((p_X0_becomeAs (S.1 (2 * 0)) (S.1 (2 * 0 + 1)) (bs2 S 1)) 0)) 3 ((p_X0_becomeAs (S.1 (2 * 0)) (S.1 (2 * 0 + 1)) (bs2 S 1)) 1)) ls _ _ hP hD hS (by exact hokb) (lv_sub hl [0] rfl) hE
noncomputable def p_X4_write (τ γ : Nat → Nat → Nat → Int32) (nf : Nat → Nat) (R w : Nat) (t : Int32) (S : LSt) : Int32 × LSt := if (wi t (2 : Int32)) = true then (((1 : Int32), lsW S t)) else (((0 : Int32), S))
set_option maxHeartbeats 4000000 in
set_option maxRecDepth 100000 in
theorem c_X4_write (l : Launch) (D : va_G) (cI cZ cB cR : ClassId) (ad : Nat → Nat) (τ γ : Nat → Nat → Nat → Int32) (nf : Nat → Nat) (R w : Nat) (S : LSt) (t : Int32) (lk : LOK S.1 S.2.2.1 S.2.2.2.1 τ γ nf R) (hw : w < 2) (hwr : S.2.2.2.2 = nI w)  : MUi l yX4_write wsX4_write ({ frames := 1, cells := 0, slots := 0, locals := 21 } : Room) D cI cZ cB cR (wL cI cB cR ad S) [.ref (ad 0), .int t] (fun (_ : Unit) => wL cI cB cR ad ((p_X4_write τ γ nf R w t S).2)) (fun r _ => r = (p_X4_write τ γ nf R w t S).1) := by
  generalize hE : p_X4_write τ γ nf R w t S = tgt
  intro sz
  refine Met.ofW (cc := cX4_write) (maxL := 2) (ret := (some .boolean)) (by decide) rfl ?_
  intro p e s m args below meth c s₁ B hml hv
  obtain ⟨hargs, hsz, hP, hEV, hD0⟩ := hv
  have hx := B.exec
  have hb := B.bytes
  have hr := B.returns
  have hts := atoms_spec (ws := wsX4_write) B.pre
  have hown : s.vm.findClass RX4 = some m.cls := findClass_of_methodNamed B.named
  have hlocks := B.notSynchronized
  have hK := hEV.1
  have hl := lv_entry ([.ref (ad 0), .int t]) (n := 2) (Nat.le_of_ble_eq_true rfl)
  rw [show entryFrame m args 2 = entryFrame m ([.ref (ad 0), .int t] : List Value).toArray 2 from by rw [hargs], lg_entry_eq]
  generalize (lg_sl ([.ref (ad 0), .int t]) ++ List.replicate (2 - (lg_sl ([.ref (ad 0), .int t])).length) Slot.unset).toArray = ls at hl ⊢
  have hl : lv_has ls 2 [(0, .ref (ad 0)), (1, .int t)] := hl
  subst hsz
  have hD := hD0.self (sz := s.heap.size)
  generalize hAe : va_A (wL cI cB cR ad S) s.heap.size = A at hD ⊢
  have hA : ∀ q : Nat, s.heap.size ≤ q → A q := fun q h9 => by rw [← hAe]; exact Or.inr h9
  have hS : va_S A s.heap s.heap [] := va_S.rf
  rw [p_X4_write] at hE
  have hR16 := lk.2.2.1
  refine lv_iload_n hx hb dX4_write_0 rfl (lv_at hl 1 rfl) ?_
  refine lv_iconst (v := (2 : Int32)) hx hb dX4_write_1 (by decide) ?_
  refine ro_S [.int t, .int (2 : Int32)] [] ⟨hx, hb, hml, hown, hts⟩ (c_X4_isWithin l D cI cZ cB cR t (2 : Int32)) (va_cwS 2 hts (goodP (ps := [.methodLink RX4 34 yX4_isWithin, .static yX4_isWithin, .initialized RX4]) (all3 mw_1_56 mw_1_57 mw_1_1) mw_1_58) rfl rfl rfl (by decide +kernel) ⟨Nat.le_of_ble_eq_true rfl, Nat.le_of_ble_eq_true rfl⟩) hEV va_P0 rfl hl.1 rfl (Nat.le_of_ble_eq_true rfl) dX4_write_2 ⟨Nat.zero_le _, Nat.zero_le _⟩ ?_
  refine lv_if_ne (tgt := 10) hx hb dX4_write_5 (by decide) (fun c_5 => ?_) (fun c_5 => ?_)
  · have c_5 : (wi t (2 : Int32)) = true := b2i_t c_5
    have hE := (if_pos c_5).symm.trans hE
    refine lv_aload_n hx hb dX4_write_10 rfl (lv_at hl 0 rfl) ?_
    refine lv_iload_n hx hb dX4_write_11 rfl (lv_at hl 1 rfl) ?_
    refine va_put (D := D) (ci := 4) (v := .int t) (ty := .int) (C := RX4) (T := TX4) (N := 4) hx hb hts (fun w9 h9 => List.mem_cons_of_mem _ (inT_X4 w9 h9)) tyX4 tyX4_ok nmX4 hown hK hP hD hS 0 rfl rfl 3 (by decide) (hts (.fieldLink RX4 27 "LinkPredictor" "written" "I") (List.mem_cons_of_mem _ mw_1_167)) (fun _ h9 => h9) rfl (by decide +kernel) rfl rfl (Nat.le_of_ble_eq_true rfl) dX4_write_12 (fun H locs hP hD hS => ?_)
    have hP : va_P D vwCl (wL cI cB cR ad (lsW S t)) _ := hP
    have hD : va_D A (wL cI cB cR ad (lsW S t)) := hD
    refine lv_iconst (v := (1 : Int32)) hx hb dX4_write_15 (by decide) ?_
    exact W.zret hx hb hr rfl (fun t9 ht9 _ => ⟨⟨_, (), rfl, congrArg Prod.fst hE, by show va_P D vwCl _ t9.heap; rw [ht9, ← congrArg Prod.snd hE]; exact hP⟩, hS.F ht9⟩) hS.2.2 dX4_write_16
  · have c_5 : ¬ ((wi t (2 : Int32)) = true) := b2i_f c_5
    have hE := (if_neg c_5).symm.trans hE
    refine lv_iconst (v := (0 : Int32)) hx hb dX4_write_8 (by decide) ?_
    exact W.zret hx hb hr rfl (fun t9 ht9 _ => ⟨⟨_, (), rfl, congrArg Prod.fst hE, by show va_P D vwCl _ t9.heap; rw [ht9, ← congrArg Prod.snd hE]; exact hP⟩, hS.F ht9⟩) hS.2.2 dX4_write_9
noncomputable def p_X4_refer_68 (τ γ : Nat → Nat → Nat → Int32) (nf : Nat → Nat) (R w : Nat) (t : Int32) (u : Int32) (v : Int32) (y : Int32) (S : LSt) : Int32 × LSt := (nI R, lsC S (nI (R + 1)))
noncomputable def p_X4_refer (τ γ : Nat → Nat → Nat → Int32) (nf : Nat → Nat) (R w : Nat) (t : Int32) (u : Int32) (v : Int32) (y : Int32) (S : LSt) : Int32 × LSt := if (wi t (9 : Int32)) = true then (if (wi u (12 : Int32)) = true then (if (wi v (12 : Int32)) = true then (if (wi y (15 : Int32)) = true then (if R < 16 then (p_X4_refer_68 τ γ nf R w t u v y (lsR S R (p_X3_put (sN t) (sN u) (sN v) (sN y) (S.2.2.1 R)))) else (((-3 : Int32), S))) else (((-1 : Int32), S))) else (((-1 : Int32), S))) else (((-1 : Int32), S))) else (((-1 : Int32), S))
set_option maxHeartbeats 4000000 in
set_option maxRecDepth 100000 in
theorem c_X4_refer (l : Launch) (D : va_G) (cI cZ cB cR : ClassId) (ad : Nat → Nat) (τ γ : Nat → Nat → Nat → Int32) (nf : Nat → Nat) (R w : Nat) (S : LSt) (t : Int32) (u : Int32) (v : Int32) (y : Int32) (lk : LOK S.1 S.2.2.1 S.2.2.2.1 τ γ nf R) (hw : w < 2) (hwr : S.2.2.2.2 = nI w)  : MUi l yX4_refer wsX4_refer ({ frames := 1, cells := 0, slots := 0, locals := 24 } : Room) D cI cZ cB cR (wL cI cB cR ad S) [.ref (ad 0), .int t, .int u, .int v, .int y] (fun (_ : Unit) => wL cI cB cR ad ((p_X4_refer τ γ nf R w t u v y S).2)) (fun r _ => r = (p_X4_refer τ γ nf R w t u v y S).1) := by
  generalize hE : p_X4_refer τ γ nf R w t u v y S = tgt
  intro sz
  refine Met.ofW (cc := cX4_refer) (maxL := 5) (ret := (some .int)) (by decide) rfl ?_
  intro p e s m args below meth c s₁ B hml hv
  obtain ⟨hargs, hsz, hP, hEV, hD0⟩ := hv
  have hx := B.exec
  have hb := B.bytes
  have hr := B.returns
  have hts := atoms_spec (ws := wsX4_refer) B.pre
  have hown : s.vm.findClass RX4 = some m.cls := findClass_of_methodNamed B.named
  have hlocks := B.notSynchronized
  have hK := hEV.1
  have hl := lv_entry ([.ref (ad 0), .int t, .int u, .int v, .int y]) (n := 5) (Nat.le_of_ble_eq_true rfl)
  rw [show entryFrame m args 5 = entryFrame m ([.ref (ad 0), .int t, .int u, .int v, .int y] : List Value).toArray 5 from by rw [hargs], lg_entry_eq]
  generalize (lg_sl ([.ref (ad 0), .int t, .int u, .int v, .int y]) ++ List.replicate (5 - (lg_sl ([.ref (ad 0), .int t, .int u, .int v, .int y])).length) Slot.unset).toArray = ls at hl ⊢
  have hl : lv_has ls 5 [(0, .ref (ad 0)), (1, .int t), (2, .int u), (3, .int v), (4, .int y)] := hl
  subst hsz
  have hD := hD0.self (sz := s.heap.size)
  generalize hAe : va_A (wL cI cB cR ad S) s.heap.size = A at hD ⊢
  have hA : ∀ q : Nat, s.heap.size ≤ q → A q := fun q h9 => by rw [← hAe]; exact Or.inr h9
  have hS : va_S A s.heap s.heap [] := va_S.rf
  rw [p_X4_refer] at hE
  have hR16 := lk.2.2.1
  have key_68 : ∀ (S : LSt) (ls : Array Slot) (H : Heap) (locs : List Loc) (hP : va_P D vwCl (wL cI cB cR ad S) H) (hD : va_D A (wL cI cB cR ad S)) (hS : va_S A s.heap H locs), S.2.2.2.1 = nI R → lv_has ls 5 [(0, .ref (ad 0))] → p_X4_refer_68 τ γ nf R w t u v y S = tgt → W p l e (headSpec wsX4_refer ({ frames := 1, cells := 0, slots := 0, locals := 24 } : Room)).room s m args below meth c H locs 0 0 (MQ below (va_Qi (fun r (_ : Unit) => r = tgt.1) (fun _ t => va_P D vwCl (wL cI cB cR ad tgt.2) t.heap) A) args s 0 0 A) (F0 m 68 ls []) := by
    intro S ls H locs hP hD hS hi_68_0 hl hE
    rw [p_X4_refer_68] at hE
    refine lv_aload_n hx hb dX4_refer_68 rfl (lv_at hl 0 rfl) ?_
    refine lv_dup hx hb dX4_refer_69 rfl ?_
    refine va_get (D := D) (ci := 4) (v := .int S.2.2.2.1) (C := RX4) (T := TX4) (N := 4) hx hb hts (fun w9 h9 => List.mem_cons_of_mem _ (inT_X4 w9 h9)) hown hK hP 0 rfl rfl 2 (by decide) (hts (.fieldLink RX4 23 "LinkPredictor" "referenceCount" "I") (List.mem_cons_of_mem _ mw_1_166)) (fun _ h9 => h9) rfl dX4_refer_70 ?_
    refine top_eq (hi_68_0) ?_
    refine lv_iconst (v := (1 : Int32)) hx hb dX4_refer_73 (by decide) ?_
    refine lv_iadd hx hb dX4_refer_74 ?_
    refine top_eq (nI_add R 1) ?_
    refine va_put (D := D) (ci := 4) (v := .int (nI (R + 1))) (ty := .int) (C := RX4) (T := TX4) (N := 4) hx hb hts (fun w9 h9 => List.mem_cons_of_mem _ (inT_X4 w9 h9)) tyX4 tyX4_ok nmX4 hown hK hP hD hS 0 rfl rfl 2 (by decide) (hts (.fieldLink RX4 23 "LinkPredictor" "referenceCount" "I") (List.mem_cons_of_mem _ mw_1_166)) (fun _ h9 => h9) rfl (by decide +kernel) rfl rfl (Nat.le_of_ble_eq_true rfl) dX4_refer_75 (fun H locs hP hD hS => ?_)
    have hP : va_P D vwCl (wL cI cB cR ad (lsC S (nI (R + 1)))) _ := hP
    have hD : va_D A (wL cI cB cR ad (lsC S (nI (R + 1)))) := hD
    refine lv_aload_n hx hb dX4_refer_78 rfl (lv_at hl 0 rfl) ?_
    refine va_get (D := D) (ci := 4) (v := .int ((lsC S (nI (R + 1))).2.2.2.1)) (C := RX4) (T := TX4) (N := 4) hx hb hts (fun w9 h9 => List.mem_cons_of_mem _ (inT_X4 w9 h9)) hown hK hP 0 rfl rfl 2 (by decide) (hts (.fieldLink RX4 23 "LinkPredictor" "referenceCount" "I") (List.mem_cons_of_mem _ mw_1_166)) (fun _ h9 => h9) rfl dX4_refer_79 ?_
    refine top_eq (rfl) ?_
    refine lv_iconst (v := (1 : Int32)) hx hb dX4_refer_82 (by decide) ?_
    refine lv_isub hx hb dX4_refer_83 ?_
    refine top_eq (nI_pred R) ?_
    exact W.iret hx hb hr (fun t9 ht9 _ => ⟨⟨_, (), rfl, congrArg Prod.fst hE, by show va_P D vwCl _ t9.heap; rw [ht9, ← congrArg Prod.snd hE]; exact hP⟩, hS.F ht9⟩) hS.2.2 dX4_refer_84
  refine lv_iload_n hx hb dX4_refer_0 rfl (lv_at hl 1 rfl) ?_
  refine lv_bipush (v := (9 : Int32)) hx hb dX4_refer_1 (by decide) ?_
  refine ro_S [.int t, .int (9 : Int32)] [] ⟨hx, hb, hml, hown, hts⟩ (c_X4_isWithin l D cI cZ cB cR t (9 : Int32)) (va_cwS 2 hts (goodP (ps := [.methodLink RX4 34 yX4_isWithin, .static yX4_isWithin, .initialized RX4]) (all3 mw_1_56 mw_1_57 mw_1_1) mw_1_58) rfl rfl rfl (by decide +kernel) ⟨Nat.le_of_ble_eq_true rfl, Nat.le_of_ble_eq_true rfl⟩) hEV va_P0 rfl hl.1 rfl (Nat.le_of_ble_eq_true rfl) dX4_refer_3 ⟨Nat.zero_le _, Nat.zero_le _⟩ ?_
  refine lv_if_eq (tgt := 37) hx hb dX4_refer_6 (by decide) (fun c_6 => ?_) (fun c_6 => ?_)
  · have c_6 : ¬ ((wi t (9 : Int32)) = true) := b2i_f c_6
    have hE := (if_neg c_6).symm.trans hE
    refine lv_iconst (v := (-1 : Int32)) hx hb dX4_refer_37 (by decide) ?_
    exact W.iret hx hb hr (fun t9 ht9 _ => ⟨⟨_, (), rfl, congrArg Prod.fst hE, by show va_P D vwCl _ t9.heap; rw [ht9, ← congrArg Prod.snd hE]; exact hP⟩, hS.F ht9⟩) hS.2.2 dX4_refer_38
  · have c_6 : (wi t (9 : Int32)) = true := b2i_t c_6
    have hE := (if_pos c_6).symm.trans hE
    refine lv_iload_n hx hb dX4_refer_9 rfl (lv_at hl 2 rfl) ?_
    refine lv_bipush (v := (12 : Int32)) hx hb dX4_refer_10 (by decide) ?_
    refine ro_S [.int u, .int (12 : Int32)] [] ⟨hx, hb, hml, hown, hts⟩ (c_X4_isWithin l D cI cZ cB cR u (12 : Int32)) (va_cwS 2 hts (goodP (ps := [.methodLink RX4 34 yX4_isWithin, .static yX4_isWithin, .initialized RX4]) (all3 mw_1_56 mw_1_57 mw_1_1) mw_1_58) rfl rfl rfl (by decide +kernel) ⟨Nat.le_of_ble_eq_true rfl, Nat.le_of_ble_eq_true rfl⟩) hEV va_P0 rfl hl.1 rfl (Nat.le_of_ble_eq_true rfl) dX4_refer_12 ⟨Nat.zero_le _, Nat.zero_le _⟩ ?_
    refine lv_if_eq (tgt := 37) hx hb dX4_refer_15 (by decide) (fun c_15 => ?_) (fun c_15 => ?_)
    · have c_15 : ¬ ((wi u (12 : Int32)) = true) := b2i_f c_15
      have hE := (if_neg c_15).symm.trans hE
      refine lv_iconst (v := (-1 : Int32)) hx hb dX4_refer_37 (by decide) ?_
      exact W.iret hx hb hr (fun t9 ht9 _ => ⟨⟨_, (), rfl, congrArg Prod.fst hE, by show va_P D vwCl _ t9.heap; rw [ht9, ← congrArg Prod.snd hE]; exact hP⟩, hS.F ht9⟩) hS.2.2 dX4_refer_38
    · have c_15 : (wi u (12 : Int32)) = true := b2i_t c_15
      have hE := (if_pos c_15).symm.trans hE
      refine lv_iload_n hx hb dX4_refer_18 rfl (lv_at hl 3 rfl) ?_
      refine lv_bipush (v := (12 : Int32)) hx hb dX4_refer_19 (by decide) ?_
      refine ro_S [.int v, .int (12 : Int32)] [] ⟨hx, hb, hml, hown, hts⟩ (c_X4_isWithin l D cI cZ cB cR v (12 : Int32)) (va_cwS 2 hts (goodP (ps := [.methodLink RX4 34 yX4_isWithin, .static yX4_isWithin, .initialized RX4]) (all3 mw_1_56 mw_1_57 mw_1_1) mw_1_58) rfl rfl rfl (by decide +kernel) ⟨Nat.le_of_ble_eq_true rfl, Nat.le_of_ble_eq_true rfl⟩) hEV va_P0 rfl hl.1 rfl (Nat.le_of_ble_eq_true rfl) dX4_refer_21 ⟨Nat.zero_le _, Nat.zero_le _⟩ ?_
      refine lv_if_eq (tgt := 37) hx hb dX4_refer_24 (by decide) (fun c_24 => ?_) (fun c_24 => ?_)
      · have c_24 : ¬ ((wi v (12 : Int32)) = true) := b2i_f c_24
        have hE := (if_neg c_24).symm.trans hE
        refine lv_iconst (v := (-1 : Int32)) hx hb dX4_refer_37 (by decide) ?_
        exact W.iret hx hb hr (fun t9 ht9 _ => ⟨⟨_, (), rfl, congrArg Prod.fst hE, by show va_P D vwCl _ t9.heap; rw [ht9, ← congrArg Prod.snd hE]; exact hP⟩, hS.F ht9⟩) hS.2.2 dX4_refer_38
      · have c_24 : (wi v (12 : Int32)) = true := b2i_t c_24
        have hE := (if_pos c_24).symm.trans hE
        refine lv_iload hx hb dX4_refer_27 (lv_at hl 4 rfl) ?_
        refine lv_bipush (v := (15 : Int32)) hx hb dX4_refer_29 (by decide) ?_
        refine ro_S [.int y, .int (15 : Int32)] [] ⟨hx, hb, hml, hown, hts⟩ (c_X4_isWithin l D cI cZ cB cR y (15 : Int32)) (va_cwS 2 hts (goodP (ps := [.methodLink RX4 34 yX4_isWithin, .static yX4_isWithin, .initialized RX4]) (all3 mw_1_56 mw_1_57 mw_1_1) mw_1_58) rfl rfl rfl (by decide +kernel) ⟨Nat.le_of_ble_eq_true rfl, Nat.le_of_ble_eq_true rfl⟩) hEV va_P0 rfl hl.1 rfl (Nat.le_of_ble_eq_true rfl) dX4_refer_31 ⟨Nat.zero_le _, Nat.zero_le _⟩ ?_
        refine lv_if_ne (tgt := 39) hx hb dX4_refer_34 (by decide) (fun c_34 => ?_) (fun c_34 => ?_)
        · have c_34 : (wi y (15 : Int32)) = true := b2i_t c_34
          have hE := (if_pos c_34).symm.trans hE
          refine lv_aload_n hx hb dX4_refer_39 rfl (lv_at hl 0 rfl) ?_
          refine va_get (D := D) (ci := 4) (v := .int S.2.2.2.1) (C := RX4) (T := TX4) (N := 4) hx hb hts (fun w9 h9 => List.mem_cons_of_mem _ (inT_X4 w9 h9)) hown hK hP 0 rfl rfl 2 (by decide) (hts (.fieldLink RX4 23 "LinkPredictor" "referenceCount" "I") (List.mem_cons_of_mem _ mw_1_166)) (fun _ h9 => h9) rfl dX4_refer_40 ?_
          refine top_eq (lk.2.1) ?_
          refine lv_bipush (v := (16 : Int32)) hx hb dX4_refer_43 (by decide) ?_
          refine lv_icmp_lt (tgt := 51) hx hb dX4_refer_45 (by decide) (fun c_45 => ?_) (fun c_45 => ?_)
          · have c_45 : R < 16 := (nI_ltI (a := R) (b := 16) (by omega) (by omega)).mp c_45
            have hE := (if_pos c_45).symm.trans hE
            have ht9 := wi_sN (b := 9) (by omega) c_6
            have ht8 := ht9.1
            have hu9 := wi_sN (b := 12) (by omega) c_15
            have hu8 := hu9.1
            have hv9 := wi_sN (b := 12) (by omega) c_24
            have hv8 := hv9.1
            have hy9 := wi_sN (b := 15) (by omega) c_34
            have hy8 := hy9.1
            refine lv_aload_n hx hb dX4_refer_51 rfl (lv_at hl 0 rfl) ?_
            refine va_get (D := D) (ci := 4) (v := .ref (ad 2)) (C := RX4) (T := TX4) (N := 4) hx hb hts (fun w9 h9 => List.mem_cons_of_mem _ (inT_X4 w9 h9)) hown hK hP 0 rfl rfl 1 (by decide) (hts (.fieldLink RX4 18 "LinkPredictor" "references" "[LLinkPredictor$Reference;") (List.mem_cons_of_mem _ mw_1_165)) (fun _ h9 => h9) rfl dX4_refer_52 ?_
            refine lv_aload_n hx hb dX4_refer_55 rfl (lv_at hl 0 rfl) ?_
            refine va_get (D := D) (ci := 4) (v := .int S.2.2.2.1) (C := RX4) (T := TX4) (N := 4) hx hb hts (fun w9 h9 => List.mem_cons_of_mem _ (inT_X4 w9 h9)) hown hK hP 0 rfl rfl 2 (by decide) (hts (.fieldLink RX4 23 "LinkPredictor" "referenceCount" "I") (List.mem_cons_of_mem _ mw_1_166)) (fun _ h9 => h9) rfl dX4_refer_56 ?_
            refine top_eq (lk.2.1) ?_
            refine ro_aal hx hb hEV hP 2 3 (j := R) (v := ad (33 + R)) rfl rfl rfl (by omega) (by decide) dX4_refer_59 ?_
            refine lv_iload_n hx hb dX4_refer_60 rfl (lv_at hl 1 rfl) ?_
            refine top_eq (ht9.2) ?_
            refine lv_iload_n hx hb dX4_refer_61 rfl (lv_at hl 2 rfl) ?_
            refine top_eq (hu9.2) ?_
            refine lv_iload_n hx hb dX4_refer_62 rfl (lv_at hl 3 rfl) ?_
            refine top_eq (hv9.2) ?_
            refine lv_iload hx hb dX4_refer_63 (lv_at hl 4 rfl) ?_
            refine top_eq (hy9.2) ?_
            refine mu_Vv [.int (nI (sN t)), .int (nI (sN u)), .int (nI (sN v)), .int (nI (sN y))] [] ⟨hx, hb, hml, hown, hts⟩ (c_X3_put l D cI cZ cB cR (ad (33 + R)) (S.2.2.1 R) (sN t) (sN u) (sN v) (sN y)) (cwV (C := RX3) 4 hts (goodP (ps := [.methodLink RX4 79 yX3_put, .instanceMethod yX3_put, .selects RX3 yX3_put yX3_put, .initialized RX3]) (all4 mw_2_53 mw_2_54 mw_2_55 mw_1_5) mw_2_56) rfl rfl rfl (by decide +kernel) ⟨Nat.le_of_ble_eq_true rfl, Nat.le_of_ble_eq_true rfl⟩) hEV (wL_R (by omega) hP) (wL_DR1 (by omega) hD) hS hA 0 rfl rfl rfl hl.1 rfl (Nat.le_of_ble_eq_true rfl) dX4_refer_65 ⟨Nat.zero_le _, Nat.zero_le _⟩ (fun u9 H1 locs hw hP1 hk1 hS => ?_)
            have hP : va_P D vwCl (wL cI cB cR ad (lsR S R (p_X3_put (sN t) (sN u) (sN v) (sN y) (S.2.2.1 R)))) H1 := wL_swR (by omega) hP hD hP1 hk1
            have hD : va_D A (wL cI cB cR ad (lsR S R (p_X3_put (sN t) (sN u) (sN v) (sN y) (S.2.2.1 R)))) := hD.adr rfl
            generalize H1 = H at hP hS ⊢
            exact key_68 (lsR S R (p_X3_put (sN t) (sN u) (sN v) (sN y) (S.2.2.1 R))) ls _ _ hP hD hS (by exact lk.2.1) (lv_sub hl [0] rfl) hE
          · have c_45 : ¬ (R < 16) := fun q9 => c_45 ((nI_ltI (a := R) (b := 16) (by omega) (by omega)).mpr q9)
            have hE := (if_neg c_45).symm.trans hE
            refine lv_bipush (v := (-3 : Int32)) hx hb dX4_refer_48 (by decide) ?_
            exact W.iret hx hb hr (fun t9 ht9 _ => ⟨⟨_, (), rfl, congrArg Prod.fst hE, by show va_P D vwCl _ t9.heap; rw [ht9, ← congrArg Prod.snd hE]; exact hP⟩, hS.F ht9⟩) hS.2.2 dX4_refer_50
        · have c_34 : ¬ ((wi y (15 : Int32)) = true) := b2i_f c_34
          have hE := (if_neg c_34).symm.trans hE
          refine lv_iconst (v := (-1 : Int32)) hx hb dX4_refer_37 (by decide) ?_
          exact W.iret hx hb hr (fun t9 ht9 _ => ⟨⟨_, (), rfl, congrArg Prod.fst hE, by show va_P D vwCl _ t9.heap; rw [ht9, ← congrArg Prod.snd hE]; exact hP⟩, hS.F ht9⟩) hS.2.2 dX4_refer_38
noncomputable def p_X4_forget (τ γ : Nat → Nat → Nat → Int32) (nf : Nat → Nat) (R w : Nat)  (S : LSt) : Int32 × LSt := (S.2.2.2.1, lsC S (0 : Int32))
set_option maxHeartbeats 4000000 in
set_option maxRecDepth 100000 in
theorem c_X4_forget (l : Launch) (D : va_G) (cI cZ cB cR : ClassId) (ad : Nat → Nat) (τ γ : Nat → Nat → Nat → Int32) (nf : Nat → Nat) (R w : Nat) (S : LSt)  (lk : LOK S.1 S.2.2.1 S.2.2.2.1 τ γ nf R) (hw : w < 2) (hwr : S.2.2.2.2 = nI w)  : MUi l yX4_forget wsX4_forget ({ frames := 0, cells := 0, slots := 0, locals := 0 } : Room) D cI cZ cB cR (wL cI cB cR ad S) [.ref (ad 0)] (fun (_ : Unit) => wL cI cB cR ad ((p_X4_forget τ γ nf R w  S).2)) (fun r _ => r = (p_X4_forget τ γ nf R w  S).1) := by
  generalize hE : p_X4_forget τ γ nf R w  S = tgt
  intro sz
  refine Met.ofW (cc := cX4_forget) (maxL := 2) (ret := (some .int)) (by decide) rfl ?_
  intro p e s m args below meth c s₁ B hml hv
  obtain ⟨hargs, hsz, hP, hEV, hD0⟩ := hv
  have hx := B.exec
  have hb := B.bytes
  have hr := B.returns
  have hts := atoms_spec (ws := wsX4_forget) B.pre
  have hown : s.vm.findClass RX4 = some m.cls := findClass_of_methodNamed B.named
  have hlocks := B.notSynchronized
  have hK := hEV.1
  have hl := lv_entry ([.ref (ad 0)]) (n := 2) (Nat.le_of_ble_eq_true rfl)
  rw [show entryFrame m args 2 = entryFrame m ([.ref (ad 0)] : List Value).toArray 2 from by rw [hargs], lg_entry_eq]
  generalize (lg_sl ([.ref (ad 0)]) ++ List.replicate (2 - (lg_sl ([.ref (ad 0)])).length) Slot.unset).toArray = ls at hl ⊢
  have hl : lv_has ls 2 [(0, .ref (ad 0))] := hl
  subst hsz
  have hD := hD0.self (sz := s.heap.size)
  generalize hAe : va_A (wL cI cB cR ad S) s.heap.size = A at hD ⊢
  have hA : ∀ q : Nat, s.heap.size ≤ q → A q := fun q h9 => by rw [← hAe]; exact Or.inr h9
  have hS : va_S A s.heap s.heap [] := va_S.rf
  rw [p_X4_forget] at hE
  have hR16 := lk.2.2.1
  refine lv_aload_n hx hb dX4_forget_0 rfl (lv_at hl 0 rfl) ?_
  refine va_get (D := D) (ci := 4) (v := .int S.2.2.2.1) (C := RX4) (T := TX4) (N := 4) hx hb hts (fun w9 h9 => List.mem_cons_of_mem _ (inT_X4 w9 h9)) hown hK hP 0 rfl rfl 2 (by decide) (hts (.fieldLink RX4 23 "LinkPredictor" "referenceCount" "I") (List.mem_cons_of_mem _ mw_1_166)) (fun _ h9 => h9) rfl dX4_forget_1 ?_
  refine lv_istore_n (lv' := [(1, .int S.2.2.2.1), (0, .ref (ad 0))]) hx hb dX4_forget_4 rfl hl (by decide) rfl (fun ls hl => ?_)
  refine lv_aload_n hx hb dX4_forget_5 rfl (lv_at hl 1 rfl) ?_
  refine lv_iconst (v := (0 : Int32)) hx hb dX4_forget_6 (by decide) ?_
  refine va_put (D := D) (ci := 4) (v := .int (0 : Int32)) (ty := .int) (C := RX4) (T := TX4) (N := 4) hx hb hts (fun w9 h9 => List.mem_cons_of_mem _ (inT_X4 w9 h9)) tyX4 tyX4_ok nmX4 hown hK hP hD hS 0 rfl rfl 2 (by decide) (hts (.fieldLink RX4 23 "LinkPredictor" "referenceCount" "I") (List.mem_cons_of_mem _ mw_1_166)) (fun _ h9 => h9) rfl (by decide +kernel) rfl rfl (Nat.le_of_ble_eq_true rfl) dX4_forget_7 (fun H locs hP hD hS => ?_)
  have hP : va_P D vwCl (wL cI cB cR ad (lsC S (0 : Int32))) _ := hP
  have hD : va_D A (wL cI cB cR ad (lsC S (0 : Int32))) := hD
  refine lv_iload_n hx hb dX4_forget_10 rfl (lv_at hl 0 rfl) ?_
  exact W.iret hx hb hr (fun t9 ht9 _ => ⟨⟨_, (), rfl, congrArg Prod.fst hE, by show va_P D vwCl _ t9.heap; rw [ht9, ← congrArg Prod.snd hE]; exact hP⟩, hS.F ht9⟩) hS.2.2 dX4_forget_11
