/-! ===== verdicts ===== -/
def rg (v : Int32) : Prop := ∃ k, k < 640 ∧ k % 64 < 46 ∧ v = nI k
theorem rg.s {v : Int32} (h : rg v) : sN v < 640 ∧ sN v % 64 < 46 ∧ v = nI (sN v) := by
  obtain ⟨k, h1, h2, e⟩ := h
  rw [e, sN_nI (by omega)]
  exact ⟨h1, h2, rfl⟩
theorem rg_LV {τ : Nat → Nat → Int32} (wf : WFT τ) {t : Nat} (ht : t < 12) : rg (LV τ t) := by
  obtain ⟨k, hk, e⟩ := LV_nat wf ht
  exact ⟨k, by omega, by omega, e⟩
theorem rg_512 : rg 512 := ⟨512, by omega, by omega, rfl⟩
theorem res_rg {x : Nat → Nat → Int32} {nf : Nat → Nat} {R : Nat} {Φ : Nat → Nat → Nat} {w t : Nat} (hX : ∀ w, w < 2 → WX x w (nf w)) (wr : WR x R Φ) (hw : w < 2) (ht : t < R) : rg (p_X5_resolved x nf R Φ w t) := by
  have wx := hX w hw
  have hn := wx.2.2.1
  obtain ⟨⟨hf0, hf1, hf2, hf3⟩, -⟩ := wr.2.2 t ht
  have h385 : ∀ m y, m < nf w → rg (p_X5_resolved_385 x nf R Φ w t y m) := by
    intro m y hm
    rw [p_X5_resolved_385]
    repeat' split
    all_goals exact ⟨_, by omega, by omega, rfl⟩
  have h361 : ∀ m y, m < nf w → rg (p_X5_resolved_361 x nf R Φ w t y m) := by
    intro m y hm
    rw [p_X5_resolved_361]
    repeat' split
    · exact h385 m y hm
    · exact ⟨_, by omega, by omega, rfl⟩
    · exact h385 m y hm
  have h327 : ∀ m y, m < nf w → rg (p_X5_resolved_327 x nf R Φ w t y m) := by
    intro m y hm
    rw [p_X5_resolved_327]
    repeat' split
    · exact h361 m y hm
    · exact h361 m y hm
    · exact ⟨_, by omega, by omega, rfl⟩
  have h302 : ∀ m y z z2, m < nf w → rg (p_X5_resolved_302 x nf R Φ w t z y m z2) := by
    intro m y z z2 hm
    rw [p_X5_resolved_302]
    repeat' split
    · exact h327 m y hm
    · exact h327 m y hm
    · exact h361 m y hm
    · exact ⟨_, by omega, by omega, rfl⟩
  have h283 : ∀ m y z, m < nf w → rg (p_X5_resolved_283 x nf R Φ w t y m z) := by
    intro m y z hm
    rw [p_X5_resolved_283]
    split <;> exact h302 _ _ _ _ hm
  have h205 : ∀ v, om1 (nf w) v → rg (p_X5_resolved_205 x nf R Φ w t v) := by
    intro v hv
    rw [p_X5_resolved_205]
    split
    · rename_i c
      have hm := (hv.nn c).1
      repeat' split
      · exact ⟨_, by omega, by omega, rfl⟩
      all_goals exact h283 _ _ _ hm
    · split <;> exact ⟨_, by omega, by omega, rfl⟩
  have h171 : Gd (vwX x w) (Φ t 2) → rg (p_X5_resolved_171 x nf R Φ w t) := by
    intro g
    rw [p_X5_resolved_171]
    split
    · exact h205 _ (find_om1 _ _ _ hn _ _ wx hf2 g)
    · exact h205 _ (om1_av hn)
  have h153 : ∀ v, Gd (vwX x w) (Φ t 2) → rg (p_X5_resolved_153 x nf R Φ w t v) := by
    intro v g
    rw [p_X5_resolved_153]
    repeat' split
    · exact ⟨_, by omega, by omega, rfl⟩
    · exact h171 g
    · exact h171 g
  have h141 : ∀ z, Gd (vwX x w) (Φ t 2) → rg (p_X5_resolved_141 x nf R Φ w t z) := by
    intro z g
    rw [p_X5_resolved_141]
    repeat' split
    · exact ⟨_, by omega, by omega, rfl⟩
    · exact h153 _ g
    · exact h153 _ g
  have h111 : Gd (vwX x w) (Φ t 2) → rg (p_X5_resolved_111 x nf R Φ w t) := by
    intro g
    rw [p_X5_resolved_111]
    repeat' split
    · exact ⟨_, by omega, by omega, rfl⟩
    · exact h141 _ g
    · exact h141 _ g
  rw [p_X5_resolved]
  split
  · split
    · rename_i c1 c2
      have g := (LV_64 wx.1 hf2).mp c2
      repeat' split
      · exact h111 g
      · exact ⟨_, by omega, by omega, rfl⟩
      · exact h111 g
    · exact rg_LV wx.1 hf2
  · exact rg_LV wx.1 hf1
theorem sel_rg {x : Nat → Nat → Int32} {nf : Nat → Nat} {R : Nat} {Φ : Nat → Nat → Nat} {w t u : Nat} (hX : ∀ w, w < 2 → WX x w (nf w)) (wr : WR x R Φ) (hw : w < 2) (ht : t < R) (hu : u < 12) (hsel : g16 (nf w) (p_X5_resolved x nf R Φ w t)) : rg (p_X5_selected x nf R Φ w t u) := by
  have wx := hX w hw
  have hn := wx.2.2.1
  have h214 : ∀ v, isM (nf w) v → rg (p_X5_selected_214 x nf R Φ w t u v) := by
    intro v hv
    have := hv.1
    rw [p_X5_selected_214]
    repeat' split
    all_goals exact ⟨_, by omega, by omega, rfl⟩
  have h169 : ∀ v, om1 (nf w) v → rg (p_X5_selected_169 x nf R Φ w t u v) := by
    intro v hv
    rw [p_X5_selected_169]
    split
    · rename_i c; exact h214 v (hv.nn c)
    · split
      · rename_i c; exact h214 _ (bod_isM hn c)
      · split <;> exact ⟨_, by omega, by omega, rfl⟩
  have h97 : Gd (vwX x w) u → ∀ k v v7, (v = -1 ∨ (isT v ∧ gN (vwX x w) (k - 1) (sN v) = true)) → 0 < k → om1 (nf w) v7 → rg (p_X5_selected_97 x nf R Φ w t u k v v7) := by
    intro g k
    induction k with
    | zero => intro v v7 _ h; omega
    | succ k ih =>
      intro v v7 hv _ h7
      rw [p_X5_selected_97]
      split
      · exact h169 v7 h7
      · rename_i c
        obtain ⟨hT, hg⟩ := hv.resolve_left (fun e => c (by rw [e]; decide))
        have hup := up_step wx.1 hT hg
        repeat' split
        · exact h169 v7 h7
        · exact ih _ _ hup.2 hup.1 h7
        · exact ih _ _ hup.2 hup.1 h7
        · exact ih _ _ hup.2 hup.1 (om1_od hn)
        · exact ih _ _ hup.2 hup.1 h7
  rw [p_X5_selected]
  split
  · rename_i c
    have g := gdB_iff.mp c
    have h0 : nI u = -1 ∨ (isT (nI u) ∧ gN (vwX x w) (14 - 1) (sN (nI u)) = true) := Or.inr ⟨isT_nI hu, by rw [sN_nI (by omega)]; exact gN_mono (gN12 wx.1 hu g)⟩
    have hm := (g16_sub hn hsel).1
    repeat' split
    · exact h97 g 14 _ _ h0 (by omega) (Or.inr (isM_nI hn hm))
    · exact h97 g 14 _ _ h0 (by omega) (Or.inl rfl)
    all_goals exact ⟨_, by omega, by omega, rfl⟩
  · exact ⟨_, by omega, by omega, rfl⟩
noncomputable def p_X5_compare (x : Nat → Nat → Int32) (nf : Nat → Nat) (R : Nat) (Φ : Nat → Nat → Nat) (t : Int32) : Int32 := if (wi t (x 19 0)) = true then (if (p_X5_areAlike x 0 (nf 0) (sN (p_X5_resolved x nf R Φ 0 (sN t))) (sN (p_X5_resolved x nf R Φ 1 (sN t)))) = (0 : Int32) then (if (64 : Int32) ≤ (p_X5_resolved x nf R Φ 0 (sN t)) then (if (64 : Int32) ≤ (p_X5_resolved x nf R Φ 1 (sN t)) then ((4 : Int32)) else ((2 : Int32))) else (if (64 : Int32) ≤ (p_X5_resolved x nf R Φ 1 (sN t)) then ((1 : Int32)) else ((3 : Int32)))) else ((0 : Int32))) else ((-1 : Int32))
set_option maxHeartbeats 4000000 in
set_option maxRecDepth 100000 in
theorem c_X5_compare (l : Launch) (D : va_G) (cI cZ cB cR : ClassId) (a : Nat → Nat) (x : Nat → Nat → Int32) (r1 r2 : Nat → Int32) (nf : Nat → Nat) (R : Nat) (Φ : Nat → Nat → Nat) (t : Int32) (hX : ∀ w, w < 2 → WX x w (nf w)) (wr : WR x R Φ)   : MUi l yX5_compare wsX5_compare ({ frames := 6, cells := 0, slots := 0, locals := 161 } : Room) D cI cZ cB cR (wX cI cZ a x r1 r2) [.ref (a 0), .int t] (fun (u8 : (Nat → Int32) × (Nat → Int32)) => wX cI cZ a x u8.1 u8.2) (fun r _ => r = (p_X5_compare x nf R Φ t)) := by
  generalize hE : p_X5_compare x nf R Φ t = tgt
  intro sz
  refine Met.ofW (cc := cX5_compare) (maxL := 4) (ret := (some .int)) (by decide) rfl ?_
  intro p e s m args below meth c s₁ B hml hv
  obtain ⟨hargs, hsz, hP, hEV, hD0⟩ := hv
  have hx := B.exec
  have hb := B.bytes
  have hr := B.returns
  have hts := atoms_spec (ws := wsX5_compare) B.pre
  have hown : s.vm.findClass RX5 = some m.cls := findClass_of_methodNamed B.named
  have hlocks := B.notSynchronized
  have hK := hEV.1
  have hl := lv_entry ([.ref (a 0), .int t]) (n := 4) (Nat.le_of_ble_eq_true rfl)
  rw [show entryFrame m args 4 = entryFrame m ([.ref (a 0), .int t] : List Value).toArray 4 from by rw [hargs], lg_entry_eq]
  generalize (lg_sl ([.ref (a 0), .int t]) ++ List.replicate (4 - (lg_sl ([.ref (a 0), .int t])).length) Slot.unset).toArray = ls at hl ⊢
  have hl : lv_has ls 4 [(0, .ref (a 0)), (1, .int t)] := hl
  subst hsz
  have hD := hD0.self (sz := s.heap.size)
  generalize hAe : va_A (wX cI cZ a x r1 r2) s.heap.size = A at hD ⊢
  have hA : ∀ q : Nat, s.heap.size ≤ q → A q := fun q h9 => by rw [← hAe]; exact Or.inr h9
  have hS : va_S A s.heap s.heap [] := va_S.rf
  rw [p_X5_compare] at hE
  have hR16 := wr.1
  refine lv_iload_n hx hb dX5_compare_0 rfl (lv_at hl 1 rfl) ?_
  refine lv_aload_n hx hb dX5_compare_1 rfl (lv_at hl 0 rfl) ?_
  refine va_get (D := D) (ci := 5) (v := .int (x 19 0)) (C := RX5) (T := TX5) (N := 21) hx hb hts (fun w9 h9 => List.mem_cons_of_mem _ (inT_X5 w9 h9)) hown hK hP 0 rfl rfl 17 (by decide) (hts (.fieldLink RX5 91 "LinkPredictorModel" "references" "I") (List.mem_cons_of_mem _ mw_3_83)) (fun _ h9 => h9) rfl dX5_compare_2 ?_
  refine ro_S [.int t, .int (x 19 0)] [] ⟨hx, hb, hml, hown, hts⟩ (c_X5_in l D cI cZ cB cR t (x 19 0)) (va_cwS 2 hts (goodP (ps := [.methodLink RX5 72 yX5_in, .static yX5_in, .initialized RX5]) (all3 mw_3_135 mw_3_136 mw_1_6) mw_3_137) rfl rfl rfl (by decide +kernel) ⟨Nat.le_of_ble_eq_true rfl, Nat.le_of_ble_eq_true rfl⟩) hEV va_P0 rfl hl.1 rfl (Nat.le_of_ble_eq_true rfl) dX5_compare_5 ⟨Nat.zero_le _, Nat.zero_le _⟩ ?_
  refine lv_if_ne (tgt := 13) hx hb dX5_compare_8 (by decide) (fun c_8 => ?_) (fun c_8 => ?_)
  · have c_8 : (wi t (x 19 0)) = true := b2i_t c_8
    have hE := (if_pos c_8).symm.trans hE
    have hk8 := c_8
    rw [wr.2.1] at hk8
    have ht9 := wi_sN (b := R) (by omega) hk8
    have ht8 := ht9.1
    have hf9 := (wr.2.2 _ ht8).1
    have hf0 := hf9.1
    have hr0 := res_rg (w := 0) hX wr (by omega) ht8
    have hr0a := hr0.s.1
    have hr0b := hr0.s.2.1
    have hr1 := res_rg (w := 1) hX wr (by omega) ht8
    have hr1a := hr1.s.1
    have hr1b := hr1.s.2.1
    refine lv_aload_n hx hb dX5_compare_13 rfl (lv_at hl 0 rfl) ?_
    refine lv_iconst (v := (0 : Int32)) hx hb dX5_compare_14 (by decide) ?_
    refine lv_iload_n hx hb dX5_compare_15 rfl (lv_at hl 1 rfl) ?_
    refine top_eq (ht9.2) ?_
    refine mu_V [.int (0 : Int32), .int (nI (sN t))] [] ⟨hx, hb, hml, hown, hts⟩ (c_X5_resolved l D cI cZ cB cR a x r1 r2 nf R Φ 0 (sN t) hX wr (by omega) (by omega) ) (cwV (C := RX5) 2 hts (goodP (ps := [.methodLink RX5 143 yX5_resolved, .instanceMethod yX5_resolved, .selects RX5 yX5_resolved yX5_resolved, .initialized RX5]) (all4 mw_3_216 mw_3_218 ms_32 mw_1_6) mw_3_219) rfl rfl rfl (by decide +kernel) ⟨Nat.le_of_ble_eq_true rfl, Nat.le_of_ble_eq_true rfl⟩) hEV hP hD hS hA 0 rfl rfl rfl hl.1 rfl (Nat.le_of_ble_eq_true rfl) dX5_compare_16 ⟨Nat.zero_le _, Nat.zero_le _⟩ (fun r9 u9 H1 locs hw hP1 hk1 hS => ?_)
    subst hw
    obtain ⟨r1, r2⟩ := u9
    dsimp only at hP1
    have hP : va_P D vwCl (wX cI cZ a x r1 r2) H1 := hP1
    have hD : va_D A (wX cI cZ a x r1 r2) := hD.adr rfl
    generalize H1 = H at hP hS ⊢
    refine lv_istore_n (lv' := [(2, .int (p_X5_resolved x nf R Φ 0 (sN t))), (0, .ref (a 0)), (1, .int t)]) hx hb dX5_compare_19 rfl hl (by decide) rfl (fun ls hl => ?_)
    refine lv_aload_n hx hb dX5_compare_20 rfl (lv_at hl 1 rfl) ?_
    refine lv_iconst (v := (1 : Int32)) hx hb dX5_compare_21 (by decide) ?_
    refine lv_iload_n hx hb dX5_compare_22 rfl (lv_at hl 2 rfl) ?_
    refine top_eq (ht9.2) ?_
    refine mu_V [.int (1 : Int32), .int (nI (sN t))] [] ⟨hx, hb, hml, hown, hts⟩ (c_X5_resolved l D cI cZ cB cR a x r1 r2 nf R Φ 1 (sN t) hX wr (by omega) (by omega) ) (cwV (C := RX5) 2 hts (goodP (ps := [.methodLink RX5 143 yX5_resolved, .instanceMethod yX5_resolved, .selects RX5 yX5_resolved yX5_resolved, .initialized RX5]) (all4 mw_3_216 mw_3_218 ms_32 mw_1_6) mw_3_219) rfl rfl rfl (by decide +kernel) ⟨Nat.le_of_ble_eq_true rfl, Nat.le_of_ble_eq_true rfl⟩) hEV hP hD hS hA 0 rfl rfl rfl hl.1 rfl (Nat.le_of_ble_eq_true rfl) dX5_compare_23 ⟨Nat.zero_le _, Nat.zero_le _⟩ (fun r9 u9 H1 locs hw hP1 hk1 hS => ?_)
    subst hw
    obtain ⟨r1, r2⟩ := u9
    dsimp only at hP1
    have hP : va_P D vwCl (wX cI cZ a x r1 r2) H1 := hP1
    have hD : va_D A (wX cI cZ a x r1 r2) := hD.adr rfl
    generalize H1 = H at hP hS ⊢
    refine lv_istore_n (lv' := [(3, .int (p_X5_resolved x nf R Φ 1 (sN t))), (2, .int (p_X5_resolved x nf R Φ 0 (sN t))), (0, .ref (a 0)), (1, .int t)]) hx hb dX5_compare_26 rfl hl (by decide) rfl (fun ls hl => ?_)
    refine lv_aload_n hx hb dX5_compare_27 rfl (lv_at hl 2 rfl) ?_
    refine lv_iload_n hx hb dX5_compare_28 rfl (lv_at hl 1 rfl) ?_
    refine top_eq (hr0.s.2.2) ?_
    refine lv_iload_n hx hb dX5_compare_29 rfl (lv_at hl 0 rfl) ?_
    refine top_eq (hr1.s.2.2) ?_
    refine ro_V [.int (nI (sN (p_X5_resolved x nf R Φ 0 (sN t)))), .int (nI (sN (p_X5_resolved x nf R Φ 1 (sN t))))] [] ⟨hx, hb, hml, hown, hts⟩ (c_X5_areAlike l D cI cZ cB cR a x r1 r2 0 (nf 0) (sN (p_X5_resolved x nf R Φ 0 (sN t))) (sN (p_X5_resolved x nf R Φ 1 (sN t)))  (by omega) (by omega) (by omega) (by omega)) (cwV (C := RX5) 2 hts (goodP (ps := [.methodLink RX5 161 yX5_areAlike, .instanceMethod yX5_areAlike, .selects RX5 yX5_areAlike yX5_areAlike, .initialized RX5]) (all4 mw_4_48 mw_4_50 ms_48 mw_1_6) mw_4_51) rfl rfl rfl (by decide +kernel) ⟨Nat.le_of_ble_eq_true rfl, Nat.le_of_ble_eq_true rfl⟩) hEV hP 0 rfl rfl rfl hl.1 rfl (Nat.le_of_ble_eq_true rfl) dX5_compare_30 ⟨Nat.zero_le _, Nat.zero_le _⟩ ?_
    refine lv_if_eq (tgt := 38) hx hb dX5_compare_33 (by decide) (fun c_33 => ?_) (fun c_33 => ?_)
    · skip
      have hE := (if_pos c_33).symm.trans hE
      refine lv_iload_n hx hb dX5_compare_38 rfl (lv_at hl 1 rfl) ?_
      refine lv_bipush (v := (64 : Int32)) hx hb dX5_compare_39 (by decide) ?_
      refine lv_icmp_ge (tgt := 58) hx hb dX5_compare_41 (by decide) (fun c_41 => ?_) (fun c_41 => ?_)
      · skip
        have hE := (if_pos c_41).symm.trans hE
        refine lv_iload_n hx hb dX5_compare_58 rfl (lv_at hl 0 rfl) ?_
        refine lv_bipush (v := (64 : Int32)) hx hb dX5_compare_59 (by decide) ?_
        refine lv_icmp_ge (tgt := 68) hx hb dX5_compare_61 (by decide) (fun c_61 => ?_) (fun c_61 => ?_)
        · skip
          have hE := (if_pos c_61).symm.trans hE
          refine lv_iconst (v := (4 : Int32)) hx hb dX5_compare_68 (by decide) ?_
          exact W.iret hx hb hr (fun t9 ht9 _ => ⟨⟨_, (r1, r2), rfl, hE, by show va_P D vwCl _ t9.heap; rw [ht9]; exact hP⟩, hS.F ht9⟩) hS.2.2 dX5_compare_69
        · skip
          have hE := (if_neg c_61).symm.trans hE
          refine lv_iconst (v := (2 : Int32)) hx hb dX5_compare_64 (by decide) ?_
          refine lv_goto (tgt := 69) hx hb dX5_compare_65 (by decide) ?_
          exact W.iret hx hb hr (fun t9 ht9 _ => ⟨⟨_, (r1, r2), rfl, hE, by show va_P D vwCl _ t9.heap; rw [ht9]; exact hP⟩, hS.F ht9⟩) hS.2.2 dX5_compare_69
      · skip
        have hE := (if_neg c_41).symm.trans hE
        refine lv_iload_n hx hb dX5_compare_44 rfl (lv_at hl 0 rfl) ?_
        refine lv_bipush (v := (64 : Int32)) hx hb dX5_compare_45 (by decide) ?_
        refine lv_icmp_ge (tgt := 54) hx hb dX5_compare_47 (by decide) (fun c_47 => ?_) (fun c_47 => ?_)
        · skip
          have hE := (if_pos c_47).symm.trans hE
          refine lv_iconst (v := (1 : Int32)) hx hb dX5_compare_54 (by decide) ?_
          refine lv_goto (tgt := 69) hx hb dX5_compare_55 (by decide) ?_
          exact W.iret hx hb hr (fun t9 ht9 _ => ⟨⟨_, (r1, r2), rfl, hE, by show va_P D vwCl _ t9.heap; rw [ht9]; exact hP⟩, hS.F ht9⟩) hS.2.2 dX5_compare_69
        · skip
          have hE := (if_neg c_47).symm.trans hE
          refine lv_iconst (v := (3 : Int32)) hx hb dX5_compare_50 (by decide) ?_
          refine lv_goto (tgt := 69) hx hb dX5_compare_51 (by decide) ?_
          exact W.iret hx hb hr (fun t9 ht9 _ => ⟨⟨_, (r1, r2), rfl, hE, by show va_P D vwCl _ t9.heap; rw [ht9]; exact hP⟩, hS.F ht9⟩) hS.2.2 dX5_compare_69
    · skip
      have hE := (if_neg c_33).symm.trans hE
      refine lv_iconst (v := (0 : Int32)) hx hb dX5_compare_36 (by decide) ?_
      exact W.iret hx hb hr (fun t9 ht9 _ => ⟨⟨_, (r1, r2), rfl, hE, by show va_P D vwCl _ t9.heap; rw [ht9]; exact hP⟩, hS.F ht9⟩) hS.2.2 dX5_compare_37
  · have c_8 : ¬ ((wi t (x 19 0)) = true) := b2i_f c_8
    have hE := (if_neg c_8).symm.trans hE
    refine lv_iconst (v := (-1 : Int32)) hx hb dX5_compare_11 (by decide) ?_
    exact W.iret hx hb hr (fun t9 ht9 _ => ⟨⟨_, (r1, r2), rfl, hE, by show va_P D vwCl _ t9.heap; rw [ht9]; exact hP⟩, hS.F ht9⟩) hS.2.2 dX5_compare_12
noncomputable def p_X5_receivers_130 (x : Nat → Nat → Int32) (nf : Nat → Nat) (R : Nat) (Φ : Nat → Nat → Nat) (t : Int32) (u : Int32) (K26 : Nat → Nat → Int32) (z7 : Bool) (v6 : Int32) (v5 : Int32) (n4 : Nat) (n3 : Nat) (zs0 : Bool) : Int32 := if u = (0 : Int32) then (if z7 = true then (K26 (n4 + 1) (n3 + 1)) else (K26 (n4 + 1) n3)) else (if u = (1 : Int32) then (if zs0 = true then (K26 (n4 + 1) (n3 + 1)) else (K26 (n4 + 1) n3)) else (if u = (2 : Int32) then (if z7 = true then (if zs0 = true then (K26 (n4 + 1) n3) else (K26 (n4 + 1) (n3 + 1))) else (K26 (n4 + 1) n3)) else (if z7 = true then (if zs0 = true then (if (p_X5_areAlike x 0 (nf 0) (sN v5) (sN v6)) = (0 : Int32) then (K26 (n4 + 1) (n3 + 1)) else (K26 (n4 + 1) n3)) else (K26 (n4 + 1) n3)) else (K26 (n4 + 1) n3))))
noncomputable def p_X5_receivers_116 (x : Nat → Nat → Int32) (nf : Nat → Nat) (R : Nat) (Φ : Nat → Nat → Nat) (t : Int32) (u : Int32) (K26 : Nat → Nat → Int32) (v6 : Int32) (v5 : Int32) (n4 : Nat) (n3 : Nat) (zs0 : Bool) : Int32 := if (64 : Int32) ≤ v6 then (p_X5_receivers_130 x nf R Φ t u K26 zs0 v6 v5 n4 n3 false) else (p_X5_receivers_130 x nf R Φ t u K26 zs0 v6 v5 n4 n3 true)
noncomputable def p_X5_receivers_102 (x : Nat → Nat → Int32) (nf : Nat → Nat) (R : Nat) (Φ : Nat → Nat → Nat) (t : Int32) (u : Int32) (K26 : Nat → Nat → Int32) (v5 : Int32) (n4 : Nat) (n3 : Nat) (vs0 : Int32) : Int32 := if (64 : Int32) ≤ v5 then (p_X5_receivers_116 x nf R Φ t u K26 vs0 v5 n4 n3 false) else (p_X5_receivers_116 x nf R Φ t u K26 vs0 v5 n4 n3 true)
noncomputable def p_X5_receivers_77 (x : Nat → Nat → Int32) (nf : Nat → Nat) (R : Nat) (Φ : Nat → Nat → Nat) (t : Int32) (u : Int32) (K26 : Nat → Nat → Int32) (n4 : Nat) (n3 : Nat) (vs0 : Int32) : Int32 := if (slD x nf R Φ 1 (sN t)) = true then (p_X5_receivers_102 x nf R Φ t u K26 vs0 n4 n3 (p_X5_selected x nf R Φ 1 (sN t) n4)) else (p_X5_receivers_102 x nf R Φ t u K26 vs0 n4 n3 (512 : Int32))
noncomputable def p_X5_receivers_26 (x : Nat → Nat → Int32) (nf : Nat → Nat) (R : Nat) (Φ : Nat → Nat → Nat) (t : Int32) (u : Int32) : Nat → Nat → Nat → Int32
  | 0, _, _ => 0
  | k + 1, n4, n3 => if 12 ≤ n4 then (nI n3) else (if (Φ (sN t) 0) = 4 then (if (slD x nf R Φ 0 (sN t)) = true then (p_X5_receivers_77 x nf R Φ t u (fun n4 n3 => p_X5_receivers_26 x nf R Φ t u k n4 n3) n4 n3 (p_X5_selected x nf R Φ 0 (sN t) n4)) else (p_X5_receivers_77 x nf R Φ t u (fun n4 n3 => p_X5_receivers_26 x nf R Φ t u k n4 n3) n4 n3 (512 : Int32))) else (if (Φ (sN t) 0) = 7 then (if (slD x nf R Φ 0 (sN t)) = true then (p_X5_receivers_77 x nf R Φ t u (fun n4 n3 => p_X5_receivers_26 x nf R Φ t u k n4 n3) n4 n3 (p_X5_selected x nf R Φ 0 (sN t) n4)) else (p_X5_receivers_77 x nf R Φ t u (fun n4 n3 => p_X5_receivers_26 x nf R Φ t u k n4 n3) n4 n3 (512 : Int32))) else (nI n3)))
noncomputable def p_X5_receivers (x : Nat → Nat → Int32) (nf : Nat → Nat) (R : Nat) (Φ : Nat → Nat → Nat) (t : Int32) (u : Int32) : Int32 := if (wi t (x 19 0)) = true then (if (wi u (4 : Int32)) = true then (p_X5_receivers_26 x nf R Φ t u 13 0 0) else ((-1 : Int32))) else ((-1 : Int32))
set_option maxHeartbeats 4000000 in
set_option maxRecDepth 100000 in
theorem c_X5_receivers (l : Launch) (D : va_G) (cI cZ cB cR : ClassId) (a : Nat → Nat) (x : Nat → Nat → Int32) (r1 r2 : Nat → Int32) (nf : Nat → Nat) (R : Nat) (Φ : Nat → Nat → Nat) (t : Int32) (u : Int32) (hX : ∀ w, w < 2 → WX x w (nf w)) (wr : WR x R Φ)   : MUi l yX5_receivers wsX5_receivers ({ frames := 7, cells := 0, slots := 0, locals := 190 } : Room) D cI cZ cB cR (wX cI cZ a x r1 r2) [.ref (a 0), .int t, .int u] (fun (u8 : (Nat → Int32) × (Nat → Int32)) => wX cI cZ a x u8.1 u8.2) (fun r _ => r = (p_X5_receivers x nf R Φ t u)) := by
  generalize hE : p_X5_receivers x nf R Φ t u = tgt
  intro sz
  refine Met.ofW (cc := cX5_receivers) (maxL := 9) (ret := (some .int)) (by decide) rfl ?_
  intro p e s m args below meth c s₁ B hml hv
  obtain ⟨hargs, hsz, hP, hEV, hD0⟩ := hv
  have hx := B.exec
  have hb := B.bytes
  have hr := B.returns
  have hts := atoms_spec (ws := wsX5_receivers) B.pre
  have hown : s.vm.findClass RX5 = some m.cls := findClass_of_methodNamed B.named
  have hlocks := B.notSynchronized
  have hK := hEV.1
  have hl := lv_entry ([.ref (a 0), .int t, .int u]) (n := 9) (Nat.le_of_ble_eq_true rfl)
  rw [show entryFrame m args 9 = entryFrame m ([.ref (a 0), .int t, .int u] : List Value).toArray 9 from by rw [hargs], lg_entry_eq]
  generalize (lg_sl ([.ref (a 0), .int t, .int u]) ++ List.replicate (9 - (lg_sl ([.ref (a 0), .int t, .int u])).length) Slot.unset).toArray = ls at hl ⊢
  have hl : lv_has ls 9 [(0, .ref (a 0)), (1, .int t), (2, .int u)] := hl
  subst hsz
  have hD := hD0.self (sz := s.heap.size)
  generalize hAe : va_A (wX cI cZ a x r1 r2) s.heap.size = A at hD ⊢
  have hA : ∀ q : Nat, s.heap.size ≤ q → A q := fun q h9 => by rw [← hAe]; exact Or.inr h9
  have hS : va_S A s.heap s.heap [] := va_S.rf
  rw [p_X5_receivers] at hE
  have hR16 := wr.1
  have key_26 : ∀ (k_26 : Nat) (n4 : Nat) (n3 : Nat) (ls : Array Slot) (r1 : Nat → Int32) (r2 : Nat → Int32) (H : Heap) (locs : List Loc) (hP : va_P D vwCl (wX cI cZ a x r1 r2) H) (hD : va_D A (wX cI cZ a x r1 r2)) (hS : va_S A s.heap H locs), (12 - n4) < k_26 → wi t (x 19 0) = true → n4 ≤ 12 → lv_has ls 9 [(4, .int (nI n4)), (3, .int (nI n3)), (0, .ref (a 0)), (1, .int t), (2, .int u)] → p_X5_receivers_26 x nf R Φ t u k_26 n4 n3 = tgt → W p l e (headSpec wsX5_receivers ({ frames := 7, cells := 0, slots := 0, locals := 190 } : Room)).room s m args below meth c H locs 0 0 (MQ below (va_Qi (fun r (_ : (Nat → Int32) × (Nat → Int32)) => r = tgt) (fun u t => va_P D vwCl ((fun (u8 : (Nat → Int32) × (Nat → Int32)) => wX cI cZ a x u8.1 u8.2) u) t.heap) A) args s 0 0 A) (F0 m 26 ls []) := by
    intro k_26
    induction k_26 with
    | zero => intro n4 n3 ls r1 r2 H locs hP hD hS hm; exact absurd hm (Nat.not_lt_zero _)
    | succ k_26 ih_26 =>
      have key_130 : ∀ (z7 : Bool) (v6 : Int32) (v5 : Int32) (n4 : Nat) (n3 : Nat) (zs0 : Bool) (ls : Array Slot) (r1 : Nat → Int32) (r2 : Nat → Int32) (H : Heap) (locs : List Loc) (hP : va_P D vwCl (wX cI cZ a x r1 r2) H) (hD : va_D A (wX cI cZ a x r1 r2)) (hS : va_S A s.heap H locs), wi t (x 19 0) = true → n4 < 12 → rg v5 → rg v6 → (12 - n4) < k_26 + 1 → lv_has ls 9 [(7, .int (b2i z7)), (6, .int v6), (5, .int v5), (4, .int (nI n4)), (3, .int (nI n3)), (0, .ref (a 0)), (1, .int t), (2, .int u)] → p_X5_receivers_130 x nf R Φ t u (fun n4 n3 => p_X5_receivers_26 x nf R Φ t u k_26 n4 n3) z7 v6 v5 n4 n3 zs0 = tgt → W p l e (headSpec wsX5_receivers ({ frames := 7, cells := 0, slots := 0, locals := 190 } : Room)).room s m args below meth c H locs 0 0 (MQ below (va_Qi (fun r (_ : (Nat → Int32) × (Nat → Int32)) => r = tgt) (fun u t => va_P D vwCl ((fun (u8 : (Nat → Int32) × (Nat → Int32)) => wX cI cZ a x u8.1 u8.2) u) t.heap) A) args s 0 0 A) (F0 m 130 ls [.int (b2i zs0)]) := by
        intro z7 v6 v5 n4 n3 zs0 ls r1 r2 H locs hP hD hS hi_130_0 hi_130_1 hi_130_2 hi_130_3 hi_130_4 hl hE
        rw [p_X5_receivers_130] at hE
        have hk7 := hi_130_0
        have hk8 := hi_130_0
        rw [wr.2.1] at hk8
        have ht9 := wi_sN (b := R) (by omega) hk8
        have ht8 := ht9.1
        have hf9 := (wr.2.2 _ ht8).1
        have hf0 := hf9.1
        refine lv_istore (lv' := [(8, .int (b2i zs0)), (7, .int (b2i z7)), (6, .int v6), (5, .int v5), (4, .int (nI n4)), (3, .int (nI n3)), (0, .ref (a 0)), (1, .int t), (2, .int u)]) hx hb dX5_receivers_130 hl (by decide) rfl (fun ls hl => ?_)
        refine lv_iload_n hx hb dX5_receivers_132 rfl (lv_at hl 8 rfl) ?_
        refine lv_if_ne (tgt := 144) hx hb dX5_receivers_133 (by decide) (fun c_133 => ?_) (fun c_133 => ?_)
        · skip
          have hE := (if_neg c_133).symm.trans hE
          refine lv_iload_n hx hb dX5_receivers_144 rfl (lv_at hl 8 rfl) ?_
          refine lv_iconst (v := (1 : Int32)) hx hb dX5_receivers_145 (by decide) ?_
          refine lv_icmp_ne (tgt := 157) hx hb dX5_receivers_146 (by decide) (fun c_146 => ?_) (fun c_146 => ?_)
          · skip
            have hE := (if_neg c_146).symm.trans hE
            refine lv_iload_n hx hb dX5_receivers_157 rfl (lv_at hl 8 rfl) ?_
            refine lv_iconst (v := (2 : Int32)) hx hb dX5_receivers_158 (by decide) ?_
            refine lv_icmp_ne (tgt := 175) hx hb dX5_receivers_159 (by decide) (fun c_159 => ?_) (fun c_159 => ?_)
            · skip
              have hE := (if_neg c_159).symm.trans hE
              refine lv_iload hx hb dX5_receivers_175 (lv_at hl 1 rfl) ?_
              refine lv_if_eq (tgt := 199) hx hb dX5_receivers_177 (by decide) (fun c_177 => ?_) (fun c_177 => ?_)
              · have c_177 : ¬ (z7 = true) := b2i_f c_177
                have hE := (if_neg c_177).symm.trans hE
                refine lv_iinc (v := nI (n4 + 1)) (lv' := [(4, .int (nI (n4 + 1))), (8, .int (b2i zs0)), (7, .int (b2i z7)), (6, .int v6), (5, .int v5), (3, .int (nI n3)), (0, .ref (a 0)), (1, .int t), (2, .int u)]) hx hb dX5_receivers_199 hl (k := 4) rfl (nI_1 _) (by decide) rfl (fun ls hl => ?_)
                refine lv_goto (tgt := 26) hx hb dX5_receivers_202 (by decide) ?_
                exact ih_26 (n4 + 1) n3 ls _ _ _ _ hP hD hS (by omega) (by first | omega | assumption | exact hk7 | exact rg_512 | exact sel_rg hX wr (by omega) ht8 (by omega) (sl_g16 hX wr (by omega) ht8 c_60) | exact sel_rg hX wr (by omega) ht8 (by omega) (sl_g16 hX wr (by omega) ht8 c_85)) (by first | omega | assumption | exact hk7 | exact rg_512 | exact sel_rg hX wr (by omega) ht8 (by omega) (sl_g16 hX wr (by omega) ht8 c_60) | exact sel_rg hX wr (by omega) ht8 (by omega) (sl_g16 hX wr (by omega) ht8 c_85)) (lv_sub hl [0, 5, 6, 7, 8] rfl) hE
              · have c_177 : z7 = true := b2i_t c_177
                have hE := (if_pos c_177).symm.trans hE
                refine lv_iload hx hb dX5_receivers_180 (lv_at hl 0 rfl) ?_
                refine lv_if_eq (tgt := 199) hx hb dX5_receivers_182 (by decide) (fun c_182 => ?_) (fun c_182 => ?_)
                · have c_182 : ¬ (zs0 = true) := b2i_f c_182
                  have hE := (if_neg c_182).symm.trans hE
                  refine lv_iinc (v := nI (n4 + 1)) (lv' := [(4, .int (nI (n4 + 1))), (8, .int (b2i zs0)), (7, .int (b2i z7)), (6, .int v6), (5, .int v5), (3, .int (nI n3)), (0, .ref (a 0)), (1, .int t), (2, .int u)]) hx hb dX5_receivers_199 hl (k := 4) rfl (nI_1 _) (by decide) rfl (fun ls hl => ?_)
                  refine lv_goto (tgt := 26) hx hb dX5_receivers_202 (by decide) ?_
                  exact ih_26 (n4 + 1) n3 ls _ _ _ _ hP hD hS (by omega) (by first | omega | assumption | exact hk7 | exact rg_512 | exact sel_rg hX wr (by omega) ht8 (by omega) (sl_g16 hX wr (by omega) ht8 c_60) | exact sel_rg hX wr (by omega) ht8 (by omega) (sl_g16 hX wr (by omega) ht8 c_85)) (by first | omega | assumption | exact hk7 | exact rg_512 | exact sel_rg hX wr (by omega) ht8 (by omega) (sl_g16 hX wr (by omega) ht8 c_60) | exact sel_rg hX wr (by omega) ht8 (by omega) (sl_g16 hX wr (by omega) ht8 c_85)) (lv_sub hl [0, 5, 6, 7, 8] rfl) hE
                · have c_182 : zs0 = true := b2i_t c_182
                  have hE := (if_pos c_182).symm.trans hE
                  have hr5 := hi_130_2
                  have hr5a := hr5.s.1
                  have hr5b := hr5.s.2.1
                  have hr6 := hi_130_3
                  have hr6a := hr6.s.1
                  have hr6b := hr6.s.2.1
                  refine lv_aload_n hx hb dX5_receivers_185 rfl (lv_at hl 6 rfl) ?_
                  refine lv_iload hx hb dX5_receivers_186 (lv_at hl 3 rfl) ?_
                  refine top_eq (hr5.s.2.2) ?_
                  refine lv_iload hx hb dX5_receivers_188 (lv_at hl 2 rfl) ?_
                  refine top_eq (hr6.s.2.2) ?_
                  refine ro_V [.int (nI (sN v5)), .int (nI (sN v6))] [] ⟨hx, hb, hml, hown, hts⟩ (c_X5_areAlike l D cI cZ cB cR a x r1 r2 0 (nf 0) (sN v5) (sN v6)  (by omega) (by omega) (by omega) (by omega)) (cwV (C := RX5) 2 hts (goodP (ps := [.methodLink RX5 161 yX5_areAlike, .instanceMethod yX5_areAlike, .selects RX5 yX5_areAlike yX5_areAlike, .initialized RX5]) (all4 mw_4_48 mw_4_50 ms_48 mw_1_6) mw_4_51) rfl rfl rfl (by decide +kernel) ⟨Nat.le_of_ble_eq_true rfl, Nat.le_of_ble_eq_true rfl⟩) hEV hP 0 rfl rfl rfl hl.1 rfl (Nat.le_of_ble_eq_true rfl) dX5_receivers_190 ⟨Nat.zero_le _, Nat.zero_le _⟩ ?_
                  refine lv_if_ne (tgt := 199) hx hb dX5_receivers_193 (by decide) (fun c_193 => ?_) (fun c_193 => ?_)
                  · skip
                    have hE := (if_neg c_193).symm.trans hE
                    refine lv_iinc (v := nI (n4 + 1)) (lv' := [(4, .int (nI (n4 + 1))), (8, .int (b2i zs0)), (7, .int (b2i z7)), (6, .int v6), (5, .int v5), (3, .int (nI n3)), (0, .ref (a 0)), (1, .int t), (2, .int u)]) hx hb dX5_receivers_199 hl (k := 4) rfl (nI_1 _) (by decide) rfl (fun ls hl => ?_)
                    refine lv_goto (tgt := 26) hx hb dX5_receivers_202 (by decide) ?_
                    exact ih_26 (n4 + 1) n3 ls _ _ _ _ hP hD hS (by omega) (by first | omega | assumption | exact hk7 | exact rg_512 | exact sel_rg hX wr (by omega) ht8 (by omega) (sl_g16 hX wr (by omega) ht8 c_60) | exact sel_rg hX wr (by omega) ht8 (by omega) (sl_g16 hX wr (by omega) ht8 c_85)) (by first | omega | assumption | exact hk7 | exact rg_512 | exact sel_rg hX wr (by omega) ht8 (by omega) (sl_g16 hX wr (by omega) ht8 c_60) | exact sel_rg hX wr (by omega) ht8 (by omega) (sl_g16 hX wr (by omega) ht8 c_85)) (lv_sub hl [0, 5, 6, 7, 8] rfl) hE
                  · skip
                    have hE := (if_pos c_193).symm.trans hE
                    refine lv_iinc (v := nI (n3 + 1)) (lv' := [(3, .int (nI (n3 + 1))), (8, .int (b2i zs0)), (7, .int (b2i z7)), (6, .int v6), (5, .int v5), (4, .int (nI n4)), (0, .ref (a 0)), (1, .int t), (2, .int u)]) hx hb dX5_receivers_196 hl (k := 5) rfl (nI_1 _) (by decide) rfl (fun ls hl => ?_)
                    refine lv_iinc (v := nI (n4 + 1)) (lv' := [(4, .int (nI (n4 + 1))), (3, .int (nI (n3 + 1))), (8, .int (b2i zs0)), (7, .int (b2i z7)), (6, .int v6), (5, .int v5), (0, .ref (a 0)), (1, .int t), (2, .int u)]) hx hb dX5_receivers_199 hl (k := 5) rfl (nI_1 _) (by decide) rfl (fun ls hl => ?_)
                    refine lv_goto (tgt := 26) hx hb dX5_receivers_202 (by decide) ?_
                    exact ih_26 (n4 + 1) (n3 + 1) ls _ _ _ _ hP hD hS (by omega) (by first | omega | assumption | exact hk7 | exact rg_512 | exact sel_rg hX wr (by omega) ht8 (by omega) (sl_g16 hX wr (by omega) ht8 c_60) | exact sel_rg hX wr (by omega) ht8 (by omega) (sl_g16 hX wr (by omega) ht8 c_85)) (by first | omega | assumption | exact hk7 | exact rg_512 | exact sel_rg hX wr (by omega) ht8 (by omega) (sl_g16 hX wr (by omega) ht8 c_60) | exact sel_rg hX wr (by omega) ht8 (by omega) (sl_g16 hX wr (by omega) ht8 c_85)) (lv_sub hl [0, 1, 6, 7, 8] rfl) hE
            · skip
              have hE := (if_pos c_159).symm.trans hE
              refine lv_iload hx hb dX5_receivers_162 (lv_at hl 1 rfl) ?_
              refine lv_if_eq (tgt := 199) hx hb dX5_receivers_164 (by decide) (fun c_164 => ?_) (fun c_164 => ?_)
              · have c_164 : ¬ (z7 = true) := b2i_f c_164
                have hE := (if_neg c_164).symm.trans hE
                refine lv_iinc (v := nI (n4 + 1)) (lv' := [(4, .int (nI (n4 + 1))), (8, .int (b2i zs0)), (7, .int (b2i z7)), (6, .int v6), (5, .int v5), (3, .int (nI n3)), (0, .ref (a 0)), (1, .int t), (2, .int u)]) hx hb dX5_receivers_199 hl (k := 4) rfl (nI_1 _) (by decide) rfl (fun ls hl => ?_)
                refine lv_goto (tgt := 26) hx hb dX5_receivers_202 (by decide) ?_
                exact ih_26 (n4 + 1) n3 ls _ _ _ _ hP hD hS (by omega) (by first | omega | assumption | exact hk7 | exact rg_512 | exact sel_rg hX wr (by omega) ht8 (by omega) (sl_g16 hX wr (by omega) ht8 c_60) | exact sel_rg hX wr (by omega) ht8 (by omega) (sl_g16 hX wr (by omega) ht8 c_85)) (by first | omega | assumption | exact hk7 | exact rg_512 | exact sel_rg hX wr (by omega) ht8 (by omega) (sl_g16 hX wr (by omega) ht8 c_60) | exact sel_rg hX wr (by omega) ht8 (by omega) (sl_g16 hX wr (by omega) ht8 c_85)) (lv_sub hl [0, 5, 6, 7, 8] rfl) hE
              · have c_164 : z7 = true := b2i_t c_164
                have hE := (if_pos c_164).symm.trans hE
                refine lv_iload hx hb dX5_receivers_167 (lv_at hl 0 rfl) ?_
                refine lv_if_ne (tgt := 199) hx hb dX5_receivers_169 (by decide) (fun c_169 => ?_) (fun c_169 => ?_)
                · have c_169 : zs0 = true := b2i_t c_169
                  have hE := (if_pos c_169).symm.trans hE
                  refine lv_iinc (v := nI (n4 + 1)) (lv' := [(4, .int (nI (n4 + 1))), (8, .int (b2i zs0)), (7, .int (b2i z7)), (6, .int v6), (5, .int v5), (3, .int (nI n3)), (0, .ref (a 0)), (1, .int t), (2, .int u)]) hx hb dX5_receivers_199 hl (k := 4) rfl (nI_1 _) (by decide) rfl (fun ls hl => ?_)
                  refine lv_goto (tgt := 26) hx hb dX5_receivers_202 (by decide) ?_
                  exact ih_26 (n4 + 1) n3 ls _ _ _ _ hP hD hS (by omega) (by first | omega | assumption | exact hk7 | exact rg_512 | exact sel_rg hX wr (by omega) ht8 (by omega) (sl_g16 hX wr (by omega) ht8 c_60) | exact sel_rg hX wr (by omega) ht8 (by omega) (sl_g16 hX wr (by omega) ht8 c_85)) (by first | omega | assumption | exact hk7 | exact rg_512 | exact sel_rg hX wr (by omega) ht8 (by omega) (sl_g16 hX wr (by omega) ht8 c_60) | exact sel_rg hX wr (by omega) ht8 (by omega) (sl_g16 hX wr (by omega) ht8 c_85)) (lv_sub hl [0, 5, 6, 7, 8] rfl) hE
                · have c_169 : ¬ (zs0 = true) := b2i_f c_169
                  have hE := (if_neg c_169).symm.trans hE
                  refine lv_goto (tgt := 196) hx hb dX5_receivers_172 (by decide) ?_
                  refine lv_iinc (v := nI (n3 + 1)) (lv' := [(3, .int (nI (n3 + 1))), (8, .int (b2i zs0)), (7, .int (b2i z7)), (6, .int v6), (5, .int v5), (4, .int (nI n4)), (0, .ref (a 0)), (1, .int t), (2, .int u)]) hx hb dX5_receivers_196 hl (k := 5) rfl (nI_1 _) (by decide) rfl (fun ls hl => ?_)
                  refine lv_iinc (v := nI (n4 + 1)) (lv' := [(4, .int (nI (n4 + 1))), (3, .int (nI (n3 + 1))), (8, .int (b2i zs0)), (7, .int (b2i z7)), (6, .int v6), (5, .int v5), (0, .ref (a 0)), (1, .int t), (2, .int u)]) hx hb dX5_receivers_199 hl (k := 5) rfl (nI_1 _) (by decide) rfl (fun ls hl => ?_)
                  refine lv_goto (tgt := 26) hx hb dX5_receivers_202 (by decide) ?_
                  exact ih_26 (n4 + 1) (n3 + 1) ls _ _ _ _ hP hD hS (by omega) (by first | omega | assumption | exact hk7 | exact rg_512 | exact sel_rg hX wr (by omega) ht8 (by omega) (sl_g16 hX wr (by omega) ht8 c_60) | exact sel_rg hX wr (by omega) ht8 (by omega) (sl_g16 hX wr (by omega) ht8 c_85)) (by first | omega | assumption | exact hk7 | exact rg_512 | exact sel_rg hX wr (by omega) ht8 (by omega) (sl_g16 hX wr (by omega) ht8 c_60) | exact sel_rg hX wr (by omega) ht8 (by omega) (sl_g16 hX wr (by omega) ht8 c_85)) (lv_sub hl [0, 1, 6, 7, 8] rfl) hE
          · skip
            have hE := (if_pos c_146).symm.trans hE
            refine lv_iload hx hb dX5_receivers_149 (lv_at hl 0 rfl) ?_
            refine lv_if_eq (tgt := 199) hx hb dX5_receivers_151 (by decide) (fun c_151 => ?_) (fun c_151 => ?_)
            · have c_151 : ¬ (zs0 = true) := b2i_f c_151
              have hE := (if_neg c_151).symm.trans hE
              refine lv_iinc (v := nI (n4 + 1)) (lv' := [(4, .int (nI (n4 + 1))), (8, .int (b2i zs0)), (7, .int (b2i z7)), (6, .int v6), (5, .int v5), (3, .int (nI n3)), (0, .ref (a 0)), (1, .int t), (2, .int u)]) hx hb dX5_receivers_199 hl (k := 4) rfl (nI_1 _) (by decide) rfl (fun ls hl => ?_)
              refine lv_goto (tgt := 26) hx hb dX5_receivers_202 (by decide) ?_
              exact ih_26 (n4 + 1) n3 ls _ _ _ _ hP hD hS (by omega) (by first | omega | assumption | exact hk7 | exact rg_512 | exact sel_rg hX wr (by omega) ht8 (by omega) (sl_g16 hX wr (by omega) ht8 c_60) | exact sel_rg hX wr (by omega) ht8 (by omega) (sl_g16 hX wr (by omega) ht8 c_85)) (by first | omega | assumption | exact hk7 | exact rg_512 | exact sel_rg hX wr (by omega) ht8 (by omega) (sl_g16 hX wr (by omega) ht8 c_60) | exact sel_rg hX wr (by omega) ht8 (by omega) (sl_g16 hX wr (by omega) ht8 c_85)) (lv_sub hl [0, 5, 6, 7, 8] rfl) hE
            · have c_151 : zs0 = true := b2i_t c_151
              have hE := (if_pos c_151).symm.trans hE
              refine lv_goto (tgt := 196) hx hb dX5_receivers_154 (by decide) ?_
              refine lv_iinc (v := nI (n3 + 1)) (lv' := [(3, .int (nI (n3 + 1))), (8, .int (b2i zs0)), (7, .int (b2i z7)), (6, .int v6), (5, .int v5), (4, .int (nI n4)), (0, .ref (a 0)), (1, .int t), (2, .int u)]) hx hb dX5_receivers_196 hl (k := 5) rfl (nI_1 _) (by decide) rfl (fun ls hl => ?_)
              refine lv_iinc (v := nI (n4 + 1)) (lv' := [(4, .int (nI (n4 + 1))), (3, .int (nI (n3 + 1))), (8, .int (b2i zs0)), (7, .int (b2i z7)), (6, .int v6), (5, .int v5), (0, .ref (a 0)), (1, .int t), (2, .int u)]) hx hb dX5_receivers_199 hl (k := 5) rfl (nI_1 _) (by decide) rfl (fun ls hl => ?_)
              refine lv_goto (tgt := 26) hx hb dX5_receivers_202 (by decide) ?_
              exact ih_26 (n4 + 1) (n3 + 1) ls _ _ _ _ hP hD hS (by omega) (by first | omega | assumption | exact hk7 | exact rg_512 | exact sel_rg hX wr (by omega) ht8 (by omega) (sl_g16 hX wr (by omega) ht8 c_60) | exact sel_rg hX wr (by omega) ht8 (by omega) (sl_g16 hX wr (by omega) ht8 c_85)) (by first | omega | assumption | exact hk7 | exact rg_512 | exact sel_rg hX wr (by omega) ht8 (by omega) (sl_g16 hX wr (by omega) ht8 c_60) | exact sel_rg hX wr (by omega) ht8 (by omega) (sl_g16 hX wr (by omega) ht8 c_85)) (lv_sub hl [0, 1, 6, 7, 8] rfl) hE
        · skip
          have hE := (if_pos c_133).symm.trans hE
          refine lv_iload hx hb dX5_receivers_136 (lv_at hl 1 rfl) ?_
          refine lv_if_eq (tgt := 199) hx hb dX5_receivers_138 (by decide) (fun c_138 => ?_) (fun c_138 => ?_)
          · have c_138 : ¬ (z7 = true) := b2i_f c_138
            have hE := (if_neg c_138).symm.trans hE
            refine lv_iinc (v := nI (n4 + 1)) (lv' := [(4, .int (nI (n4 + 1))), (8, .int (b2i zs0)), (7, .int (b2i z7)), (6, .int v6), (5, .int v5), (3, .int (nI n3)), (0, .ref (a 0)), (1, .int t), (2, .int u)]) hx hb dX5_receivers_199 hl (k := 4) rfl (nI_1 _) (by decide) rfl (fun ls hl => ?_)
            refine lv_goto (tgt := 26) hx hb dX5_receivers_202 (by decide) ?_
            exact ih_26 (n4 + 1) n3 ls _ _ _ _ hP hD hS (by omega) (by first | omega | assumption | exact hk7 | exact rg_512 | exact sel_rg hX wr (by omega) ht8 (by omega) (sl_g16 hX wr (by omega) ht8 c_60) | exact sel_rg hX wr (by omega) ht8 (by omega) (sl_g16 hX wr (by omega) ht8 c_85)) (by first | omega | assumption | exact hk7 | exact rg_512 | exact sel_rg hX wr (by omega) ht8 (by omega) (sl_g16 hX wr (by omega) ht8 c_60) | exact sel_rg hX wr (by omega) ht8 (by omega) (sl_g16 hX wr (by omega) ht8 c_85)) (lv_sub hl [0, 5, 6, 7, 8] rfl) hE
          · have c_138 : z7 = true := b2i_t c_138
            have hE := (if_pos c_138).symm.trans hE
            refine lv_goto (tgt := 196) hx hb dX5_receivers_141 (by decide) ?_
            refine lv_iinc (v := nI (n3 + 1)) (lv' := [(3, .int (nI (n3 + 1))), (8, .int (b2i zs0)), (7, .int (b2i z7)), (6, .int v6), (5, .int v5), (4, .int (nI n4)), (0, .ref (a 0)), (1, .int t), (2, .int u)]) hx hb dX5_receivers_196 hl (k := 5) rfl (nI_1 _) (by decide) rfl (fun ls hl => ?_)
            refine lv_iinc (v := nI (n4 + 1)) (lv' := [(4, .int (nI (n4 + 1))), (3, .int (nI (n3 + 1))), (8, .int (b2i zs0)), (7, .int (b2i z7)), (6, .int v6), (5, .int v5), (0, .ref (a 0)), (1, .int t), (2, .int u)]) hx hb dX5_receivers_199 hl (k := 5) rfl (nI_1 _) (by decide) rfl (fun ls hl => ?_)
            refine lv_goto (tgt := 26) hx hb dX5_receivers_202 (by decide) ?_
            exact ih_26 (n4 + 1) (n3 + 1) ls _ _ _ _ hP hD hS (by omega) (by first | omega | assumption | exact hk7 | exact rg_512 | exact sel_rg hX wr (by omega) ht8 (by omega) (sl_g16 hX wr (by omega) ht8 c_60) | exact sel_rg hX wr (by omega) ht8 (by omega) (sl_g16 hX wr (by omega) ht8 c_85)) (by first | omega | assumption | exact hk7 | exact rg_512 | exact sel_rg hX wr (by omega) ht8 (by omega) (sl_g16 hX wr (by omega) ht8 c_60) | exact sel_rg hX wr (by omega) ht8 (by omega) (sl_g16 hX wr (by omega) ht8 c_85)) (lv_sub hl [0, 1, 6, 7, 8] rfl) hE
      have key_116 : ∀ (v6 : Int32) (v5 : Int32) (n4 : Nat) (n3 : Nat) (zs0 : Bool) (ls : Array Slot) (r1 : Nat → Int32) (r2 : Nat → Int32) (H : Heap) (locs : List Loc) (hP : va_P D vwCl (wX cI cZ a x r1 r2) H) (hD : va_D A (wX cI cZ a x r1 r2)) (hS : va_S A s.heap H locs), wi t (x 19 0) = true → n4 < 12 → rg v5 → rg v6 → (12 - n4) < k_26 + 1 → lv_has ls 9 [(6, .int v6), (5, .int v5), (4, .int (nI n4)), (3, .int (nI n3)), (0, .ref (a 0)), (1, .int t), (2, .int u)] → p_X5_receivers_116 x nf R Φ t u (fun n4 n3 => p_X5_receivers_26 x nf R Φ t u k_26 n4 n3) v6 v5 n4 n3 zs0 = tgt → W p l e (headSpec wsX5_receivers ({ frames := 7, cells := 0, slots := 0, locals := 190 } : Room)).room s m args below meth c H locs 0 0 (MQ below (va_Qi (fun r (_ : (Nat → Int32) × (Nat → Int32)) => r = tgt) (fun u t => va_P D vwCl ((fun (u8 : (Nat → Int32) × (Nat → Int32)) => wX cI cZ a x u8.1 u8.2) u) t.heap) A) args s 0 0 A) (F0 m 116 ls [.int (b2i zs0)]) := by
        intro v6 v5 n4 n3 zs0 ls r1 r2 H locs hP hD hS hi_116_0 hi_116_1 hi_116_2 hi_116_3 hi_116_4 hl hE
        rw [p_X5_receivers_116] at hE
        have hk7 := hi_116_0
        have hk8 := hi_116_0
        rw [wr.2.1] at hk8
        have ht9 := wi_sN (b := R) (by omega) hk8
        have ht8 := ht9.1
        have hf9 := (wr.2.2 _ ht8).1
        have hf0 := hf9.1
        refine lv_istore (lv' := [(7, .int (b2i zs0)), (6, .int v6), (5, .int v5), (4, .int (nI n4)), (3, .int (nI n3)), (0, .ref (a 0)), (1, .int t), (2, .int u)]) hx hb dX5_receivers_116 hl (by decide) rfl (fun ls hl => ?_)
        refine lv_iload hx hb dX5_receivers_118 (lv_at hl 1 rfl) ?_
        refine lv_bipush (v := (64 : Int32)) hx hb dX5_receivers_120 (by decide) ?_
        refine lv_icmp_ge (tgt := 129) hx hb dX5_receivers_122 (by decide) (fun c_122 => ?_) (fun c_122 => ?_)
        · skip
          have hE := (if_pos c_122).symm.trans hE
          refine lv_iconst (v := (0 : Int32)) hx hb dX5_receivers_129 (by decide) ?_
          exact key_130 zs0 v6 v5 n4 n3 false ls _ _ _ _ hP hD hS (by first | omega | assumption | exact hk7 | exact rg_512 | exact sel_rg hX wr (by omega) ht8 (by omega) (sl_g16 hX wr (by omega) ht8 c_60) | exact sel_rg hX wr (by omega) ht8 (by omega) (sl_g16 hX wr (by omega) ht8 c_85)) (by first | omega | assumption | exact hk7 | exact rg_512 | exact sel_rg hX wr (by omega) ht8 (by omega) (sl_g16 hX wr (by omega) ht8 c_60) | exact sel_rg hX wr (by omega) ht8 (by omega) (sl_g16 hX wr (by omega) ht8 c_85)) (by first | omega | assumption | exact hk7 | exact rg_512 | exact sel_rg hX wr (by omega) ht8 (by omega) (sl_g16 hX wr (by omega) ht8 c_60) | exact sel_rg hX wr (by omega) ht8 (by omega) (sl_g16 hX wr (by omega) ht8 c_85)) (by first | omega | assumption | exact hk7 | exact rg_512 | exact sel_rg hX wr (by omega) ht8 (by omega) (sl_g16 hX wr (by omega) ht8 c_60) | exact sel_rg hX wr (by omega) ht8 (by omega) (sl_g16 hX wr (by omega) ht8 c_85)) (by first | omega | assumption | exact hk7 | exact rg_512 | exact sel_rg hX wr (by omega) ht8 (by omega) (sl_g16 hX wr (by omega) ht8 c_60) | exact sel_rg hX wr (by omega) ht8 (by omega) (sl_g16 hX wr (by omega) ht8 c_85)) (lv_sub hl [0, 1, 2, 3, 4, 5, 6, 7] rfl) hE
        · skip
          have hE := (if_neg c_122).symm.trans hE
          refine lv_iconst (v := (1 : Int32)) hx hb dX5_receivers_125 (by decide) ?_
          refine lv_goto (tgt := 130) hx hb dX5_receivers_126 (by decide) ?_
          exact key_130 zs0 v6 v5 n4 n3 true ls _ _ _ _ hP hD hS (by first | omega | assumption | exact hk7 | exact rg_512 | exact sel_rg hX wr (by omega) ht8 (by omega) (sl_g16 hX wr (by omega) ht8 c_60) | exact sel_rg hX wr (by omega) ht8 (by omega) (sl_g16 hX wr (by omega) ht8 c_85)) (by first | omega | assumption | exact hk7 | exact rg_512 | exact sel_rg hX wr (by omega) ht8 (by omega) (sl_g16 hX wr (by omega) ht8 c_60) | exact sel_rg hX wr (by omega) ht8 (by omega) (sl_g16 hX wr (by omega) ht8 c_85)) (by first | omega | assumption | exact hk7 | exact rg_512 | exact sel_rg hX wr (by omega) ht8 (by omega) (sl_g16 hX wr (by omega) ht8 c_60) | exact sel_rg hX wr (by omega) ht8 (by omega) (sl_g16 hX wr (by omega) ht8 c_85)) (by first | omega | assumption | exact hk7 | exact rg_512 | exact sel_rg hX wr (by omega) ht8 (by omega) (sl_g16 hX wr (by omega) ht8 c_60) | exact sel_rg hX wr (by omega) ht8 (by omega) (sl_g16 hX wr (by omega) ht8 c_85)) (by first | omega | assumption | exact hk7 | exact rg_512 | exact sel_rg hX wr (by omega) ht8 (by omega) (sl_g16 hX wr (by omega) ht8 c_60) | exact sel_rg hX wr (by omega) ht8 (by omega) (sl_g16 hX wr (by omega) ht8 c_85)) (lv_sub hl [0, 1, 2, 3, 4, 5, 6, 7] rfl) hE
      have key_102 : ∀ (v5 : Int32) (n4 : Nat) (n3 : Nat) (vs0 : Int32) (ls : Array Slot) (r1 : Nat → Int32) (r2 : Nat → Int32) (H : Heap) (locs : List Loc) (hP : va_P D vwCl (wX cI cZ a x r1 r2) H) (hD : va_D A (wX cI cZ a x r1 r2)) (hS : va_S A s.heap H locs), wi t (x 19 0) = true → n4 < 12 → rg v5 → rg vs0 → (12 - n4) < k_26 + 1 → lv_has ls 9 [(5, .int v5), (4, .int (nI n4)), (3, .int (nI n3)), (0, .ref (a 0)), (1, .int t), (2, .int u)] → p_X5_receivers_102 x nf R Φ t u (fun n4 n3 => p_X5_receivers_26 x nf R Φ t u k_26 n4 n3) v5 n4 n3 vs0 = tgt → W p l e (headSpec wsX5_receivers ({ frames := 7, cells := 0, slots := 0, locals := 190 } : Room)).room s m args below meth c H locs 0 0 (MQ below (va_Qi (fun r (_ : (Nat → Int32) × (Nat → Int32)) => r = tgt) (fun u t => va_P D vwCl ((fun (u8 : (Nat → Int32) × (Nat → Int32)) => wX cI cZ a x u8.1 u8.2) u) t.heap) A) args s 0 0 A) (F0 m 102 ls [.int vs0]) := by
        intro v5 n4 n3 vs0 ls r1 r2 H locs hP hD hS hi_102_0 hi_102_1 hi_102_2 hi_102_3 hi_102_4 hl hE
        rw [p_X5_receivers_102] at hE
        have hk7 := hi_102_0
        have hk8 := hi_102_0
        rw [wr.2.1] at hk8
        have ht9 := wi_sN (b := R) (by omega) hk8
        have ht8 := ht9.1
        have hf9 := (wr.2.2 _ ht8).1
        have hf0 := hf9.1
        refine lv_istore (lv' := [(6, .int vs0), (5, .int v5), (4, .int (nI n4)), (3, .int (nI n3)), (0, .ref (a 0)), (1, .int t), (2, .int u)]) hx hb dX5_receivers_102 hl (by decide) rfl (fun ls hl => ?_)
        refine lv_iload hx hb dX5_receivers_104 (lv_at hl 1 rfl) ?_
        refine lv_bipush (v := (64 : Int32)) hx hb dX5_receivers_106 (by decide) ?_
        refine lv_icmp_ge (tgt := 115) hx hb dX5_receivers_108 (by decide) (fun c_108 => ?_) (fun c_108 => ?_)
        · skip
          have hE := (if_pos c_108).symm.trans hE
          refine lv_iconst (v := (0 : Int32)) hx hb dX5_receivers_115 (by decide) ?_
          exact key_116 vs0 v5 n4 n3 false ls _ _ _ _ hP hD hS (by first | omega | assumption | exact hk7 | exact rg_512 | exact sel_rg hX wr (by omega) ht8 (by omega) (sl_g16 hX wr (by omega) ht8 c_60) | exact sel_rg hX wr (by omega) ht8 (by omega) (sl_g16 hX wr (by omega) ht8 c_85)) (by first | omega | assumption | exact hk7 | exact rg_512 | exact sel_rg hX wr (by omega) ht8 (by omega) (sl_g16 hX wr (by omega) ht8 c_60) | exact sel_rg hX wr (by omega) ht8 (by omega) (sl_g16 hX wr (by omega) ht8 c_85)) (by first | omega | assumption | exact hk7 | exact rg_512 | exact sel_rg hX wr (by omega) ht8 (by omega) (sl_g16 hX wr (by omega) ht8 c_60) | exact sel_rg hX wr (by omega) ht8 (by omega) (sl_g16 hX wr (by omega) ht8 c_85)) (by first | omega | assumption | exact hk7 | exact rg_512 | exact sel_rg hX wr (by omega) ht8 (by omega) (sl_g16 hX wr (by omega) ht8 c_60) | exact sel_rg hX wr (by omega) ht8 (by omega) (sl_g16 hX wr (by omega) ht8 c_85)) (by first | omega | assumption | exact hk7 | exact rg_512 | exact sel_rg hX wr (by omega) ht8 (by omega) (sl_g16 hX wr (by omega) ht8 c_60) | exact sel_rg hX wr (by omega) ht8 (by omega) (sl_g16 hX wr (by omega) ht8 c_85)) (lv_sub hl [0, 1, 2, 3, 4, 5, 6] rfl) hE
        · skip
          have hE := (if_neg c_108).symm.trans hE
          refine lv_iconst (v := (1 : Int32)) hx hb dX5_receivers_111 (by decide) ?_
          refine lv_goto (tgt := 116) hx hb dX5_receivers_112 (by decide) ?_
          exact key_116 vs0 v5 n4 n3 true ls _ _ _ _ hP hD hS (by first | omega | assumption | exact hk7 | exact rg_512 | exact sel_rg hX wr (by omega) ht8 (by omega) (sl_g16 hX wr (by omega) ht8 c_60) | exact sel_rg hX wr (by omega) ht8 (by omega) (sl_g16 hX wr (by omega) ht8 c_85)) (by first | omega | assumption | exact hk7 | exact rg_512 | exact sel_rg hX wr (by omega) ht8 (by omega) (sl_g16 hX wr (by omega) ht8 c_60) | exact sel_rg hX wr (by omega) ht8 (by omega) (sl_g16 hX wr (by omega) ht8 c_85)) (by first | omega | assumption | exact hk7 | exact rg_512 | exact sel_rg hX wr (by omega) ht8 (by omega) (sl_g16 hX wr (by omega) ht8 c_60) | exact sel_rg hX wr (by omega) ht8 (by omega) (sl_g16 hX wr (by omega) ht8 c_85)) (by first | omega | assumption | exact hk7 | exact rg_512 | exact sel_rg hX wr (by omega) ht8 (by omega) (sl_g16 hX wr (by omega) ht8 c_60) | exact sel_rg hX wr (by omega) ht8 (by omega) (sl_g16 hX wr (by omega) ht8 c_85)) (by first | omega | assumption | exact hk7 | exact rg_512 | exact sel_rg hX wr (by omega) ht8 (by omega) (sl_g16 hX wr (by omega) ht8 c_60) | exact sel_rg hX wr (by omega) ht8 (by omega) (sl_g16 hX wr (by omega) ht8 c_85)) (lv_sub hl [0, 1, 2, 3, 4, 5, 6] rfl) hE
      have key_77 : ∀ (n4 : Nat) (n3 : Nat) (vs0 : Int32) (ls : Array Slot) (r1 : Nat → Int32) (r2 : Nat → Int32) (H : Heap) (locs : List Loc) (hP : va_P D vwCl (wX cI cZ a x r1 r2) H) (hD : va_D A (wX cI cZ a x r1 r2)) (hS : va_S A s.heap H locs), wi t (x 19 0) = true → n4 < 12 → rg vs0 → (12 - n4) < k_26 + 1 → lv_has ls 9 [(4, .int (nI n4)), (3, .int (nI n3)), (0, .ref (a 0)), (1, .int t), (2, .int u)] → p_X5_receivers_77 x nf R Φ t u (fun n4 n3 => p_X5_receivers_26 x nf R Φ t u k_26 n4 n3) n4 n3 vs0 = tgt → W p l e (headSpec wsX5_receivers ({ frames := 7, cells := 0, slots := 0, locals := 190 } : Room)).room s m args below meth c H locs 0 0 (MQ below (va_Qi (fun r (_ : (Nat → Int32) × (Nat → Int32)) => r = tgt) (fun u t => va_P D vwCl ((fun (u8 : (Nat → Int32) × (Nat → Int32)) => wX cI cZ a x u8.1 u8.2) u) t.heap) A) args s 0 0 A) (F0 m 77 ls [.int vs0]) := by
        intro n4 n3 vs0 ls r1 r2 H locs hP hD hS hi_77_0 hi_77_1 hi_77_2 hi_77_3 hl hE
        rw [p_X5_receivers_77] at hE
        have hk7 := hi_77_0
        have hk8 := hi_77_0
        rw [wr.2.1] at hk8
        have ht9 := wi_sN (b := R) (by omega) hk8
        have ht8 := ht9.1
        have hf9 := (wr.2.2 _ ht8).1
        have hf0 := hf9.1
        refine lv_istore (lv' := [(5, .int vs0), (4, .int (nI n4)), (3, .int (nI n3)), (0, .ref (a 0)), (1, .int t), (2, .int u)]) hx hb dX5_receivers_77 hl (by decide) rfl (fun ls hl => ?_)
        refine lv_aload_n hx hb dX5_receivers_79 rfl (lv_at hl 3 rfl) ?_
        refine lv_iconst (v := (1 : Int32)) hx hb dX5_receivers_80 (by decide) ?_
        refine lv_iload_n hx hb dX5_receivers_81 rfl (lv_at hl 4 rfl) ?_
        refine top_eq (ht9.2) ?_
        refine mu_V [.int (1 : Int32), .int (nI (sN t))] [] ⟨hx, hb, hml, hown, hts⟩ (c_X5_selects l D cI cZ cB cR a x r1 r2 nf R Φ 1 (sN t) hX wr (by omega) (by omega) ) (cwV (C := RX5) 2 hts (goodP (ps := [.methodLink RX5 155 yX5_selects, .instanceMethod yX5_selects, .selects RX5 yX5_selects yX5_selects, .initialized RX5]) (all4 mw_4_28 mw_4_30 ms_44 mw_1_6) mw_4_31) rfl rfl rfl (by decide +kernel) ⟨Nat.le_of_ble_eq_true rfl, Nat.le_of_ble_eq_true rfl⟩) hEV hP hD hS hA 0 rfl rfl rfl hl.1 rfl (Nat.le_of_ble_eq_true rfl) dX5_receivers_82 ⟨Nat.zero_le _, Nat.zero_le _⟩ (fun r9 u9 H1 locs hw hP1 hk1 hS => ?_)
        subst hw
        obtain ⟨r1, r2⟩ := u9
        dsimp only at hP1
        have hP : va_P D vwCl (wX cI cZ a x r1 r2) H1 := hP1
        have hD : va_D A (wX cI cZ a x r1 r2) := hD.adr rfl
        generalize H1 = H at hP hS ⊢
        refine lv_if_eq (tgt := 99) hx hb dX5_receivers_85 (by decide) (fun c_85 => ?_) (fun c_85 => ?_)
        · have c_85 : ¬ ((slD x nf R Φ 1 (sN t)) = true) := b2i_f c_85
          have hE := (if_neg c_85).symm.trans hE
          refine lv_sipush (v := (512 : Int32)) hx hb dX5_receivers_99 (by decide) ?_
          exact key_102 vs0 n4 n3 (512 : Int32) ls _ _ _ _ hP hD hS (by first | omega | assumption | exact hk7 | exact rg_512 | exact sel_rg hX wr (by omega) ht8 (by omega) (sl_g16 hX wr (by omega) ht8 c_60) | exact sel_rg hX wr (by omega) ht8 (by omega) (sl_g16 hX wr (by omega) ht8 c_85)) (by first | omega | assumption | exact hk7 | exact rg_512 | exact sel_rg hX wr (by omega) ht8 (by omega) (sl_g16 hX wr (by omega) ht8 c_60) | exact sel_rg hX wr (by omega) ht8 (by omega) (sl_g16 hX wr (by omega) ht8 c_85)) (by first | omega | assumption | exact hk7 | exact rg_512 | exact sel_rg hX wr (by omega) ht8 (by omega) (sl_g16 hX wr (by omega) ht8 c_60) | exact sel_rg hX wr (by omega) ht8 (by omega) (sl_g16 hX wr (by omega) ht8 c_85)) (by first | omega | assumption | exact hk7 | exact rg_512 | exact sel_rg hX wr (by omega) ht8 (by omega) (sl_g16 hX wr (by omega) ht8 c_60) | exact sel_rg hX wr (by omega) ht8 (by omega) (sl_g16 hX wr (by omega) ht8 c_85)) (by first | omega | assumption | exact hk7 | exact rg_512 | exact sel_rg hX wr (by omega) ht8 (by omega) (sl_g16 hX wr (by omega) ht8 c_60) | exact sel_rg hX wr (by omega) ht8 (by omega) (sl_g16 hX wr (by omega) ht8 c_85)) (lv_sub hl [0, 1, 2, 3, 4, 5] rfl) hE
        · have c_85 : (slD x nf R Φ 1 (sN t)) = true := b2i_t c_85
          have hE := (if_pos c_85).symm.trans hE
          refine lv_aload_n hx hb dX5_receivers_88 rfl (lv_at hl 3 rfl) ?_
          refine lv_iconst (v := (1 : Int32)) hx hb dX5_receivers_89 (by decide) ?_
          refine lv_iload_n hx hb dX5_receivers_90 rfl (lv_at hl 4 rfl) ?_
          refine top_eq (ht9.2) ?_
          refine lv_iload hx hb dX5_receivers_91 (lv_at hl 1 rfl) ?_
          refine mu_V [.int (1 : Int32), .int (nI (sN t)), .int (nI n4)] [] ⟨hx, hb, hml, hown, hts⟩ (c_X5_selected l D cI cZ cB cR a x r1 r2 nf R Φ 1 (sN t) n4 hX wr (by omega) (by omega) (by omega) (sl_g16 hX wr (by omega) ht8 c_85)) (cwV (C := RX5) 3 hts (goodP (ps := [.methodLink RX5 158 yX5_selected, .instanceMethod yX5_selected, .selects RX5 yX5_selected yX5_selected, .initialized RX5]) (all4 mw_4_32 mw_4_34 ms_45 mw_1_6) mw_4_35) rfl rfl rfl (by decide +kernel) ⟨Nat.le_of_ble_eq_true rfl, Nat.le_of_ble_eq_true rfl⟩) hEV hP hD hS hA 0 rfl rfl rfl hl.1 rfl (Nat.le_of_ble_eq_true rfl) dX5_receivers_93 ⟨Nat.zero_le _, Nat.zero_le _⟩ (fun r9 u9 H1 locs hw hP1 hk1 hS => ?_)
          subst hw
          obtain ⟨r1, r2⟩ := u9
          dsimp only at hP1
          have hP : va_P D vwCl (wX cI cZ a x r1 r2) H1 := hP1
          have hD : va_D A (wX cI cZ a x r1 r2) := hD.adr rfl
          generalize H1 = H at hP hS ⊢
          refine lv_goto (tgt := 102) hx hb dX5_receivers_96 (by decide) ?_
          exact key_102 vs0 n4 n3 (p_X5_selected x nf R Φ 1 (sN t) n4) ls _ _ _ _ hP hD hS (by first | omega | assumption | exact hk7 | exact rg_512 | exact sel_rg hX wr (by omega) ht8 (by omega) (sl_g16 hX wr (by omega) ht8 c_60) | exact sel_rg hX wr (by omega) ht8 (by omega) (sl_g16 hX wr (by omega) ht8 c_85)) (by first | omega | assumption | exact hk7 | exact rg_512 | exact sel_rg hX wr (by omega) ht8 (by omega) (sl_g16 hX wr (by omega) ht8 c_60) | exact sel_rg hX wr (by omega) ht8 (by omega) (sl_g16 hX wr (by omega) ht8 c_85)) (by first | omega | assumption | exact hk7 | exact rg_512 | exact sel_rg hX wr (by omega) ht8 (by omega) (sl_g16 hX wr (by omega) ht8 c_60) | exact sel_rg hX wr (by omega) ht8 (by omega) (sl_g16 hX wr (by omega) ht8 c_85)) (by first | omega | assumption | exact hk7 | exact rg_512 | exact sel_rg hX wr (by omega) ht8 (by omega) (sl_g16 hX wr (by omega) ht8 c_60) | exact sel_rg hX wr (by omega) ht8 (by omega) (sl_g16 hX wr (by omega) ht8 c_85)) (by first | omega | assumption | exact hk7 | exact rg_512 | exact sel_rg hX wr (by omega) ht8 (by omega) (sl_g16 hX wr (by omega) ht8 c_60) | exact sel_rg hX wr (by omega) ht8 (by omega) (sl_g16 hX wr (by omega) ht8 c_85)) (lv_sub hl [0, 1, 2, 3, 4, 5] rfl) hE
      intro n4 n3 ls r1 r2 H locs hP hD hS hm_26 hi_26_0 hi_26_1 hl hE
      rw [p_X5_receivers_26] at hE
      have hk7 := hi_26_0
      have hk8 := hi_26_0
      rw [wr.2.1] at hk8
      have ht9 := wi_sN (b := R) (by omega) hk8
      have ht8 := ht9.1
      have hf9 := (wr.2.2 _ ht8).1
      have hf0 := hf9.1
      refine lv_iload hx hb dX5_receivers_26 (lv_at hl 0 rfl) ?_
      refine lv_bipush (v := (12 : Int32)) hx hb dX5_receivers_28 (by decide) ?_
      refine lv_icmp_ge (tgt := 205) hx hb dX5_receivers_30 (by decide) (fun c_30 => ?_) (fun c_30 => ?_)
      · have c_30 : 12 ≤ n4 := (nI_leI (a := 12) (b := n4) (by omega) (by omega)).mp c_30
        have hE := (if_pos c_30).symm.trans hE
        refine lv_iload_n hx hb dX5_receivers_205 rfl (lv_at hl 1 rfl) ?_
        exact W.iret hx hb hr (fun t9 ht9 _ => ⟨⟨_, (r1, r2), rfl, hE, by show va_P D vwCl _ t9.heap; rw [ht9]; exact hP⟩, hS.F ht9⟩) hS.2.2 dX5_receivers_206
      · have c_30 : ¬ (12 ≤ n4) := fun q9 => c_30 ((nI_leI (a := 12) (b := n4) (by omega) (by omega)).mpr q9)
        have hE := (if_neg c_30).symm.trans hE
        refine lv_aload_n hx hb dX5_receivers_33 rfl (lv_at hl 2 rfl) ?_
        refine va_get (D := D) (ci := 5) (v := .ref (a 14)) (C := RX5) (T := TX5) (N := 21) hx hb hts (fun w9 h9 => List.mem_cons_of_mem _ (inT_X5 w9 h9)) hown hK hP 0 rfl rfl 13 (by decide) (hts (.fieldLink RX5 50 "LinkPredictorModel" "kind" "[I") (List.mem_cons_of_mem _ mw_3_79)) (fun _ h9 => h9) rfl dX5_receivers_34 ?_
        refine lv_iload_n hx hb dX5_receivers_37 rfl (lv_at hl 3 rfl) ?_
        refine top_eq (ht9.2) ?_
        refine ro_ald hx hb hEV hP 14 (j := (sN t)) rfl (by omega) (by decide) dX5_receivers_38 ?_
        refine top_eq ((wr.2.2 _ ht8).2.1) ?_
        refine lv_iconst (v := (4 : Int32)) hx hb dX5_receivers_39 (by decide) ?_
        refine lv_icmp_eq (tgt := 54) hx hb dX5_receivers_40 (by decide) (fun c_40 => ?_) (fun c_40 => ?_)
        · have c_40 : (Φ (sN t) 0) = 4 := (nI_eq (a := (Φ (sN t) 0)) (b := 4) (by omega) (by omega)).mp c_40
          have hE := (if_pos c_40).symm.trans hE
          refine lv_aload_n hx hb dX5_receivers_54 rfl (lv_at hl 2 rfl) ?_
          refine lv_iconst (v := (0 : Int32)) hx hb dX5_receivers_55 (by decide) ?_
          refine lv_iload_n hx hb dX5_receivers_56 rfl (lv_at hl 3 rfl) ?_
          refine top_eq (ht9.2) ?_
          refine mu_V [.int (0 : Int32), .int (nI (sN t))] [] ⟨hx, hb, hml, hown, hts⟩ (c_X5_selects l D cI cZ cB cR a x r1 r2 nf R Φ 0 (sN t) hX wr (by omega) (by omega) ) (cwV (C := RX5) 2 hts (goodP (ps := [.methodLink RX5 155 yX5_selects, .instanceMethod yX5_selects, .selects RX5 yX5_selects yX5_selects, .initialized RX5]) (all4 mw_4_28 mw_4_30 ms_44 mw_1_6) mw_4_31) rfl rfl rfl (by decide +kernel) ⟨Nat.le_of_ble_eq_true rfl, Nat.le_of_ble_eq_true rfl⟩) hEV hP hD hS hA 0 rfl rfl rfl hl.1 rfl (Nat.le_of_ble_eq_true rfl) dX5_receivers_57 ⟨Nat.zero_le _, Nat.zero_le _⟩ (fun r9 u9 H1 locs hw hP1 hk1 hS => ?_)
          subst hw
          obtain ⟨r1, r2⟩ := u9
          dsimp only at hP1
          have hP : va_P D vwCl (wX cI cZ a x r1 r2) H1 := hP1
          have hD : va_D A (wX cI cZ a x r1 r2) := hD.adr rfl
          generalize H1 = H at hP hS ⊢
          refine lv_if_eq (tgt := 74) hx hb dX5_receivers_60 (by decide) (fun c_60 => ?_) (fun c_60 => ?_)
          · have c_60 : ¬ ((slD x nf R Φ 0 (sN t)) = true) := b2i_f c_60
            have hE := (if_neg c_60).symm.trans hE
            refine lv_sipush (v := (512 : Int32)) hx hb dX5_receivers_74 (by decide) ?_
            exact key_77 n4 n3 (512 : Int32) ls _ _ _ _ hP hD hS (by first | omega | assumption | exact hk7 | exact rg_512 | exact sel_rg hX wr (by omega) ht8 (by omega) (sl_g16 hX wr (by omega) ht8 c_60) | exact sel_rg hX wr (by omega) ht8 (by omega) (sl_g16 hX wr (by omega) ht8 c_85)) (by first | omega | assumption | exact hk7 | exact rg_512 | exact sel_rg hX wr (by omega) ht8 (by omega) (sl_g16 hX wr (by omega) ht8 c_60) | exact sel_rg hX wr (by omega) ht8 (by omega) (sl_g16 hX wr (by omega) ht8 c_85)) (by first | omega | assumption | exact hk7 | exact rg_512 | exact sel_rg hX wr (by omega) ht8 (by omega) (sl_g16 hX wr (by omega) ht8 c_60) | exact sel_rg hX wr (by omega) ht8 (by omega) (sl_g16 hX wr (by omega) ht8 c_85)) (by first | omega | assumption | exact hk7 | exact rg_512 | exact sel_rg hX wr (by omega) ht8 (by omega) (sl_g16 hX wr (by omega) ht8 c_60) | exact sel_rg hX wr (by omega) ht8 (by omega) (sl_g16 hX wr (by omega) ht8 c_85)) (lv_sub hl [0, 1, 2, 3, 4] rfl) hE
          · have c_60 : (slD x nf R Φ 0 (sN t)) = true := b2i_t c_60
            have hE := (if_pos c_60).symm.trans hE
            refine lv_aload_n hx hb dX5_receivers_63 rfl (lv_at hl 2 rfl) ?_
            refine lv_iconst (v := (0 : Int32)) hx hb dX5_receivers_64 (by decide) ?_
            refine lv_iload_n hx hb dX5_receivers_65 rfl (lv_at hl 3 rfl) ?_
            refine top_eq (ht9.2) ?_
            refine lv_iload hx hb dX5_receivers_66 (lv_at hl 0 rfl) ?_
            refine mu_V [.int (0 : Int32), .int (nI (sN t)), .int (nI n4)] [] ⟨hx, hb, hml, hown, hts⟩ (c_X5_selected l D cI cZ cB cR a x r1 r2 nf R Φ 0 (sN t) n4 hX wr (by omega) (by omega) (by omega) (sl_g16 hX wr (by omega) ht8 c_60)) (cwV (C := RX5) 3 hts (goodP (ps := [.methodLink RX5 158 yX5_selected, .instanceMethod yX5_selected, .selects RX5 yX5_selected yX5_selected, .initialized RX5]) (all4 mw_4_32 mw_4_34 ms_45 mw_1_6) mw_4_35) rfl rfl rfl (by decide +kernel) ⟨Nat.le_of_ble_eq_true rfl, Nat.le_of_ble_eq_true rfl⟩) hEV hP hD hS hA 0 rfl rfl rfl hl.1 rfl (Nat.le_of_ble_eq_true rfl) dX5_receivers_68 ⟨Nat.zero_le _, Nat.zero_le _⟩ (fun r9 u9 H1 locs hw hP1 hk1 hS => ?_)
            subst hw
            obtain ⟨r1, r2⟩ := u9
            dsimp only at hP1
            have hP : va_P D vwCl (wX cI cZ a x r1 r2) H1 := hP1
            have hD : va_D A (wX cI cZ a x r1 r2) := hD.adr rfl
            generalize H1 = H at hP hS ⊢
            refine lv_goto (tgt := 77) hx hb dX5_receivers_71 (by decide) ?_
            exact key_77 n4 n3 (p_X5_selected x nf R Φ 0 (sN t) n4) ls _ _ _ _ hP hD hS (by first | omega | assumption | exact hk7 | exact rg_512 | exact sel_rg hX wr (by omega) ht8 (by omega) (sl_g16 hX wr (by omega) ht8 c_60) | exact sel_rg hX wr (by omega) ht8 (by omega) (sl_g16 hX wr (by omega) ht8 c_85)) (by first | omega | assumption | exact hk7 | exact rg_512 | exact sel_rg hX wr (by omega) ht8 (by omega) (sl_g16 hX wr (by omega) ht8 c_60) | exact sel_rg hX wr (by omega) ht8 (by omega) (sl_g16 hX wr (by omega) ht8 c_85)) (by first | omega | assumption | exact hk7 | exact rg_512 | exact sel_rg hX wr (by omega) ht8 (by omega) (sl_g16 hX wr (by omega) ht8 c_60) | exact sel_rg hX wr (by omega) ht8 (by omega) (sl_g16 hX wr (by omega) ht8 c_85)) (by first | omega | assumption | exact hk7 | exact rg_512 | exact sel_rg hX wr (by omega) ht8 (by omega) (sl_g16 hX wr (by omega) ht8 c_60) | exact sel_rg hX wr (by omega) ht8 (by omega) (sl_g16 hX wr (by omega) ht8 c_85)) (lv_sub hl [0, 1, 2, 3, 4] rfl) hE
        · have c_40 : ¬ ((Φ (sN t) 0) = 4) := fun q9 => c_40 ((nI_eq (a := (Φ (sN t) 0)) (b := 4) (by omega) (by omega)).mpr q9)
          have hE := (if_neg c_40).symm.trans hE
          refine lv_aload_n hx hb dX5_receivers_43 rfl (lv_at hl 2 rfl) ?_
          refine va_get (D := D) (ci := 5) (v := .ref (a 14)) (C := RX5) (T := TX5) (N := 21) hx hb hts (fun w9 h9 => List.mem_cons_of_mem _ (inT_X5 w9 h9)) hown hK hP 0 rfl rfl 13 (by decide) (hts (.fieldLink RX5 50 "LinkPredictorModel" "kind" "[I") (List.mem_cons_of_mem _ mw_3_79)) (fun _ h9 => h9) rfl dX5_receivers_44 ?_
          refine lv_iload_n hx hb dX5_receivers_47 rfl (lv_at hl 3 rfl) ?_
          refine top_eq (ht9.2) ?_
          refine ro_ald hx hb hEV hP 14 (j := (sN t)) rfl (by omega) (by decide) dX5_receivers_48 ?_
          refine top_eq ((wr.2.2 _ ht8).2.1) ?_
          refine lv_bipush (v := (7 : Int32)) hx hb dX5_receivers_49 (by decide) ?_
          refine lv_icmp_ne (tgt := 205) hx hb dX5_receivers_51 (by decide) (fun c_51 => ?_) (fun c_51 => ?_)
          · have c_51 : ¬ ((Φ (sN t) 0) = 7) := fun q9 => c_51 ((nI_eq (a := (Φ (sN t) 0)) (b := 7) (by omega) (by omega)).mpr q9)
            have hE := (if_neg c_51).symm.trans hE
            refine lv_iload_n hx hb dX5_receivers_205 rfl (lv_at hl 1 rfl) ?_
            exact W.iret hx hb hr (fun t9 ht9 _ => ⟨⟨_, (r1, r2), rfl, hE, by show va_P D vwCl _ t9.heap; rw [ht9]; exact hP⟩, hS.F ht9⟩) hS.2.2 dX5_receivers_206
          · have c_51 : (Φ (sN t) 0) = 7 := (nI_eq (a := (Φ (sN t) 0)) (b := 7) (by omega) (by omega)).mp c_51
            have hE := (if_pos c_51).symm.trans hE
            refine lv_aload_n hx hb dX5_receivers_54 rfl (lv_at hl 2 rfl) ?_
            refine lv_iconst (v := (0 : Int32)) hx hb dX5_receivers_55 (by decide) ?_
            refine lv_iload_n hx hb dX5_receivers_56 rfl (lv_at hl 3 rfl) ?_
            refine top_eq (ht9.2) ?_
            refine mu_V [.int (0 : Int32), .int (nI (sN t))] [] ⟨hx, hb, hml, hown, hts⟩ (c_X5_selects l D cI cZ cB cR a x r1 r2 nf R Φ 0 (sN t) hX wr (by omega) (by omega) ) (cwV (C := RX5) 2 hts (goodP (ps := [.methodLink RX5 155 yX5_selects, .instanceMethod yX5_selects, .selects RX5 yX5_selects yX5_selects, .initialized RX5]) (all4 mw_4_28 mw_4_30 ms_44 mw_1_6) mw_4_31) rfl rfl rfl (by decide +kernel) ⟨Nat.le_of_ble_eq_true rfl, Nat.le_of_ble_eq_true rfl⟩) hEV hP hD hS hA 0 rfl rfl rfl hl.1 rfl (Nat.le_of_ble_eq_true rfl) dX5_receivers_57 ⟨Nat.zero_le _, Nat.zero_le _⟩ (fun r9 u9 H1 locs hw hP1 hk1 hS => ?_)
            subst hw
            obtain ⟨r1, r2⟩ := u9
            dsimp only at hP1
            have hP : va_P D vwCl (wX cI cZ a x r1 r2) H1 := hP1
            have hD : va_D A (wX cI cZ a x r1 r2) := hD.adr rfl
            generalize H1 = H at hP hS ⊢
            refine lv_if_eq (tgt := 74) hx hb dX5_receivers_60 (by decide) (fun c_60 => ?_) (fun c_60 => ?_)
            · have c_60 : ¬ ((slD x nf R Φ 0 (sN t)) = true) := b2i_f c_60
              have hE := (if_neg c_60).symm.trans hE
              refine lv_sipush (v := (512 : Int32)) hx hb dX5_receivers_74 (by decide) ?_
              exact key_77 n4 n3 (512 : Int32) ls _ _ _ _ hP hD hS (by first | omega | assumption | exact hk7 | exact rg_512 | exact sel_rg hX wr (by omega) ht8 (by omega) (sl_g16 hX wr (by omega) ht8 c_60) | exact sel_rg hX wr (by omega) ht8 (by omega) (sl_g16 hX wr (by omega) ht8 c_85)) (by first | omega | assumption | exact hk7 | exact rg_512 | exact sel_rg hX wr (by omega) ht8 (by omega) (sl_g16 hX wr (by omega) ht8 c_60) | exact sel_rg hX wr (by omega) ht8 (by omega) (sl_g16 hX wr (by omega) ht8 c_85)) (by first | omega | assumption | exact hk7 | exact rg_512 | exact sel_rg hX wr (by omega) ht8 (by omega) (sl_g16 hX wr (by omega) ht8 c_60) | exact sel_rg hX wr (by omega) ht8 (by omega) (sl_g16 hX wr (by omega) ht8 c_85)) (by first | omega | assumption | exact hk7 | exact rg_512 | exact sel_rg hX wr (by omega) ht8 (by omega) (sl_g16 hX wr (by omega) ht8 c_60) | exact sel_rg hX wr (by omega) ht8 (by omega) (sl_g16 hX wr (by omega) ht8 c_85)) (lv_sub hl [0, 1, 2, 3, 4] rfl) hE
            · have c_60 : (slD x nf R Φ 0 (sN t)) = true := b2i_t c_60
              have hE := (if_pos c_60).symm.trans hE
              refine lv_aload_n hx hb dX5_receivers_63 rfl (lv_at hl 2 rfl) ?_
              refine lv_iconst (v := (0 : Int32)) hx hb dX5_receivers_64 (by decide) ?_
              refine lv_iload_n hx hb dX5_receivers_65 rfl (lv_at hl 3 rfl) ?_
              refine top_eq (ht9.2) ?_
              refine lv_iload hx hb dX5_receivers_66 (lv_at hl 0 rfl) ?_
              refine mu_V [.int (0 : Int32), .int (nI (sN t)), .int (nI n4)] [] ⟨hx, hb, hml, hown, hts⟩ (c_X5_selected l D cI cZ cB cR a x r1 r2 nf R Φ 0 (sN t) n4 hX wr (by omega) (by omega) (by omega) (sl_g16 hX wr (by omega) ht8 c_60)) (cwV (C := RX5) 3 hts (goodP (ps := [.methodLink RX5 158 yX5_selected, .instanceMethod yX5_selected, .selects RX5 yX5_selected yX5_selected, .initialized RX5]) (all4 mw_4_32 mw_4_34 ms_45 mw_1_6) mw_4_35) rfl rfl rfl (by decide +kernel) ⟨Nat.le_of_ble_eq_true rfl, Nat.le_of_ble_eq_true rfl⟩) hEV hP hD hS hA 0 rfl rfl rfl hl.1 rfl (Nat.le_of_ble_eq_true rfl) dX5_receivers_68 ⟨Nat.zero_le _, Nat.zero_le _⟩ (fun r9 u9 H1 locs hw hP1 hk1 hS => ?_)
              subst hw
              obtain ⟨r1, r2⟩ := u9
              dsimp only at hP1
              have hP : va_P D vwCl (wX cI cZ a x r1 r2) H1 := hP1
              have hD : va_D A (wX cI cZ a x r1 r2) := hD.adr rfl
              generalize H1 = H at hP hS ⊢
              refine lv_goto (tgt := 77) hx hb dX5_receivers_71 (by decide) ?_
              exact key_77 n4 n3 (p_X5_selected x nf R Φ 0 (sN t) n4) ls _ _ _ _ hP hD hS (by first | omega | assumption | exact hk7 | exact rg_512 | exact sel_rg hX wr (by omega) ht8 (by omega) (sl_g16 hX wr (by omega) ht8 c_60) | exact sel_rg hX wr (by omega) ht8 (by omega) (sl_g16 hX wr (by omega) ht8 c_85)) (by first | omega | assumption | exact hk7 | exact rg_512 | exact sel_rg hX wr (by omega) ht8 (by omega) (sl_g16 hX wr (by omega) ht8 c_60) | exact sel_rg hX wr (by omega) ht8 (by omega) (sl_g16 hX wr (by omega) ht8 c_85)) (by first | omega | assumption | exact hk7 | exact rg_512 | exact sel_rg hX wr (by omega) ht8 (by omega) (sl_g16 hX wr (by omega) ht8 c_60) | exact sel_rg hX wr (by omega) ht8 (by omega) (sl_g16 hX wr (by omega) ht8 c_85)) (by first | omega | assumption | exact hk7 | exact rg_512 | exact sel_rg hX wr (by omega) ht8 (by omega) (sl_g16 hX wr (by omega) ht8 c_60) | exact sel_rg hX wr (by omega) ht8 (by omega) (sl_g16 hX wr (by omega) ht8 c_85)) (lv_sub hl [0, 1, 2, 3, 4] rfl) hE
  refine lv_iload_n hx hb dX5_receivers_0 rfl (lv_at hl 1 rfl) ?_
  refine lv_aload_n hx hb dX5_receivers_1 rfl (lv_at hl 0 rfl) ?_
  refine va_get (D := D) (ci := 5) (v := .int (x 19 0)) (C := RX5) (T := TX5) (N := 21) hx hb hts (fun w9 h9 => List.mem_cons_of_mem _ (inT_X5 w9 h9)) hown hK hP 0 rfl rfl 17 (by decide) (hts (.fieldLink RX5 91 "LinkPredictorModel" "references" "I") (List.mem_cons_of_mem _ mw_3_83)) (fun _ h9 => h9) rfl dX5_receivers_2 ?_
  refine ro_S [.int t, .int (x 19 0)] [] ⟨hx, hb, hml, hown, hts⟩ (c_X5_in l D cI cZ cB cR t (x 19 0)) (va_cwS 2 hts (goodP (ps := [.methodLink RX5 72 yX5_in, .static yX5_in, .initialized RX5]) (all3 mw_3_135 mw_3_136 mw_1_6) mw_3_137) rfl rfl rfl (by decide +kernel) ⟨Nat.le_of_ble_eq_true rfl, Nat.le_of_ble_eq_true rfl⟩) hEV va_P0 rfl hl.1 rfl (Nat.le_of_ble_eq_true rfl) dX5_receivers_5 ⟨Nat.zero_le _, Nat.zero_le _⟩ ?_
  refine lv_if_eq (tgt := 19) hx hb dX5_receivers_8 (by decide) (fun c_8 => ?_) (fun c_8 => ?_)
  · have c_8 : ¬ ((wi t (x 19 0)) = true) := b2i_f c_8
    have hE := (if_neg c_8).symm.trans hE
    refine lv_iconst (v := (-1 : Int32)) hx hb dX5_receivers_19 (by decide) ?_
    exact W.iret hx hb hr (fun t9 ht9 _ => ⟨⟨_, (r1, r2), rfl, hE, by show va_P D vwCl _ t9.heap; rw [ht9]; exact hP⟩, hS.F ht9⟩) hS.2.2 dX5_receivers_20
  · have c_8 : (wi t (x 19 0)) = true := b2i_t c_8
    have hE := (if_pos c_8).symm.trans hE
    refine lv_iload_n hx hb dX5_receivers_11 rfl (lv_at hl 2 rfl) ?_
    refine lv_iconst (v := (4 : Int32)) hx hb dX5_receivers_12 (by decide) ?_
    refine ro_S [.int u, .int (4 : Int32)] [] ⟨hx, hb, hml, hown, hts⟩ (c_X5_in l D cI cZ cB cR u (4 : Int32)) (va_cwS 2 hts (goodP (ps := [.methodLink RX5 72 yX5_in, .static yX5_in, .initialized RX5]) (all3 mw_3_135 mw_3_136 mw_1_6) mw_3_137) rfl rfl rfl (by decide +kernel) ⟨Nat.le_of_ble_eq_true rfl, Nat.le_of_ble_eq_true rfl⟩) hEV va_P0 rfl hl.1 rfl (Nat.le_of_ble_eq_true rfl) dX5_receivers_13 ⟨Nat.zero_le _, Nat.zero_le _⟩ ?_
    refine lv_if_ne (tgt := 21) hx hb dX5_receivers_16 (by decide) (fun c_16 => ?_) (fun c_16 => ?_)
    · have c_16 : (wi u (4 : Int32)) = true := b2i_t c_16
      have hE := (if_pos c_16).symm.trans hE
      have hk7 := c_8
      refine lv_iconst (v := (0 : Int32)) hx hb dX5_receivers_21 (by decide) ?_
      refine lv_istore_n (lv' := [(3, .int (0 : Int32)), (0, .ref (a 0)), (1, .int t), (2, .int u)]) hx hb dX5_receivers_22 rfl hl (by decide) rfl (fun ls hl => ?_)
      refine lv_iconst (v := (0 : Int32)) hx hb dX5_receivers_23 (by decide) ?_
      refine lv_istore (lv' := [(4, .int (0 : Int32)), (3, .int (0 : Int32)), (0, .ref (a 0)), (1, .int t), (2, .int u)]) hx hb dX5_receivers_24 hl (by decide) rfl (fun ls hl => ?_)
      exact key_26 13 0 0 ls _ _ _ _ hP hD hS (by omega) (by first | omega | assumption | exact hk7 | exact rg_512 | exact sel_rg hX wr (by omega) ht8 (by omega) (sl_g16 hX wr (by omega) ht8 c_60) | exact sel_rg hX wr (by omega) ht8 (by omega) (sl_g16 hX wr (by omega) ht8 c_85)) (by first | omega | assumption | exact hk7 | exact rg_512 | exact sel_rg hX wr (by omega) ht8 (by omega) (sl_g16 hX wr (by omega) ht8 c_60) | exact sel_rg hX wr (by omega) ht8 (by omega) (sl_g16 hX wr (by omega) ht8 c_85)) (lv_sub hl [0, 1, 2, 3, 4] rfl) hE
    · have c_16 : ¬ ((wi u (4 : Int32)) = true) := b2i_f c_16
      have hE := (if_neg c_16).symm.trans hE
      refine lv_iconst (v := (-1 : Int32)) hx hb dX5_receivers_19 (by decide) ?_
      exact W.iret hx hb hr (fun t9 ht9 _ => ⟨⟨_, (r1, r2), rfl, hE, by show va_P D vwCl _ t9.heap; rw [ht9]; exact hP⟩, hS.F ht9⟩) hS.2.2 dX5_receivers_20
noncomputable def p_X5_count_185 (x : Nat → Nat → Int32) (nf : Nat → Nat) (R : Nat) (Φ : Nat → Nat → Nat) (t : Int32) (u : Int32) (n3 : Nat) : Int32 := if u = (2 : Int32) then (x 8 (sN t)) else (if u = (6 : Int32) then (shI (vwX x (sN t))) else (nI n3))
noncomputable def p_X5_count_150 (x : Nat → Nat → Int32) (nf : Nat → Nat) (R : Nat) (Φ : Nat → Nat → Nat) (t : Int32) (u : Int32) : Nat → Nat → Nat → Int32
  | 0, _, _ => 0
  | k + 1, n4, n3 => if R ≤ n4 then (p_X5_count_185 x nf R Φ t u n3) else (if u = (3 : Int32) then (if (64 : Int32) ≤ (p_X5_resolved x nf R Φ (sN t) n4) then (p_X5_count_150 x nf R Φ t u k (n4 + 1) n3) else (p_X5_count_150 x nf R Φ t u k (n4 + 1) (n3 + 1))) else (p_X5_count_150 x nf R Φ t u k (n4 + 1) n3))
noncomputable def p_X5_count_80 (x : Nat → Nat → Int32) (nf : Nat → Nat) (R : Nat) (Φ : Nat → Nat → Nat) (t : Int32) (u : Int32) : Nat → Nat → Nat → Int32
  | 0, _, _ => 0
  | k + 1, n4, n3 => if ((30 * (sN t)) + (nf (sN t))) ≤ n4 then (p_X5_count_150 x nf R Φ t u 17 0 n3) else (if (x 7 n4) = (0 : Int32) then (if u = (1 : Int32) then (p_X5_count_80 x nf R Φ t u k (n4 + 1) (n3 + 1)) else (if u = (5 : Int32) then (if (x 6 n4) = (0 : Int32) then (p_X5_count_80 x nf R Φ t u k (n4 + 1) n3) else (if ((x 12 n4) &&& (2 : Int32)) = (0 : Int32) then (p_X5_count_80 x nf R Φ t u k (n4 + 1) n3) else (p_X5_count_80 x nf R Φ t u k (n4 + 1) (n3 + 1)))) else (p_X5_count_80 x nf R Φ t u k (n4 + 1) n3))) else (p_X5_count_80 x nf R Φ t u k (n4 + 1) n3))
noncomputable def p_X5_count_24 (x : Nat → Nat → Int32) (nf : Nat → Nat) (R : Nat) (Φ : Nat → Nat → Nat) (t : Int32) (u : Int32) : Nat → Nat → Nat → Int32
  | 0, _, _ => 0
  | k + 1, n4, n3 => if 12 ≤ n4 then (p_X5_count_80 x nf R Φ t u 31 (30 * (sN t)) n3) else (if (x 0 ((12 * (sN t)) + n4)) = (0 : Int32) then (p_X5_count_24 x nf R Φ t u k (n4 + 1) n3) else (if u = (0 : Int32) then (p_X5_count_24 x nf R Φ t u k (n4 + 1) (n3 + 1)) else (if u = (4 : Int32) then (if (gdB (vwX x (sN t)) n4) = true then (p_X5_count_24 x nf R Φ t u k (n4 + 1) (n3 + 1)) else (p_X5_count_24 x nf R Φ t u k (n4 + 1) n3)) else (p_X5_count_24 x nf R Φ t u k (n4 + 1) n3))))
noncomputable def p_X5_count (x : Nat → Nat → Int32) (nf : Nat → Nat) (R : Nat) (Φ : Nat → Nat → Nat) (t : Int32) (u : Int32) : Int32 := if (wi t (2 : Int32)) = true then (if (wi u (7 : Int32)) = true then (p_X5_count_24 x nf R Φ t u 13 0 0) else ((-1 : Int32))) else ((-1 : Int32))
set_option maxHeartbeats 4000000 in
set_option maxRecDepth 100000 in
theorem c_X5_count (l : Launch) (D : va_G) (cI cZ cB cR : ClassId) (a : Nat → Nat) (x : Nat → Nat → Int32) (r1 r2 : Nat → Int32) (nf : Nat → Nat) (R : Nat) (Φ : Nat → Nat → Nat) (t : Int32) (u : Int32) (hX : ∀ w, w < 2 → WX x w (nf w)) (wr : WR x R Φ)   : MUi l yX5_count wsX5_count ({ frames := 6, cells := 0, slots := 0, locals := 161 } : Room) D cI cZ cB cR (wX cI cZ a x r1 r2) [.ref (a 0), .int t, .int u] (fun (u8 : (Nat → Int32) × (Nat → Int32)) => wX cI cZ a x u8.1 u8.2) (fun r _ => r = (p_X5_count x nf R Φ t u)) := by
  generalize hE : p_X5_count x nf R Φ t u = tgt
  intro sz
  refine Met.ofW (cc := cX5_count) (maxL := 5) (ret := (some .int)) (by decide) rfl ?_
  intro p e s m args below meth c s₁ B hml hv
  obtain ⟨hargs, hsz, hP, hEV, hD0⟩ := hv
  have hx := B.exec
  have hb := B.bytes
  have hr := B.returns
  have hts := atoms_spec (ws := wsX5_count) B.pre
  have hown : s.vm.findClass RX5 = some m.cls := findClass_of_methodNamed B.named
  have hlocks := B.notSynchronized
  have hK := hEV.1
  have hl := lv_entry ([.ref (a 0), .int t, .int u]) (n := 5) (Nat.le_of_ble_eq_true rfl)
  rw [show entryFrame m args 5 = entryFrame m ([.ref (a 0), .int t, .int u] : List Value).toArray 5 from by rw [hargs], lg_entry_eq]
  generalize (lg_sl ([.ref (a 0), .int t, .int u]) ++ List.replicate (5 - (lg_sl ([.ref (a 0), .int t, .int u])).length) Slot.unset).toArray = ls at hl ⊢
  have hl : lv_has ls 5 [(0, .ref (a 0)), (1, .int t), (2, .int u)] := hl
  subst hsz
  have hD := hD0.self (sz := s.heap.size)
  generalize hAe : va_A (wX cI cZ a x r1 r2) s.heap.size = A at hD ⊢
  have hA : ∀ q : Nat, s.heap.size ≤ q → A q := fun q h9 => by rw [← hAe]; exact Or.inr h9
  have hS : va_S A s.heap s.heap [] := va_S.rf
  rw [p_X5_count] at hE
  have hR16 := wr.1
  have key_185 : ∀ (n3 : Nat) (ls : Array Slot) (r1 : Nat → Int32) (r2 : Nat → Int32) (H : Heap) (locs : List Loc) (hP : va_P D vwCl (wX cI cZ a x r1 r2) H) (hD : va_D A (wX cI cZ a x r1 r2)) (hS : va_S A s.heap H locs), wi t 2 = true → lv_has ls 5 [(3, .int (nI n3)), (0, .ref (a 0)), (1, .int t), (2, .int u)] → p_X5_count_185 x nf R Φ t u n3 = tgt → W p l e (headSpec wsX5_count ({ frames := 6, cells := 0, slots := 0, locals := 161 } : Room)).room s m args below meth c H locs 0 0 (MQ below (va_Qi (fun r (_ : (Nat → Int32) × (Nat → Int32)) => r = tgt) (fun u t => va_P D vwCl ((fun (u8 : (Nat → Int32) × (Nat → Int32)) => wX cI cZ a x u8.1 u8.2) u) t.heap) A) args s 0 0 A) (F0 m 185 ls []) := by
    intro n3 ls r1 r2 H locs hP hD hS hi_185_0 hl hE
    rw [p_X5_count_185] at hE
    have hk7 := hi_185_0
    have ht9 := wi_sN (b := 2) (by omega) hi_185_0
    have ht8 := ht9.1
    have wx := hX _ ht8
    have hn30 := wx.2.2.1
    refine lv_iload_n hx hb dX5_count_185 rfl (lv_at hl 3 rfl) ?_
    refine lv_iconst (v := (2 : Int32)) hx hb dX5_count_186 (by decide) ?_
    refine lv_icmp_ne (tgt := 199) hx hb dX5_count_187 (by decide) (fun c_187 => ?_) (fun c_187 => ?_)
    · skip
      have hE := (if_neg c_187).symm.trans hE
      refine lv_iload_n hx hb dX5_count_199 rfl (lv_at hl 3 rfl) ?_
      refine lv_bipush (v := (6 : Int32)) hx hb dX5_count_200 (by decide) ?_
      refine lv_icmp_ne (tgt := 213) hx hb dX5_count_202 (by decide) (fun c_202 => ?_) (fun c_202 => ?_)
      · skip
        have hE := (if_neg c_202).symm.trans hE
        refine lv_iload_n hx hb dX5_count_213 rfl (lv_at hl 0 rfl) ?_
        exact W.iret hx hb hr (fun t9 ht9 _ => ⟨⟨_, (r1, r2), rfl, hE, by show va_P D vwCl _ t9.heap; rw [ht9]; exact hP⟩, hS.F ht9⟩) hS.2.2 dX5_count_214
      · skip
        have hE := (if_pos c_202).symm.trans hE
        refine lv_aload_n hx hb dX5_count_205 rfl (lv_at hl 1 rfl) ?_
        refine lv_iload_n hx hb dX5_count_206 rfl (lv_at hl 2 rfl) ?_
        refine top_eq (ht9.2) ?_
        refine ro_V [.int (nI (sN t))] [] ⟨hx, hb, hml, hown, hts⟩ (c_X5_neighbours l D cI cZ cB cR a x r1 r2 (sN t) (nf (sN t))  (by omega) (hX (sN t) (by omega)) ) (cwV (C := RX5) 1 hts (goodP (ps := [.methodLink RX5 164 yX5_neighbours, .instanceMethod yX5_neighbours, .selects RX5 yX5_neighbours yX5_neighbours, .initialized RX5]) (all4 mw_4_64 mw_4_66 ms_49 mw_1_6) mw_4_67) rfl rfl rfl (by decide +kernel) ⟨Nat.le_of_ble_eq_true rfl, Nat.le_of_ble_eq_true rfl⟩) hEV hP 0 rfl rfl rfl hl.1 rfl (Nat.le_of_ble_eq_true rfl) dX5_count_207 ⟨Nat.zero_le _, Nat.zero_le _⟩ ?_
        refine lv_goto (tgt := 214) hx hb dX5_count_210 (by decide) ?_
        exact W.iret hx hb hr (fun t9 ht9 _ => ⟨⟨_, (r1, r2), rfl, hE, by show va_P D vwCl _ t9.heap; rw [ht9]; exact hP⟩, hS.F ht9⟩) hS.2.2 dX5_count_214
    · skip
      have hE := (if_pos c_187).symm.trans hE
      refine lv_aload_n hx hb dX5_count_190 rfl (lv_at hl 1 rfl) ?_
      refine va_get (D := D) (ci := 5) (v := .ref (a 9)) (C := RX5) (T := TX5) (N := 21) hx hb hts (fun w9 h9 => List.mem_cons_of_mem _ (inT_X5 w9 h9)) hown hK hP 0 rfl rfl 8 (by decide) (hts (.fieldLink RX5 35 "LinkPredictorModel" "many" "[I") (List.mem_cons_of_mem _ mw_3_74)) (fun _ h9 => h9) rfl dX5_count_191 ?_
      refine lv_iload_n hx hb dX5_count_194 rfl (lv_at hl 2 rfl) ?_
      refine top_eq (ht9.2) ?_
      refine ro_ald hx hb hEV hP 9 (j := (sN t)) rfl (by omega) (by decide) dX5_count_195 ?_
      refine lv_goto (tgt := 214) hx hb dX5_count_196 (by decide) ?_
      exact W.iret hx hb hr (fun t9 ht9 _ => ⟨⟨_, (r1, r2), rfl, hE, by show va_P D vwCl _ t9.heap; rw [ht9]; exact hP⟩, hS.F ht9⟩) hS.2.2 dX5_count_214
  have key_150 : ∀ (k_150 : Nat) (n4 : Nat) (n3 : Nat) (ls : Array Slot) (r1 : Nat → Int32) (r2 : Nat → Int32) (H : Heap) (locs : List Loc) (hP : va_P D vwCl (wX cI cZ a x r1 r2) H) (hD : va_D A (wX cI cZ a x r1 r2)) (hS : va_S A s.heap H locs), (R - n4) < k_150 → wi t 2 = true → n4 ≤ R → lv_has ls 5 [(4, .int (nI n4)), (3, .int (nI n3)), (0, .ref (a 0)), (1, .int t), (2, .int u)] → p_X5_count_150 x nf R Φ t u k_150 n4 n3 = tgt → W p l e (headSpec wsX5_count ({ frames := 6, cells := 0, slots := 0, locals := 161 } : Room)).room s m args below meth c H locs 0 0 (MQ below (va_Qi (fun r (_ : (Nat → Int32) × (Nat → Int32)) => r = tgt) (fun u t => va_P D vwCl ((fun (u8 : (Nat → Int32) × (Nat → Int32)) => wX cI cZ a x u8.1 u8.2) u) t.heap) A) args s 0 0 A) (F0 m 150 ls []) := by
    intro k_150
    induction k_150 with
    | zero => intro n4 n3 ls r1 r2 H locs hP hD hS hm; exact absurd hm (Nat.not_lt_zero _)
    | succ k_150 ih_150 =>
      intro n4 n3 ls r1 r2 H locs hP hD hS hm_150 hi_150_0 hi_150_1 hl hE
      rw [p_X5_count_150] at hE
      have hk7 := hi_150_0
      have ht9 := wi_sN (b := 2) (by omega) hi_150_0
      have ht8 := ht9.1
      have wx := hX _ ht8
      have hn30 := wx.2.2.1
      refine lv_iload hx hb dX5_count_150 (lv_at hl 0 rfl) ?_
      refine lv_aload_n hx hb dX5_count_152 rfl (lv_at hl 2 rfl) ?_
      refine va_get (D := D) (ci := 5) (v := .int (x 19 0)) (C := RX5) (T := TX5) (N := 21) hx hb hts (fun w9 h9 => List.mem_cons_of_mem _ (inT_X5 w9 h9)) hown hK hP 0 rfl rfl 17 (by decide) (hts (.fieldLink RX5 91 "LinkPredictorModel" "references" "I") (List.mem_cons_of_mem _ mw_3_83)) (fun _ h9 => h9) rfl dX5_count_153 ?_
      refine top_eq (wr.2.1) ?_
      refine lv_icmp_ge (tgt := 185) hx hb dX5_count_156 (by decide) (fun c_156 => ?_) (fun c_156 => ?_)
      · have c_156 : R ≤ n4 := (nI_leI (a := R) (b := n4) (by omega) (by omega)).mp c_156
        have hE := (if_pos c_156).symm.trans hE
        exact key_185 n3 ls _ _ _ _ hP hD hS (by first | omega | assumption) (lv_sub hl [1, 2, 3, 4] rfl) hE
      · have c_156 : ¬ (R ≤ n4) := fun q9 => c_156 ((nI_leI (a := R) (b := n4) (by omega) (by omega)).mpr q9)
        have hE := (if_neg c_156).symm.trans hE
        refine lv_iload_n hx hb dX5_count_159 rfl (lv_at hl 4 rfl) ?_
        refine lv_iconst (v := (3 : Int32)) hx hb dX5_count_160 (by decide) ?_
        refine lv_icmp_ne (tgt := 179) hx hb dX5_count_161 (by decide) (fun c_161 => ?_) (fun c_161 => ?_)
        · skip
          have hE := (if_neg c_161).symm.trans hE
          refine lv_iinc (v := nI (n4 + 1)) (lv' := [(4, .int (nI (n4 + 1))), (3, .int (nI n3)), (0, .ref (a 0)), (1, .int t), (2, .int u)]) hx hb dX5_count_179 hl (k := 0) rfl (nI_1 _) (by decide) rfl (fun ls hl => ?_)
          refine lv_goto (tgt := 150) hx hb dX5_count_182 (by decide) ?_
          exact ih_150 (n4 + 1) n3 ls _ _ _ _ hP hD hS (by omega) (by first | omega | assumption) (by first | omega | assumption) (lv_sub hl [0, 1, 2, 3, 4] rfl) hE
        · skip
          have hE := (if_pos c_161).symm.trans hE
          refine lv_aload_n hx hb dX5_count_164 rfl (lv_at hl 2 rfl) ?_
          refine lv_iload_n hx hb dX5_count_165 rfl (lv_at hl 3 rfl) ?_
          refine top_eq (ht9.2) ?_
          refine lv_iload hx hb dX5_count_166 (lv_at hl 0 rfl) ?_
          refine mu_V [.int (nI (sN t)), .int (nI n4)] [] ⟨hx, hb, hml, hown, hts⟩ (c_X5_resolved l D cI cZ cB cR a x r1 r2 nf R Φ (sN t) n4 hX wr (by omega) (by omega) ) (cwV (C := RX5) 2 hts (goodP (ps := [.methodLink RX5 143 yX5_resolved, .instanceMethod yX5_resolved, .selects RX5 yX5_resolved yX5_resolved, .initialized RX5]) (all4 mw_3_216 mw_3_218 ms_32 mw_1_6) mw_3_219) rfl rfl rfl (by decide +kernel) ⟨Nat.le_of_ble_eq_true rfl, Nat.le_of_ble_eq_true rfl⟩) hEV hP hD hS hA 0 rfl rfl rfl hl.1 rfl (Nat.le_of_ble_eq_true rfl) dX5_count_168 ⟨Nat.zero_le _, Nat.zero_le _⟩ (fun r9 u9 H1 locs hw hP1 hk1 hS => ?_)
          subst hw
          obtain ⟨r1, r2⟩ := u9
          dsimp only at hP1
          have hP : va_P D vwCl (wX cI cZ a x r1 r2) H1 := hP1
          have hD : va_D A (wX cI cZ a x r1 r2) := hD.adr rfl
          generalize H1 = H at hP hS ⊢
          refine lv_bipush (v := (64 : Int32)) hx hb dX5_count_171 (by decide) ?_
          refine lv_icmp_ge (tgt := 179) hx hb dX5_count_173 (by decide) (fun c_173 => ?_) (fun c_173 => ?_)
          · skip
            have hE := (if_pos c_173).symm.trans hE
            refine lv_iinc (v := nI (n4 + 1)) (lv' := [(4, .int (nI (n4 + 1))), (3, .int (nI n3)), (0, .ref (a 0)), (1, .int t), (2, .int u)]) hx hb dX5_count_179 hl (k := 0) rfl (nI_1 _) (by decide) rfl (fun ls hl => ?_)
            refine lv_goto (tgt := 150) hx hb dX5_count_182 (by decide) ?_
            exact ih_150 (n4 + 1) n3 ls _ _ _ _ hP hD hS (by omega) (by first | omega | assumption) (by first | omega | assumption) (lv_sub hl [0, 1, 2, 3, 4] rfl) hE
          · skip
            have hE := (if_neg c_173).symm.trans hE
            refine lv_iinc (v := nI (n3 + 1)) (lv' := [(3, .int (nI (n3 + 1))), (4, .int (nI n4)), (0, .ref (a 0)), (1, .int t), (2, .int u)]) hx hb dX5_count_176 hl (k := 1) rfl (nI_1 _) (by decide) rfl (fun ls hl => ?_)
            refine lv_iinc (v := nI (n4 + 1)) (lv' := [(4, .int (nI (n4 + 1))), (3, .int (nI (n3 + 1))), (0, .ref (a 0)), (1, .int t), (2, .int u)]) hx hb dX5_count_179 hl (k := 1) rfl (nI_1 _) (by decide) rfl (fun ls hl => ?_)
            refine lv_goto (tgt := 150) hx hb dX5_count_182 (by decide) ?_
            exact ih_150 (n4 + 1) (n3 + 1) ls _ _ _ _ hP hD hS (by omega) (by first | omega | assumption) (by first | omega | assumption) (lv_sub hl [0, 1, 2, 3, 4] rfl) hE
  have key_80 : ∀ (k_80 : Nat) (n4 : Nat) (n3 : Nat) (ls : Array Slot) (r1 : Nat → Int32) (r2 : Nat → Int32) (H : Heap) (locs : List Loc) (hP : va_P D vwCl (wX cI cZ a x r1 r2) H) (hD : va_D A (wX cI cZ a x r1 r2)) (hS : va_S A s.heap H locs), (30 * sN t + nf (sN t) - n4) < k_80 → wi t 2 = true → 30 * sN t ≤ n4 → n4 ≤ 30 * sN t + nf (sN t) → lv_has ls 5 [(4, .int (nI n4)), (3, .int (nI n3)), (0, .ref (a 0)), (1, .int t), (2, .int u)] → p_X5_count_80 x nf R Φ t u k_80 n4 n3 = tgt → W p l e (headSpec wsX5_count ({ frames := 6, cells := 0, slots := 0, locals := 161 } : Room)).room s m args below meth c H locs 0 0 (MQ below (va_Qi (fun r (_ : (Nat → Int32) × (Nat → Int32)) => r = tgt) (fun u t => va_P D vwCl ((fun (u8 : (Nat → Int32) × (Nat → Int32)) => wX cI cZ a x u8.1 u8.2) u) t.heap) A) args s 0 0 A) (F0 m 80 ls []) := by
    intro k_80
    induction k_80 with
    | zero => intro n4 n3 ls r1 r2 H locs hP hD hS hm; exact absurd hm (Nat.not_lt_zero _)
    | succ k_80 ih_80 =>
      intro n4 n3 ls r1 r2 H locs hP hD hS hm_80 hi_80_0 hi_80_1 hi_80_2 hl hE
      rw [p_X5_count_80] at hE
      have hk7 := hi_80_0
      have ht9 := wi_sN (b := 2) (by omega) hi_80_0
      have ht8 := ht9.1
      have wx := hX _ ht8
      have hn30 := wx.2.2.1
      refine lv_iload hx hb dX5_count_80 (lv_at hl 0 rfl) ?_
      refine lv_bipush (v := (30 : Int32)) hx hb dX5_count_82 (by decide) ?_
      refine lv_iload_n hx hb dX5_count_84 rfl (lv_at hl 3 rfl) ?_
      refine top_eq (ht9.2) ?_
      refine lv_imul hx hb dX5_count_85 ?_
      refine top_eq (pk_mul 30 (sN t)) ?_
      refine lv_aload_n hx hb dX5_count_86 rfl (lv_at hl 2 rfl) ?_
      refine va_get (D := D) (ci := 5) (v := .ref (a 9)) (C := RX5) (T := TX5) (N := 21) hx hb hts (fun w9 h9 => List.mem_cons_of_mem _ (inT_X5 w9 h9)) hown hK hP 0 rfl rfl 8 (by decide) (hts (.fieldLink RX5 35 "LinkPredictorModel" "many" "[I") (List.mem_cons_of_mem _ mw_3_74)) (fun _ h9 => h9) rfl dX5_count_87 ?_
      refine lv_iload_n hx hb dX5_count_90 rfl (lv_at hl 3 rfl) ?_
      refine top_eq (ht9.2) ?_
      refine ro_ald hx hb hEV hP 9 (j := (sN t)) rfl (by omega) (by decide) dX5_count_91 ?_
      refine top_eq (wx.2.1) ?_
      refine lv_iadd hx hb dX5_count_92 ?_
      refine top_eq (nI_add (30 * (sN t)) (nf (sN t))) ?_
      refine lv_icmp_ge (tgt := 147) hx hb dX5_count_93 (by decide) (fun c_93 => ?_) (fun c_93 => ?_)
      · have c_93 : ((30 * (sN t)) + (nf (sN t))) ≤ n4 := (nI_leI (a := ((30 * (sN t)) + (nf (sN t)))) (b := n4) (by omega) (by omega)).mp c_93
        have hE := (if_pos c_93).symm.trans hE
        refine lv_iconst (v := (0 : Int32)) hx hb dX5_count_147 (by decide) ?_
        refine lv_istore (lv' := [(4, .int (0 : Int32)), (3, .int (nI n3)), (0, .ref (a 0)), (1, .int t), (2, .int u)]) hx hb dX5_count_148 hl (by decide) rfl (fun ls hl => ?_)
        exact key_150 17 0 n3 ls _ _ _ _ hP hD hS (by omega) (by first | omega | assumption) (by first | omega | assumption) (lv_sub hl [0, 1, 2, 3, 4] rfl) hE
      · have c_93 : ¬ (((30 * (sN t)) + (nf (sN t))) ≤ n4) := fun q9 => c_93 ((nI_leI (a := ((30 * (sN t)) + (nf (sN t)))) (b := n4) (by omega) (by omega)).mpr q9)
        have hE := (if_neg c_93).symm.trans hE
        refine lv_aload_n hx hb dX5_count_96 rfl (lv_at hl 2 rfl) ?_
        refine va_get (D := D) (ci := 5) (v := .ref (a 8)) (C := RX5) (T := TX5) (N := 21) hx hb hts (fun w9 h9 => List.mem_cons_of_mem _ (inT_X5 w9 h9)) hown hK hP 0 rfl rfl 7 (by decide) (hts (.fieldLink RX5 32 "LinkPredictorModel" "gone" "[Z") (List.mem_cons_of_mem _ mw_3_73)) (fun _ h9 => h9) rfl dX5_count_97 ?_
        refine lv_iload hx hb dX5_count_100 (lv_at hl 0 rfl) ?_
        refine ro_zld hx hb hEV hP 8 (j := n4) rfl (by omega) (by decide) dX5_count_102 ?_
        refine lv_if_ne (tgt := 141) hx hb dX5_count_103 (by decide) (fun c_103 => ?_) (fun c_103 => ?_)
        · skip
          have hE := (if_neg c_103).symm.trans hE
          refine lv_iinc (v := nI (n4 + 1)) (lv' := [(4, .int (nI (n4 + 1))), (3, .int (nI n3)), (0, .ref (a 0)), (1, .int t), (2, .int u)]) hx hb dX5_count_141 hl (k := 0) rfl (nI_1 _) (by decide) rfl (fun ls hl => ?_)
          refine lv_goto (tgt := 80) hx hb dX5_count_144 (by decide) ?_
          exact ih_80 (n4 + 1) n3 ls _ _ _ _ hP hD hS (by omega) (by first | omega | assumption) (by first | omega | assumption) (by first | omega | assumption) (lv_sub hl [0, 1, 2, 3, 4] rfl) hE
        · skip
          have hE := (if_pos c_103).symm.trans hE
          refine lv_iload_n hx hb dX5_count_106 rfl (lv_at hl 4 rfl) ?_
          refine lv_iconst (v := (1 : Int32)) hx hb dX5_count_107 (by decide) ?_
          refine lv_icmp_eq (tgt := 138) hx hb dX5_count_108 (by decide) (fun c_108 => ?_) (fun c_108 => ?_)
          · skip
            have hE := (if_pos c_108).symm.trans hE
            refine lv_iinc (v := nI (n3 + 1)) (lv' := [(3, .int (nI (n3 + 1))), (4, .int (nI n4)), (0, .ref (a 0)), (1, .int t), (2, .int u)]) hx hb dX5_count_138 hl (k := 1) rfl (nI_1 _) (by decide) rfl (fun ls hl => ?_)
            refine lv_iinc (v := nI (n4 + 1)) (lv' := [(4, .int (nI (n4 + 1))), (3, .int (nI (n3 + 1))), (0, .ref (a 0)), (1, .int t), (2, .int u)]) hx hb dX5_count_141 hl (k := 1) rfl (nI_1 _) (by decide) rfl (fun ls hl => ?_)
            refine lv_goto (tgt := 80) hx hb dX5_count_144 (by decide) ?_
            exact ih_80 (n4 + 1) (n3 + 1) ls _ _ _ _ hP hD hS (by omega) (by first | omega | assumption) (by first | omega | assumption) (by first | omega | assumption) (lv_sub hl [0, 1, 2, 3, 4] rfl) hE
          · skip
            have hE := (if_neg c_108).symm.trans hE
            refine lv_iload_n hx hb dX5_count_111 rfl (lv_at hl 4 rfl) ?_
            refine lv_iconst (v := (5 : Int32)) hx hb dX5_count_112 (by decide) ?_
            refine lv_icmp_ne (tgt := 141) hx hb dX5_count_113 (by decide) (fun c_113 => ?_) (fun c_113 => ?_)
            · skip
              have hE := (if_neg c_113).symm.trans hE
              refine lv_iinc (v := nI (n4 + 1)) (lv' := [(4, .int (nI (n4 + 1))), (3, .int (nI n3)), (0, .ref (a 0)), (1, .int t), (2, .int u)]) hx hb dX5_count_141 hl (k := 0) rfl (nI_1 _) (by decide) rfl (fun ls hl => ?_)
              refine lv_goto (tgt := 80) hx hb dX5_count_144 (by decide) ?_
              exact ih_80 (n4 + 1) n3 ls _ _ _ _ hP hD hS (by omega) (by first | omega | assumption) (by first | omega | assumption) (by first | omega | assumption) (lv_sub hl [0, 1, 2, 3, 4] rfl) hE
            · skip
              have hE := (if_pos c_113).symm.trans hE
              refine lv_aload_n hx hb dX5_count_116 rfl (lv_at hl 2 rfl) ?_
              refine va_get (D := D) (ci := 5) (v := .ref (a 7)) (C := RX5) (T := TX5) (N := 21) hx hb hts (fun w9 h9 => List.mem_cons_of_mem _ (inT_X5 w9 h9)) hown hK hP 0 rfl rfl 6 (by decide) (hts (.fieldLink RX5 29 "LinkPredictorModel" "method" "[Z") (List.mem_cons_of_mem _ mw_3_72)) (fun _ h9 => h9) rfl dX5_count_117 ?_
              refine lv_iload hx hb dX5_count_120 (lv_at hl 0 rfl) ?_
              refine ro_zld hx hb hEV hP 7 (j := n4) rfl (by omega) (by decide) dX5_count_122 ?_
              refine lv_if_eq (tgt := 141) hx hb dX5_count_123 (by decide) (fun c_123 => ?_) (fun c_123 => ?_)
              · skip
                have hE := (if_pos c_123).symm.trans hE
                refine lv_iinc (v := nI (n4 + 1)) (lv' := [(4, .int (nI (n4 + 1))), (3, .int (nI n3)), (0, .ref (a 0)), (1, .int t), (2, .int u)]) hx hb dX5_count_141 hl (k := 0) rfl (nI_1 _) (by decide) rfl (fun ls hl => ?_)
                refine lv_goto (tgt := 80) hx hb dX5_count_144 (by decide) ?_
                exact ih_80 (n4 + 1) n3 ls _ _ _ _ hP hD hS (by omega) (by first | omega | assumption) (by first | omega | assumption) (by first | omega | assumption) (lv_sub hl [0, 1, 2, 3, 4] rfl) hE
              · skip
                have hE := (if_neg c_123).symm.trans hE
                refine lv_aload_n hx hb dX5_count_126 rfl (lv_at hl 2 rfl) ?_
                refine va_get (D := D) (ci := 5) (v := .ref (a 13)) (C := RX5) (T := TX5) (N := 21) hx hb hts (fun w9 h9 => List.mem_cons_of_mem _ (inT_X5 w9 h9)) hown hK hP 0 rfl rfl 12 (by decide) (hts (.fieldLink RX5 47 "LinkPredictorModel" "marks" "[I") (List.mem_cons_of_mem _ mw_3_78)) (fun _ h9 => h9) rfl dX5_count_127 ?_
                refine lv_iload hx hb dX5_count_130 (lv_at hl 0 rfl) ?_
                refine ro_ald hx hb hEV hP 13 (j := n4) rfl (by omega) (by decide) dX5_count_132 ?_
                refine lv_iconst (v := (2 : Int32)) hx hb dX5_count_133 (by decide) ?_
                refine lv_iand hx hb dX5_count_134 ?_
                refine lv_if_eq (tgt := 141) hx hb dX5_count_135 (by decide) (fun c_135 => ?_) (fun c_135 => ?_)
                · skip
                  have hE := (if_pos c_135).symm.trans hE
                  refine lv_iinc (v := nI (n4 + 1)) (lv' := [(4, .int (nI (n4 + 1))), (3, .int (nI n3)), (0, .ref (a 0)), (1, .int t), (2, .int u)]) hx hb dX5_count_141 hl (k := 0) rfl (nI_1 _) (by decide) rfl (fun ls hl => ?_)
                  refine lv_goto (tgt := 80) hx hb dX5_count_144 (by decide) ?_
                  exact ih_80 (n4 + 1) n3 ls _ _ _ _ hP hD hS (by omega) (by first | omega | assumption) (by first | omega | assumption) (by first | omega | assumption) (lv_sub hl [0, 1, 2, 3, 4] rfl) hE
                · skip
                  have hE := (if_neg c_135).symm.trans hE
                  refine lv_iinc (v := nI (n3 + 1)) (lv' := [(3, .int (nI (n3 + 1))), (4, .int (nI n4)), (0, .ref (a 0)), (1, .int t), (2, .int u)]) hx hb dX5_count_138 hl (k := 1) rfl (nI_1 _) (by decide) rfl (fun ls hl => ?_)
                  refine lv_iinc (v := nI (n4 + 1)) (lv' := [(4, .int (nI (n4 + 1))), (3, .int (nI (n3 + 1))), (0, .ref (a 0)), (1, .int t), (2, .int u)]) hx hb dX5_count_141 hl (k := 1) rfl (nI_1 _) (by decide) rfl (fun ls hl => ?_)
                  refine lv_goto (tgt := 80) hx hb dX5_count_144 (by decide) ?_
                  exact ih_80 (n4 + 1) (n3 + 1) ls _ _ _ _ hP hD hS (by omega) (by first | omega | assumption) (by first | omega | assumption) (by first | omega | assumption) (lv_sub hl [0, 1, 2, 3, 4] rfl) hE
  have key_24 : ∀ (k_24 : Nat) (n4 : Nat) (n3 : Nat) (ls : Array Slot) (r1 : Nat → Int32) (r2 : Nat → Int32) (H : Heap) (locs : List Loc) (hP : va_P D vwCl (wX cI cZ a x r1 r2) H) (hD : va_D A (wX cI cZ a x r1 r2)) (hS : va_S A s.heap H locs), (12 - n4) < k_24 → wi t 2 = true → n4 ≤ 12 → lv_has ls 5 [(4, .int (nI n4)), (3, .int (nI n3)), (0, .ref (a 0)), (1, .int t), (2, .int u)] → p_X5_count_24 x nf R Φ t u k_24 n4 n3 = tgt → W p l e (headSpec wsX5_count ({ frames := 6, cells := 0, slots := 0, locals := 161 } : Room)).room s m args below meth c H locs 0 0 (MQ below (va_Qi (fun r (_ : (Nat → Int32) × (Nat → Int32)) => r = tgt) (fun u t => va_P D vwCl ((fun (u8 : (Nat → Int32) × (Nat → Int32)) => wX cI cZ a x u8.1 u8.2) u) t.heap) A) args s 0 0 A) (F0 m 24 ls []) := by
    intro k_24
    induction k_24 with
    | zero => intro n4 n3 ls r1 r2 H locs hP hD hS hm; exact absurd hm (Nat.not_lt_zero _)
    | succ k_24 ih_24 =>
      intro n4 n3 ls r1 r2 H locs hP hD hS hm_24 hi_24_0 hi_24_1 hl hE
      rw [p_X5_count_24] at hE
      have hk7 := hi_24_0
      have ht9 := wi_sN (b := 2) (by omega) hi_24_0
      have ht8 := ht9.1
      have wx := hX _ ht8
      have hn30 := wx.2.2.1
      refine lv_iload hx hb dX5_count_24 (lv_at hl 0 rfl) ?_
      refine lv_bipush (v := (12 : Int32)) hx hb dX5_count_26 (by decide) ?_
      refine lv_icmp_ge (tgt := 74) hx hb dX5_count_28 (by decide) (fun c_28 => ?_) (fun c_28 => ?_)
      · have c_28 : 12 ≤ n4 := (nI_leI (a := 12) (b := n4) (by omega) (by omega)).mp c_28
        have hE := (if_pos c_28).symm.trans hE
        refine lv_bipush (v := (30 : Int32)) hx hb dX5_count_74 (by decide) ?_
        refine lv_iload_n hx hb dX5_count_76 rfl (lv_at hl 3 rfl) ?_
        refine top_eq (ht9.2) ?_
        refine lv_imul hx hb dX5_count_77 ?_
        refine top_eq (pk_mul 30 (sN t)) ?_
        refine lv_istore (lv' := [(4, .int (nI (30 * (sN t)))), (3, .int (nI n3)), (0, .ref (a 0)), (1, .int t), (2, .int u)]) hx hb dX5_count_78 hl (by decide) rfl (fun ls hl => ?_)
        exact key_80 31 (30 * (sN t)) n3 ls _ _ _ _ hP hD hS (by omega) (by first | omega | assumption) (by first | omega | assumption) (by first | omega | assumption) (lv_sub hl [0, 1, 2, 3, 4] rfl) hE
      · have c_28 : ¬ (12 ≤ n4) := fun q9 => c_28 ((nI_leI (a := 12) (b := n4) (by omega) (by omega)).mpr q9)
        have hE := (if_neg c_28).symm.trans hE
        refine lv_aload_n hx hb dX5_count_31 rfl (lv_at hl 2 rfl) ?_
        refine va_get (D := D) (ci := 5) (v := .ref (a 1)) (C := RX5) (T := TX5) (N := 21) hx hb hts (fun w9 h9 => List.mem_cons_of_mem _ (inT_X5 w9 h9)) hown hK hP 0 rfl rfl 0 (by decide) (hts (.fieldLink RX5 7 "LinkPredictorModel" "there" "[Z") (List.mem_cons_of_mem _ mw_3_66)) (fun _ h9 => h9) rfl dX5_count_32 ?_
        refine lv_bipush (v := (12 : Int32)) hx hb dX5_count_35 (by decide) ?_
        refine lv_iload_n hx hb dX5_count_37 rfl (lv_at hl 3 rfl) ?_
        refine top_eq (ht9.2) ?_
        refine lv_imul hx hb dX5_count_38 ?_
        refine top_eq (pk_mul 12 (sN t)) ?_
        refine lv_iload hx hb dX5_count_39 (lv_at hl 0 rfl) ?_
        refine lv_iadd hx hb dX5_count_41 ?_
        refine top_eq (nI_add (12 * (sN t)) n4) ?_
        refine ro_zld hx hb hEV hP 1 (j := ((12 * (sN t)) + n4)) rfl (by omega) (by decide) dX5_count_42 ?_
        refine lv_if_eq (tgt := 68) hx hb dX5_count_43 (by decide) (fun c_43 => ?_) (fun c_43 => ?_)
        · skip
          have hE := (if_pos c_43).symm.trans hE
          refine lv_iinc (v := nI (n4 + 1)) (lv' := [(4, .int (nI (n4 + 1))), (3, .int (nI n3)), (0, .ref (a 0)), (1, .int t), (2, .int u)]) hx hb dX5_count_68 hl (k := 0) rfl (nI_1 _) (by decide) rfl (fun ls hl => ?_)
          refine lv_goto (tgt := 24) hx hb dX5_count_71 (by decide) ?_
          exact ih_24 (n4 + 1) n3 ls _ _ _ _ hP hD hS (by omega) (by first | omega | assumption) (by first | omega | assumption) (lv_sub hl [0, 1, 2, 3, 4] rfl) hE
        · skip
          have hE := (if_neg c_43).symm.trans hE
          refine lv_iload_n hx hb dX5_count_46 rfl (lv_at hl 4 rfl) ?_
          refine lv_if_eq (tgt := 65) hx hb dX5_count_47 (by decide) (fun c_47 => ?_) (fun c_47 => ?_)
          · skip
            have hE := (if_pos c_47).symm.trans hE
            refine lv_iinc (v := nI (n3 + 1)) (lv' := [(3, .int (nI (n3 + 1))), (4, .int (nI n4)), (0, .ref (a 0)), (1, .int t), (2, .int u)]) hx hb dX5_count_65 hl (k := 1) rfl (nI_1 _) (by decide) rfl (fun ls hl => ?_)
            refine lv_iinc (v := nI (n4 + 1)) (lv' := [(4, .int (nI (n4 + 1))), (3, .int (nI (n3 + 1))), (0, .ref (a 0)), (1, .int t), (2, .int u)]) hx hb dX5_count_68 hl (k := 1) rfl (nI_1 _) (by decide) rfl (fun ls hl => ?_)
            refine lv_goto (tgt := 24) hx hb dX5_count_71 (by decide) ?_
            exact ih_24 (n4 + 1) (n3 + 1) ls _ _ _ _ hP hD hS (by omega) (by first | omega | assumption) (by first | omega | assumption) (lv_sub hl [0, 1, 2, 3, 4] rfl) hE
          · skip
            have hE := (if_neg c_47).symm.trans hE
            refine lv_iload_n hx hb dX5_count_50 rfl (lv_at hl 4 rfl) ?_
            refine lv_iconst (v := (4 : Int32)) hx hb dX5_count_51 (by decide) ?_
            refine lv_icmp_ne (tgt := 68) hx hb dX5_count_52 (by decide) (fun c_52 => ?_) (fun c_52 => ?_)
            · skip
              have hE := (if_neg c_52).symm.trans hE
              refine lv_iinc (v := nI (n4 + 1)) (lv' := [(4, .int (nI (n4 + 1))), (3, .int (nI n3)), (0, .ref (a 0)), (1, .int t), (2, .int u)]) hx hb dX5_count_68 hl (k := 0) rfl (nI_1 _) (by decide) rfl (fun ls hl => ?_)
              refine lv_goto (tgt := 24) hx hb dX5_count_71 (by decide) ?_
              exact ih_24 (n4 + 1) n3 ls _ _ _ _ hP hD hS (by omega) (by first | omega | assumption) (by first | omega | assumption) (lv_sub hl [0, 1, 2, 3, 4] rfl) hE
            · skip
              have hE := (if_pos c_52).symm.trans hE
              refine lv_aload_n hx hb dX5_count_55 rfl (lv_at hl 2 rfl) ?_
              refine lv_iload_n hx hb dX5_count_56 rfl (lv_at hl 3 rfl) ?_
              refine top_eq (ht9.2) ?_
              refine lv_iload hx hb dX5_count_57 (lv_at hl 0 rfl) ?_
              refine mu_V [.int (nI (sN t)), .int (nI n4)] [] ⟨hx, hb, hml, hown, hts⟩ (c_X5_isLoaded l D cI cZ cB cR a x r1 r2 (sN t) (nf (sN t)) n4 (by omega) (hX (sN t) (by omega)) (by omega) ) (cwV (C := RX5) 2 hts (goodP (ps := [.methodLink RX5 146 yX5_isLoaded, .instanceMethod yX5_isLoaded, .selects RX5 yX5_isLoaded yX5_isLoaded, .initialized RX5]) (all4 mw_4_36 mw_4_38 ms_46 mw_1_6) mw_4_39) rfl rfl rfl (by decide +kernel) ⟨Nat.le_of_ble_eq_true rfl, Nat.le_of_ble_eq_true rfl⟩) hEV hP hD hS hA 0 rfl rfl rfl hl.1 rfl (Nat.le_of_ble_eq_true rfl) dX5_count_59 ⟨Nat.zero_le _, Nat.zero_le _⟩ (fun r9 u9 H1 locs hw hP1 hk1 hS => ?_)
              subst hw
              obtain ⟨r1, r2⟩ := u9
              dsimp only at hP1
              have hP : va_P D vwCl (wX cI cZ a x r1 r2) H1 := hP1
              have hD : va_D A (wX cI cZ a x r1 r2) := hD.adr rfl
              generalize H1 = H at hP hS ⊢
              refine lv_if_eq (tgt := 68) hx hb dX5_count_62 (by decide) (fun c_62 => ?_) (fun c_62 => ?_)
              · have c_62 : ¬ ((gdB (vwX x (sN t)) n4) = true) := b2i_f c_62
                have hE := (if_neg c_62).symm.trans hE
                refine lv_iinc (v := nI (n4 + 1)) (lv' := [(4, .int (nI (n4 + 1))), (3, .int (nI n3)), (0, .ref (a 0)), (1, .int t), (2, .int u)]) hx hb dX5_count_68 hl (k := 0) rfl (nI_1 _) (by decide) rfl (fun ls hl => ?_)
                refine lv_goto (tgt := 24) hx hb dX5_count_71 (by decide) ?_
                exact ih_24 (n4 + 1) n3 ls _ _ _ _ hP hD hS (by omega) (by first | omega | assumption) (by first | omega | assumption) (lv_sub hl [0, 1, 2, 3, 4] rfl) hE
              · have c_62 : (gdB (vwX x (sN t)) n4) = true := b2i_t c_62
                have hE := (if_pos c_62).symm.trans hE
                refine lv_iinc (v := nI (n3 + 1)) (lv' := [(3, .int (nI (n3 + 1))), (4, .int (nI n4)), (0, .ref (a 0)), (1, .int t), (2, .int u)]) hx hb dX5_count_65 hl (k := 1) rfl (nI_1 _) (by decide) rfl (fun ls hl => ?_)
                refine lv_iinc (v := nI (n4 + 1)) (lv' := [(4, .int (nI (n4 + 1))), (3, .int (nI (n3 + 1))), (0, .ref (a 0)), (1, .int t), (2, .int u)]) hx hb dX5_count_68 hl (k := 1) rfl (nI_1 _) (by decide) rfl (fun ls hl => ?_)
                refine lv_goto (tgt := 24) hx hb dX5_count_71 (by decide) ?_
                exact ih_24 (n4 + 1) (n3 + 1) ls _ _ _ _ hP hD hS (by omega) (by first | omega | assumption) (by first | omega | assumption) (lv_sub hl [0, 1, 2, 3, 4] rfl) hE
  refine lv_iload_n hx hb dX5_count_0 rfl (lv_at hl 1 rfl) ?_
  refine lv_iconst (v := (2 : Int32)) hx hb dX5_count_1 (by decide) ?_
  refine ro_S [.int t, .int (2 : Int32)] [] ⟨hx, hb, hml, hown, hts⟩ (c_X5_in l D cI cZ cB cR t (2 : Int32)) (va_cwS 2 hts (goodP (ps := [.methodLink RX5 72 yX5_in, .static yX5_in, .initialized RX5]) (all3 mw_3_135 mw_3_136 mw_1_6) mw_3_137) rfl rfl rfl (by decide +kernel) ⟨Nat.le_of_ble_eq_true rfl, Nat.le_of_ble_eq_true rfl⟩) hEV va_P0 rfl hl.1 rfl (Nat.le_of_ble_eq_true rfl) dX5_count_2 ⟨Nat.zero_le _, Nat.zero_le _⟩ ?_
  refine lv_if_eq (tgt := 17) hx hb dX5_count_5 (by decide) (fun c_5 => ?_) (fun c_5 => ?_)
  · have c_5 : ¬ ((wi t (2 : Int32)) = true) := b2i_f c_5
    have hE := (if_neg c_5).symm.trans hE
    refine lv_iconst (v := (-1 : Int32)) hx hb dX5_count_17 (by decide) ?_
    exact W.iret hx hb hr (fun t9 ht9 _ => ⟨⟨_, (r1, r2), rfl, hE, by show va_P D vwCl _ t9.heap; rw [ht9]; exact hP⟩, hS.F ht9⟩) hS.2.2 dX5_count_18
  · have c_5 : (wi t (2 : Int32)) = true := b2i_t c_5
    have hE := (if_pos c_5).symm.trans hE
    refine lv_iload_n hx hb dX5_count_8 rfl (lv_at hl 2 rfl) ?_
    refine lv_bipush (v := (7 : Int32)) hx hb dX5_count_9 (by decide) ?_
    refine ro_S [.int u, .int (7 : Int32)] [] ⟨hx, hb, hml, hown, hts⟩ (c_X5_in l D cI cZ cB cR u (7 : Int32)) (va_cwS 2 hts (goodP (ps := [.methodLink RX5 72 yX5_in, .static yX5_in, .initialized RX5]) (all3 mw_3_135 mw_3_136 mw_1_6) mw_3_137) rfl rfl rfl (by decide +kernel) ⟨Nat.le_of_ble_eq_true rfl, Nat.le_of_ble_eq_true rfl⟩) hEV va_P0 rfl hl.1 rfl (Nat.le_of_ble_eq_true rfl) dX5_count_11 ⟨Nat.zero_le _, Nat.zero_le _⟩ ?_
    refine lv_if_ne (tgt := 19) hx hb dX5_count_14 (by decide) (fun c_14 => ?_) (fun c_14 => ?_)
    · have c_14 : (wi u (7 : Int32)) = true := b2i_t c_14
      have hE := (if_pos c_14).symm.trans hE
      have hk7 := c_5
      have ht9 := wi_sN (b := 2) (by omega) c_5
      have ht8 := ht9.1
      have wx := hX _ ht8
      have hn30 := wx.2.2.1
      refine lv_iconst (v := (0 : Int32)) hx hb dX5_count_19 (by decide) ?_
      refine lv_istore_n (lv' := [(3, .int (0 : Int32)), (0, .ref (a 0)), (1, .int t), (2, .int u)]) hx hb dX5_count_20 rfl hl (by decide) rfl (fun ls hl => ?_)
      refine lv_iconst (v := (0 : Int32)) hx hb dX5_count_21 (by decide) ?_
      refine lv_istore (lv' := [(4, .int (0 : Int32)), (3, .int (0 : Int32)), (0, .ref (a 0)), (1, .int t), (2, .int u)]) hx hb dX5_count_22 hl (by decide) rfl (fun ls hl => ?_)
      exact key_24 13 0 0 ls _ _ _ _ hP hD hS (by omega) (by first | omega | assumption) (by first | omega | assumption) (lv_sub hl [0, 1, 2, 3, 4] rfl) hE
    · have c_14 : ¬ ((wi u (7 : Int32)) = true) := b2i_f c_14
      have hE := (if_neg c_14).symm.trans hE
      refine lv_iconst (v := (-1 : Int32)) hx hb dX5_count_17 (by decide) ?_
      exact W.iret hx hb hr (fun t9 ht9 _ => ⟨⟨_, (r1, r2), rfl, hE, by show va_P D vwCl _ t9.heap; rw [ht9]; exact hP⟩, hS.F ht9⟩) hS.2.2 dX5_count_18
