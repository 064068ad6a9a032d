/-! ===== a method that is resolved is a member ===== -/
theorem nlt64 {k : Nat} (h1 : 64 ≤ k) (h2 : k < 2 ^ 31) : ¬ nI k < 64 := nI_nlt (a := k) (b := 64) h1 h2
theorem res_g16 (x : Nat → Nat → Int32) (nf : Nat → Nat) (R : Nat) (Φ : Nat → Nat → Nat) (w t : Nat) (hX : ∀ w, w < 2 → WX x w (nf w)) (wr : WR x R Φ) (hw : w < 2) (ht : t < R) (hk : ¬ Φ t 0 = 8) (hp : p_X5_resolved x nf R Φ w t < 64) : g16 (nf w) (p_X5_resolved x nf R Φ w t) := by
  have wx := hX w hw
  have hn := wx.2.2.1
  obtain ⟨⟨hf0, hf1, hf2, hf3⟩, -⟩ := wr.2.2 t ht
  have bad : ∀ {k : Nat} {P : Prop}, 64 ≤ k → k < 2 ^ 31 → nI k < 64 → P := fun h1 h2 h3 => absurd h3 (nlt64 h1 h2)
  have h385 : ∀ m y, m < nf w → p_X5_resolved_385 x nf R Φ w t y m < 64 → g16 (nf w) (p_X5_resolved_385 x nf R Φ w t y m) := by
    intro m y hm
    rw [p_X5_resolved_385]
    repeat' split
    all_goals intro q
    · exact ⟨m, hm, by rw [Nat.mul_zero, Nat.zero_add]⟩
    · exact bad (by omega) (by omega) q
    · exact ⟨m, hm, by rw [Nat.mul_zero, Nat.zero_add]⟩
  have h361 : ∀ m y, m < nf w → p_X5_resolved_361 x nf R Φ w t y m < 64 → g16 (nf w) (p_X5_resolved_361 x nf R Φ w t y m) := by
    intro m y hm
    rw [p_X5_resolved_361]
    repeat' split
    all_goals intro q
    · exact h385 m y hm q
    · exact bad (by omega) (by omega) q
    · exact h385 m y hm q
  have h327 : ∀ m y, m < nf w → p_X5_resolved_327 x nf R Φ w t y m < 64 → g16 (nf w) (p_X5_resolved_327 x nf R Φ w t y m) := by
    intro m y hm
    rw [p_X5_resolved_327]
    repeat' split
    all_goals intro q
    · exact h361 m y hm q
    · exact h361 m y hm q
    · exact bad (by omega) (by omega) q
  have h302 : ∀ m y z z2, m < nf w → p_X5_resolved_302 x nf R Φ w t z y m z2 < 64 → g16 (nf w) (p_X5_resolved_302 x nf R Φ w t z y m z2) := by
    intro m y z z2 hm
    rw [p_X5_resolved_302]
    repeat' split
    all_goals intro q
    · exact h327 m y hm q
    · exact h327 m y hm q
    · exact h361 m y hm q
    · exact bad (by omega) (by omega) q
  have h283 : ∀ m y z, m < nf w → p_X5_resolved_283 x nf R Φ w t y m z < 64 → g16 (nf w) (p_X5_resolved_283 x nf R Φ w t y m z) := by
    intro m y z hm
    rw [p_X5_resolved_283]
    repeat' split
    all_goals intro q
    · exact h302 _ _ _ _ hm q
    · exact h302 _ _ _ _ hm q
  have h205 : ∀ v, om1 (nf w) v → p_X5_resolved_205 x nf R Φ w t v < 64 → g16 (nf w) (p_X5_resolved_205 x nf R Φ w t v) := by
    intro v hv
    rw [p_X5_resolved_205]
    split
    · rename_i c
      have hm := (hv.nn c).1
      repeat' split
      all_goals intro q
      · exact bad (by omega) (by omega) q
      · exact h283 _ _ _ hm q
      · exact h283 _ _ _ hm q
      · exact h283 _ _ _ hm q
      · exact h283 _ _ _ hm q
    · split
      all_goals intro q
      · exact bad (by omega) (by omega) q
      · exact bad (by omega) (by omega) q
  have h171 : Gd (vwX x w) (Φ t 2) → p_X5_resolved_171 x nf R Φ w t < 64 → g16 (nf w) (p_X5_resolved_171 x nf R Φ w t) := by
    intro g
    rw [p_X5_resolved_171]
    split
    · exact h205 _ (find_om1 _ _ _ hn _ _ wx hf2 g)
    · exact h205 _ (om1_av hn)
  have h153 : ∀ v, Gd (vwX x w) (Φ t 2) → p_X5_resolved_153 x nf R Φ w t v < 64 → g16 (nf w) (p_X5_resolved_153 x nf R Φ w t v) := by
    intro v g
    rw [p_X5_resolved_153]
    repeat' split
    all_goals intro q
    · exact bad (by omega) (by omega) q
    · exact h171 g q
    · exact h171 g q
  have h141 : ∀ z, Gd (vwX x w) (Φ t 2) → p_X5_resolved_141 x nf R Φ w t z < 64 → g16 (nf w) (p_X5_resolved_141 x nf R Φ w t z) := by
    intro z g
    rw [p_X5_resolved_141]
    repeat' split
    all_goals intro q
    · exact bad (by omega) (by omega) q
    · exact h153 _ g q
    · exact h153 _ g q
  have h111 : Gd (vwX x w) (Φ t 2) → p_X5_resolved_111 x nf R Φ w t < 64 → g16 (nf w) (p_X5_resolved_111 x nf R Φ w t) := by
    intro g
    rw [p_X5_resolved_111, if_neg hk]
    split
    all_goals intro q
    · exact h141 _ g q
    · exact h141 _ g q
  revert hp
  rw [p_X5_resolved]
  split
  · split
    · rename_i c1 c2
      have g := (LV_64 wx.1 hf2).mp c2
      repeat' split
      all_goals intro q
      · exact h111 g q
      · exact bad (by omega) (by omega) q
      · exact h111 g q
    · rename_i c; intro q; exact absurd q c
  · rename_i c; intro q; exact absurd q c
noncomputable def p_X5_selected_214 (x : Nat → Nat → Int32) (nf : Nat → Nat) (R : Nat) (Φ : Nat → Nat → Nat) (w : Nat) (t : Nat) (u : Nat) (v7 : Int32) : Int32 := if ((x 12 ((30 * w) + (sN v7))) &&& (2 : Int32)) = (0 : Int32) then (if (Φ t 0) = 7 then (if (x 11 ((30 * w) + (sN v7))) = (3 : Int32) then (nI (64 * 0 + (16 + (sN v7)))) else (if (x 11 ((30 * w) + (sN v7))) = (0 : Int32) then (nI (64 * 0 + (16 + (sN v7)))) else (nI (64 * 4 + (16 + (sN v7)))))) else (nI (64 * 0 + (16 + (sN v7))))) else (nI (64 * 7 + (16 + (sN v7))))
noncomputable def p_X5_selected_169 (x : Nat → Nat → Int32) (nf : Nat → Nat) (R : Nat) (Φ : Nat → Nat → Nat) (w : Nat) (t : Nat) (u : Nat) (v7 : Int32) : Int32 := if (0 : Int32) ≤ v7 then (p_X5_selected_214 x nf R Φ w t u v7) else (if (0 : Int32) ≤ (p_X5_bodied x w (nf w) (spI (vwX x w) (vmX x w) (nf w) u (kyF true (nI (Φ t 3)))) (Φ t 3)) then (p_X5_selected_214 x nf R Φ w t u (p_X5_bodied x w (nf w) (spI (vwX x w) (vmX x w) (nf w) u (kyF true (nI (Φ t 3)))) (Φ t 3))) else (if (p_X5_bodied x w (nf w) (spI (vwX x w) (vmX x w) (nf w) u (kyF true (nI (Φ t 3)))) (Φ t 3)) = (-2 : Int32) then (nI (64 * 3 + u)) else (nI (64 * 7 + u))))
noncomputable def p_X5_selected_97 (x : Nat → Nat → Int32) (nf : Nat → Nat) (R : Nat) (Φ : Nat → Nat → Nat) (w : Nat) (t : Nat) (u : Nat) : Nat → Int32 → Int32 → Int32
  | 0, _, _ => 0
  | k + 1, v8, v7 => if v8 < (0 : Int32) then (p_X5_selected_169 x nf R Φ w t u v7) else (if (0 : Int32) ≤ v7 then (p_X5_selected_169 x nf R Φ w t u v7) else (if (odI (vmX x w) (nf w) (sN v8) (kyF true (nI (Φ t 3)))) < (0 : Int32) then (p_X5_selected_97 x nf R Φ w t u k (x 3 ((12 * w) + (sN v8))) v7) else (if (offB (vmX x w) (nf w) (sN v8) (kyF true (nI (Φ t 3)))) = true then (if (p_X5_overrides x w (nf w) (fdN (vmX x w) (nf w) (sN v8) (kyF true (nI (Φ t 3)))) (sN (p_X5_resolved x nf R Φ w t) - 16)) = (0 : Int32) then (p_X5_selected_97 x nf R Φ w t u k (x 3 ((12 * w) + (sN v8))) v7) else (p_X5_selected_97 x nf R Φ w t u k (x 3 ((12 * w) + (sN v8))) (odI (vmX x w) (nf w) (sN v8) (kyF true (nI (Φ t 3)))))) else (p_X5_selected_97 x nf R Φ w t u k (x 3 ((12 * w) + (sN v8))) v7))))
noncomputable def p_X5_selected (x : Nat → Nat → Int32) (nf : Nat → Nat) (R : Nat) (Φ : Nat → Nat → Nat) (w : Nat) (t : Nat) (u : Nat) : Int32 := if (gdB (vwX x w) u) = true then (if ((x 1 ((12 * w) + u)) &&& (6 : Int32)) = (0 : Int32) then (if (abB (vwX x w) u (Φ t 2) || fcB (vwX x w) u (Φ t 2)) = true then (if (x 11 ((30 * w) + (sN (p_X5_resolved x nf R Φ w t) - 16))) = (0 : Int32) then (p_X5_selected_97 x nf R Φ w t u 14 (nI u) (nI (sN (p_X5_resolved x nf R Φ w t) - 16))) else (p_X5_selected_97 x nf R Φ w t u 14 (nI u) (-1 : Int32))) else (nI (64 * 8 + u))) else (nI (64 * 8 + u))) else (nI (64 * 8 + u))
set_option maxHeartbeats 4000000 in
set_option maxRecDepth 100000 in
theorem c_X5_selected (l : Launch) (D : va_G) (cI cZ cB cR : ClassId) (a : Nat → Nat) (x : Nat → Nat → Int32) (r1 r2 : Nat → Int32) (nf : Nat → Nat) (R : Nat) (Φ : Nat → Nat → Nat) (w : Nat) (t : Nat) (u : Nat) (hX : ∀ w, w < 2 → WX x w (nf w)) (wr : WR x R Φ) (hw : w < 2) (hnt : t < R) (hnu : u < 12) (hsel : g16 (nf w) (p_X5_resolved x nf R Φ w t)) : MUi l yX5_selected wsX5_selected ({ frames := 6, cells := 0, slots := 0, locals := 161 } : Room) D cI cZ cB cR (wX cI cZ a x r1 r2) [.ref (a 0), .int (nI w), .int (nI t), .int (nI u)] (fun (u8 : (Nat → Int32) × (Nat → Int32)) => wX cI cZ a x u8.1 u8.2) (fun r _ => r = (p_X5_selected x nf R Φ w t u)) := by
  generalize hE : p_X5_selected x nf R Φ w t u = tgt
  intro sz
  refine Met.ofW (cc := cX5_selected) (maxL := 10) (ret := (some .int)) (by decide) rfl ?_
  intro p e s m args below meth c s₁ B hml hv
  obtain ⟨hargs, hsz, hP, hEV, hD0⟩ := hv
  have hx := B.exec
  have hb := B.bytes
  have hr := B.returns
  have hts := atoms_spec (ws := wsX5_selected) B.pre
  have hown : s.vm.findClass RX5 = some m.cls := findClass_of_methodNamed B.named
  have hlocks := B.notSynchronized
  have hK := hEV.1
  have hl := lv_entry ([.ref (a 0), .int (nI w), .int (nI t), .int (nI u)]) (n := 10) (Nat.le_of_ble_eq_true rfl)
  rw [show entryFrame m args 10 = entryFrame m ([.ref (a 0), .int (nI w), .int (nI t), .int (nI u)] : List Value).toArray 10 from by rw [hargs], lg_entry_eq]
  generalize (lg_sl ([.ref (a 0), .int (nI w), .int (nI t), .int (nI u)]) ++ List.replicate (10 - (lg_sl ([.ref (a 0), .int (nI w), .int (nI t), .int (nI u)])).length) Slot.unset).toArray = ls at hl ⊢
  have hl : lv_has ls 10 [(0, .ref (a 0)), (1, .int (nI w)), (2, .int (nI t)), (3, .int (nI u))] := hl
  subst hsz
  have hD := hD0.self (sz := s.heap.size)
  generalize hAe : va_A (wX cI cZ a x r1 r2) s.heap.size = A at hD ⊢
  have hA : ∀ q : Nat, s.heap.size ≤ q → A q := fun q h9 => by rw [← hAe]; exact Or.inr h9
  have hS : va_S A s.heap s.heap [] := va_S.rf
  rw [p_X5_selected] at hE
  have hR16 := wr.1
  have wx := hX w hw
  have hn30 := wx.2.2.1
  have hf9 := (wr.2.2 t hnt).1
  have hf0 := hf9.1
  have hf1 := hf9.2.1
  have hf2 := hf9.2.2.1
  have hf3 := hf9.2.2.2
  have hm9 := (g16_sub hn30 hsel).1
  have key_214 : ∀ (v7 : Int32) (ls : Array Slot) (r1 : Nat → Int32) (r2 : Nat → Int32) (H : Heap) (locs : List Loc) (hP : va_P D vwCl (wX cI cZ a x r1 r2) H) (hD : va_D A (wX cI cZ a x r1 r2)) (hS : va_S A s.heap H locs), isM (nf w) v7 → lv_has ls 10 [(7, .int v7), (0, .ref (a 0)), (1, .int (nI w)), (2, .int (nI t))] → p_X5_selected_214 x nf R Φ w t u v7 = tgt → W p l e (headSpec wsX5_selected ({ frames := 6, cells := 0, slots := 0, locals := 161 } : Room)).room s m args below meth c H locs 0 0 (MQ below (va_Qi (fun r (_ : (Nat → Int32) × (Nat → Int32)) => r = tgt) (fun u t => va_P D vwCl ((fun (u8 : (Nat → Int32) × (Nat → Int32)) => wX cI cZ a x u8.1 u8.2) u) t.heap) A) args s 0 0 A) (F0 m 214 ls []) := by
    intro v7 ls r1 r2 H locs hP hD hS hi_214_0 hl hE
    rw [p_X5_selected_214] at hE
    replace hl : lv_has ls 10 [(7, .int (nI (sN v7))), (0, .ref (a 0)), (1, .int (nI w)), (2, .int (nI t))] := by rw [← hi_214_0.2]; exact hl
    have hz9 := hi_214_0.1
    refine lv_bipush (v := (30 : Int32)) hx hb dX5_selected_214 (by decide) ?_
    refine lv_iload_n hx hb dX5_selected_216 rfl (lv_at hl 2 rfl) ?_
    refine lv_imul hx hb dX5_selected_217 ?_
    refine top_eq (pk_mul 30 w) ?_
    refine lv_iload hx hb dX5_selected_218 (lv_at hl 0 rfl) ?_
    refine lv_iadd hx hb dX5_selected_220 ?_
    refine top_eq (nI_add (30 * w) (sN v7)) ?_
    refine lv_istore (lv' := [(8, .int (nI ((30 * w) + (sN v7)))), (7, .int (nI (sN v7))), (0, .ref (a 0)), (1, .int (nI w)), (2, .int (nI t))]) hx hb dX5_selected_221 hl (by decide) rfl (fun ls hl => ?_)
    refine lv_aload_n hx hb dX5_selected_223 rfl (lv_at hl 2 rfl) ?_
    refine va_get (D := D) (ci := 5) (v := .ref (a 13)) (C := RX5) (T := TX5) (N := 21) hx hb hts (fun w9 h9 => List.mem_cons_of_mem _ (inT_X5 w9 h9)) hown hK hP 0 rfl rfl 12 (by decide) (hts (.fieldLink RX5 47 "LinkPredictorModel" "marks" "[I") (List.mem_cons_of_mem _ mw_3_78)) (fun _ h9 => h9) rfl dX5_selected_224 ?_
    refine lv_iload hx hb dX5_selected_227 (lv_at hl 0 rfl) ?_
    refine ro_ald hx hb hEV hP 13 (j := ((30 * w) + (sN v7))) rfl (by omega) (by decide) dX5_selected_229 ?_
    refine lv_iconst (v := (2 : Int32)) hx hb dX5_selected_230 (by decide) ?_
    refine lv_iand hx hb dX5_selected_231 ?_
    refine lv_if_eq (tgt := 246) hx hb dX5_selected_232 (by decide) (fun c_232 => ?_) (fun c_232 => ?_)
    · skip
      have hE := (if_pos c_232).symm.trans hE
      refine lv_aload_n hx hb dX5_selected_246 rfl (lv_at hl 2 rfl) ?_
      refine va_get (D := D) (ci := 5) (v := .ref (a 14)) (C := RX5) (T := TX5) (N := 21) hx hb hts (fun w9 h9 => List.mem_cons_of_mem _ (inT_X5 w9 h9)) hown hK hP 0 rfl rfl 13 (by decide) (hts (.fieldLink RX5 50 "LinkPredictorModel" "kind" "[I") (List.mem_cons_of_mem _ mw_3_79)) (fun _ h9 => h9) rfl dX5_selected_247 ?_
      refine lv_iload_n hx hb dX5_selected_250 rfl (lv_at hl 4 rfl) ?_
      refine ro_ald hx hb hEV hP 14 (j := t) rfl (by omega) (by decide) dX5_selected_251 ?_
      refine top_eq ((wr.2.2 t hnt).2.1) ?_
      refine lv_bipush (v := (7 : Int32)) hx hb dX5_selected_252 (by decide) ?_
      refine lv_icmp_ne (tgt := 288) hx hb dX5_selected_254 (by decide) (fun c_254 => ?_) (fun c_254 => ?_)
      · have c_254 : ¬ ((Φ t 0) = 7) := fun q9 => c_254 ((nI_eq (a := (Φ t 0)) (b := 7) (by omega) (by omega)).mpr q9)
        have hE := (if_neg c_254).symm.trans hE
        refine lv_iconst (v := (0 : Int32)) hx hb dX5_selected_288 (by decide) ?_
        refine lv_bipush (v := (16 : Int32)) hx hb dX5_selected_289 (by decide) ?_
        refine lv_iload hx hb dX5_selected_291 (lv_at hl 1 rfl) ?_
        refine lv_iadd hx hb dX5_selected_293 ?_
        refine top_eq (nI_add 16 (sN v7)) ?_
        refine ro_S [.int (0 : Int32), .int (nI (16 + (sN v7)))] [] ⟨hx, hb, hml, hown, hts⟩ (c_X5_verdict l D cI cZ cB cR 0 (16 + (sN v7)) (by omega) (by omega)) (va_cwS 2 hts (goodP (ps := [.methodLink RX5 97 yX5_verdict, .static yX5_verdict, .initialized RX5]) (all3 mw_3_198 mw_3_199 mw_1_6) mw_3_200) rfl rfl rfl (by decide +kernel) ⟨Nat.le_of_ble_eq_true rfl, Nat.le_of_ble_eq_true rfl⟩) hEV va_P0 rfl hl.1 rfl (Nat.le_of_ble_eq_true rfl) dX5_selected_294 ⟨Nat.zero_le _, Nat.zero_le _⟩ ?_
        exact W.iret hx hb hr (fun t9 ht9 _ => ⟨⟨_, (r1, r2), rfl, hE, by show va_P D vwCl _ t9.heap; rw [ht9]; exact hP⟩, hS.F ht9⟩) hS.2.2 dX5_selected_297
      · have c_254 : (Φ t 0) = 7 := (nI_eq (a := (Φ t 0)) (b := 7) (by omega) (by omega)).mp c_254
        have hE := (if_pos c_254).symm.trans hE
        refine lv_aload_n hx hb dX5_selected_257 rfl (lv_at hl 2 rfl) ?_
        refine va_get (D := D) (ci := 5) (v := .ref (a 12)) (C := RX5) (T := TX5) (N := 21) hx hb hts (fun w9 h9 => List.mem_cons_of_mem _ (inT_X5 w9 h9)) hown hK hP 0 rfl rfl 11 (by decide) (hts (.fieldLink RX5 44 "LinkPredictorModel" "access" "[I") (List.mem_cons_of_mem _ mw_3_77)) (fun _ h9 => h9) rfl dX5_selected_258 ?_
        refine lv_iload hx hb dX5_selected_261 (lv_at hl 0 rfl) ?_
        refine ro_ald hx hb hEV hP 12 (j := ((30 * w) + (sN v7))) rfl (by omega) (by decide) dX5_selected_263 ?_
        refine lv_iconst (v := (3 : Int32)) hx hb dX5_selected_264 (by decide) ?_
        refine lv_icmp_eq (tgt := 288) hx hb dX5_selected_265 (by decide) (fun c_265 => ?_) (fun c_265 => ?_)
        · skip
          have hE := (if_pos c_265).symm.trans hE
          refine lv_iconst (v := (0 : Int32)) hx hb dX5_selected_288 (by decide) ?_
          refine lv_bipush (v := (16 : Int32)) hx hb dX5_selected_289 (by decide) ?_
          refine lv_iload hx hb dX5_selected_291 (lv_at hl 1 rfl) ?_
          refine lv_iadd hx hb dX5_selected_293 ?_
          refine top_eq (nI_add 16 (sN v7)) ?_
          refine ro_S [.int (0 : Int32), .int (nI (16 + (sN v7)))] [] ⟨hx, hb, hml, hown, hts⟩ (c_X5_verdict l D cI cZ cB cR 0 (16 + (sN v7)) (by omega) (by omega)) (va_cwS 2 hts (goodP (ps := [.methodLink RX5 97 yX5_verdict, .static yX5_verdict, .initialized RX5]) (all3 mw_3_198 mw_3_199 mw_1_6) mw_3_200) rfl rfl rfl (by decide +kernel) ⟨Nat.le_of_ble_eq_true rfl, Nat.le_of_ble_eq_true rfl⟩) hEV va_P0 rfl hl.1 rfl (Nat.le_of_ble_eq_true rfl) dX5_selected_294 ⟨Nat.zero_le _, Nat.zero_le _⟩ ?_
          exact W.iret hx hb hr (fun t9 ht9 _ => ⟨⟨_, (r1, r2), rfl, hE, by show va_P D vwCl _ t9.heap; rw [ht9]; exact hP⟩, hS.F ht9⟩) hS.2.2 dX5_selected_297
        · skip
          have hE := (if_neg c_265).symm.trans hE
          refine lv_aload_n hx hb dX5_selected_268 rfl (lv_at hl 2 rfl) ?_
          refine va_get (D := D) (ci := 5) (v := .ref (a 12)) (C := RX5) (T := TX5) (N := 21) hx hb hts (fun w9 h9 => List.mem_cons_of_mem _ (inT_X5 w9 h9)) hown hK hP 0 rfl rfl 11 (by decide) (hts (.fieldLink RX5 44 "LinkPredictorModel" "access" "[I") (List.mem_cons_of_mem _ mw_3_77)) (fun _ h9 => h9) rfl dX5_selected_269 ?_
          refine lv_iload hx hb dX5_selected_272 (lv_at hl 0 rfl) ?_
          refine ro_ald hx hb hEV hP 12 (j := ((30 * w) + (sN v7))) rfl (by omega) (by decide) dX5_selected_274 ?_
          refine lv_if_eq (tgt := 288) hx hb dX5_selected_275 (by decide) (fun c_275 => ?_) (fun c_275 => ?_)
          · skip
            have hE := (if_pos c_275).symm.trans hE
            refine lv_iconst (v := (0 : Int32)) hx hb dX5_selected_288 (by decide) ?_
            refine lv_bipush (v := (16 : Int32)) hx hb dX5_selected_289 (by decide) ?_
            refine lv_iload hx hb dX5_selected_291 (lv_at hl 1 rfl) ?_
            refine lv_iadd hx hb dX5_selected_293 ?_
            refine top_eq (nI_add 16 (sN v7)) ?_
            refine ro_S [.int (0 : Int32), .int (nI (16 + (sN v7)))] [] ⟨hx, hb, hml, hown, hts⟩ (c_X5_verdict l D cI cZ cB cR 0 (16 + (sN v7)) (by omega) (by omega)) (va_cwS 2 hts (goodP (ps := [.methodLink RX5 97 yX5_verdict, .static yX5_verdict, .initialized RX5]) (all3 mw_3_198 mw_3_199 mw_1_6) mw_3_200) rfl rfl rfl (by decide +kernel) ⟨Nat.le_of_ble_eq_true rfl, Nat.le_of_ble_eq_true rfl⟩) hEV va_P0 rfl hl.1 rfl (Nat.le_of_ble_eq_true rfl) dX5_selected_294 ⟨Nat.zero_le _, Nat.zero_le _⟩ ?_
            exact W.iret hx hb hr (fun t9 ht9 _ => ⟨⟨_, (r1, r2), rfl, hE, by show va_P D vwCl _ t9.heap; rw [ht9]; exact hP⟩, hS.F ht9⟩) hS.2.2 dX5_selected_297
          · skip
            have hE := (if_neg c_275).symm.trans hE
            refine lv_iconst (v := (4 : Int32)) hx hb dX5_selected_278 (by decide) ?_
            refine lv_bipush (v := (16 : Int32)) hx hb dX5_selected_279 (by decide) ?_
            refine lv_iload hx hb dX5_selected_281 (lv_at hl 1 rfl) ?_
            refine lv_iadd hx hb dX5_selected_283 ?_
            refine top_eq (nI_add 16 (sN v7)) ?_
            refine ro_S [.int (4 : Int32), .int (nI (16 + (sN v7)))] [] ⟨hx, hb, hml, hown, hts⟩ (c_X5_verdict l D cI cZ cB cR 4 (16 + (sN v7)) (by omega) (by omega)) (va_cwS 2 hts (goodP (ps := [.methodLink RX5 97 yX5_verdict, .static yX5_verdict, .initialized RX5]) (all3 mw_3_198 mw_3_199 mw_1_6) mw_3_200) rfl rfl rfl (by decide +kernel) ⟨Nat.le_of_ble_eq_true rfl, Nat.le_of_ble_eq_true rfl⟩) hEV va_P0 rfl hl.1 rfl (Nat.le_of_ble_eq_true rfl) dX5_selected_284 ⟨Nat.zero_le _, Nat.zero_le _⟩ ?_
            exact W.iret hx hb hr (fun t9 ht9 _ => ⟨⟨_, (r1, r2), rfl, hE, by show va_P D vwCl _ t9.heap; rw [ht9]; exact hP⟩, hS.F ht9⟩) hS.2.2 dX5_selected_287
    · skip
      have hE := (if_neg c_232).symm.trans hE
      refine lv_bipush (v := (7 : Int32)) hx hb dX5_selected_235 (by decide) ?_
      refine lv_bipush (v := (16 : Int32)) hx hb dX5_selected_237 (by decide) ?_
      refine lv_iload hx hb dX5_selected_239 (lv_at hl 1 rfl) ?_
      refine lv_iadd hx hb dX5_selected_241 ?_
      refine top_eq (nI_add 16 (sN v7)) ?_
      refine ro_S [.int (7 : Int32), .int (nI (16 + (sN v7)))] [] ⟨hx, hb, hml, hown, hts⟩ (c_X5_verdict l D cI cZ cB cR 7 (16 + (sN v7)) (by omega) (by omega)) (va_cwS 2 hts (goodP (ps := [.methodLink RX5 97 yX5_verdict, .static yX5_verdict, .initialized RX5]) (all3 mw_3_198 mw_3_199 mw_1_6) mw_3_200) rfl rfl rfl (by decide +kernel) ⟨Nat.le_of_ble_eq_true rfl, Nat.le_of_ble_eq_true rfl⟩) hEV va_P0 rfl hl.1 rfl (Nat.le_of_ble_eq_true rfl) dX5_selected_242 ⟨Nat.zero_le _, Nat.zero_le _⟩ ?_
      exact W.iret hx hb hr (fun t9 ht9 _ => ⟨⟨_, (r1, r2), rfl, hE, by show va_P D vwCl _ t9.heap; rw [ht9]; exact hP⟩, hS.F ht9⟩) hS.2.2 dX5_selected_245
  have key_169 : ∀ (v7 : Int32) (ls : Array Slot) (r1 : Nat → Int32) (r2 : Nat → Int32) (H : Heap) (locs : List Loc) (hP : va_P D vwCl (wX cI cZ a x r1 r2) H) (hD : va_D A (wX cI cZ a x r1 r2)) (hS : va_S A s.heap H locs), om1 (nf w) v7 → Gd (vwX x w) u → lv_has ls 10 [(7, .int v7), (5, .int (nI (Φ t 3))), (0, .ref (a 0)), (1, .int (nI w)), (2, .int (nI t)), (3, .int (nI u))] → p_X5_selected_169 x nf R Φ w t u v7 = tgt → W p l e (headSpec wsX5_selected ({ frames := 6, cells := 0, slots := 0, locals := 161 } : Room)).room s m args below meth c H locs 0 0 (MQ below (va_Qi (fun r (_ : (Nat → Int32) × (Nat → Int32)) => r = tgt) (fun u t => va_P D vwCl ((fun (u8 : (Nat → Int32) × (Nat → Int32)) => wX cI cZ a x u8.1 u8.2) u) t.heap) A) args s 0 0 A) (F0 m 169 ls []) := by
    intro v7 ls r1 r2 H locs hP hD hS hi_169_0 hi_169_1 hl hE
    rw [p_X5_selected_169] at hE
    refine lv_iload hx hb dX5_selected_169 (lv_at hl 0 rfl) ?_
    refine lv_if_ge (tgt := 214) hx hb dX5_selected_171 (by decide) (fun c_171 => ?_) (fun c_171 => ?_)
    · skip
      have hE := (if_pos c_171).symm.trans hE
      exact key_214 v7 ls _ _ _ _ hP hD hS (by first | exact (up_step wx.1 hv9 hg9).2 | exact Or.inr ⟨isT_nI hnu, by rw [sN_nI (by omega)]; exact gN_le (by omega) (gN12 wx.1 hnu gu9)⟩ | assumption | exact Or.inl rfl | exact Or.inr (isM_nI hn30 hm9) | exact om1_od hn30 | exact hi_97_1 | exact hi_97_2 | exact gu9 | exact hi_97_1.nn c_104 | exact hi_169_0.nn c_171 | exact bod_isM hn30 c_193) (lv_sub hl [0, 2, 3, 4] rfl) hE
    · skip
      have hE := (if_neg c_171).symm.trans hE
      refine lv_aload_n hx hb dX5_selected_174 rfl (lv_at hl 2 rfl) ?_
      refine lv_iload_n hx hb dX5_selected_175 rfl (lv_at hl 3 rfl) ?_
      refine lv_aload_n hx hb dX5_selected_176 rfl (lv_at hl 2 rfl) ?_
      refine lv_iload_n hx hb dX5_selected_177 rfl (lv_at hl 3 rfl) ?_
      refine lv_iload_n hx hb dX5_selected_178 rfl (lv_at hl 5 rfl) ?_
      refine lv_iload hx hb dX5_selected_179 (lv_at hl 1 rfl) ?_
      refine ro_V [.int (nI w), .int (nI u), .int (nI (Φ t 3))] [.int (nI w), .ref (a 0)] ⟨hx, hb, hml, hown, hts⟩ (c_X5_specific l D cI cZ cB cR a x r1 r2 w (nf w) u (Φ t 3) (by omega) (hX w (by omega)) (by omega) (by omega) (by assumption)) (cwV (C := RX5) 3 hts (goodP (ps := [.methodLink RX5 126 yX5_specific, .instanceMethod yX5_specific, .selects RX5 yX5_specific yX5_specific, .initialized RX5]) (all4 mw_3_232 mw_3_234 ms_36 mw_1_6) mw_3_235) rfl rfl rfl (by decide +kernel) ⟨Nat.le_of_ble_eq_true rfl, Nat.le_of_ble_eq_true rfl⟩) hEV hP 0 rfl rfl rfl hl.1 rfl (Nat.le_of_ble_eq_true rfl) dX5_selected_181 ⟨Nat.zero_le _, Nat.zero_le _⟩ ?_
      refine lv_iload hx hb dX5_selected_184 (lv_at hl 1 rfl) ?_
      refine ro_V [.int (nI w), .int (spI (vwX x w) (vmX x w) (nf w) u (kyF true (nI (Φ t 3)))), .int (nI (Φ t 3))] [] ⟨hx, hb, hml, hown, hts⟩ (c_X5_bodied l D cI cZ cB cR a x r1 r2 w (nf w) (spI (vwX x w) (vmX x w) (nf w) u (kyF true (nI (Φ t 3)))) (Φ t 3) (by omega) (hX w (by omega)) (by omega) (fun f9 h9 q9 => spI_fd h9 q9)) (cwV (C := RX5) 3 hts (goodP (ps := [.methodLink RX5 130 yX5_bodied, .instanceMethod yX5_bodied, .selects RX5 yX5_bodied yX5_bodied, .initialized RX5]) (all4 mw_4_12 mw_4_14 ms_41 mw_1_6) mw_4_15) rfl rfl rfl (by decide +kernel) ⟨Nat.le_of_ble_eq_true rfl, Nat.le_of_ble_eq_true rfl⟩) hEV hP 0 rfl rfl rfl hl.1 rfl (Nat.le_of_ble_eq_true rfl) dX5_selected_186 ⟨Nat.zero_le _, Nat.zero_le _⟩ ?_
      refine lv_istore (lv' := [(7, .int (p_X5_bodied x w (nf w) (spI (vwX x w) (vmX x w) (nf w) u (kyF true (nI (Φ t 3)))) (Φ t 3))), (5, .int (nI (Φ t 3))), (0, .ref (a 0)), (1, .int (nI w)), (2, .int (nI t)), (3, .int (nI u))]) hx hb dX5_selected_189 hl (by decide) rfl (fun ls hl => ?_)
      refine lv_iload hx hb dX5_selected_191 (lv_at hl 0 rfl) ?_
      refine lv_if_ge (tgt := 214) hx hb dX5_selected_193 (by decide) (fun c_193 => ?_) (fun c_193 => ?_)
      · skip
        have hE := (if_pos c_193).symm.trans hE
        exact key_214 (p_X5_bodied x w (nf w) (spI (vwX x w) (vmX x w) (nf w) u (kyF true (nI (Φ t 3)))) (Φ t 3)) ls _ _ _ _ hP hD hS (by first | exact (up_step wx.1 hv9 hg9).2 | exact Or.inr ⟨isT_nI hnu, by rw [sN_nI (by omega)]; exact gN_le (by omega) (gN12 wx.1 hnu gu9)⟩ | assumption | exact Or.inl rfl | exact Or.inr (isM_nI hn30 hm9) | exact om1_od hn30 | exact hi_97_1 | exact hi_97_2 | exact gu9 | exact hi_97_1.nn c_104 | exact hi_169_0.nn c_171 | exact bod_isM hn30 c_193) (lv_sub hl [0, 2, 3, 4] rfl) hE
      · skip
        have hE := (if_neg c_193).symm.trans hE
        refine lv_iload hx hb dX5_selected_196 (lv_at hl 0 rfl) ?_
        refine lv_bipush (v := (-2 : Int32)) hx hb dX5_selected_198 (by decide) ?_
        refine lv_icmp_ne (tgt := 207) hx hb dX5_selected_200 (by decide) (fun c_200 => ?_) (fun c_200 => ?_)
        · skip
          have hE := (if_neg c_200).symm.trans hE
          refine lv_bipush (v := (7 : Int32)) hx hb dX5_selected_207 (by decide) ?_
          refine lv_iload_n hx hb dX5_selected_209 rfl (lv_at hl 5 rfl) ?_
          refine ro_S [.int (7 : Int32), .int (nI u)] [] ⟨hx, hb, hml, hown, hts⟩ (c_X5_verdict l D cI cZ cB cR 7 u (by omega) (by omega)) (va_cwS 2 hts (goodP (ps := [.methodLink RX5 97 yX5_verdict, .static yX5_verdict, .initialized RX5]) (all3 mw_3_198 mw_3_199 mw_1_6) mw_3_200) rfl rfl rfl (by decide +kernel) ⟨Nat.le_of_ble_eq_true rfl, Nat.le_of_ble_eq_true rfl⟩) hEV va_P0 rfl hl.1 rfl (Nat.le_of_ble_eq_true rfl) dX5_selected_210 ⟨Nat.zero_le _, Nat.zero_le _⟩ ?_
          exact W.iret hx hb hr (fun t9 ht9 _ => ⟨⟨_, (r1, r2), rfl, hE, by show va_P D vwCl _ t9.heap; rw [ht9]; exact hP⟩, hS.F ht9⟩) hS.2.2 dX5_selected_213
        · skip
          have hE := (if_pos c_200).symm.trans hE
          refine lv_iconst (v := (3 : Int32)) hx hb dX5_selected_203 (by decide) ?_
          refine lv_goto (tgt := 209) hx hb dX5_selected_204 (by decide) ?_
          refine lv_iload_n hx hb dX5_selected_209 rfl (lv_at hl 5 rfl) ?_
          refine ro_S [.int (3 : Int32), .int (nI u)] [] ⟨hx, hb, hml, hown, hts⟩ (c_X5_verdict l D cI cZ cB cR 3 u (by omega) (by omega)) (va_cwS 2 hts (goodP (ps := [.methodLink RX5 97 yX5_verdict, .static yX5_verdict, .initialized RX5]) (all3 mw_3_198 mw_3_199 mw_1_6) mw_3_200) rfl rfl rfl (by decide +kernel) ⟨Nat.le_of_ble_eq_true rfl, Nat.le_of_ble_eq_true rfl⟩) hEV va_P0 rfl hl.1 rfl (Nat.le_of_ble_eq_true rfl) dX5_selected_210 ⟨Nat.zero_le _, Nat.zero_le _⟩ ?_
          exact W.iret hx hb hr (fun t9 ht9 _ => ⟨⟨_, (r1, r2), rfl, hE, by show va_P D vwCl _ t9.heap; rw [ht9]; exact hP⟩, hS.F ht9⟩) hS.2.2 dX5_selected_213
  have key_97 : ∀ (k_97 : Nat) (v8 : Int32) (v7 : Int32) (ls : Array Slot) (r1 : Nat → Int32) (r2 : Nat → Int32) (H : Heap) (locs : List Loc) (hP : va_P D vwCl (wX cI cZ a x r1 r2) H) (hD : va_D A (wX cI cZ a x r1 r2)) (hS : va_S A s.heap H locs), 0 < k_97 → v8 = -1 ∨ (isT v8 ∧ gN (vwX x w) (k_97 - 1) (sN v8) = true) → om1 (nf w) v7 → Gd (vwX x w) u → lv_has ls 10 [(8, .int v8), (7, .int v7), (5, .int (nI (Φ t 3))), (4, .int (nI (sN (p_X5_resolved x nf R Φ w t) - 16))), (0, .ref (a 0)), (1, .int (nI w)), (2, .int (nI t)), (3, .int (nI u))] → p_X5_selected_97 x nf R Φ w t u k_97 v8 v7 = tgt → W p l e (headSpec wsX5_selected ({ frames := 6, cells := 0, slots := 0, locals := 161 } : Room)).room s m args below meth c H locs 0 0 (MQ below (va_Qi (fun r (_ : (Nat → Int32) × (Nat → Int32)) => r = tgt) (fun u t => va_P D vwCl ((fun (u8 : (Nat → Int32) × (Nat → Int32)) => wX cI cZ a x u8.1 u8.2) u) t.heap) A) args s 0 0 A) (F0 m 97 ls []) := by
    intro k_97
    induction k_97 with
    | zero => intro v8 v7 ls r1 r2 H locs hP hD hS hm; exact absurd hm (Nat.not_lt_zero _)
    | succ k_97 ih_97 =>
      intro v8 v7 ls r1 r2 H locs hP hD hS hm_97 hi_97_0 hi_97_1 hi_97_2 hl hE
      rw [p_X5_selected_97] at hE
      refine lv_iload hx hb dX5_selected_97 (lv_at hl 0 rfl) ?_
      refine lv_if_lt (tgt := 169) hx hb dX5_selected_99 (by decide) (fun c_99 => ?_) (fun c_99 => ?_)
      · skip
        have hE := (if_pos c_99).symm.trans hE
        exact key_169 v7 ls _ _ _ _ hP hD hS (by first | exact (up_step wx.1 hv9 hg9).2 | exact Or.inr ⟨isT_nI hnu, by rw [sN_nI (by omega)]; exact gN_le (by omega) (gN12 wx.1 hnu gu9)⟩ | assumption | exact Or.inl rfl | exact Or.inr (isM_nI hn30 hm9) | exact om1_od hn30 | exact hi_97_1 | exact hi_97_2 | exact gu9 | exact hi_97_1.nn c_104 | exact hi_169_0.nn c_171 | exact bod_isM hn30 c_193) (by first | exact (up_step wx.1 hv9 hg9).2 | exact Or.inr ⟨isT_nI hnu, by rw [sN_nI (by omega)]; exact gN_le (by omega) (gN12 wx.1 hnu gu9)⟩ | assumption | exact Or.inl rfl | exact Or.inr (isM_nI hn30 hm9) | exact om1_od hn30 | exact hi_97_1 | exact hi_97_2 | exact gu9 | exact hi_97_1.nn c_104 | exact hi_169_0.nn c_171 | exact bod_isM hn30 c_193) (lv_sub hl [1, 2, 4, 5, 6, 7] rfl) hE
      · skip
        have hE := (if_neg c_99).symm.trans hE
        refine lv_iload hx hb dX5_selected_102 (lv_at hl 1 rfl) ?_
        refine lv_if_ge (tgt := 169) hx hb dX5_selected_104 (by decide) (fun c_104 => ?_) (fun c_104 => ?_)
        · skip
          have hE := (if_pos c_104).symm.trans hE
          exact key_169 v7 ls _ _ _ _ hP hD hS (by first | exact (up_step wx.1 hv9 hg9).2 | exact Or.inr ⟨isT_nI hnu, by rw [sN_nI (by omega)]; exact gN_le (by omega) (gN12 wx.1 hnu gu9)⟩ | assumption | exact Or.inl rfl | exact Or.inr (isM_nI hn30 hm9) | exact om1_od hn30 | exact hi_97_1 | exact hi_97_2 | exact gu9 | exact hi_97_1.nn c_104 | exact hi_169_0.nn c_171 | exact bod_isM hn30 c_193) (by first | exact (up_step wx.1 hv9 hg9).2 | exact Or.inr ⟨isT_nI hnu, by rw [sN_nI (by omega)]; exact gN_le (by omega) (gN12 wx.1 hnu gu9)⟩ | assumption | exact Or.inl rfl | exact Or.inr (isM_nI hn30 hm9) | exact om1_od hn30 | exact hi_97_1 | exact hi_97_2 | exact gu9 | exact hi_97_1.nn c_104 | exact hi_169_0.nn c_171 | exact bod_isM hn30 c_193) (lv_sub hl [1, 2, 4, 5, 6, 7] rfl) hE
        · skip
          have hE := (if_neg c_104).symm.trans hE
          have hq9 := hi_97_0.resolve_left (fun e9 => c_99 (by rw [e9]; decide))
          have hv9 := hq9.1
          have hv8 := hv9.1
          have hg9 : gN (vwX x w) k_97 (sN v8) = true := hq9.2
          refine lv_aload_n hx hb dX5_selected_107 rfl (lv_at hl 4 rfl) ?_
          refine lv_iload_n hx hb dX5_selected_108 rfl (lv_at hl 5 rfl) ?_
          refine lv_iload hx hb dX5_selected_109 (lv_at hl 0 rfl) ?_
          refine top_eq (hv9.2) ?_
          refine lv_iconst (v := (1 : Int32)) hx hb dX5_selected_111 (by decide) ?_
          refine lv_iload hx hb dX5_selected_112 (lv_at hl 2 rfl) ?_
          refine ro_V [.int (nI w), .int (nI (sN v8)), .int (1 : Int32), .int (nI (Φ t 3))] [] ⟨hx, hb, hml, hown, hts⟩ (c_X5_own l D cI cZ cB cR a x r1 r2 w (nf w) (sN v8) true (Φ t 3) (by omega) (hX w (by omega)) (by omega) (by omega) ) (cwV (C := RX5) 4 hts (goodP (ps := [.methodLink RX5 84 yX5_own, .instanceMethod yX5_own, .selects RX5 yX5_own yX5_own, .initialized RX5]) (all4 mw_3_158 mw_3_160 ms_27 mw_1_6) mw_3_161) rfl rfl rfl (by decide +kernel) ⟨Nat.le_of_ble_eq_true rfl, Nat.le_of_ble_eq_true rfl⟩) hEV hP 0 rfl rfl rfl hl.1 rfl (Nat.le_of_ble_eq_true rfl) dX5_selected_114 ⟨Nat.zero_le _, Nat.zero_le _⟩ ?_
          refine lv_istore (lv' := [(9, .int (odI (vmX x w) (nf w) (sN v8) (kyF true (nI (Φ t 3))))), (8, .int v8), (7, .int v7), (5, .int (nI (Φ t 3))), (4, .int (nI (sN (p_X5_resolved x nf R Φ w t) - 16))), (0, .ref (a 0)), (1, .int (nI w)), (2, .int (nI t)), (3, .int (nI u))]) hx hb dX5_selected_117 hl (by decide) rfl (fun ls hl => ?_)
          refine lv_iload hx hb dX5_selected_119 (lv_at hl 0 rfl) ?_
          refine lv_if_lt (tgt := 152) hx hb dX5_selected_121 (by decide) (fun c_121 => ?_) (fun c_121 => ?_)
          · skip
            have hE := (if_pos c_121).symm.trans hE
            refine lv_aload_n hx hb dX5_selected_152 rfl (lv_at hl 5 rfl) ?_
            refine va_get (D := D) (ci := 5) (v := .ref (a 4)) (C := RX5) (T := TX5) (N := 21) hx hb hts (fun w9 h9 => List.mem_cons_of_mem _ (inT_X5 w9 h9)) hown hK hP 0 rfl rfl 3 (by decide) (hts (.fieldLink RX5 20 "LinkPredictorModel" "above" "[I") (List.mem_cons_of_mem _ mw_3_69)) (fun _ h9 => h9) rfl dX5_selected_153 ?_
            refine lv_bipush (v := (12 : Int32)) hx hb dX5_selected_156 (by decide) ?_
            refine lv_iload_n hx hb dX5_selected_158 rfl (lv_at hl 6 rfl) ?_
            refine lv_imul hx hb dX5_selected_159 ?_
            refine top_eq (pk_mul 12 w) ?_
            refine lv_iload hx hb dX5_selected_160 (lv_at hl 1 rfl) ?_
            refine top_eq (hv9.2) ?_
            refine lv_iadd hx hb dX5_selected_162 ?_
            refine top_eq (nI_add (12 * w) (sN v8)) ?_
            refine ro_ald hx hb hEV hP 4 (j := ((12 * w) + (sN v8))) rfl (by omega) (by decide) dX5_selected_163 ?_
            refine lv_istore (lv' := [(8, .int (x 3 ((12 * w) + (sN v8)))), (9, .int (odI (vmX x w) (nf w) (sN v8) (kyF true (nI (Φ t 3))))), (7, .int v7), (5, .int (nI (Φ t 3))), (4, .int (nI (sN (p_X5_resolved x nf R Φ w t) - 16))), (0, .ref (a 0)), (1, .int (nI w)), (2, .int (nI t)), (3, .int (nI u))]) hx hb dX5_selected_164 hl (by decide) rfl (fun ls hl => ?_)
            refine lv_goto (tgt := 97) hx hb dX5_selected_166 (by decide) ?_
            exact ih_97 (x 3 ((12 * w) + (sN v8))) v7 ls _ _ _ _ hP hD hS (by first | omega | exact (up_step wx.1 hv9 hg9).1) (by first | exact (up_step wx.1 hv9 hg9).2 | exact Or.inr ⟨isT_nI hnu, by rw [sN_nI (by omega)]; exact gN_le (by omega) (gN12 wx.1 hnu gu9)⟩ | assumption | exact Or.inl rfl | exact Or.inr (isM_nI hn30 hm9) | exact om1_od hn30 | exact hi_97_1 | exact hi_97_2 | exact gu9 | exact hi_97_1.nn c_104 | exact hi_169_0.nn c_171 | exact bod_isM hn30 c_193) (by first | exact (up_step wx.1 hv9 hg9).2 | exact Or.inr ⟨isT_nI hnu, by rw [sN_nI (by omega)]; exact gN_le (by omega) (gN12 wx.1 hnu gu9)⟩ | assumption | exact Or.inl rfl | exact Or.inr (isM_nI hn30 hm9) | exact om1_od hn30 | exact hi_97_1 | exact hi_97_2 | exact gu9 | exact hi_97_1.nn c_104 | exact hi_169_0.nn c_171 | exact bod_isM hn30 c_193) (by first | exact (up_step wx.1 hv9 hg9).2 | exact Or.inr ⟨isT_nI hnu, by rw [sN_nI (by omega)]; exact gN_le (by omega) (gN12 wx.1 hnu gu9)⟩ | assumption | exact Or.inl rfl | exact Or.inr (isM_nI hn30 hm9) | exact om1_od hn30 | exact hi_97_1 | exact hi_97_2 | exact gu9 | exact hi_97_1.nn c_104 | exact hi_169_0.nn c_171 | exact bod_isM hn30 c_193) (lv_sub hl [0, 2, 3, 4, 5, 6, 7, 8] rfl) hE
          · skip
            have hE := (if_neg c_121).symm.trans hE
            refine lv_aload_n hx hb dX5_selected_124 rfl (lv_at hl 5 rfl) ?_
            refine lv_iload_n hx hb dX5_selected_125 rfl (lv_at hl 6 rfl) ?_
            refine lv_iload hx hb dX5_selected_126 (lv_at hl 1 rfl) ?_
            refine top_eq (hv9.2) ?_
            refine lv_iload hx hb dX5_selected_128 (lv_at hl 3 rfl) ?_
            refine ro_V [.int (nI w), .int (nI (sN v8)), .int (nI (Φ t 3))] [] ⟨hx, hb, hml, hown, hts⟩ (c_X5_offers l D cI cZ cB cR a x r1 r2 w (nf w) (sN v8) (Φ t 3) (by omega) (hX w (by omega)) (by omega) (by omega) ) (cwV (C := RX5) 3 hts (goodP (ps := [.methodLink RX5 123 yX5_offers, .instanceMethod yX5_offers, .selects RX5 yX5_offers yX5_offers, .initialized RX5]) (all4 mw_4_4 mw_4_6 ms_39 mw_1_6) mw_4_7) rfl rfl rfl (by decide +kernel) ⟨Nat.le_of_ble_eq_true rfl, Nat.le_of_ble_eq_true rfl⟩) hEV hP 0 rfl rfl rfl hl.1 rfl (Nat.le_of_ble_eq_true rfl) dX5_selected_130 ⟨Nat.zero_le _, Nat.zero_le _⟩ ?_
            refine lv_if_eq (tgt := 152) hx hb dX5_selected_133 (by decide) (fun c_133 => ?_) (fun c_133 => ?_)
            · have c_133 : ¬ ((offB (vmX x w) (nf w) (sN v8) (kyF true (nI (Φ t 3)))) = true) := b2i_f c_133
              have hE := (if_neg c_133).symm.trans hE
              refine lv_aload_n hx hb dX5_selected_152 rfl (lv_at hl 5 rfl) ?_
              refine va_get (D := D) (ci := 5) (v := .ref (a 4)) (C := RX5) (T := TX5) (N := 21) hx hb hts (fun w9 h9 => List.mem_cons_of_mem _ (inT_X5 w9 h9)) hown hK hP 0 rfl rfl 3 (by decide) (hts (.fieldLink RX5 20 "LinkPredictorModel" "above" "[I") (List.mem_cons_of_mem _ mw_3_69)) (fun _ h9 => h9) rfl dX5_selected_153 ?_
              refine lv_bipush (v := (12 : Int32)) hx hb dX5_selected_156 (by decide) ?_
              refine lv_iload_n hx hb dX5_selected_158 rfl (lv_at hl 6 rfl) ?_
              refine lv_imul hx hb dX5_selected_159 ?_
              refine top_eq (pk_mul 12 w) ?_
              refine lv_iload hx hb dX5_selected_160 (lv_at hl 1 rfl) ?_
              refine top_eq (hv9.2) ?_
              refine lv_iadd hx hb dX5_selected_162 ?_
              refine top_eq (nI_add (12 * w) (sN v8)) ?_
              refine ro_ald hx hb hEV hP 4 (j := ((12 * w) + (sN v8))) rfl (by omega) (by decide) dX5_selected_163 ?_
              refine lv_istore (lv' := [(8, .int (x 3 ((12 * w) + (sN v8)))), (9, .int (odI (vmX x w) (nf w) (sN v8) (kyF true (nI (Φ t 3))))), (7, .int v7), (5, .int (nI (Φ t 3))), (4, .int (nI (sN (p_X5_resolved x nf R Φ w t) - 16))), (0, .ref (a 0)), (1, .int (nI w)), (2, .int (nI t)), (3, .int (nI u))]) hx hb dX5_selected_164 hl (by decide) rfl (fun ls hl => ?_)
              refine lv_goto (tgt := 97) hx hb dX5_selected_166 (by decide) ?_
              exact ih_97 (x 3 ((12 * w) + (sN v8))) v7 ls _ _ _ _ hP hD hS (by first | omega | exact (up_step wx.1 hv9 hg9).1) (by first | exact (up_step wx.1 hv9 hg9).2 | exact Or.inr ⟨isT_nI hnu, by rw [sN_nI (by omega)]; exact gN_le (by omega) (gN12 wx.1 hnu gu9)⟩ | assumption | exact Or.inl rfl | exact Or.inr (isM_nI hn30 hm9) | exact om1_od hn30 | exact hi_97_1 | exact hi_97_2 | exact gu9 | exact hi_97_1.nn c_104 | exact hi_169_0.nn c_171 | exact bod_isM hn30 c_193) (by first | exact (up_step wx.1 hv9 hg9).2 | exact Or.inr ⟨isT_nI hnu, by rw [sN_nI (by omega)]; exact gN_le (by omega) (gN12 wx.1 hnu gu9)⟩ | assumption | exact Or.inl rfl | exact Or.inr (isM_nI hn30 hm9) | exact om1_od hn30 | exact hi_97_1 | exact hi_97_2 | exact gu9 | exact hi_97_1.nn c_104 | exact hi_169_0.nn c_171 | exact bod_isM hn30 c_193) (by first | exact (up_step wx.1 hv9 hg9).2 | exact Or.inr ⟨isT_nI hnu, by rw [sN_nI (by omega)]; exact gN_le (by omega) (gN12 wx.1 hnu gu9)⟩ | assumption | exact Or.inl rfl | exact Or.inr (isM_nI hn30 hm9) | exact om1_od hn30 | exact hi_97_1 | exact hi_97_2 | exact gu9 | exact hi_97_1.nn c_104 | exact hi_169_0.nn c_171 | exact bod_isM hn30 c_193) (lv_sub hl [0, 2, 3, 4, 5, 6, 7, 8] rfl) hE
            · have c_133 : (offB (vmX x w) (nf w) (sN v8) (kyF true (nI (Φ t 3)))) = true := b2i_t c_133
              have hE := (if_pos c_133).symm.trans hE
              have hk9 := (odI_nat c_121).1
              refine lv_aload_n hx hb dX5_selected_136 rfl (lv_at hl 5 rfl) ?_
              refine lv_iload_n hx hb dX5_selected_137 rfl (lv_at hl 6 rfl) ?_
              refine lv_iload hx hb dX5_selected_138 (lv_at hl 0 rfl) ?_
              refine top_eq ((odI_nat c_121).2) ?_
              refine lv_iload hx hb dX5_selected_140 (lv_at hl 4 rfl) ?_
              refine ro_V [.int (nI w), .int (nI (fdN (vmX x w) (nf w) (sN v8) (kyF true (nI (Φ t 3))))), .int (nI (sN (p_X5_resolved x nf R Φ w t) - 16))] [] ⟨hx, hb, hml, hown, hts⟩ (c_X5_overrides l D cI cZ cB cR a x r1 r2 w (nf w) (fdN (vmX x w) (nf w) (sN v8) (kyF true (nI (Φ t 3)))) (sN (p_X5_resolved x nf R Φ w t) - 16) (by omega) (hX w (by omega)) (by omega) (by omega) ) (cwV (C := RX5) 3 hts (goodP (ps := [.methodLink RX5 149 yX5_overrides, .instanceMethod yX5_overrides, .selects RX5 yX5_overrides yX5_overrides, .initialized RX5]) (all4 mw_4_40 mw_4_42 ms_47 mw_1_6) mw_4_43) rfl rfl rfl (by decide +kernel) ⟨Nat.le_of_ble_eq_true rfl, Nat.le_of_ble_eq_true rfl⟩) hEV hP 0 rfl rfl rfl hl.1 rfl (Nat.le_of_ble_eq_true rfl) dX5_selected_142 ⟨Nat.zero_le _, Nat.zero_le _⟩ ?_
              refine lv_if_eq (tgt := 152) hx hb dX5_selected_145 (by decide) (fun c_145 => ?_) (fun c_145 => ?_)
              · skip
                have hE := (if_pos c_145).symm.trans hE
                refine lv_aload_n hx hb dX5_selected_152 rfl (lv_at hl 5 rfl) ?_
                refine va_get (D := D) (ci := 5) (v := .ref (a 4)) (C := RX5) (T := TX5) (N := 21) hx hb hts (fun w9 h9 => List.mem_cons_of_mem _ (inT_X5 w9 h9)) hown hK hP 0 rfl rfl 3 (by decide) (hts (.fieldLink RX5 20 "LinkPredictorModel" "above" "[I") (List.mem_cons_of_mem _ mw_3_69)) (fun _ h9 => h9) rfl dX5_selected_153 ?_
                refine lv_bipush (v := (12 : Int32)) hx hb dX5_selected_156 (by decide) ?_
                refine lv_iload_n hx hb dX5_selected_158 rfl (lv_at hl 6 rfl) ?_
                refine lv_imul hx hb dX5_selected_159 ?_
                refine top_eq (pk_mul 12 w) ?_
                refine lv_iload hx hb dX5_selected_160 (lv_at hl 1 rfl) ?_
                refine top_eq (hv9.2) ?_
                refine lv_iadd hx hb dX5_selected_162 ?_
                refine top_eq (nI_add (12 * w) (sN v8)) ?_
                refine ro_ald hx hb hEV hP 4 (j := ((12 * w) + (sN v8))) rfl (by omega) (by decide) dX5_selected_163 ?_
                refine lv_istore (lv' := [(8, .int (x 3 ((12 * w) + (sN v8)))), (9, .int (odI (vmX x w) (nf w) (sN v8) (kyF true (nI (Φ t 3))))), (7, .int v7), (5, .int (nI (Φ t 3))), (4, .int (nI (sN (p_X5_resolved x nf R Φ w t) - 16))), (0, .ref (a 0)), (1, .int (nI w)), (2, .int (nI t)), (3, .int (nI u))]) hx hb dX5_selected_164 hl (by decide) rfl (fun ls hl => ?_)
                refine lv_goto (tgt := 97) hx hb dX5_selected_166 (by decide) ?_
                exact ih_97 (x 3 ((12 * w) + (sN v8))) v7 ls _ _ _ _ hP hD hS (by first | omega | exact (up_step wx.1 hv9 hg9).1) (by first | exact (up_step wx.1 hv9 hg9).2 | exact Or.inr ⟨isT_nI hnu, by rw [sN_nI (by omega)]; exact gN_le (by omega) (gN12 wx.1 hnu gu9)⟩ | assumption | exact Or.inl rfl | exact Or.inr (isM_nI hn30 hm9) | exact om1_od hn30 | exact hi_97_1 | exact hi_97_2 | exact gu9 | exact hi_97_1.nn c_104 | exact hi_169_0.nn c_171 | exact bod_isM hn30 c_193) (by first | exact (up_step wx.1 hv9 hg9).2 | exact Or.inr ⟨isT_nI hnu, by rw [sN_nI (by omega)]; exact gN_le (by omega) (gN12 wx.1 hnu gu9)⟩ | assumption | exact Or.inl rfl | exact Or.inr (isM_nI hn30 hm9) | exact om1_od hn30 | exact hi_97_1 | exact hi_97_2 | exact gu9 | exact hi_97_1.nn c_104 | exact hi_169_0.nn c_171 | exact bod_isM hn30 c_193) (by first | exact (up_step wx.1 hv9 hg9).2 | exact Or.inr ⟨isT_nI hnu, by rw [sN_nI (by omega)]; exact gN_le (by omega) (gN12 wx.1 hnu gu9)⟩ | assumption | exact Or.inl rfl | exact Or.inr (isM_nI hn30 hm9) | exact om1_od hn30 | exact hi_97_1 | exact hi_97_2 | exact gu9 | exact hi_97_1.nn c_104 | exact hi_169_0.nn c_171 | exact bod_isM hn30 c_193) (lv_sub hl [0, 2, 3, 4, 5, 6, 7, 8] rfl) hE
              · skip
                have hE := (if_neg c_145).symm.trans hE
                refine lv_iload hx hb dX5_selected_148 (lv_at hl 0 rfl) ?_
                refine lv_istore (lv' := [(7, .int (odI (vmX x w) (nf w) (sN v8) (kyF true (nI (Φ t 3))))), (9, .int (odI (vmX x w) (nf w) (sN v8) (kyF true (nI (Φ t 3))))), (8, .int v8), (5, .int (nI (Φ t 3))), (4, .int (nI (sN (p_X5_resolved x nf R Φ w t) - 16))), (0, .ref (a 0)), (1, .int (nI w)), (2, .int (nI t)), (3, .int (nI u))]) hx hb dX5_selected_150 hl (by decide) rfl (fun ls hl => ?_)
                refine lv_aload_n hx hb dX5_selected_152 rfl (lv_at hl 5 rfl) ?_
                refine va_get (D := D) (ci := 5) (v := .ref (a 4)) (C := RX5) (T := TX5) (N := 21) hx hb hts (fun w9 h9 => List.mem_cons_of_mem _ (inT_X5 w9 h9)) hown hK hP 0 rfl rfl 3 (by decide) (hts (.fieldLink RX5 20 "LinkPredictorModel" "above" "[I") (List.mem_cons_of_mem _ mw_3_69)) (fun _ h9 => h9) rfl dX5_selected_153 ?_
                refine lv_bipush (v := (12 : Int32)) hx hb dX5_selected_156 (by decide) ?_
                refine lv_iload_n hx hb dX5_selected_158 rfl (lv_at hl 6 rfl) ?_
                refine lv_imul hx hb dX5_selected_159 ?_
                refine top_eq (pk_mul 12 w) ?_
                refine lv_iload hx hb dX5_selected_160 (lv_at hl 2 rfl) ?_
                refine top_eq (hv9.2) ?_
                refine lv_iadd hx hb dX5_selected_162 ?_
                refine top_eq (nI_add (12 * w) (sN v8)) ?_
                refine ro_ald hx hb hEV hP 4 (j := ((12 * w) + (sN v8))) rfl (by omega) (by decide) dX5_selected_163 ?_
                refine lv_istore (lv' := [(8, .int (x 3 ((12 * w) + (sN v8)))), (7, .int (odI (vmX x w) (nf w) (sN v8) (kyF true (nI (Φ t 3))))), (9, .int (odI (vmX x w) (nf w) (sN v8) (kyF true (nI (Φ t 3))))), (5, .int (nI (Φ t 3))), (4, .int (nI (sN (p_X5_resolved x nf R Φ w t) - 16))), (0, .ref (a 0)), (1, .int (nI w)), (2, .int (nI t)), (3, .int (nI u))]) hx hb dX5_selected_164 hl (by decide) rfl (fun ls hl => ?_)
                refine lv_goto (tgt := 97) hx hb dX5_selected_166 (by decide) ?_
                exact ih_97 (x 3 ((12 * w) + (sN v8))) (odI (vmX x w) (nf w) (sN v8) (kyF true (nI (Φ t 3)))) ls _ _ _ _ hP hD hS (by first | omega | exact (up_step wx.1 hv9 hg9).1) (by first | exact (up_step wx.1 hv9 hg9).2 | exact Or.inr ⟨isT_nI hnu, by rw [sN_nI (by omega)]; exact gN_le (by omega) (gN12 wx.1 hnu gu9)⟩ | assumption | exact Or.inl rfl | exact Or.inr (isM_nI hn30 hm9) | exact om1_od hn30 | exact hi_97_1 | exact hi_97_2 | exact gu9 | exact hi_97_1.nn c_104 | exact hi_169_0.nn c_171 | exact bod_isM hn30 c_193) (by first | exact (up_step wx.1 hv9 hg9).2 | exact Or.inr ⟨isT_nI hnu, by rw [sN_nI (by omega)]; exact gN_le (by omega) (gN12 wx.1 hnu gu9)⟩ | assumption | exact Or.inl rfl | exact Or.inr (isM_nI hn30 hm9) | exact om1_od hn30 | exact hi_97_1 | exact hi_97_2 | exact gu9 | exact hi_97_1.nn c_104 | exact hi_169_0.nn c_171 | exact bod_isM hn30 c_193) (by first | exact (up_step wx.1 hv9 hg9).2 | exact Or.inr ⟨isT_nI hnu, by rw [sN_nI (by omega)]; exact gN_le (by omega) (gN12 wx.1 hnu gu9)⟩ | assumption | exact Or.inl rfl | exact Or.inr (isM_nI hn30 hm9) | exact om1_od hn30 | exact hi_97_1 | exact hi_97_2 | exact gu9 | exact hi_97_1.nn c_104 | exact hi_169_0.nn c_171 | exact bod_isM hn30 c_193) (lv_sub hl [0, 1, 3, 4, 5, 6, 7, 8] rfl) hE
  refine lv_aload_n hx hb dX5_selected_0 rfl (lv_at hl 0 rfl) ?_
  refine lv_iload_n hx hb dX5_selected_1 rfl (lv_at hl 1 rfl) ?_
  refine lv_iload_n hx hb dX5_selected_2 rfl (lv_at hl 2 rfl) ?_
  refine mu_V [.int (nI w), .int (nI t)] [] ⟨hx, hb, hml, hown, hts⟩ (c_X5_resolved l D cI cZ cB cR a x r1 r2 nf R Φ w t hX wr (by omega) (by omega) ) (cwV (C := RX5) 2 hts (goodP (ps := [.methodLink RX5 143 yX5_resolved, .instanceMethod yX5_resolved, .selects RX5 yX5_resolved yX5_resolved, .initialized RX5]) (all4 mw_3_216 mw_3_218 ms_32 mw_1_6) mw_3_219) rfl rfl rfl (by decide +kernel) ⟨Nat.le_of_ble_eq_true rfl, Nat.le_of_ble_eq_true rfl⟩) hEV hP hD hS hA 0 rfl rfl rfl hl.1 rfl (Nat.le_of_ble_eq_true rfl) dX5_selected_3 ⟨Nat.zero_le _, Nat.zero_le _⟩ (fun r9 u9 H1 locs hw hP1 hk1 hS => ?_)
  subst hw
  obtain ⟨r1, r2⟩ := u9
  dsimp only at hP1
  have hP : va_P D vwCl (wX cI cZ a x r1 r2) H1 := hP1
  have hD : va_D A (wX cI cZ a x r1 r2) := hD.adr rfl
  generalize H1 = H at hP hS ⊢
  refine lv_bipush (v := (16 : Int32)) hx hb dX5_selected_6 (by decide) ?_
  refine lv_isub hx hb dX5_selected_8 ?_
  refine top_eq ((g16_sub hn30 hsel).2) ?_
  refine lv_istore (lv' := [(4, .int (nI (sN (p_X5_resolved x nf R Φ w t) - 16))), (0, .ref (a 0)), (1, .int (nI w)), (2, .int (nI t)), (3, .int (nI u))]) hx hb dX5_selected_9 hl (by decide) rfl (fun ls hl => ?_)
  refine lv_aload_n hx hb dX5_selected_11 rfl (lv_at hl 1 rfl) ?_
  refine va_get (D := D) (ci := 5) (v := .ref (a 17)) (C := RX5) (T := TX5) (N := 21) hx hb hts (fun w9 h9 => List.mem_cons_of_mem _ (inT_X5 w9 h9)) hown hK hP 0 rfl rfl 16 (by decide) (hts (.fieldLink RX5 59 "LinkPredictorModel" "asked" "[I") (List.mem_cons_of_mem _ mw_3_82)) (fun _ h9 => h9) rfl dX5_selected_12 ?_
  refine lv_iload_n hx hb dX5_selected_15 rfl (lv_at hl 3 rfl) ?_
  refine ro_ald hx hb hEV hP 17 (j := t) rfl (by omega) (by decide) dX5_selected_16 ?_
  refine top_eq ((wr.2.2 t hnt).2.2.2.2) ?_
  refine lv_istore (lv' := [(5, .int (nI (Φ t 3))), (4, .int (nI (sN (p_X5_resolved x nf R Φ w t) - 16))), (0, .ref (a 0)), (1, .int (nI w)), (2, .int (nI t)), (3, .int (nI u))]) hx hb dX5_selected_17 hl (by decide) rfl (fun ls hl => ?_)
  refine lv_bipush (v := (12 : Int32)) hx hb dX5_selected_19 (by decide) ?_
  refine lv_iload_n hx hb dX5_selected_21 rfl (lv_at hl 3 rfl) ?_
  refine lv_imul hx hb dX5_selected_22 ?_
  refine top_eq (pk_mul 12 w) ?_
  refine lv_iload_n hx hb dX5_selected_23 rfl (lv_at hl 5 rfl) ?_
  refine lv_iadd hx hb dX5_selected_24 ?_
  refine top_eq (nI_add (12 * w) u) ?_
  refine lv_istore (lv' := [(6, .int (nI ((12 * w) + u))), (5, .int (nI (Φ t 3))), (4, .int (nI (sN (p_X5_resolved x nf R Φ w t) - 16))), (0, .ref (a 0)), (1, .int (nI w)), (2, .int (nI t)), (3, .int (nI u))]) hx hb dX5_selected_25 hl (by decide) rfl (fun ls hl => ?_)
  refine lv_aload_n hx hb dX5_selected_27 rfl (lv_at hl 3 rfl) ?_
  refine lv_iload_n hx hb dX5_selected_28 rfl (lv_at hl 4 rfl) ?_
  refine lv_iload_n hx hb dX5_selected_29 rfl (lv_at hl 6 rfl) ?_
  refine mu_V [.int (nI w), .int (nI u)] [] ⟨hx, hb, hml, hown, hts⟩ (c_X5_isLoaded l D cI cZ cB cR a x r1 r2 w (nf w) u (by omega) (hX w (by omega)) (by omega) ) (cwV (C := RX5) 2 hts (goodP (ps := [.methodLink RX5 146 yX5_isLoaded, .instanceMethod yX5_isLoaded, .selects RX5 yX5_isLoaded yX5_isLoaded, .initialized RX5]) (all4 mw_4_36 mw_4_38 ms_46 mw_1_6) mw_4_39) rfl rfl rfl (by decide +kernel) ⟨Nat.le_of_ble_eq_true rfl, Nat.le_of_ble_eq_true rfl⟩) hEV hP hD hS hA 0 rfl rfl rfl hl.1 rfl (Nat.le_of_ble_eq_true rfl) dX5_selected_30 ⟨Nat.zero_le _, Nat.zero_le _⟩ (fun r9 u9 H1 locs hw hP1 hk1 hS => ?_)
  subst hw
  obtain ⟨r1, r2⟩ := u9
  dsimp only at hP1
  have hP : va_P D vwCl (wX cI cZ a x r1 r2) H1 := hP1
  have hD : va_D A (wX cI cZ a x r1 r2) := hD.adr rfl
  generalize H1 = H at hP hS ⊢
  refine lv_if_eq (tgt := 64) hx hb dX5_selected_33 (by decide) (fun c_33 => ?_) (fun c_33 => ?_)
  · have c_33 : ¬ ((gdB (vwX x w) u) = true) := b2i_f c_33
    have hE := (if_neg c_33).symm.trans hE
    refine lv_bipush (v := (8 : Int32)) hx hb dX5_selected_64 (by decide) ?_
    refine lv_iload_n hx hb dX5_selected_66 rfl (lv_at hl 6 rfl) ?_
    refine ro_S [.int (8 : Int32), .int (nI u)] [] ⟨hx, hb, hml, hown, hts⟩ (c_X5_verdict l D cI cZ cB cR 8 u (by omega) (by omega)) (va_cwS 2 hts (goodP (ps := [.methodLink RX5 97 yX5_verdict, .static yX5_verdict, .initialized RX5]) (all3 mw_3_198 mw_3_199 mw_1_6) mw_3_200) rfl rfl rfl (by decide +kernel) ⟨Nat.le_of_ble_eq_true rfl, Nat.le_of_ble_eq_true rfl⟩) hEV va_P0 rfl hl.1 rfl (Nat.le_of_ble_eq_true rfl) dX5_selected_67 ⟨Nat.zero_le _, Nat.zero_le _⟩ ?_
    exact W.iret hx hb hr (fun t9 ht9 _ => ⟨⟨_, (r1, r2), rfl, hE, by show va_P D vwCl _ t9.heap; rw [ht9]; exact hP⟩, hS.F ht9⟩) hS.2.2 dX5_selected_70
  · have c_33 : (gdB (vwX x w) u) = true := b2i_t c_33
    have hE := (if_pos c_33).symm.trans hE
    refine lv_aload_n hx hb dX5_selected_36 rfl (lv_at hl 3 rfl) ?_
    refine va_get (D := D) (ci := 5) (v := .ref (a 2)) (C := RX5) (T := TX5) (N := 21) hx hb hts (fun w9 h9 => List.mem_cons_of_mem _ (inT_X5 w9 h9)) hown hK hP 0 rfl rfl 1 (by decide) (hts (.fieldLink RX5 13 "LinkPredictorModel" "flags" "[I") (List.mem_cons_of_mem _ mw_3_67)) (fun _ h9 => h9) rfl dX5_selected_37 ?_
    refine lv_iload hx hb dX5_selected_40 (lv_at hl 0 rfl) ?_
    refine ro_ald hx hb hEV hP 2 (j := ((12 * w) + u)) rfl (by omega) (by decide) dX5_selected_42 ?_
    refine lv_bipush (v := (6 : Int32)) hx hb dX5_selected_43 (by decide) ?_
    refine lv_iand hx hb dX5_selected_45 ?_
    refine lv_if_ne (tgt := 64) hx hb dX5_selected_46 (by decide) (fun c_46 => ?_) (fun c_46 => ?_)
    · skip
      have hE := (if_neg c_46).symm.trans hE
      refine lv_bipush (v := (8 : Int32)) hx hb dX5_selected_64 (by decide) ?_
      refine lv_iload_n hx hb dX5_selected_66 rfl (lv_at hl 6 rfl) ?_
      refine ro_S [.int (8 : Int32), .int (nI u)] [] ⟨hx, hb, hml, hown, hts⟩ (c_X5_verdict l D cI cZ cB cR 8 u (by omega) (by omega)) (va_cwS 2 hts (goodP (ps := [.methodLink RX5 97 yX5_verdict, .static yX5_verdict, .initialized RX5]) (all3 mw_3_198 mw_3_199 mw_1_6) mw_3_200) rfl rfl rfl (by decide +kernel) ⟨Nat.le_of_ble_eq_true rfl, Nat.le_of_ble_eq_true rfl⟩) hEV va_P0 rfl hl.1 rfl (Nat.le_of_ble_eq_true rfl) dX5_selected_67 ⟨Nat.zero_le _, Nat.zero_le _⟩ ?_
      exact W.iret hx hb hr (fun t9 ht9 _ => ⟨⟨_, (r1, r2), rfl, hE, by show va_P D vwCl _ t9.heap; rw [ht9]; exact hP⟩, hS.F ht9⟩) hS.2.2 dX5_selected_70
    · skip
      have hE := (if_pos c_46).symm.trans hE
      refine lv_aload_n hx hb dX5_selected_49 rfl (lv_at hl 3 rfl) ?_
      refine lv_iload_n hx hb dX5_selected_50 rfl (lv_at hl 4 rfl) ?_
      refine lv_iload_n hx hb dX5_selected_51 rfl (lv_at hl 6 rfl) ?_
      refine lv_aload_n hx hb dX5_selected_52 rfl (lv_at hl 3 rfl) ?_
      refine va_get (D := D) (ci := 5) (v := .ref (a 16)) (C := RX5) (T := TX5) (N := 21) hx hb hts (fun w9 h9 => List.mem_cons_of_mem _ (inT_X5 w9 h9)) hown hK hP 0 rfl rfl 15 (by decide) (hts (.fieldLink RX5 56 "LinkPredictorModel" "way" "[I") (List.mem_cons_of_mem _ mw_3_81)) (fun _ h9 => h9) rfl dX5_selected_53 ?_
      refine lv_iload_n hx hb dX5_selected_56 rfl (lv_at hl 5 rfl) ?_
      refine ro_ald hx hb hEV hP 16 (j := t) rfl (by omega) (by decide) dX5_selected_57 ?_
      refine top_eq ((wr.2.2 t hnt).2.2.2.1) ?_
      refine ro_V [.int (nI w), .int (nI u), .int (nI (Φ t 2))] [] ⟨hx, hb, hml, hown, hts⟩ (c_X5_under l D cI cZ cB cR a x r1 r2 w (nf w) u (Φ t 2) (by omega) (hX w (by omega)) (by omega) (by omega) (gdB_iff.mp c_33)) (cwV (C := RX5) 3 hts (goodP (ps := [.methodLink RX5 116 yX5_under, .instanceMethod yX5_under, .selects RX5 yX5_under yX5_under, .initialized RX5]) (all4 mw_4_8 mw_4_10 ms_40 mw_1_6) mw_4_11) rfl rfl rfl (by decide +kernel) ⟨Nat.le_of_ble_eq_true rfl, Nat.le_of_ble_eq_true rfl⟩) hEV hP 0 rfl rfl rfl hl.1 rfl (Nat.le_of_ble_eq_true rfl) dX5_selected_58 ⟨Nat.zero_le _, Nat.zero_le _⟩ ?_
      refine lv_if_ne (tgt := 71) hx hb dX5_selected_61 (by decide) (fun c_61 => ?_) (fun c_61 => ?_)
      · have c_61 : (abB (vwX x w) u (Φ t 2) || fcB (vwX x w) u (Φ t 2)) = true := b2i_t c_61
        have hE := (if_pos c_61).symm.trans hE
        have gu9 := gdB_iff.mp c_33
        refine lv_aload_n hx hb dX5_selected_71 rfl (lv_at hl 3 rfl) ?_
        refine va_get (D := D) (ci := 5) (v := .ref (a 12)) (C := RX5) (T := TX5) (N := 21) hx hb hts (fun w9 h9 => List.mem_cons_of_mem _ (inT_X5 w9 h9)) hown hK hP 0 rfl rfl 11 (by decide) (hts (.fieldLink RX5 44 "LinkPredictorModel" "access" "[I") (List.mem_cons_of_mem _ mw_3_77)) (fun _ h9 => h9) rfl dX5_selected_72 ?_
        refine lv_bipush (v := (30 : Int32)) hx hb dX5_selected_75 (by decide) ?_
        refine lv_iload_n hx hb dX5_selected_77 rfl (lv_at hl 4 rfl) ?_
        refine lv_imul hx hb dX5_selected_78 ?_
        refine top_eq (pk_mul 30 w) ?_
        refine lv_iload hx hb dX5_selected_79 (lv_at hl 2 rfl) ?_
        refine lv_iadd hx hb dX5_selected_81 ?_
        refine top_eq (nI_add (30 * w) (sN (p_X5_resolved x nf R Φ w t) - 16)) ?_
        refine ro_ald hx hb hEV hP 12 (j := ((30 * w) + (sN (p_X5_resolved x nf R Φ w t) - 16))) rfl (by omega) (by decide) dX5_selected_82 ?_
        refine lv_if_ne (tgt := 91) hx hb dX5_selected_83 (by decide) (fun c_83 => ?_) (fun c_83 => ?_)
        · skip
          have hE := (if_neg c_83).symm.trans hE
          refine lv_iconst (v := (-1 : Int32)) hx hb dX5_selected_91 (by decide) ?_
          refine lv_istore (lv' := [(7, .int (-1 : Int32)), (6, .int (nI ((12 * w) + u))), (5, .int (nI (Φ t 3))), (4, .int (nI (sN (p_X5_resolved x nf R Φ w t) - 16))), (0, .ref (a 0)), (1, .int (nI w)), (2, .int (nI t)), (3, .int (nI u))]) hx hb dX5_selected_92 hl (by decide) rfl (fun ls hl => ?_)
          refine lv_iload_n hx hb dX5_selected_94 rfl (lv_at hl 7 rfl) ?_
          refine lv_istore (lv' := [(8, .int (nI u)), (7, .int (-1 : Int32)), (6, .int (nI ((12 * w) + u))), (5, .int (nI (Φ t 3))), (4, .int (nI (sN (p_X5_resolved x nf R Φ w t) - 16))), (0, .ref (a 0)), (1, .int (nI w)), (2, .int (nI t)), (3, .int (nI u))]) hx hb dX5_selected_95 hl (by decide) rfl (fun ls hl => ?_)
          exact key_97 14 (nI u) (-1 : Int32) ls _ _ _ _ hP hD hS (by first | omega | exact (up_step wx.1 hv9 hg9).1) (by first | exact (up_step wx.1 hv9 hg9).2 | exact Or.inr ⟨isT_nI hnu, by rw [sN_nI (by omega)]; exact gN_le (by omega) (gN12 wx.1 hnu gu9)⟩ | assumption | exact Or.inl rfl | exact Or.inr (isM_nI hn30 hm9) | exact om1_od hn30 | exact hi_97_1 | exact hi_97_2 | exact gu9 | exact hi_97_1.nn c_104 | exact hi_169_0.nn c_171 | exact bod_isM hn30 c_193) (by first | exact (up_step wx.1 hv9 hg9).2 | exact Or.inr ⟨isT_nI hnu, by rw [sN_nI (by omega)]; exact gN_le (by omega) (gN12 wx.1 hnu gu9)⟩ | assumption | exact Or.inl rfl | exact Or.inr (isM_nI hn30 hm9) | exact om1_od hn30 | exact hi_97_1 | exact hi_97_2 | exact gu9 | exact hi_97_1.nn c_104 | exact hi_169_0.nn c_171 | exact bod_isM hn30 c_193) (by first | exact (up_step wx.1 hv9 hg9).2 | exact Or.inr ⟨isT_nI hnu, by rw [sN_nI (by omega)]; exact gN_le (by omega) (gN12 wx.1 hnu gu9)⟩ | assumption | exact Or.inl rfl | exact Or.inr (isM_nI hn30 hm9) | exact om1_od hn30 | exact hi_97_1 | exact hi_97_2 | exact gu9 | exact hi_97_1.nn c_104 | exact hi_169_0.nn c_171 | exact bod_isM hn30 c_193) (lv_sub hl [0, 1, 3, 4, 5, 6, 7, 8] rfl) hE
        · skip
          have hE := (if_pos c_83).symm.trans hE
          refine lv_iload hx hb dX5_selected_86 (lv_at hl 2 rfl) ?_
          refine lv_goto (tgt := 92) hx hb dX5_selected_88 (by decide) ?_
          refine lv_istore (lv' := [(7, .int (nI (sN (p_X5_resolved x nf R Φ w t) - 16))), (6, .int (nI ((12 * w) + u))), (5, .int (nI (Φ t 3))), (4, .int (nI (sN (p_X5_resolved x nf R Φ w t) - 16))), (0, .ref (a 0)), (1, .int (nI w)), (2, .int (nI t)), (3, .int (nI u))]) hx hb dX5_selected_92 hl (by decide) rfl (fun ls hl => ?_)
          refine lv_iload_n hx hb dX5_selected_94 rfl (lv_at hl 7 rfl) ?_
          refine lv_istore (lv' := [(8, .int (nI u)), (7, .int (nI (sN (p_X5_resolved x nf R Φ w t) - 16))), (6, .int (nI ((12 * w) + u))), (5, .int (nI (Φ t 3))), (4, .int (nI (sN (p_X5_resolved x nf R Φ w t) - 16))), (0, .ref (a 0)), (1, .int (nI w)), (2, .int (nI t)), (3, .int (nI u))]) hx hb dX5_selected_95 hl (by decide) rfl (fun ls hl => ?_)
          exact key_97 14 (nI u) (nI (sN (p_X5_resolved x nf R Φ w t) - 16)) ls _ _ _ _ hP hD hS (by first | omega | exact (up_step wx.1 hv9 hg9).1) (by first | exact (up_step wx.1 hv9 hg9).2 | exact Or.inr ⟨isT_nI hnu, by rw [sN_nI (by omega)]; exact gN_le (by omega) (gN12 wx.1 hnu gu9)⟩ | assumption | exact Or.inl rfl | exact Or.inr (isM_nI hn30 hm9) | exact om1_od hn30 | exact hi_97_1 | exact hi_97_2 | exact gu9 | exact hi_97_1.nn c_104 | exact hi_169_0.nn c_171 | exact bod_isM hn30 c_193) (by first | exact (up_step wx.1 hv9 hg9).2 | exact Or.inr ⟨isT_nI hnu, by rw [sN_nI (by omega)]; exact gN_le (by omega) (gN12 wx.1 hnu gu9)⟩ | assumption | exact Or.inl rfl | exact Or.inr (isM_nI hn30 hm9) | exact om1_od hn30 | exact hi_97_1 | exact hi_97_2 | exact gu9 | exact hi_97_1.nn c_104 | exact hi_169_0.nn c_171 | exact bod_isM hn30 c_193) (by first | exact (up_step wx.1 hv9 hg9).2 | exact Or.inr ⟨isT_nI hnu, by rw [sN_nI (by omega)]; exact gN_le (by omega) (gN12 wx.1 hnu gu9)⟩ | assumption | exact Or.inl rfl | exact Or.inr (isM_nI hn30 hm9) | exact om1_od hn30 | exact hi_97_1 | exact hi_97_2 | exact gu9 | exact hi_97_1.nn c_104 | exact hi_169_0.nn c_171 | exact bod_isM hn30 c_193) (lv_sub hl [0, 1, 3, 4, 5, 6, 7, 8] rfl) hE
      · have c_61 : ¬ ((abB (vwX x w) u (Φ t 2) || fcB (vwX x w) u (Φ t 2)) = true) := b2i_f c_61
        have hE := (if_neg c_61).symm.trans hE
        refine lv_bipush (v := (8 : Int32)) hx hb dX5_selected_64 (by decide) ?_
        refine lv_iload_n hx hb dX5_selected_66 rfl (lv_at hl 6 rfl) ?_
        refine ro_S [.int (8 : Int32), .int (nI u)] [] ⟨hx, hb, hml, hown, hts⟩ (c_X5_verdict l D cI cZ cB cR 8 u (by omega) (by omega)) (va_cwS 2 hts (goodP (ps := [.methodLink RX5 97 yX5_verdict, .static yX5_verdict, .initialized RX5]) (all3 mw_3_198 mw_3_199 mw_1_6) mw_3_200) rfl rfl rfl (by decide +kernel) ⟨Nat.le_of_ble_eq_true rfl, Nat.le_of_ble_eq_true rfl⟩) hEV va_P0 rfl hl.1 rfl (Nat.le_of_ble_eq_true rfl) dX5_selected_67 ⟨Nat.zero_le _, Nat.zero_le _⟩ ?_
        exact W.iret hx hb hr (fun t9 ht9 _ => ⟨⟨_, (r1, r2), rfl, hE, by show va_P D vwCl _ t9.heap; rw [ht9]; exact hP⟩, hS.F ht9⟩) hS.2.2 dX5_selected_70
def slB (x : Nat → Nat → Int32) (nf : Nat → Nat) (R : Nat) (Φ : Nat → Nat → Nat) (w t : Nat) : Prop := (Φ t 0 = 4 ∨ Φ t 0 = 7) ∧ p_X5_resolved x nf R Φ w t < 64
noncomputable def slD (x : Nat → Nat → Int32) (nf : Nat → Nat) (R : Nat) (Φ : Nat → Nat → Nat) (w t : Nat) : Bool := @decide (slB x nf R Φ w t) (Classical.propDecidable _)
theorem slD_iff {x : Nat → Nat → Int32} {nf : Nat → Nat} {R : Nat} {Φ : Nat → Nat → Nat} {w t : Nat} : slD x nf R Φ w t = true ↔ slB x nf R Φ w t := by unfold slD; exact @decide_eq_true_iff _ (Classical.propDecidable _)
noncomputable def p_X5_selects (x : Nat → Nat → Int32) (nf : Nat → Nat) (R : Nat) (Φ : Nat → Nat → Nat) (w : Nat) (t : Nat) : Int32 := if (Φ t 0) = 4 then (if (64 : Int32) ≤ (p_X5_resolved x nf R Φ w t) then ((0 : Int32)) else ((1 : Int32))) else (if (Φ t 0) = 7 then (if (64 : Int32) ≤ (p_X5_resolved x nf R Φ w t) then ((0 : Int32)) else ((1 : Int32))) else ((0 : Int32)))
theorem pe_X5_selects (x : Nat → Nat → Int32) (nf : Nat → Nat) (R : Nat) (Φ : Nat → Nat → Nat) (w : Nat) (t : Nat) (hX : ∀ w, w < 2 → WX x w (nf w)) (wr : WR x R Φ) (hw : w < 2) (hnt : t < R)  : p_X5_selects x nf R Φ w t = b2i (slD x nf R Φ w t) := by
  rw [p_X5_selects]
  have e : slD x nf R Φ w t = true ↔ slB x nf R Φ w t := slD_iff
  unfold slB at e
  cases q : slD x nf R Φ w t with
  | true =>
    obtain ⟨h1, h2⟩ := e.mp q
    have h3 : ¬ 64 ≤ p_X5_resolved x nf R Φ w t := fun z => absurd h2 (Int32.not_lt.mpr z)
    rcases h1 with h1 | h1 <;> simp [h1, h3, b2i]
  | false =>
    have hn : ¬ ((Φ t 0 = 4 ∨ Φ t 0 = 7) ∧ p_X5_resolved x nf R Φ w t < 64) := fun z => by rw [e.mpr z] at q; exact absurd q (by decide)
    by_cases c1 : Φ t 0 = 4
    · have h3 : 64 ≤ p_X5_resolved x nf R Φ w t := Int32.not_lt.mp (fun z => hn ⟨Or.inl c1, z⟩)
      simp [c1, h3, b2i]
    · by_cases c2 : Φ t 0 = 7
      · have h3 : 64 ≤ p_X5_resolved x nf R Φ w t := Int32.not_lt.mp (fun z => hn ⟨Or.inr c2, z⟩)
        simp [c2, h3, b2i]
      · simp [c1, c2, b2i]
set_option maxHeartbeats 4000000 in
set_option maxRecDepth 100000 in
theorem c_X5_selects (l : Launch) (D : va_G) (cI cZ cB cR : ClassId) (a : Nat → Nat) (x : Nat → Nat → Int32) (r1 r2 : Nat → Int32) (nf : Nat → Nat) (R : Nat) (Φ : Nat → Nat → Nat) (w : Nat) (t : Nat) (hX : ∀ w, w < 2 → WX x w (nf w)) (wr : WR x R Φ) (hw : w < 2) (hnt : t < R)  : MUi l yX5_selects wsX5_selects ({ frames := 6, cells := 0, slots := 0, locals := 161 } : Room) D cI cZ cB cR (wX cI cZ a x r1 r2) [.ref (a 0), .int (nI w), .int (nI t)] (fun (u8 : (Nat → Int32) × (Nat → Int32)) => wX cI cZ a x u8.1 u8.2) (fun r _ => r = (b2i (slD x nf R Φ w t))) := by
  have hE : p_X5_selects x nf R Φ w t = b2i (slD x nf R Φ w t) := pe_X5_selects x nf R Φ w t hX wr hw hnt
  intro sz
  refine Met.ofW (cc := cX5_selects) (maxL := 3) (ret := (some .boolean)) (by decide) rfl ?_
  intro p e s m args below meth c s₁ B hml hv
  obtain ⟨hargs, hsz, hP, hEV, hD0⟩ := hv
  have hx := B.exec
  have hb := B.bytes
  have hr := B.returns
  have hts := atoms_spec (ws := wsX5_selects) B.pre
  have hown : s.vm.findClass RX5 = some m.cls := findClass_of_methodNamed B.named
  have hlocks := B.notSynchronized
  have hK := hEV.1
  have hl := lv_entry ([.ref (a 0), .int (nI w), .int (nI t)]) (n := 3) (Nat.le_of_ble_eq_true rfl)
  rw [show entryFrame m args 3 = entryFrame m ([.ref (a 0), .int (nI w), .int (nI t)] : List Value).toArray 3 from by rw [hargs], lg_entry_eq]
  generalize (lg_sl ([.ref (a 0), .int (nI w), .int (nI t)]) ++ List.replicate (3 - (lg_sl ([.ref (a 0), .int (nI w), .int (nI t)])).length) Slot.unset).toArray = ls at hl ⊢
  have hl : lv_has ls 3 [(0, .ref (a 0)), (1, .int (nI w)), (2, .int (nI t))] := hl
  subst hsz
  have hD := hD0.self (sz := s.heap.size)
  generalize hAe : va_A (wX cI cZ a x r1 r2) s.heap.size = A at hD ⊢
  have hA : ∀ q : Nat, s.heap.size ≤ q → A q := fun q h9 => by rw [← hAe]; exact Or.inr h9
  have hS : va_S A s.heap s.heap [] := va_S.rf
  rw [p_X5_selects] at hE
  have hR16 := wr.1
  have wx := hX w hw
  have hn30 := wx.2.2.1
  have hf9 := (wr.2.2 t hnt).1
  have hf0 := hf9.1
  have hf1 := hf9.2.1
  have hf2 := hf9.2.2.1
  have hf3 := hf9.2.2.2
  refine lv_aload_n hx hb dX5_selects_0 rfl (lv_at hl 0 rfl) ?_
  refine va_get (D := D) (ci := 5) (v := .ref (a 14)) (C := RX5) (T := TX5) (N := 21) hx hb hts (fun w9 h9 => List.mem_cons_of_mem _ (inT_X5 w9 h9)) hown hK hP 0 rfl rfl 13 (by decide) (hts (.fieldLink RX5 50 "LinkPredictorModel" "kind" "[I") (List.mem_cons_of_mem _ mw_3_79)) (fun _ h9 => h9) rfl dX5_selects_1 ?_
  refine lv_iload_n hx hb dX5_selects_4 rfl (lv_at hl 2 rfl) ?_
  refine ro_ald hx hb hEV hP 14 (j := t) rfl (by omega) (by decide) dX5_selects_5 ?_
  refine top_eq ((wr.2.2 t hnt).2.1) ?_
  refine lv_iconst (v := (4 : Int32)) hx hb dX5_selects_6 (by decide) ?_
  refine lv_icmp_eq (tgt := 21) hx hb dX5_selects_7 (by decide) (fun c_7 => ?_) (fun c_7 => ?_)
  · have c_7 : (Φ t 0) = 4 := (nI_eq (a := (Φ t 0)) (b := 4) (by omega) (by omega)).mp c_7
    have hE := (if_pos c_7).symm.trans hE
    refine lv_aload_n hx hb dX5_selects_21 rfl (lv_at hl 0 rfl) ?_
    refine lv_iload_n hx hb dX5_selects_22 rfl (lv_at hl 1 rfl) ?_
    refine lv_iload_n hx hb dX5_selects_23 rfl (lv_at hl 2 rfl) ?_
    refine mu_V [.int (nI w), .int (nI t)] [] ⟨hx, hb, hml, hown, hts⟩ (c_X5_resolved l D cI cZ cB cR a x r1 r2 nf R Φ w t hX wr (by omega) (by omega) ) (cwV (C := RX5) 2 hts (goodP (ps := [.methodLink RX5 143 yX5_resolved, .instanceMethod yX5_resolved, .selects RX5 yX5_resolved yX5_resolved, .initialized RX5]) (all4 mw_3_216 mw_3_218 ms_32 mw_1_6) mw_3_219) rfl rfl rfl (by decide +kernel) ⟨Nat.le_of_ble_eq_true rfl, Nat.le_of_ble_eq_true rfl⟩) hEV hP hD hS hA 0 rfl rfl rfl hl.1 rfl (Nat.le_of_ble_eq_true rfl) dX5_selects_24 ⟨Nat.zero_le _, Nat.zero_le _⟩ (fun r9 u9 H1 locs hw hP1 hk1 hS => ?_)
    subst hw
    obtain ⟨r1, r2⟩ := u9
    dsimp only at hP1
    have hP : va_P D vwCl (wX cI cZ a x r1 r2) H1 := hP1
    have hD : va_D A (wX cI cZ a x r1 r2) := hD.adr rfl
    generalize H1 = H at hP hS ⊢
    refine lv_bipush (v := (64 : Int32)) hx hb dX5_selects_27 (by decide) ?_
    refine lv_icmp_ge (tgt := 36) hx hb dX5_selects_29 (by decide) (fun c_29 => ?_) (fun c_29 => ?_)
    · skip
      have hE := (if_pos c_29).symm.trans hE
      refine lv_iconst (v := (0 : Int32)) hx hb dX5_selects_36 (by decide) ?_
      exact W.zret hx hb hr rfl (fun t9 ht9 _ => ⟨⟨_, (r1, r2), rfl, hE, by show va_P D vwCl _ t9.heap; rw [ht9]; exact hP⟩, hS.F ht9⟩) hS.2.2 dX5_selects_37
    · skip
      have hE := (if_neg c_29).symm.trans hE
      refine lv_iconst (v := (1 : Int32)) hx hb dX5_selects_32 (by decide) ?_
      refine lv_goto (tgt := 37) hx hb dX5_selects_33 (by decide) ?_
      exact W.zret hx hb hr rfl (fun t9 ht9 _ => ⟨⟨_, (r1, r2), rfl, hE, by show va_P D vwCl _ t9.heap; rw [ht9]; exact hP⟩, hS.F ht9⟩) hS.2.2 dX5_selects_37
  · have c_7 : ¬ ((Φ t 0) = 4) := fun q9 => c_7 ((nI_eq (a := (Φ t 0)) (b := 4) (by omega) (by omega)).mpr q9)
    have hE := (if_neg c_7).symm.trans hE
    refine lv_aload_n hx hb dX5_selects_10 rfl (lv_at hl 0 rfl) ?_
    refine va_get (D := D) (ci := 5) (v := .ref (a 14)) (C := RX5) (T := TX5) (N := 21) hx hb hts (fun w9 h9 => List.mem_cons_of_mem _ (inT_X5 w9 h9)) hown hK hP 0 rfl rfl 13 (by decide) (hts (.fieldLink RX5 50 "LinkPredictorModel" "kind" "[I") (List.mem_cons_of_mem _ mw_3_79)) (fun _ h9 => h9) rfl dX5_selects_11 ?_
    refine lv_iload_n hx hb dX5_selects_14 rfl (lv_at hl 2 rfl) ?_
    refine ro_ald hx hb hEV hP 14 (j := t) rfl (by omega) (by decide) dX5_selects_15 ?_
    refine top_eq ((wr.2.2 t hnt).2.1) ?_
    refine lv_bipush (v := (7 : Int32)) hx hb dX5_selects_16 (by decide) ?_
    refine lv_icmp_ne (tgt := 36) hx hb dX5_selects_18 (by decide) (fun c_18 => ?_) (fun c_18 => ?_)
    · have c_18 : ¬ ((Φ t 0) = 7) := fun q9 => c_18 ((nI_eq (a := (Φ t 0)) (b := 7) (by omega) (by omega)).mpr q9)
      have hE := (if_neg c_18).symm.trans hE
      refine lv_iconst (v := (0 : Int32)) hx hb dX5_selects_36 (by decide) ?_
      exact W.zret hx hb hr rfl (fun t9 ht9 _ => ⟨⟨_, (r1, r2), rfl, hE, by show va_P D vwCl _ t9.heap; rw [ht9]; exact hP⟩, hS.F ht9⟩) hS.2.2 dX5_selects_37
    · have c_18 : (Φ t 0) = 7 := (nI_eq (a := (Φ t 0)) (b := 7) (by omega) (by omega)).mp c_18
      have hE := (if_pos c_18).symm.trans hE
      refine lv_aload_n hx hb dX5_selects_21 rfl (lv_at hl 0 rfl) ?_
      refine lv_iload_n hx hb dX5_selects_22 rfl (lv_at hl 1 rfl) ?_
      refine lv_iload_n hx hb dX5_selects_23 rfl (lv_at hl 2 rfl) ?_
      refine mu_V [.int (nI w), .int (nI t)] [] ⟨hx, hb, hml, hown, hts⟩ (c_X5_resolved l D cI cZ cB cR a x r1 r2 nf R Φ w t hX wr (by omega) (by omega) ) (cwV (C := RX5) 2 hts (goodP (ps := [.methodLink RX5 143 yX5_resolved, .instanceMethod yX5_resolved, .selects RX5 yX5_resolved yX5_resolved, .initialized RX5]) (all4 mw_3_216 mw_3_218 ms_32 mw_1_6) mw_3_219) rfl rfl rfl (by decide +kernel) ⟨Nat.le_of_ble_eq_true rfl, Nat.le_of_ble_eq_true rfl⟩) hEV hP hD hS hA 0 rfl rfl rfl hl.1 rfl (Nat.le_of_ble_eq_true rfl) dX5_selects_24 ⟨Nat.zero_le _, Nat.zero_le _⟩ (fun r9 u9 H1 locs hw hP1 hk1 hS => ?_)
      subst hw
      obtain ⟨r1, r2⟩ := u9
      dsimp only at hP1
      have hP : va_P D vwCl (wX cI cZ a x r1 r2) H1 := hP1
      have hD : va_D A (wX cI cZ a x r1 r2) := hD.adr rfl
      generalize H1 = H at hP hS ⊢
      refine lv_bipush (v := (64 : Int32)) hx hb dX5_selects_27 (by decide) ?_
      refine lv_icmp_ge (tgt := 36) hx hb dX5_selects_29 (by decide) (fun c_29 => ?_) (fun c_29 => ?_)
      · skip
        have hE := (if_pos c_29).symm.trans hE
        refine lv_iconst (v := (0 : Int32)) hx hb dX5_selects_36 (by decide) ?_
        exact W.zret hx hb hr rfl (fun t9 ht9 _ => ⟨⟨_, (r1, r2), rfl, hE, by show va_P D vwCl _ t9.heap; rw [ht9]; exact hP⟩, hS.F ht9⟩) hS.2.2 dX5_selects_37
      · skip
        have hE := (if_neg c_29).symm.trans hE
        refine lv_iconst (v := (1 : Int32)) hx hb dX5_selects_32 (by decide) ?_
        refine lv_goto (tgt := 37) hx hb dX5_selects_33 (by decide) ?_
        exact W.zret hx hb hr rfl (fun t9 ht9 _ => ⟨⟨_, (r1, r2), rfl, hE, by show va_P D vwCl _ t9.heap; rw [ht9]; exact hP⟩, hS.F ht9⟩) hS.2.2 dX5_selects_37
theorem sl_g16 {x : Nat → Nat → Int32} {nf : Nat → Nat} {R : Nat} {Φ : Nat → Nat → Nat} {w t : Nat} (hX : ∀ w, w < 2 → WX x w (nf w)) (wr : WR x R Φ) (hw : w < 2) (ht : t < R) (h : slD x nf R Φ w t = true) : g16 (nf w) (p_X5_resolved x nf R Φ w t) := by
  obtain ⟨h1, h2⟩ := slD_iff.mp h
  exact res_g16 x nf R Φ w t hX wr hw ht (by omega) h2
noncomputable def p_X5_load (x : Nat → Nat → Int32) (nf : Nat → Nat) (R : Nat) (Φ : Nat → Nat → Nat) (t : Int32) (u : Int32) : Int32 := if (wi t (2 : Int32)) = true then (if (wi u (12 : Int32)) = true then (LV (vwX x (sN t)) (sN u)) else ((-1 : Int32))) else ((-1 : Int32))
set_option maxHeartbeats 4000000 in
set_option maxRecDepth 100000 in
theorem c_X5_load (l : Launch) (D : va_G) (cI cZ cB cR : ClassId) (a : Nat → Nat) (x : Nat → Nat → Int32) (r1 r2 : Nat → Int32) (nf : Nat → Nat) (R : Nat) (Φ : Nat → Nat → Nat) (t : Int32) (u : Int32) (hX : ∀ w, w < 2 → WX x w (nf w)) (wr : WR x R Φ)   : MUi l yX5_load wsX5_load ({ frames := 3, cells := 0, slots := 0, locals := 75 } : Room) D cI cZ cB cR (wX cI cZ a x r1 r2) [.ref (a 0), .int t, .int u] (fun (u8 : (Nat → Int32) × (Nat → Int32)) => wX cI cZ a x u8.1 u8.2) (fun r _ => r = (p_X5_load x nf R Φ t u)) := by
  generalize hE : p_X5_load x nf R Φ t u = tgt
  intro sz
  refine Met.ofW (cc := cX5_load) (maxL := 3) (ret := (some .int)) (by decide) rfl ?_
  intro p e s m args below meth c s₁ B hml hv
  obtain ⟨hargs, hsz, hP, hEV, hD0⟩ := hv
  have hx := B.exec
  have hb := B.bytes
  have hr := B.returns
  have hts := atoms_spec (ws := wsX5_load) B.pre
  have hown : s.vm.findClass RX5 = some m.cls := findClass_of_methodNamed B.named
  have hlocks := B.notSynchronized
  have hK := hEV.1
  have hl := lv_entry ([.ref (a 0), .int t, .int u]) (n := 3) (Nat.le_of_ble_eq_true rfl)
  rw [show entryFrame m args 3 = entryFrame m ([.ref (a 0), .int t, .int u] : List Value).toArray 3 from by rw [hargs], lg_entry_eq]
  generalize (lg_sl ([.ref (a 0), .int t, .int u]) ++ List.replicate (3 - (lg_sl ([.ref (a 0), .int t, .int u])).length) Slot.unset).toArray = ls at hl ⊢
  have hl : lv_has ls 3 [(0, .ref (a 0)), (1, .int t), (2, .int u)] := hl
  subst hsz
  have hD := hD0.self (sz := s.heap.size)
  generalize hAe : va_A (wX cI cZ a x r1 r2) s.heap.size = A at hD ⊢
  have hA : ∀ q : Nat, s.heap.size ≤ q → A q := fun q h9 => by rw [← hAe]; exact Or.inr h9
  have hS : va_S A s.heap s.heap [] := va_S.rf
  rw [p_X5_load] at hE
  have hR16 := wr.1
  refine lv_iload_n hx hb dX5_load_0 rfl (lv_at hl 1 rfl) ?_
  refine lv_iconst (v := (2 : Int32)) hx hb dX5_load_1 (by decide) ?_
  refine ro_S [.int t, .int (2 : Int32)] [] ⟨hx, hb, hml, hown, hts⟩ (c_X5_in l D cI cZ cB cR t (2 : Int32)) (va_cwS 2 hts (goodP (ps := [.methodLink RX5 72 yX5_in, .static yX5_in, .initialized RX5]) (all3 mw_3_135 mw_3_136 mw_1_6) mw_3_137) rfl rfl rfl (by decide +kernel) ⟨Nat.le_of_ble_eq_true rfl, Nat.le_of_ble_eq_true rfl⟩) hEV va_P0 rfl hl.1 rfl (Nat.le_of_ble_eq_true rfl) dX5_load_2 ⟨Nat.zero_le _, Nat.zero_le _⟩ ?_
  refine lv_if_eq (tgt := 26) hx hb dX5_load_5 (by decide) (fun c_5 => ?_) (fun c_5 => ?_)
  · have c_5 : ¬ ((wi t (2 : Int32)) = true) := b2i_f c_5
    have hE := (if_neg c_5).symm.trans hE
    refine lv_iconst (v := (-1 : Int32)) hx hb dX5_load_26 (by decide) ?_
    exact W.iret hx hb hr (fun t9 ht9 _ => ⟨⟨_, (r1, r2), rfl, hE, by show va_P D vwCl _ t9.heap; rw [ht9]; exact hP⟩, hS.F ht9⟩) hS.2.2 dX5_load_27
  · have c_5 : (wi t (2 : Int32)) = true := b2i_t c_5
    have hE := (if_pos c_5).symm.trans hE
    refine lv_iload_n hx hb dX5_load_8 rfl (lv_at hl 2 rfl) ?_
    refine lv_bipush (v := (12 : Int32)) hx hb dX5_load_9 (by decide) ?_
    refine ro_S [.int u, .int (12 : Int32)] [] ⟨hx, hb, hml, hown, hts⟩ (c_X5_in l D cI cZ cB cR u (12 : Int32)) (va_cwS 2 hts (goodP (ps := [.methodLink RX5 72 yX5_in, .static yX5_in, .initialized RX5]) (all3 mw_3_135 mw_3_136 mw_1_6) mw_3_137) rfl rfl rfl (by decide +kernel) ⟨Nat.le_of_ble_eq_true rfl, Nat.le_of_ble_eq_true rfl⟩) hEV va_P0 rfl hl.1 rfl (Nat.le_of_ble_eq_true rfl) dX5_load_11 ⟨Nat.zero_le _, Nat.zero_le _⟩ ?_
    refine lv_if_eq (tgt := 26) hx hb dX5_load_14 (by decide) (fun c_14 => ?_) (fun c_14 => ?_)
    · have c_14 : ¬ ((wi u (12 : Int32)) = true) := b2i_f c_14
      have hE := (if_neg c_14).symm.trans hE
      refine lv_iconst (v := (-1 : Int32)) hx hb dX5_load_26 (by decide) ?_
      exact W.iret hx hb hr (fun t9 ht9 _ => ⟨⟨_, (r1, r2), rfl, hE, by show va_P D vwCl _ t9.heap; rw [ht9]; exact hP⟩, hS.F ht9⟩) hS.2.2 dX5_load_27
    · have c_14 : (wi u (12 : Int32)) = true := b2i_t c_14
      have hE := (if_pos c_14).symm.trans hE
      have ht9 := wi_sN (b := 2) (by omega) c_5
      have ht8 := ht9.1
      have hu9 := wi_sN (b := 12) (by omega) c_14
      have hu8 := hu9.1
      refine lv_aload_n hx hb dX5_load_17 rfl (lv_at hl 0 rfl) ?_
      refine lv_iload_n hx hb dX5_load_18 rfl (lv_at hl 1 rfl) ?_
      refine top_eq (ht9.2) ?_
      refine lv_iload_n hx hb dX5_load_19 rfl (lv_at hl 2 rfl) ?_
      refine top_eq (hu9.2) ?_
      refine mu_V [.int (nI (sN t)), .int (nI (sN u))] [] ⟨hx, hb, hml, hown, hts⟩ (c_X5_loadedR l D cI cZ cB cR a x r1 r2 (sN t) (nf (sN t)) (sN u) (by omega) (hX (sN t) (by omega)) (by omega) ) (cwV (C := RX5) 2 hts (goodP (ps := [.methodLink RX5 104 yX5_loaded, .instanceMethod yX5_loaded, .selects RX5 yX5_loaded yX5_loaded, .initialized RX5]) (all4 mw_3_194 mw_3_196 ms_29 mw_1_6) mw_3_197) rfl rfl rfl (by decide +kernel) ⟨Nat.le_of_ble_eq_true rfl, Nat.le_of_ble_eq_true rfl⟩) hEV hP hD hS hA 0 rfl rfl rfl hl.1 rfl (Nat.le_of_ble_eq_true rfl) dX5_load_20 ⟨Nat.zero_le _, Nat.zero_le _⟩ (fun r9 u9 H1 locs hw hP1 hk1 hS => ?_)
      subst hw
      obtain ⟨r1, r2⟩ := u9
      dsimp only at hP1
      have hP : va_P D vwCl (wX cI cZ a x r1 r2) H1 := hP1
      have hD : va_D A (wX cI cZ a x r1 r2) := hD.adr rfl
      generalize H1 = H at hP hS ⊢
      refine lv_goto (tgt := 27) hx hb dX5_load_23 (by decide) ?_
      exact W.iret hx hb hr (fun t9 ht9 _ => ⟨⟨_, (r1, r2), rfl, hE, by show va_P D vwCl _ t9.heap; rw [ht9]; exact hP⟩, hS.F ht9⟩) hS.2.2 dX5_load_27
noncomputable def p_X5_isUnder (x : Nat → Nat → Int32) (nf : Nat → Nat) (R : Nat) (Φ : Nat → Nat → Nat) (t : Int32) (u : Int32) (v : Int32) : Int32 := if (wi t (2 : Int32)) = true then (if (wi u (12 : Int32)) = true then (if (wi v (12 : Int32)) = true then (if (gdB (vwX x (sN t)) (sN u)) = true then (if (gdB (vwX x (sN t)) (sN v)) = true then (if (abB (vwX x (sN t)) (sN u) (sN v) || fcB (vwX x (sN t)) (sN u) (sN v)) = true then ((1 : Int32)) else ((0 : Int32))) else ((0 : Int32))) else ((0 : Int32))) else ((0 : Int32))) else ((0 : Int32))) else ((0 : Int32))
set_option maxHeartbeats 4000000 in
set_option maxRecDepth 100000 in
theorem c_X5_isUnder (l : Launch) (D : va_G) (cI cZ cB cR : ClassId) (a : Nat → Nat) (x : Nat → Nat → Int32) (r1 r2 : Nat → Int32) (nf : Nat → Nat) (R : Nat) (Φ : Nat → Nat → Nat) (t : Int32) (u : Int32) (v : Int32) (hX : ∀ w, w < 2 → WX x w (nf w)) (wr : WR x R Φ)   : MUi l yX5_isUnder wsX5_isUnder ({ frames := 4, cells := 0, slots := 0, locals := 97 } : Room) D cI cZ cB cR (wX cI cZ a x r1 r2) [.ref (a 0), .int t, .int u, .int v] (fun (u8 : (Nat → Int32) × (Nat → Int32)) => wX cI cZ a x u8.1 u8.2) (fun r _ => r = (p_X5_isUnder x nf R Φ t u v)) := by
  generalize hE : p_X5_isUnder x nf R Φ t u v = tgt
  intro sz
  refine Met.ofW (cc := cX5_isUnder) (maxL := 4) (ret := (some .boolean)) (by decide) rfl ?_
  intro p e s m args below meth c s₁ B hml hv
  obtain ⟨hargs, hsz, hP, hEV, hD0⟩ := hv
  have hx := B.exec
  have hb := B.bytes
  have hr := B.returns
  have hts := atoms_spec (ws := wsX5_isUnder) B.pre
  have hown : s.vm.findClass RX5 = some m.cls := findClass_of_methodNamed B.named
  have hlocks := B.notSynchronized
  have hK := hEV.1
  have hl := lv_entry ([.ref (a 0), .int t, .int u, .int v]) (n := 4) (Nat.le_of_ble_eq_true rfl)
  rw [show entryFrame m args 4 = entryFrame m ([.ref (a 0), .int t, .int u, .int v] : List Value).toArray 4 from by rw [hargs], lg_entry_eq]
  generalize (lg_sl ([.ref (a 0), .int t, .int u, .int v]) ++ List.replicate (4 - (lg_sl ([.ref (a 0), .int t, .int u, .int v])).length) Slot.unset).toArray = ls at hl ⊢
  have hl : lv_has ls 4 [(0, .ref (a 0)), (1, .int t), (2, .int u), (3, .int v)] := hl
  subst hsz
  have hD := hD0.self (sz := s.heap.size)
  generalize hAe : va_A (wX cI cZ a x r1 r2) s.heap.size = A at hD ⊢
  have hA : ∀ q : Nat, s.heap.size ≤ q → A q := fun q h9 => by rw [← hAe]; exact Or.inr h9
  have hS : va_S A s.heap s.heap [] := va_S.rf
  rw [p_X5_isUnder] at hE
  have hR16 := wr.1
  refine lv_iload_n hx hb dX5_isUnder_0 rfl (lv_at hl 1 rfl) ?_
  refine lv_iconst (v := (2 : Int32)) hx hb dX5_isUnder_1 (by decide) ?_
  refine ro_S [.int t, .int (2 : Int32)] [] ⟨hx, hb, hml, hown, hts⟩ (c_X5_in l D cI cZ cB cR t (2 : Int32)) (va_cwS 2 hts (goodP (ps := [.methodLink RX5 72 yX5_in, .static yX5_in, .initialized RX5]) (all3 mw_3_135 mw_3_136 mw_1_6) mw_3_137) rfl rfl rfl (by decide +kernel) ⟨Nat.le_of_ble_eq_true rfl, Nat.le_of_ble_eq_true rfl⟩) hEV va_P0 rfl hl.1 rfl (Nat.le_of_ble_eq_true rfl) dX5_isUnder_2 ⟨Nat.zero_le _, Nat.zero_le _⟩ ?_
  refine lv_if_eq (tgt := 58) hx hb dX5_isUnder_5 (by decide) (fun c_5 => ?_) (fun c_5 => ?_)
  · have c_5 : ¬ ((wi t (2 : Int32)) = true) := b2i_f c_5
    have hE := (if_neg c_5).symm.trans hE
    refine lv_iconst (v := (0 : Int32)) hx hb dX5_isUnder_58 (by decide) ?_
    exact W.zret hx hb hr rfl (fun t9 ht9 _ => ⟨⟨_, (r1, r2), rfl, hE, by show va_P D vwCl _ t9.heap; rw [ht9]; exact hP⟩, hS.F ht9⟩) hS.2.2 dX5_isUnder_59
  · have c_5 : (wi t (2 : Int32)) = true := b2i_t c_5
    have hE := (if_pos c_5).symm.trans hE
    refine lv_iload_n hx hb dX5_isUnder_8 rfl (lv_at hl 2 rfl) ?_
    refine lv_bipush (v := (12 : Int32)) hx hb dX5_isUnder_9 (by decide) ?_
    refine ro_S [.int u, .int (12 : Int32)] [] ⟨hx, hb, hml, hown, hts⟩ (c_X5_in l D cI cZ cB cR u (12 : Int32)) (va_cwS 2 hts (goodP (ps := [.methodLink RX5 72 yX5_in, .static yX5_in, .initialized RX5]) (all3 mw_3_135 mw_3_136 mw_1_6) mw_3_137) rfl rfl rfl (by decide +kernel) ⟨Nat.le_of_ble_eq_true rfl, Nat.le_of_ble_eq_true rfl⟩) hEV va_P0 rfl hl.1 rfl (Nat.le_of_ble_eq_true rfl) dX5_isUnder_11 ⟨Nat.zero_le _, Nat.zero_le _⟩ ?_
    refine lv_if_eq (tgt := 58) hx hb dX5_isUnder_14 (by decide) (fun c_14 => ?_) (fun c_14 => ?_)
    · have c_14 : ¬ ((wi u (12 : Int32)) = true) := b2i_f c_14
      have hE := (if_neg c_14).symm.trans hE
      refine lv_iconst (v := (0 : Int32)) hx hb dX5_isUnder_58 (by decide) ?_
      exact W.zret hx hb hr rfl (fun t9 ht9 _ => ⟨⟨_, (r1, r2), rfl, hE, by show va_P D vwCl _ t9.heap; rw [ht9]; exact hP⟩, hS.F ht9⟩) hS.2.2 dX5_isUnder_59
    · have c_14 : (wi u (12 : Int32)) = true := b2i_t c_14
      have hE := (if_pos c_14).symm.trans hE
      refine lv_iload_n hx hb dX5_isUnder_17 rfl (lv_at hl 3 rfl) ?_
      refine lv_bipush (v := (12 : Int32)) hx hb dX5_isUnder_18 (by decide) ?_
      refine ro_S [.int v, .int (12 : Int32)] [] ⟨hx, hb, hml, hown, hts⟩ (c_X5_in l D cI cZ cB cR v (12 : Int32)) (va_cwS 2 hts (goodP (ps := [.methodLink RX5 72 yX5_in, .static yX5_in, .initialized RX5]) (all3 mw_3_135 mw_3_136 mw_1_6) mw_3_137) rfl rfl rfl (by decide +kernel) ⟨Nat.le_of_ble_eq_true rfl, Nat.le_of_ble_eq_true rfl⟩) hEV va_P0 rfl hl.1 rfl (Nat.le_of_ble_eq_true rfl) dX5_isUnder_20 ⟨Nat.zero_le _, Nat.zero_le _⟩ ?_
      refine lv_if_eq (tgt := 58) hx hb dX5_isUnder_23 (by decide) (fun c_23 => ?_) (fun c_23 => ?_)
      · have c_23 : ¬ ((wi v (12 : Int32)) = true) := b2i_f c_23
        have hE := (if_neg c_23).symm.trans hE
        refine lv_iconst (v := (0 : Int32)) hx hb dX5_isUnder_58 (by decide) ?_
        exact W.zret hx hb hr rfl (fun t9 ht9 _ => ⟨⟨_, (r1, r2), rfl, hE, by show va_P D vwCl _ t9.heap; rw [ht9]; exact hP⟩, hS.F ht9⟩) hS.2.2 dX5_isUnder_59
      · have c_23 : (wi v (12 : Int32)) = true := b2i_t c_23
        have hE := (if_pos c_23).symm.trans hE
        have ht9 := wi_sN (b := 2) (by omega) c_5
        have ht8 := ht9.1
        have hu9 := wi_sN (b := 12) (by omega) c_14
        have hu8 := hu9.1
        have hv9 := wi_sN (b := 12) (by omega) c_23
        have hv8 := hv9.1
        refine lv_aload_n hx hb dX5_isUnder_26 rfl (lv_at hl 0 rfl) ?_
        refine lv_iload_n hx hb dX5_isUnder_27 rfl (lv_at hl 1 rfl) ?_
        refine top_eq (ht9.2) ?_
        refine lv_iload_n hx hb dX5_isUnder_28 rfl (lv_at hl 2 rfl) ?_
        refine top_eq (hu9.2) ?_
        refine mu_V [.int (nI (sN t)), .int (nI (sN u))] [] ⟨hx, hb, hml, hown, hts⟩ (c_X5_isLoaded l D cI cZ cB cR a x r1 r2 (sN t) (nf (sN t)) (sN u) (by omega) (hX (sN t) (by omega)) (by omega) ) (cwV (C := RX5) 2 hts (goodP (ps := [.methodLink RX5 146 yX5_isLoaded, .instanceMethod yX5_isLoaded, .selects RX5 yX5_isLoaded yX5_isLoaded, .initialized RX5]) (all4 mw_4_36 mw_4_38 ms_46 mw_1_6) mw_4_39) rfl rfl rfl (by decide +kernel) ⟨Nat.le_of_ble_eq_true rfl, Nat.le_of_ble_eq_true rfl⟩) hEV hP hD hS hA 0 rfl rfl rfl hl.1 rfl (Nat.le_of_ble_eq_true rfl) dX5_isUnder_29 ⟨Nat.zero_le _, Nat.zero_le _⟩ (fun r9 u9 H1 locs hw hP1 hk1 hS => ?_)
        subst hw
        obtain ⟨r1, r2⟩ := u9
        dsimp only at hP1
        have hP : va_P D vwCl (wX cI cZ a x r1 r2) H1 := hP1
        have hD : va_D A (wX cI cZ a x r1 r2) := hD.adr rfl
        generalize H1 = H at hP hS ⊢
        refine lv_if_eq (tgt := 58) hx hb dX5_isUnder_32 (by decide) (fun c_32 => ?_) (fun c_32 => ?_)
        · have c_32 : ¬ ((gdB (vwX x (sN t)) (sN u)) = true) := b2i_f c_32
          have hE := (if_neg c_32).symm.trans hE
          refine lv_iconst (v := (0 : Int32)) hx hb dX5_isUnder_58 (by decide) ?_
          exact W.zret hx hb hr rfl (fun t9 ht9 _ => ⟨⟨_, (r1, r2), rfl, hE, by show va_P D vwCl _ t9.heap; rw [ht9]; exact hP⟩, hS.F ht9⟩) hS.2.2 dX5_isUnder_59
        · have c_32 : (gdB (vwX x (sN t)) (sN u)) = true := b2i_t c_32
          have hE := (if_pos c_32).symm.trans hE
          refine lv_aload_n hx hb dX5_isUnder_35 rfl (lv_at hl 0 rfl) ?_
          refine lv_iload_n hx hb dX5_isUnder_36 rfl (lv_at hl 1 rfl) ?_
          refine top_eq (ht9.2) ?_
          refine lv_iload_n hx hb dX5_isUnder_37 rfl (lv_at hl 3 rfl) ?_
          refine top_eq (hv9.2) ?_
          refine mu_V [.int (nI (sN t)), .int (nI (sN v))] [] ⟨hx, hb, hml, hown, hts⟩ (c_X5_isLoaded l D cI cZ cB cR a x r1 r2 (sN t) (nf (sN t)) (sN v) (by omega) (hX (sN t) (by omega)) (by omega) ) (cwV (C := RX5) 2 hts (goodP (ps := [.methodLink RX5 146 yX5_isLoaded, .instanceMethod yX5_isLoaded, .selects RX5 yX5_isLoaded yX5_isLoaded, .initialized RX5]) (all4 mw_4_36 mw_4_38 ms_46 mw_1_6) mw_4_39) rfl rfl rfl (by decide +kernel) ⟨Nat.le_of_ble_eq_true rfl, Nat.le_of_ble_eq_true rfl⟩) hEV hP hD hS hA 0 rfl rfl rfl hl.1 rfl (Nat.le_of_ble_eq_true rfl) dX5_isUnder_38 ⟨Nat.zero_le _, Nat.zero_le _⟩ (fun r9 u9 H1 locs hw hP1 hk1 hS => ?_)
          subst hw
          obtain ⟨r1, r2⟩ := u9
          dsimp only at hP1
          have hP : va_P D vwCl (wX cI cZ a x r1 r2) H1 := hP1
          have hD : va_D A (wX cI cZ a x r1 r2) := hD.adr rfl
          generalize H1 = H at hP hS ⊢
          refine lv_if_eq (tgt := 58) hx hb dX5_isUnder_41 (by decide) (fun c_41 => ?_) (fun c_41 => ?_)
          · have c_41 : ¬ ((gdB (vwX x (sN t)) (sN v)) = true) := b2i_f c_41
            have hE := (if_neg c_41).symm.trans hE
            refine lv_iconst (v := (0 : Int32)) hx hb dX5_isUnder_58 (by decide) ?_
            exact W.zret hx hb hr rfl (fun t9 ht9 _ => ⟨⟨_, (r1, r2), rfl, hE, by show va_P D vwCl _ t9.heap; rw [ht9]; exact hP⟩, hS.F ht9⟩) hS.2.2 dX5_isUnder_59
          · have c_41 : (gdB (vwX x (sN t)) (sN v)) = true := b2i_t c_41
            have hE := (if_pos c_41).symm.trans hE
            refine lv_aload_n hx hb dX5_isUnder_44 rfl (lv_at hl 0 rfl) ?_
            refine lv_iload_n hx hb dX5_isUnder_45 rfl (lv_at hl 1 rfl) ?_
            refine top_eq (ht9.2) ?_
            refine lv_iload_n hx hb dX5_isUnder_46 rfl (lv_at hl 2 rfl) ?_
            refine top_eq (hu9.2) ?_
            refine lv_iload_n hx hb dX5_isUnder_47 rfl (lv_at hl 3 rfl) ?_
            refine top_eq (hv9.2) ?_
            refine ro_V [.int (nI (sN t)), .int (nI (sN u)), .int (nI (sN v))] [] ⟨hx, hb, hml, hown, hts⟩ (c_X5_under l D cI cZ cB cR a x r1 r2 (sN t) (nf (sN t)) (sN u) (sN v) (by omega) (hX (sN t) (by omega)) (by omega) (by omega) (gdB_iff.mp c_32)) (cwV (C := RX5) 3 hts (goodP (ps := [.methodLink RX5 116 yX5_under, .instanceMethod yX5_under, .selects RX5 yX5_under yX5_under, .initialized RX5]) (all4 mw_4_8 mw_4_10 ms_40 mw_1_6) mw_4_11) rfl rfl rfl (by decide +kernel) ⟨Nat.le_of_ble_eq_true rfl, Nat.le_of_ble_eq_true rfl⟩) hEV hP 0 rfl rfl rfl hl.1 rfl (Nat.le_of_ble_eq_true rfl) dX5_isUnder_48 ⟨Nat.zero_le _, Nat.zero_le _⟩ ?_
            refine lv_if_eq (tgt := 58) hx hb dX5_isUnder_51 (by decide) (fun c_51 => ?_) (fun c_51 => ?_)
            · have c_51 : ¬ ((abB (vwX x (sN t)) (sN u) (sN v) || fcB (vwX x (sN t)) (sN u) (sN v)) = true) := b2i_f c_51
              have hE := (if_neg c_51).symm.trans hE
              refine lv_iconst (v := (0 : Int32)) hx hb dX5_isUnder_58 (by decide) ?_
              exact W.zret hx hb hr rfl (fun t9 ht9 _ => ⟨⟨_, (r1, r2), rfl, hE, by show va_P D vwCl _ t9.heap; rw [ht9]; exact hP⟩, hS.F ht9⟩) hS.2.2 dX5_isUnder_59
            · have c_51 : (abB (vwX x (sN t)) (sN u) (sN v) || fcB (vwX x (sN t)) (sN u) (sN v)) = true := b2i_t c_51
              have hE := (if_pos c_51).symm.trans hE
              refine lv_iconst (v := (1 : Int32)) hx hb dX5_isUnder_54 (by decide) ?_
              refine lv_goto (tgt := 59) hx hb dX5_isUnder_55 (by decide) ?_
              exact W.zret hx hb hr rfl (fun t9 ht9 _ => ⟨⟨_, (r1, r2), rfl, hE, by show va_P D vwCl _ t9.heap; rw [ht9]; exact hP⟩, hS.F ht9⟩) hS.2.2 dX5_isUnder_59
noncomputable def p_X5_resolve (x : Nat → Nat → Int32) (nf : Nat → Nat) (R : Nat) (Φ : Nat → Nat → Nat) (t : Int32) (u : Int32) : Int32 := if (wi t 2 && wi u (x 19 0)) = true then (p_X5_resolved x nf R Φ (sN t) (sN u)) else ((-1 : Int32))
set_option maxHeartbeats 4000000 in
set_option maxRecDepth 100000 in
theorem c_X5_resolve (l : Launch) (D : va_G) (cI cZ cB cR : ClassId) (a : Nat → Nat) (x : Nat → Nat → Int32) (r1 r2 : Nat → Int32) (nf : Nat → Nat) (R : Nat) (Φ : Nat → Nat → Nat) (t : Int32) (u : Int32) (hX : ∀ w, w < 2 → WX x w (nf w)) (wr : WR x R Φ)   : MUi l yX5_resolve wsX5_resolve ({ frames := 6, cells := 0, slots := 0, locals := 161 } : Room) D cI cZ cB cR (wX cI cZ a x r1 r2) [.ref (a 0), .int t, .int u] (fun (u8 : (Nat → Int32) × (Nat → Int32)) => wX cI cZ a x u8.1 u8.2) (fun r _ => r = (p_X5_resolve x nf R Φ t u)) := by
  generalize hE : p_X5_resolve x nf R Φ t u = tgt
  intro sz
  refine Met.ofW (cc := cX5_resolve) (maxL := 3) (ret := (some .int)) (by decide) rfl ?_
  intro p e s m args below meth c s₁ B hml hv
  obtain ⟨hargs, hsz, hP, hEV, hD0⟩ := hv
  have hx := B.exec
  have hb := B.bytes
  have hr := B.returns
  have hts := atoms_spec (ws := wsX5_resolve) B.pre
  have hown : s.vm.findClass RX5 = some m.cls := findClass_of_methodNamed B.named
  have hlocks := B.notSynchronized
  have hK := hEV.1
  have hl := lv_entry ([.ref (a 0), .int t, .int u]) (n := 3) (Nat.le_of_ble_eq_true rfl)
  rw [show entryFrame m args 3 = entryFrame m ([.ref (a 0), .int t, .int u] : List Value).toArray 3 from by rw [hargs], lg_entry_eq]
  generalize (lg_sl ([.ref (a 0), .int t, .int u]) ++ List.replicate (3 - (lg_sl ([.ref (a 0), .int t, .int u])).length) Slot.unset).toArray = ls at hl ⊢
  have hl : lv_has ls 3 [(0, .ref (a 0)), (1, .int t), (2, .int u)] := hl
  subst hsz
  have hD := hD0.self (sz := s.heap.size)
  generalize hAe : va_A (wX cI cZ a x r1 r2) s.heap.size = A at hD ⊢
  have hA : ∀ q : Nat, s.heap.size ≤ q → A q := fun q h9 => by rw [← hAe]; exact Or.inr h9
  have hS : va_S A s.heap s.heap [] := va_S.rf
  rw [p_X5_resolve] at hE
  have hR16 := wr.1
  refine lv_aload_n hx hb dX5_resolve_0 rfl (lv_at hl 0 rfl) ?_
  refine lv_iload_n hx hb dX5_resolve_1 rfl (lv_at hl 1 rfl) ?_
  refine lv_iload_n hx hb dX5_resolve_2 rfl (lv_at hl 2 rfl) ?_
  refine ro_V [.int t, .int u] [] ⟨hx, hb, hml, hown, hts⟩ (c_X5_isAsk l D cI cZ cB cR a x r1 r2 0 (nf 0) t u  ) (cwV (C := RX5) 2 hts (goodP (ps := [.methodLink RX5 152 yX5_isAsk, .instanceMethod yX5_isAsk, .selects RX5 yX5_isAsk yX5_isAsk, .initialized RX5]) (all4 mw_3_212 mw_3_214 ms_31 mw_1_6) mw_3_215) rfl rfl rfl (by decide +kernel) ⟨Nat.le_of_ble_eq_true rfl, Nat.le_of_ble_eq_true rfl⟩) hEV hP 0 rfl rfl rfl hl.1 rfl (Nat.le_of_ble_eq_true rfl) dX5_resolve_3 ⟨Nat.zero_le _, Nat.zero_le _⟩ ?_
  refine lv_if_eq (tgt := 18) hx hb dX5_resolve_6 (by decide) (fun c_6 => ?_) (fun c_6 => ?_)
  · have c_6 : ¬ ((wi t 2 && wi u (x 19 0)) = true) := b2i_f c_6
    have hE := (if_neg c_6).symm.trans hE
    refine lv_iconst (v := (-1 : Int32)) hx hb dX5_resolve_18 (by decide) ?_
    exact W.iret hx hb hr (fun t9 ht9 _ => ⟨⟨_, (r1, r2), rfl, hE, by show va_P D vwCl _ t9.heap; rw [ht9]; exact hP⟩, hS.F ht9⟩) hS.2.2 dX5_resolve_19
  · have c_6 : (wi t 2 && wi u (x 19 0)) = true := b2i_t c_6
    have hE := (if_pos c_6).symm.trans hE
    have hk9 := Bool.and_eq_true_iff.mp c_6
    have hk8 := hk9.2
    rw [wr.2.1] at hk8
    have ht9 := wi_sN (b := 2) (by omega) hk9.1
    have ht8 := ht9.1
    have hu9 := wi_sN (b := R) (by omega) hk8
    have hu8 := hu9.1
    refine lv_aload_n hx hb dX5_resolve_9 rfl (lv_at hl 0 rfl) ?_
    refine lv_iload_n hx hb dX5_resolve_10 rfl (lv_at hl 1 rfl) ?_
    refine top_eq (ht9.2) ?_
    refine lv_iload_n hx hb dX5_resolve_11 rfl (lv_at hl 2 rfl) ?_
    refine top_eq (hu9.2) ?_
    refine mu_V [.int (nI (sN t)), .int (nI (sN u))] [] ⟨hx, hb, hml, hown, hts⟩ (c_X5_resolved l D cI cZ cB cR a x r1 r2 nf R Φ (sN t) (sN u) hX wr (by omega) (by omega) ) (cwV (C := RX5) 2 hts (goodP (ps := [.methodLink RX5 143 yX5_resolved, .instanceMethod yX5_resolved, .selects RX5 yX5_resolved yX5_resolved, .initialized RX5]) (all4 mw_3_216 mw_3_218 ms_32 mw_1_6) mw_3_219) rfl rfl rfl (by decide +kernel) ⟨Nat.le_of_ble_eq_true rfl, Nat.le_of_ble_eq_true rfl⟩) hEV hP hD hS hA 0 rfl rfl rfl hl.1 rfl (Nat.le_of_ble_eq_true rfl) dX5_resolve_12 ⟨Nat.zero_le _, Nat.zero_le _⟩ (fun r9 u9 H1 locs hw hP1 hk1 hS => ?_)
    subst hw
    obtain ⟨r1, r2⟩ := u9
    dsimp only at hP1
    have hP : va_P D vwCl (wX cI cZ a x r1 r2) H1 := hP1
    have hD : va_D A (wX cI cZ a x r1 r2) := hD.adr rfl
    generalize H1 = H at hP hS ⊢
    refine lv_goto (tgt := 19) hx hb dX5_resolve_15 (by decide) ?_
    exact W.iret hx hb hr (fun t9 ht9 _ => ⟨⟨_, (r1, r2), rfl, hE, by show va_P D vwCl _ t9.heap; rw [ht9]; exact hP⟩, hS.F ht9⟩) hS.2.2 dX5_resolve_19
noncomputable def p_X5_select (x : Nat → Nat → Int32) (nf : Nat → Nat) (R : Nat) (Φ : Nat → Nat → Nat) (t : Int32) (u : Int32) (v : Int32) : Int32 := if (wi t 2 && wi u (x 19 0)) = true then (if (wi v (12 : Int32)) = true then (if (slD x nf R Φ (sN t) (sN u)) = true then (p_X5_selected x nf R Φ (sN t) (sN u) (sN v)) else ((-2 : Int32))) else ((-1 : Int32))) else ((-1 : Int32))
set_option maxHeartbeats 4000000 in
set_option maxRecDepth 100000 in
theorem c_X5_select (l : Launch) (D : va_G) (cI cZ cB cR : ClassId) (a : Nat → Nat) (x : Nat → Nat → Int32) (r1 r2 : Nat → Int32) (nf : Nat → Nat) (R : Nat) (Φ : Nat → Nat → Nat) (t : Int32) (u : Int32) (v : Int32) (hX : ∀ w, w < 2 → WX x w (nf w)) (wr : WR x R Φ)   : MUi l yX5_select wsX5_select ({ frames := 7, cells := 0, slots := 0, locals := 190 } : Room) D cI cZ cB cR (wX cI cZ a x r1 r2) [.ref (a 0), .int t, .int u, .int v] (fun (u8 : (Nat → Int32) × (Nat → Int32)) => wX cI cZ a x u8.1 u8.2) (fun r _ => r = (p_X5_select x nf R Φ t u v)) := by
  generalize hE : p_X5_select x nf R Φ t u v = tgt
  intro sz
  refine Met.ofW (cc := cX5_select) (maxL := 4) (ret := (some .int)) (by decide) rfl ?_
  intro p e s m args below meth c s₁ B hml hv
  obtain ⟨hargs, hsz, hP, hEV, hD0⟩ := hv
  have hx := B.exec
  have hb := B.bytes
  have hr := B.returns
  have hts := atoms_spec (ws := wsX5_select) B.pre
  have hown : s.vm.findClass RX5 = some m.cls := findClass_of_methodNamed B.named
  have hlocks := B.notSynchronized
  have hK := hEV.1
  have hl := lv_entry ([.ref (a 0), .int t, .int u, .int v]) (n := 4) (Nat.le_of_ble_eq_true rfl)
  rw [show entryFrame m args 4 = entryFrame m ([.ref (a 0), .int t, .int u, .int v] : List Value).toArray 4 from by rw [hargs], lg_entry_eq]
  generalize (lg_sl ([.ref (a 0), .int t, .int u, .int v]) ++ List.replicate (4 - (lg_sl ([.ref (a 0), .int t, .int u, .int v])).length) Slot.unset).toArray = ls at hl ⊢
  have hl : lv_has ls 4 [(0, .ref (a 0)), (1, .int t), (2, .int u), (3, .int v)] := hl
  subst hsz
  have hD := hD0.self (sz := s.heap.size)
  generalize hAe : va_A (wX cI cZ a x r1 r2) s.heap.size = A at hD ⊢
  have hA : ∀ q : Nat, s.heap.size ≤ q → A q := fun q h9 => by rw [← hAe]; exact Or.inr h9
  have hS : va_S A s.heap s.heap [] := va_S.rf
  rw [p_X5_select] at hE
  have hR16 := wr.1
  refine lv_aload_n hx hb dX5_select_0 rfl (lv_at hl 0 rfl) ?_
  refine lv_iload_n hx hb dX5_select_1 rfl (lv_at hl 1 rfl) ?_
  refine lv_iload_n hx hb dX5_select_2 rfl (lv_at hl 2 rfl) ?_
  refine ro_V [.int t, .int u] [] ⟨hx, hb, hml, hown, hts⟩ (c_X5_isAsk l D cI cZ cB cR a x r1 r2 0 (nf 0) t u  ) (cwV (C := RX5) 2 hts (goodP (ps := [.methodLink RX5 152 yX5_isAsk, .instanceMethod yX5_isAsk, .selects RX5 yX5_isAsk yX5_isAsk, .initialized RX5]) (all4 mw_3_212 mw_3_214 ms_31 mw_1_6) mw_3_215) rfl rfl rfl (by decide +kernel) ⟨Nat.le_of_ble_eq_true rfl, Nat.le_of_ble_eq_true rfl⟩) hEV hP 0 rfl rfl rfl hl.1 rfl (Nat.le_of_ble_eq_true rfl) dX5_select_3 ⟨Nat.zero_le _, Nat.zero_le _⟩ ?_
  refine lv_if_eq (tgt := 18) hx hb dX5_select_6 (by decide) (fun c_6 => ?_) (fun c_6 => ?_)
  · have c_6 : ¬ ((wi t 2 && wi u (x 19 0)) = true) := b2i_f c_6
    have hE := (if_neg c_6).symm.trans hE
    refine lv_iconst (v := (-1 : Int32)) hx hb dX5_select_18 (by decide) ?_
    exact W.iret hx hb hr (fun t9 ht9 _ => ⟨⟨_, (r1, r2), rfl, hE, by show va_P D vwCl _ t9.heap; rw [ht9]; exact hP⟩, hS.F ht9⟩) hS.2.2 dX5_select_19
  · have c_6 : (wi t 2 && wi u (x 19 0)) = true := b2i_t c_6
    have hE := (if_pos c_6).symm.trans hE
    refine lv_iload_n hx hb dX5_select_9 rfl (lv_at hl 3 rfl) ?_
    refine lv_bipush (v := (12 : Int32)) hx hb dX5_select_10 (by decide) ?_
    refine ro_S [.int v, .int (12 : Int32)] [] ⟨hx, hb, hml, hown, hts⟩ (c_X5_in l D cI cZ cB cR v (12 : Int32)) (va_cwS 2 hts (goodP (ps := [.methodLink RX5 72 yX5_in, .static yX5_in, .initialized RX5]) (all3 mw_3_135 mw_3_136 mw_1_6) mw_3_137) rfl rfl rfl (by decide +kernel) ⟨Nat.le_of_ble_eq_true rfl, Nat.le_of_ble_eq_true rfl⟩) hEV va_P0 rfl hl.1 rfl (Nat.le_of_ble_eq_true rfl) dX5_select_12 ⟨Nat.zero_le _, Nat.zero_le _⟩ ?_
    refine lv_if_ne (tgt := 20) hx hb dX5_select_15 (by decide) (fun c_15 => ?_) (fun c_15 => ?_)
    · have c_15 : (wi v (12 : Int32)) = true := b2i_t c_15
      have hE := (if_pos c_15).symm.trans hE
      have hk9 := Bool.and_eq_true_iff.mp c_6
      have hk8 := hk9.2
      rw [wr.2.1] at hk8
      have ht9 := wi_sN (b := 2) (by omega) hk9.1
      have ht8 := ht9.1
      have hu9 := wi_sN (b := R) (by omega) hk8
      have hu8 := hu9.1
      have hv9 := wi_sN (b := 12) (by omega) c_15
      have hv8 := hv9.1
      refine lv_aload_n hx hb dX5_select_20 rfl (lv_at hl 0 rfl) ?_
      refine lv_iload_n hx hb dX5_select_21 rfl (lv_at hl 1 rfl) ?_
      refine top_eq (ht9.2) ?_
      refine lv_iload_n hx hb dX5_select_22 rfl (lv_at hl 2 rfl) ?_
      refine top_eq (hu9.2) ?_
      refine mu_V [.int (nI (sN t)), .int (nI (sN u))] [] ⟨hx, hb, hml, hown, hts⟩ (c_X5_selects l D cI cZ cB cR a x r1 r2 nf R Φ (sN t) (sN u) hX wr (by omega) (by omega) ) (cwV (C := RX5) 2 hts (goodP (ps := [.methodLink RX5 155 yX5_selects, .instanceMethod yX5_selects, .selects RX5 yX5_selects yX5_selects, .initialized RX5]) (all4 mw_4_28 mw_4_30 ms_44 mw_1_6) mw_4_31) rfl rfl rfl (by decide +kernel) ⟨Nat.le_of_ble_eq_true rfl, Nat.le_of_ble_eq_true rfl⟩) hEV hP hD hS hA 0 rfl rfl rfl hl.1 rfl (Nat.le_of_ble_eq_true rfl) dX5_select_23 ⟨Nat.zero_le _, Nat.zero_le _⟩ (fun r9 u9 H1 locs hw hP1 hk1 hS => ?_)
      subst hw
      obtain ⟨r1, r2⟩ := u9
      dsimp only at hP1
      have hP : va_P D vwCl (wX cI cZ a x r1 r2) H1 := hP1
      have hD : va_D A (wX cI cZ a x r1 r2) := hD.adr rfl
      generalize H1 = H at hP hS ⊢
      refine lv_if_eq (tgt := 39) hx hb dX5_select_26 (by decide) (fun c_26 => ?_) (fun c_26 => ?_)
      · have c_26 : ¬ ((slD x nf R Φ (sN t) (sN u)) = true) := b2i_f c_26
        have hE := (if_neg c_26).symm.trans hE
        refine lv_bipush (v := (-2 : Int32)) hx hb dX5_select_39 (by decide) ?_
        exact W.iret hx hb hr (fun t9 ht9 _ => ⟨⟨_, (r1, r2), rfl, hE, by show va_P D vwCl _ t9.heap; rw [ht9]; exact hP⟩, hS.F ht9⟩) hS.2.2 dX5_select_41
      · have c_26 : (slD x nf R Φ (sN t) (sN u)) = true := b2i_t c_26
        have hE := (if_pos c_26).symm.trans hE
        refine lv_aload_n hx hb dX5_select_29 rfl (lv_at hl 0 rfl) ?_
        refine lv_iload_n hx hb dX5_select_30 rfl (lv_at hl 1 rfl) ?_
        refine top_eq (ht9.2) ?_
        refine lv_iload_n hx hb dX5_select_31 rfl (lv_at hl 2 rfl) ?_
        refine top_eq (hu9.2) ?_
        refine lv_iload_n hx hb dX5_select_32 rfl (lv_at hl 3 rfl) ?_
        refine top_eq (hv9.2) ?_
        refine mu_V [.int (nI (sN t)), .int (nI (sN u)), .int (nI (sN v))] [] ⟨hx, hb, hml, hown, hts⟩ (c_X5_selected l D cI cZ cB cR a x r1 r2 nf R Φ (sN t) (sN u) (sN v) hX wr (by omega) (by omega) (by omega) (sl_g16 hX wr ht8 hu8 c_26)) (cwV (C := RX5) 3 hts (goodP (ps := [.methodLink RX5 158 yX5_selected, .instanceMethod yX5_selected, .selects RX5 yX5_selected yX5_selected, .initialized RX5]) (all4 mw_4_32 mw_4_34 ms_45 mw_1_6) mw_4_35) rfl rfl rfl (by decide +kernel) ⟨Nat.le_of_ble_eq_true rfl, Nat.le_of_ble_eq_true rfl⟩) hEV hP hD hS hA 0 rfl rfl rfl hl.1 rfl (Nat.le_of_ble_eq_true rfl) dX5_select_33 ⟨Nat.zero_le _, Nat.zero_le _⟩ (fun r9 u9 H1 locs hw hP1 hk1 hS => ?_)
        subst hw
        obtain ⟨r1, r2⟩ := u9
        dsimp only at hP1
        have hP : va_P D vwCl (wX cI cZ a x r1 r2) H1 := hP1
        have hD : va_D A (wX cI cZ a x r1 r2) := hD.adr rfl
        generalize H1 = H at hP hS ⊢
        refine lv_goto (tgt := 41) hx hb dX5_select_36 (by decide) ?_
        exact W.iret hx hb hr (fun t9 ht9 _ => ⟨⟨_, (r1, r2), rfl, hE, by show va_P D vwCl _ t9.heap; rw [ht9]; exact hP⟩, hS.F ht9⟩) hS.2.2 dX5_select_41
    · have c_15 : ¬ ((wi v (12 : Int32)) = true) := b2i_f c_15
      have hE := (if_neg c_15).symm.trans hE
      refine lv_iconst (v := (-1 : Int32)) hx hb dX5_select_18 (by decide) ?_
      exact W.iret hx hb hr (fun t9 ht9 _ => ⟨⟨_, (r1, r2), rfl, hE, by show va_P D vwCl _ t9.heap; rw [ht9]; exact hP⟩, hS.F ht9⟩) hS.2.2 dX5_select_19
