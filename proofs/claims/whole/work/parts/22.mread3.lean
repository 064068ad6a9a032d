noncomputable def p_X5_find_148 (x : Nat → Nat → Int32) (w n : Nat) (t : Nat) (u : Nat) : Nat → Nat → Int32
  | 0, _ => 0
  | k + 1, n7 => if n ≤ n7 then ((-1 : Int32)) else (if (x 7 ((30 * w) + n7)) = (0 : Int32) then (if (x 6 ((30 * w) + n7)) = (0 : Int32) then (p_X5_find_148 x w n t u k (n7 + 1)) else (if (x 10 ((30 * w) + n7)) = (nI u) then (if (bt (facI (vwX x w) t) (sN (x 9 (30 * w + n7)))) = true then (if (x 11 ((30 * w) + n7)) = (0 : Int32) then (p_X5_find_148 x w n t u k (n7 + 1)) else (if ((x 12 ((30 * w) + n7)) &&& (1 : Int32)) = (0 : Int32) then (nI n7) else (p_X5_find_148 x w n t u k (n7 + 1)))) else (p_X5_find_148 x w n t u k (n7 + 1))) else (p_X5_find_148 x w n t u k (n7 + 1)))) else (p_X5_find_148 x w n t u k (n7 + 1)))
noncomputable def p_X5_find_26 (x : Nat → Nat → Int32) (w n : Nat) (t : Nat) (u : Nat) : Nat → Int32 → Bool → Int32
  | 0, _, _ => 0
  | k + 1, v5, z4 => if v5 < (0 : Int32) then (if (p_X5_bodied x w n (spI (vwX x w) (vmX x w) n t (kyF true (nI u))) u) < (0 : Int32) then (p_X5_find_148 x w n t u 31 0) else (p_X5_bodied x w n (spI (vwX x w) (vmX x w) n t (kyF true (nI u))) u)) else (if (0 : Int32) ≤ (odI (vmX x w) n (sN v5) (kyF true (nI u))) then (if z4 = true then (if (sN v5) = t then (odI (vmX x w) n (sN v5) (kyF true (nI u))) else (if (x 11 ((30 * w) + (fdN (vmX x w) n (sN v5) (kyF true (nI u))))) = (3 : Int32) then (if ((x 12 ((30 * w) + (fdN (vmX x w) n (sN v5) (kyF true (nI u))))) &&& (1 : Int32)) = (0 : Int32) then (odI (vmX x w) n (sN v5) (kyF true (nI u))) else (p_X5_find_26 x w n t u k (x 3 ((12 * w) + (sN v5))) z4)) else (p_X5_find_26 x w n t u k (x 3 ((12 * w) + (sN v5))) z4))) else (odI (vmX x w) n (sN v5) (kyF true (nI u)))) else (p_X5_find_26 x w n t u k (x 3 ((12 * w) + (sN v5))) z4))
noncomputable def p_X5_find (x : Nat → Nat → Int32) (w n : Nat) (t : Nat) (u : Nat) : Int32 := if ((x 1 ((12 * w) + t)) &&& (2 : Int32)) = (0 : Int32) then (p_X5_find_26 x w n t u 14 (nI t) false) else (p_X5_find_26 x w n t u 14 (nI t) true)
set_option maxHeartbeats 4000000 in
set_option maxRecDepth 100000 in
theorem c_X5_find (l : Launch) (D : va_G) (cI cZ cB cR : ClassId) (a : Nat → Nat) (x : Nat → Nat → Int32) (r1 r2 : Nat → Int32) (w n : Nat) (t : Nat) (u : Nat) (hw : w < 2) (wx : WX x w n) (hnt : t < 12) (hnu : u < 15) (gt : Gd (vwX x w) t) : RO l yX5_find wsX5_find ({ frames := 4, cells := 0, slots := 0, locals := 102 } : Room) D cI cZ cB cR (wX cI cZ a x r1 r2) [.ref (a 0), .int (nI w), .int (nI t), .int (nI u)] (p_X5_find x w n t u) := by
  generalize hE : p_X5_find x w n t u = tgt
  refine Met.ofW (cc := cX5_find) (maxL := 9) (ret := (some .int)) (by decide) rfl ?_
  intro p e s m args below meth c s₁ B hml hv
  obtain ⟨hargs, hP, hEV⟩ := hv
  have hx := B.exec
  have hb := B.bytes
  have hr := B.returns
  have hts := atoms_spec (ws := wsX5_find) B.pre
  have hown : s.vm.findClass RX5 = some m.cls := findClass_of_methodNamed B.named
  have hlocks := B.notSynchronized
  have hK := hEV.1
  have hl := lv_entry ([.ref (a 0), .int (nI w), .int (nI t), .int (nI u)]) (n := 9) (Nat.le_of_ble_eq_true rfl)
  rw [show entryFrame m args 9 = entryFrame m ([.ref (a 0), .int (nI w), .int (nI t), .int (nI u)] : List Value).toArray 9 from by rw [hargs], lg_entry_eq]
  generalize (lg_sl ([.ref (a 0), .int (nI w), .int (nI t), .int (nI u)]) ++ List.replicate (9 - (lg_sl ([.ref (a 0), .int (nI w), .int (nI t), .int (nI u)])).length) Slot.unset).toArray = ls at hl ⊢
  have hl : lv_has ls 9 [(0, .ref (a 0)), (1, .int (nI w)), (2, .int (nI t)), (3, .int (nI u))] := hl
  rw [p_X5_find] at hE
  have hn30 := wx.2.2.1
  have key_148 : ∀ (k_148 : Nat) (n7 : Nat) (ls : Array Slot), (30 - n7) < k_148 → n7 ≤ n → lv_has ls 9 [(7, .int (nI n7)), (6, .int (facI (vwX x w) t)), (0, .ref (a 0)), (1, .int (nI w)), (3, .int (nI u))] → p_X5_find_148 x w n t u k_148 n7 = tgt → W p l e (headSpec wsX5_find ({ frames := 4, cells := 0, slots := 0, locals := 102 } : Room)).room s m args below meth c s.heap [] 0 0 (MQ below (vp_Si (fun r => r = tgt)) args s 0 0 (fun _ => False)) (F0 m 148 ls []) := by
    intro k_148
    induction k_148 with
    | zero => intro n7 ls hm; exact absurd hm (Nat.not_lt_zero _)
    | succ k_148 ih_148 =>
      intro n7 ls hm_148 hi_148_0 hl hE
      rw [p_X5_find_148] at hE
      refine lv_iload hx hb dX5_find_148 (lv_at hl 0 rfl) ?_
      refine lv_aload_n hx hb dX5_find_150 rfl (lv_at hl 2 rfl) ?_
      refine va_get (D := D) (ci := 5) (v := .ref (a 9)) (C := RX5) (T := TX5) (N := 21) hx hb hts (fun w9 h9 => List.mem_cons_of_mem _ (inT_X5 w9 h9)) hown hK hP 0 rfl rfl 8 (by decide) (hts (.fieldLink RX5 35 "LinkPredictorModel" "many" "[I") (List.mem_cons_of_mem _ mw_3_74)) (fun _ h9 => h9) rfl dX5_find_151 ?_
      refine lv_iload_n hx hb dX5_find_154 rfl (lv_at hl 3 rfl) ?_
      refine ro_ald hx hb hEV hP 9 (j := w) rfl (by omega) (by decide) dX5_find_155 ?_
      refine top_eq (wx.2.1) ?_
      refine lv_icmp_ge (tgt := 245) hx hb dX5_find_156 (by decide) (fun c_156 => ?_) (fun c_156 => ?_)
      · have c_156 : n ≤ n7 := (nI_leI (a := n) (b := n7) (by omega) (by omega)).mp c_156
        have hE := (if_pos c_156).symm.trans hE
        refine lv_iconst (v := (-1 : Int32)) hx hb dX5_find_245 (by decide) ?_
        exact W.iret hx hb hr (fun t9 ht9 _ => ⟨_, rfl, hE, ht9⟩) (fun _ h9 => by cases h9) dX5_find_246
      · have c_156 : ¬ (n ≤ n7) := fun q9 => c_156 ((nI_leI (a := n) (b := n7) (by omega) (by omega)).mpr q9)
        have hE := (if_neg c_156).symm.trans hE
        refine lv_bipush (v := (30 : Int32)) hx hb dX5_find_159 (by decide) ?_
        refine lv_iload_n hx hb dX5_find_161 rfl (lv_at hl 3 rfl) ?_
        refine lv_imul hx hb dX5_find_162 ?_
        refine top_eq (pk_mul 30 w) ?_
        refine lv_iload hx hb dX5_find_163 (lv_at hl 0 rfl) ?_
        refine lv_iadd hx hb dX5_find_165 ?_
        refine top_eq (nI_add (30 * w) n7) ?_
        refine lv_istore (lv' := [(8, .int (nI ((30 * w) + n7))), (7, .int (nI n7)), (6, .int (facI (vwX x w) t)), (0, .ref (a 0)), (1, .int (nI w)), (3, .int (nI u))]) hx hb dX5_find_166 hl (by decide) rfl (fun ls hl => ?_)
        refine lv_aload_n hx hb dX5_find_168 rfl (lv_at hl 3 rfl) ?_
        refine va_get (D := D) (ci := 5) (v := .ref (a 8)) (C := RX5) (T := TX5) (N := 21) hx hb hts (fun w9 h9 => List.mem_cons_of_mem _ (inT_X5 w9 h9)) hown hK hP 0 rfl rfl 7 (by decide) (hts (.fieldLink RX5 32 "LinkPredictorModel" "gone" "[Z") (List.mem_cons_of_mem _ mw_3_73)) (fun _ h9 => h9) rfl dX5_find_169 ?_
        refine lv_iload hx hb dX5_find_172 (lv_at hl 0 rfl) ?_
        refine ro_zld hx hb hEV hP 8 (j := ((30 * w) + n7)) rfl (by omega) (by decide) dX5_find_174 ?_
        refine lv_if_ne (tgt := 239) hx hb dX5_find_175 (by decide) (fun c_175 => ?_) (fun c_175 => ?_)
        · skip
          have hE := (if_neg c_175).symm.trans hE
          refine lv_iinc (v := nI (n7 + 1)) (lv' := [(7, .int (nI (n7 + 1))), (8, .int (nI ((30 * w) + n7))), (6, .int (facI (vwX x w) t)), (0, .ref (a 0)), (1, .int (nI w)), (3, .int (nI u))]) hx hb dX5_find_239 hl (k := 1) rfl (nI_1 _) (by decide) rfl (fun ls hl => ?_)
          refine lv_goto (tgt := 148) hx hb dX5_find_242 (by decide) ?_
          exact ih_148 (n7 + 1) ls (by omega) (by omega) (lv_sub hl [0, 2, 3, 4, 5] rfl) hE
        · skip
          have hE := (if_pos c_175).symm.trans hE
          refine lv_aload_n hx hb dX5_find_178 rfl (lv_at hl 3 rfl) ?_
          refine va_get (D := D) (ci := 5) (v := .ref (a 7)) (C := RX5) (T := TX5) (N := 21) hx hb hts (fun w9 h9 => List.mem_cons_of_mem _ (inT_X5 w9 h9)) hown hK hP 0 rfl rfl 6 (by decide) (hts (.fieldLink RX5 29 "LinkPredictorModel" "method" "[Z") (List.mem_cons_of_mem _ mw_3_72)) (fun _ h9 => h9) rfl dX5_find_179 ?_
          refine lv_iload hx hb dX5_find_182 (lv_at hl 0 rfl) ?_
          refine ro_zld hx hb hEV hP 7 (j := ((30 * w) + n7)) rfl (by omega) (by decide) dX5_find_184 ?_
          refine lv_if_eq (tgt := 239) hx hb dX5_find_185 (by decide) (fun c_185 => ?_) (fun c_185 => ?_)
          · skip
            have hE := (if_pos c_185).symm.trans hE
            refine lv_iinc (v := nI (n7 + 1)) (lv' := [(7, .int (nI (n7 + 1))), (8, .int (nI ((30 * w) + n7))), (6, .int (facI (vwX x w) t)), (0, .ref (a 0)), (1, .int (nI w)), (3, .int (nI u))]) hx hb dX5_find_239 hl (k := 1) rfl (nI_1 _) (by decide) rfl (fun ls hl => ?_)
            refine lv_goto (tgt := 148) hx hb dX5_find_242 (by decide) ?_
            exact ih_148 (n7 + 1) ls (by omega) (by omega) (lv_sub hl [0, 2, 3, 4, 5] rfl) hE
          · skip
            have hE := (if_neg c_185).symm.trans hE
            refine lv_aload_n hx hb dX5_find_188 rfl (lv_at hl 3 rfl) ?_
            refine va_get (D := D) (ci := 5) (v := .ref (a 11)) (C := RX5) (T := TX5) (N := 21) hx hb hts (fun w9 h9 => List.mem_cons_of_mem _ (inT_X5 w9 h9)) hown hK hP 0 rfl rfl 10 (by decide) (hts (.fieldLink RX5 41 "LinkPredictorModel" "sign" "[I") (List.mem_cons_of_mem _ mw_3_76)) (fun _ h9 => h9) rfl dX5_find_189 ?_
            refine lv_iload hx hb dX5_find_192 (lv_at hl 0 rfl) ?_
            refine ro_ald hx hb hEV hP 11 (j := ((30 * w) + n7)) rfl (by omega) (by decide) dX5_find_194 ?_
            refine lv_iload_n hx hb dX5_find_195 rfl (lv_at hl 5 rfl) ?_
            refine lv_icmp_ne (tgt := 239) hx hb dX5_find_196 (by decide) (fun c_196 => ?_) (fun c_196 => ?_)
            · skip
              have hE := (if_neg c_196).symm.trans hE
              refine lv_iinc (v := nI (n7 + 1)) (lv' := [(7, .int (nI (n7 + 1))), (8, .int (nI ((30 * w) + n7))), (6, .int (facI (vwX x w) t)), (0, .ref (a 0)), (1, .int (nI w)), (3, .int (nI u))]) hx hb dX5_find_239 hl (k := 1) rfl (nI_1 _) (by decide) rfl (fun ls hl => ?_)
              refine lv_goto (tgt := 148) hx hb dX5_find_242 (by decide) ?_
              exact ih_148 (n7 + 1) ls (by omega) (by omega) (lv_sub hl [0, 2, 3, 4, 5] rfl) hE
            · skip
              have hE := (if_pos c_196).symm.trans hE
              refine lv_iload hx hb dX5_find_199 (lv_at hl 2 rfl) ?_
              refine lv_aload_n hx hb dX5_find_201 rfl (lv_at hl 3 rfl) ?_
              refine va_get (D := D) (ci := 5) (v := .ref (a 10)) (C := RX5) (T := TX5) (N := 21) hx hb hts (fun w9 h9 => List.mem_cons_of_mem _ (inT_X5 w9 h9)) hown hK hP 0 rfl rfl 9 (by decide) (hts (.fieldLink RX5 38 "LinkPredictorModel" "owner" "[I") (List.mem_cons_of_mem _ mw_3_75)) (fun _ h9 => h9) rfl dX5_find_202 ?_
              refine lv_iload hx hb dX5_find_205 (lv_at hl 0 rfl) ?_
              refine ro_ald hx hb hEV hP 10 (j := ((30 * w) + n7)) rfl (by omega) (by decide) dX5_find_207 ?_
              refine top_eq ((wx.2.2.2 n7 (by omega)).1.2) ?_
              have ho9 := (wx.2.2.2 n7 (by omega)).1.1
              refine ro_S [.int (facI (vwX x w) t), .int (nI (sN (x 9 (30 * w + n7))))] [] ⟨hx, hb, hml, hown, hts⟩ (c_X5_has l D cI cZ cB cR (facI (vwX x w) t) (sN (x 9 (30 * w + n7))) (by omega)) (va_cwS 2 hts (goodP (ps := [.methodLink RX5 94 yX5_has, .static yX5_has, .initialized RX5]) (all3 mw_3_201 mw_3_202 mw_1_6) mw_3_203) rfl rfl rfl (by decide +kernel) ⟨Nat.le_of_ble_eq_true rfl, Nat.le_of_ble_eq_true rfl⟩) hEV va_P0 rfl hl.1 rfl (Nat.le_of_ble_eq_true rfl) dX5_find_208 ⟨Nat.zero_le _, Nat.zero_le _⟩ ?_
              refine lv_if_eq (tgt := 239) hx hb dX5_find_211 (by decide) (fun c_211 => ?_) (fun c_211 => ?_)
              · have c_211 : ¬ ((bt (facI (vwX x w) t) (sN (x 9 (30 * w + n7)))) = true) := b2i_f c_211
                have hE := (if_neg c_211).symm.trans hE
                refine lv_iinc (v := nI (n7 + 1)) (lv' := [(7, .int (nI (n7 + 1))), (8, .int (nI ((30 * w) + n7))), (6, .int (facI (vwX x w) t)), (0, .ref (a 0)), (1, .int (nI w)), (3, .int (nI u))]) hx hb dX5_find_239 hl (k := 1) rfl (nI_1 _) (by decide) rfl (fun ls hl => ?_)
                refine lv_goto (tgt := 148) hx hb dX5_find_242 (by decide) ?_
                exact ih_148 (n7 + 1) ls (by omega) (by omega) (lv_sub hl [0, 2, 3, 4, 5] rfl) hE
              · have c_211 : (bt (facI (vwX x w) t) (sN (x 9 (30 * w + n7)))) = true := b2i_t c_211
                have hE := (if_pos c_211).symm.trans hE
                refine lv_aload_n hx hb dX5_find_214 rfl (lv_at hl 3 rfl) ?_
                refine va_get (D := D) (ci := 5) (v := .ref (a 12)) (C := RX5) (T := TX5) (N := 21) hx hb hts (fun w9 h9 => List.mem_cons_of_mem _ (inT_X5 w9 h9)) hown hK hP 0 rfl rfl 11 (by decide) (hts (.fieldLink RX5 44 "LinkPredictorModel" "access" "[I") (List.mem_cons_of_mem _ mw_3_77)) (fun _ h9 => h9) rfl dX5_find_215 ?_
                refine lv_iload hx hb dX5_find_218 (lv_at hl 0 rfl) ?_
                refine ro_ald hx hb hEV hP 12 (j := ((30 * w) + n7)) rfl (by omega) (by decide) dX5_find_220 ?_
                refine lv_if_eq (tgt := 239) hx hb dX5_find_221 (by decide) (fun c_221 => ?_) (fun c_221 => ?_)
                · skip
                  have hE := (if_pos c_221).symm.trans hE
                  refine lv_iinc (v := nI (n7 + 1)) (lv' := [(7, .int (nI (n7 + 1))), (8, .int (nI ((30 * w) + n7))), (6, .int (facI (vwX x w) t)), (0, .ref (a 0)), (1, .int (nI w)), (3, .int (nI u))]) hx hb dX5_find_239 hl (k := 1) rfl (nI_1 _) (by decide) rfl (fun ls hl => ?_)
                  refine lv_goto (tgt := 148) hx hb dX5_find_242 (by decide) ?_
                  exact ih_148 (n7 + 1) ls (by omega) (by omega) (lv_sub hl [0, 2, 3, 4, 5] rfl) hE
                · skip
                  have hE := (if_neg c_221).symm.trans hE
                  refine lv_aload_n hx hb dX5_find_224 rfl (lv_at hl 3 rfl) ?_
                  refine va_get (D := D) (ci := 5) (v := .ref (a 13)) (C := RX5) (T := TX5) (N := 21) hx hb hts (fun w9 h9 => List.mem_cons_of_mem _ (inT_X5 w9 h9)) hown hK hP 0 rfl rfl 12 (by decide) (hts (.fieldLink RX5 47 "LinkPredictorModel" "marks" "[I") (List.mem_cons_of_mem _ mw_3_78)) (fun _ h9 => h9) rfl dX5_find_225 ?_
                  refine lv_iload hx hb dX5_find_228 (lv_at hl 0 rfl) ?_
                  refine ro_ald hx hb hEV hP 13 (j := ((30 * w) + n7)) rfl (by omega) (by decide) dX5_find_230 ?_
                  refine lv_iconst (v := (1 : Int32)) hx hb dX5_find_231 (by decide) ?_
                  refine lv_iand hx hb dX5_find_232 ?_
                  refine lv_if_ne (tgt := 239) hx hb dX5_find_233 (by decide) (fun c_233 => ?_) (fun c_233 => ?_)
                  · skip
                    have hE := (if_neg c_233).symm.trans hE
                    refine lv_iinc (v := nI (n7 + 1)) (lv' := [(7, .int (nI (n7 + 1))), (8, .int (nI ((30 * w) + n7))), (6, .int (facI (vwX x w) t)), (0, .ref (a 0)), (1, .int (nI w)), (3, .int (nI u))]) hx hb dX5_find_239 hl (k := 1) rfl (nI_1 _) (by decide) rfl (fun ls hl => ?_)
                    refine lv_goto (tgt := 148) hx hb dX5_find_242 (by decide) ?_
                    exact ih_148 (n7 + 1) ls (by omega) (by omega) (lv_sub hl [0, 2, 3, 4, 5] rfl) hE
                  · skip
                    have hE := (if_pos c_233).symm.trans hE
                    refine lv_iload hx hb dX5_find_236 (lv_at hl 1 rfl) ?_
                    exact W.iret hx hb hr (fun t9 ht9 _ => ⟨_, rfl, hE, ht9⟩) (fun _ h9 => by cases h9) dX5_find_238
  have key_26 : ∀ (k_26 : Nat) (v5 : Int32) (z4 : Bool) (ls : Array Slot), 0 < k_26 → v5 = -1 ∨ (isT v5 ∧ gN (vwX x w) (k_26 - 1) (sN v5) = true) → lv_has ls 9 [(5, .int v5), (4, .int (b2i z4)), (0, .ref (a 0)), (1, .int (nI w)), (2, .int (nI t)), (3, .int (nI u))] → p_X5_find_26 x w n t u k_26 v5 z4 = tgt → W p l e (headSpec wsX5_find ({ frames := 4, cells := 0, slots := 0, locals := 102 } : Room)).room s m args below meth c s.heap [] 0 0 (MQ below (vp_Si (fun r => r = tgt)) args s 0 0 (fun _ => False)) (F0 m 26 ls []) := by
    intro k_26
    induction k_26 with
    | zero => intro v5 z4 ls hm; exact absurd hm (Nat.not_lt_zero _)
    | succ k_26 ih_26 =>
      intro v5 z4 ls hm_26 hi_26_0 hl hE
      rw [p_X5_find_26] at hE
      refine lv_iload hx hb dX5_find_26 (lv_at hl 0 rfl) ?_
      refine lv_if_lt (tgt := 114) hx hb dX5_find_28 (by decide) (fun c_28 => ?_) (fun c_28 => ?_)
      · skip
        have hE := (if_pos c_28).symm.trans hE
        refine lv_aload_n hx hb dX5_find_114 rfl (lv_at hl 2 rfl) ?_
        refine lv_iload_n hx hb dX5_find_115 rfl (lv_at hl 3 rfl) ?_
        refine lv_aload_n hx hb dX5_find_116 rfl (lv_at hl 2 rfl) ?_
        refine lv_iload_n hx hb dX5_find_117 rfl (lv_at hl 3 rfl) ?_
        refine lv_iload_n hx hb dX5_find_118 rfl (lv_at hl 4 rfl) ?_
        refine lv_iload_n hx hb dX5_find_119 rfl (lv_at hl 5 rfl) ?_
        refine ro_V [.int (nI w), .int (nI t), .int (nI u)] [.int (nI w), .ref (a 0)] ⟨hx, hb, hml, hown, hts⟩ (c_X5_specific l D cI cZ cB cR a x r1 r2 w n t u (by omega) wx (by omega) (by omega) gt) (cwV (C := RX5) 3 hts (goodP (ps := [.methodLink RX5 126 yX5_specific, .instanceMethod yX5_specific, .selects RX5 yX5_specific yX5_specific, .initialized RX5]) (all4 mw_3_232 mw_3_234 ms_36 mw_1_6) mw_3_235) rfl rfl rfl (by decide +kernel) ⟨Nat.le_of_ble_eq_true rfl, Nat.le_of_ble_eq_true rfl⟩) hEV hP 0 rfl rfl rfl hl.1 rfl (Nat.le_of_ble_eq_true rfl) dX5_find_120 ⟨Nat.zero_le _, Nat.zero_le _⟩ ?_
        refine lv_iload_n hx hb dX5_find_123 rfl (lv_at hl 5 rfl) ?_
        refine ro_V [.int (nI w), .int (spI (vwX x w) (vmX x w) n t (kyF true (nI u))), .int (nI u)] [] ⟨hx, hb, hml, hown, hts⟩ (c_X5_bodied l D cI cZ cB cR a x r1 r2 w n (spI (vwX x w) (vmX x w) n t (kyF true (nI u))) u (by omega) wx (by omega) (fun f9 h9 q9 => spI_fd h9 q9)) (cwV (C := RX5) 3 hts (goodP (ps := [.methodLink RX5 130 yX5_bodied, .instanceMethod yX5_bodied, .selects RX5 yX5_bodied yX5_bodied, .initialized RX5]) (all4 mw_4_12 mw_4_14 ms_41 mw_1_6) mw_4_15) rfl rfl rfl (by decide +kernel) ⟨Nat.le_of_ble_eq_true rfl, Nat.le_of_ble_eq_true rfl⟩) hEV hP 0 rfl rfl rfl hl.1 rfl (Nat.le_of_ble_eq_true rfl) dX5_find_124 ⟨Nat.zero_le _, Nat.zero_le _⟩ ?_
        refine lv_istore (lv' := [(5, .int (p_X5_bodied x w n (spI (vwX x w) (vmX x w) n t (kyF true (nI u))) u)), (4, .int (b2i z4)), (0, .ref (a 0)), (1, .int (nI w)), (2, .int (nI t)), (3, .int (nI u))]) hx hb dX5_find_127 hl (by decide) rfl (fun ls hl => ?_)
        refine lv_iload hx hb dX5_find_129 (lv_at hl 0 rfl) ?_
        refine lv_if_lt (tgt := 137) hx hb dX5_find_131 (by decide) (fun c_131 => ?_) (fun c_131 => ?_)
        · skip
          have hE := (if_pos c_131).symm.trans hE
          refine lv_aload_n hx hb dX5_find_137 rfl (lv_at hl 2 rfl) ?_
          refine lv_iload_n hx hb dX5_find_138 rfl (lv_at hl 3 rfl) ?_
          refine lv_iload_n hx hb dX5_find_139 rfl (lv_at hl 4 rfl) ?_
          refine ro_V [.int (nI w), .int (nI t)] [] ⟨hx, hb, hml, hown, hts⟩ (c_X5_facesOf l D cI cZ cB cR a x r1 r2 w n t (by omega) wx (by omega) gt) (cwV (C := RX5) 2 hts (goodP (ps := [.methodLink RX5 110 yX5_facesOf, .instanceMethod yX5_facesOf, .selects RX5 yX5_facesOf yX5_facesOf, .initialized RX5]) (all4 mw_3_236 mw_3_238 ms_37 mw_1_6) mw_3_239) rfl rfl rfl (by decide +kernel) ⟨Nat.le_of_ble_eq_true rfl, Nat.le_of_ble_eq_true rfl⟩) hEV hP 0 rfl rfl rfl hl.1 rfl (Nat.le_of_ble_eq_true rfl) dX5_find_140 ⟨Nat.zero_le _, Nat.zero_le _⟩ ?_
          refine lv_istore (lv' := [(6, .int (facI (vwX x w) t)), (5, .int (p_X5_bodied x w n (spI (vwX x w) (vmX x w) n t (kyF true (nI u))) u)), (4, .int (b2i z4)), (0, .ref (a 0)), (1, .int (nI w)), (2, .int (nI t)), (3, .int (nI u))]) hx hb dX5_find_143 hl (by decide) rfl (fun ls hl => ?_)
          refine lv_iconst (v := (0 : Int32)) hx hb dX5_find_145 (by decide) ?_
          refine lv_istore (lv' := [(7, .int (0 : Int32)), (6, .int (facI (vwX x w) t)), (5, .int (p_X5_bodied x w n (spI (vwX x w) (vmX x w) n t (kyF true (nI u))) u)), (4, .int (b2i z4)), (0, .ref (a 0)), (1, .int (nI w)), (2, .int (nI t)), (3, .int (nI u))]) hx hb dX5_find_146 hl (by decide) rfl (fun ls hl => ?_)
          exact key_148 31 0 ls (by omega) (by omega) (lv_sub hl [0, 1, 4, 5, 7] rfl) hE
        · skip
          have hE := (if_neg c_131).symm.trans hE
          refine lv_iload hx hb dX5_find_134 (lv_at hl 0 rfl) ?_
          exact W.iret hx hb hr (fun t9 ht9 _ => ⟨_, rfl, hE, ht9⟩) (fun _ h9 => by cases h9) dX5_find_136
      · skip
        have hE := (if_neg c_28).symm.trans hE
        have hq9 := hi_26_0.resolve_left (fun e9 => c_28 (by rw [e9]; decide))
        have hv9 := hq9.1
        have hv8 := hv9.1
        have hg9 : gN (vwX x w) k_26 (sN v5) = true := hq9.2
        refine lv_aload_n hx hb dX5_find_31 rfl (lv_at hl 2 rfl) ?_
        refine lv_iload_n hx hb dX5_find_32 rfl (lv_at hl 3 rfl) ?_
        refine lv_iload hx hb dX5_find_33 (lv_at hl 0 rfl) ?_
        refine top_eq (hv9.2) ?_
        refine lv_iconst (v := (1 : Int32)) hx hb dX5_find_35 (by decide) ?_
        refine lv_iload_n hx hb dX5_find_36 rfl (lv_at hl 5 rfl) ?_
        refine ro_V [.int (nI w), .int (nI (sN v5)), .int (1 : Int32), .int (nI u)] [] ⟨hx, hb, hml, hown, hts⟩ (c_X5_own l D cI cZ cB cR a x r1 r2 w n (sN v5) true u (by omega) wx (by omega) (by omega) ) (cwV (C := RX5) 4 hts (goodP (ps := [.methodLink RX5 84 yX5_own, .instanceMethod yX5_own, .selects RX5 yX5_own yX5_own, .initialized RX5]) (all4 mw_3_158 mw_3_160 ms_27 mw_1_6) mw_3_161) rfl rfl rfl (by decide +kernel) ⟨Nat.le_of_ble_eq_true rfl, Nat.le_of_ble_eq_true rfl⟩) hEV hP 0 rfl rfl rfl hl.1 rfl (Nat.le_of_ble_eq_true rfl) dX5_find_37 ⟨Nat.zero_le _, Nat.zero_le _⟩ ?_
        refine lv_istore (lv' := [(6, .int (odI (vmX x w) n (sN v5) (kyF true (nI u)))), (5, .int v5), (4, .int (b2i z4)), (0, .ref (a 0)), (1, .int (nI w)), (2, .int (nI t)), (3, .int (nI u))]) hx hb dX5_find_40 hl (by decide) rfl (fun ls hl => ?_)
        refine lv_iload hx hb dX5_find_42 (lv_at hl 0 rfl) ?_
        refine lv_if_ge (tgt := 50) hx hb dX5_find_44 (by decide) (fun c_44 => ?_) (fun c_44 => ?_)
        · skip
          have hE := (if_pos c_44).symm.trans hE
          have hk9 := (odI_nat (Int32.not_lt.mpr c_44)).1
          refine lv_iload hx hb dX5_find_50 (lv_at hl 2 rfl) ?_
          refine lv_if_eq (tgt := 94) hx hb dX5_find_52 (by decide) (fun c_52 => ?_) (fun c_52 => ?_)
          · have c_52 : ¬ (z4 = true) := b2i_f c_52
            have hE := (if_neg c_52).symm.trans hE
            refine lv_iload hx hb dX5_find_94 (lv_at hl 0 rfl) ?_
            exact W.iret hx hb hr (fun t9 ht9 _ => ⟨_, rfl, hE, ht9⟩) (fun _ h9 => by cases h9) dX5_find_96
          · have c_52 : z4 = true := b2i_t c_52
            have hE := (if_pos c_52).symm.trans hE
            refine lv_iload hx hb dX5_find_55 (lv_at hl 1 rfl) ?_
            refine top_eq (hv9.2) ?_
            refine lv_iload_n hx hb dX5_find_57 rfl (lv_at hl 5 rfl) ?_
            refine lv_icmp_eq (tgt := 94) hx hb dX5_find_58 (by decide) (fun c_58 => ?_) (fun c_58 => ?_)
            · have c_58 : (sN v5) = t := (nI_eq (a := (sN v5)) (b := t) (by omega) (by omega)).mp c_58
              have hE := (if_pos c_58).symm.trans hE
              refine lv_iload hx hb dX5_find_94 (lv_at hl 0 rfl) ?_
              exact W.iret hx hb hr (fun t9 ht9 _ => ⟨_, rfl, hE, ht9⟩) (fun _ h9 => by cases h9) dX5_find_96
            · have c_58 : ¬ ((sN v5) = t) := fun q9 => c_58 ((nI_eq (a := (sN v5)) (b := t) (by omega) (by omega)).mpr q9)
              have hE := (if_neg c_58).symm.trans hE
              refine lv_aload_n hx hb dX5_find_61 rfl (lv_at hl 3 rfl) ?_
              refine va_get (D := D) (ci := 5) (v := .ref (a 12)) (C := RX5) (T := TX5) (N := 21) hx hb hts (fun w9 h9 => List.mem_cons_of_mem _ (inT_X5 w9 h9)) hown hK hP 0 rfl rfl 11 (by decide) (hts (.fieldLink RX5 44 "LinkPredictorModel" "access" "[I") (List.mem_cons_of_mem _ mw_3_77)) (fun _ h9 => h9) rfl dX5_find_62 ?_
              refine lv_bipush (v := (30 : Int32)) hx hb dX5_find_65 (by decide) ?_
              refine lv_iload_n hx hb dX5_find_67 rfl (lv_at hl 4 rfl) ?_
              refine lv_imul hx hb dX5_find_68 ?_
              refine top_eq (pk_mul 30 w) ?_
              refine lv_iload hx hb dX5_find_69 (lv_at hl 0 rfl) ?_
              refine top_eq ((odI_nat (Int32.not_lt.mpr c_44)).2) ?_
              refine lv_iadd hx hb dX5_find_71 ?_
              refine top_eq (nI_add (30 * w) (fdN (vmX x w) n (sN v5) (kyF true (nI u)))) ?_
              refine ro_ald hx hb hEV hP 12 (j := ((30 * w) + (fdN (vmX x w) n (sN v5) (kyF true (nI u))))) rfl (by omega) (by decide) dX5_find_72 ?_
              refine lv_iconst (v := (3 : Int32)) hx hb dX5_find_73 (by decide) ?_
              refine lv_icmp_ne (tgt := 97) hx hb dX5_find_74 (by decide) (fun c_74 => ?_) (fun c_74 => ?_)
              · skip
                have hE := (if_neg c_74).symm.trans hE
                refine lv_aload_n hx hb dX5_find_97 rfl (lv_at hl 3 rfl) ?_
                refine va_get (D := D) (ci := 5) (v := .ref (a 4)) (C := RX5) (T := TX5) (N := 21) hx hb hts (fun w9 h9 => List.mem_cons_of_mem _ (inT_X5 w9 h9)) hown hK hP 0 rfl rfl 3 (by decide) (hts (.fieldLink RX5 20 "LinkPredictorModel" "above" "[I") (List.mem_cons_of_mem _ mw_3_69)) (fun _ h9 => h9) rfl dX5_find_98 ?_
                refine lv_bipush (v := (12 : Int32)) hx hb dX5_find_101 (by decide) ?_
                refine lv_iload_n hx hb dX5_find_103 rfl (lv_at hl 4 rfl) ?_
                refine lv_imul hx hb dX5_find_104 ?_
                refine top_eq (pk_mul 12 w) ?_
                refine lv_iload hx hb dX5_find_105 (lv_at hl 1 rfl) ?_
                refine top_eq (hv9.2) ?_
                refine lv_iadd hx hb dX5_find_107 ?_
                refine top_eq (nI_add (12 * w) (sN v5)) ?_
                refine ro_ald hx hb hEV hP 4 (j := ((12 * w) + (sN v5))) rfl (by omega) (by decide) dX5_find_108 ?_
                refine lv_istore (lv' := [(5, .int (x 3 ((12 * w) + (sN v5)))), (6, .int (odI (vmX x w) n (sN v5) (kyF true (nI u)))), (4, .int (b2i z4)), (0, .ref (a 0)), (1, .int (nI w)), (2, .int (nI t)), (3, .int (nI u))]) hx hb dX5_find_109 hl (by decide) rfl (fun ls hl => ?_)
                refine lv_goto (tgt := 26) hx hb dX5_find_111 (by decide) ?_
                exact ih_26 (x 3 ((12 * w) + (sN v5))) z4 ls (by first | omega | exact (up_step wx.1 hv9 hg9).1) (by first | exact (up_step wx.1 hv9 hg9).2 | exact Or.inr ⟨isT_nI hnt, by rw [sN_nI (by omega)]; exact gN_le (by omega) (gN12 wx.1 hnt gt)⟩) (lv_sub hl [0, 2, 3, 4, 5, 6] rfl) hE
              · skip
                have hE := (if_pos c_74).symm.trans hE
                refine lv_aload_n hx hb dX5_find_77 rfl (lv_at hl 3 rfl) ?_
                refine va_get (D := D) (ci := 5) (v := .ref (a 13)) (C := RX5) (T := TX5) (N := 21) hx hb hts (fun w9 h9 => List.mem_cons_of_mem _ (inT_X5 w9 h9)) hown hK hP 0 rfl rfl 12 (by decide) (hts (.fieldLink RX5 47 "LinkPredictorModel" "marks" "[I") (List.mem_cons_of_mem _ mw_3_78)) (fun _ h9 => h9) rfl dX5_find_78 ?_
                refine lv_bipush (v := (30 : Int32)) hx hb dX5_find_81 (by decide) ?_
                refine lv_iload_n hx hb dX5_find_83 rfl (lv_at hl 4 rfl) ?_
                refine lv_imul hx hb dX5_find_84 ?_
                refine top_eq (pk_mul 30 w) ?_
                refine lv_iload hx hb dX5_find_85 (lv_at hl 0 rfl) ?_
                refine top_eq ((odI_nat (Int32.not_lt.mpr c_44)).2) ?_
                refine lv_iadd hx hb dX5_find_87 ?_
                refine top_eq (nI_add (30 * w) (fdN (vmX x w) n (sN v5) (kyF true (nI u)))) ?_
                refine ro_ald hx hb hEV hP 13 (j := ((30 * w) + (fdN (vmX x w) n (sN v5) (kyF true (nI u))))) rfl (by omega) (by decide) dX5_find_88 ?_
                refine lv_iconst (v := (1 : Int32)) hx hb dX5_find_89 (by decide) ?_
                refine lv_iand hx hb dX5_find_90 ?_
                refine lv_if_ne (tgt := 97) hx hb dX5_find_91 (by decide) (fun c_91 => ?_) (fun c_91 => ?_)
                · skip
                  have hE := (if_neg c_91).symm.trans hE
                  refine lv_aload_n hx hb dX5_find_97 rfl (lv_at hl 3 rfl) ?_
                  refine va_get (D := D) (ci := 5) (v := .ref (a 4)) (C := RX5) (T := TX5) (N := 21) hx hb hts (fun w9 h9 => List.mem_cons_of_mem _ (inT_X5 w9 h9)) hown hK hP 0 rfl rfl 3 (by decide) (hts (.fieldLink RX5 20 "LinkPredictorModel" "above" "[I") (List.mem_cons_of_mem _ mw_3_69)) (fun _ h9 => h9) rfl dX5_find_98 ?_
                  refine lv_bipush (v := (12 : Int32)) hx hb dX5_find_101 (by decide) ?_
                  refine lv_iload_n hx hb dX5_find_103 rfl (lv_at hl 4 rfl) ?_
                  refine lv_imul hx hb dX5_find_104 ?_
                  refine top_eq (pk_mul 12 w) ?_
                  refine lv_iload hx hb dX5_find_105 (lv_at hl 1 rfl) ?_
                  refine top_eq (hv9.2) ?_
                  refine lv_iadd hx hb dX5_find_107 ?_
                  refine top_eq (nI_add (12 * w) (sN v5)) ?_
                  refine ro_ald hx hb hEV hP 4 (j := ((12 * w) + (sN v5))) rfl (by omega) (by decide) dX5_find_108 ?_
                  refine lv_istore (lv' := [(5, .int (x 3 ((12 * w) + (sN v5)))), (6, .int (odI (vmX x w) n (sN v5) (kyF true (nI u)))), (4, .int (b2i z4)), (0, .ref (a 0)), (1, .int (nI w)), (2, .int (nI t)), (3, .int (nI u))]) hx hb dX5_find_109 hl (by decide) rfl (fun ls hl => ?_)
                  refine lv_goto (tgt := 26) hx hb dX5_find_111 (by decide) ?_
                  exact ih_26 (x 3 ((12 * w) + (sN v5))) z4 ls (by first | omega | exact (up_step wx.1 hv9 hg9).1) (by first | exact (up_step wx.1 hv9 hg9).2 | exact Or.inr ⟨isT_nI hnt, by rw [sN_nI (by omega)]; exact gN_le (by omega) (gN12 wx.1 hnt gt)⟩) (lv_sub hl [0, 2, 3, 4, 5, 6] rfl) hE
                · skip
                  have hE := (if_pos c_91).symm.trans hE
                  refine lv_iload hx hb dX5_find_94 (lv_at hl 0 rfl) ?_
                  exact W.iret hx hb hr (fun t9 ht9 _ => ⟨_, rfl, hE, ht9⟩) (fun _ h9 => by cases h9) dX5_find_96
        · skip
          have hE := (if_neg c_44).symm.trans hE
          refine lv_goto (tgt := 97) hx hb dX5_find_47 (by decide) ?_
          refine lv_aload_n hx hb dX5_find_97 rfl (lv_at hl 3 rfl) ?_
          refine va_get (D := D) (ci := 5) (v := .ref (a 4)) (C := RX5) (T := TX5) (N := 21) hx hb hts (fun w9 h9 => List.mem_cons_of_mem _ (inT_X5 w9 h9)) hown hK hP 0 rfl rfl 3 (by decide) (hts (.fieldLink RX5 20 "LinkPredictorModel" "above" "[I") (List.mem_cons_of_mem _ mw_3_69)) (fun _ h9 => h9) rfl dX5_find_98 ?_
          refine lv_bipush (v := (12 : Int32)) hx hb dX5_find_101 (by decide) ?_
          refine lv_iload_n hx hb dX5_find_103 rfl (lv_at hl 4 rfl) ?_
          refine lv_imul hx hb dX5_find_104 ?_
          refine top_eq (pk_mul 12 w) ?_
          refine lv_iload hx hb dX5_find_105 (lv_at hl 1 rfl) ?_
          refine top_eq (hv9.2) ?_
          refine lv_iadd hx hb dX5_find_107 ?_
          refine top_eq (nI_add (12 * w) (sN v5)) ?_
          refine ro_ald hx hb hEV hP 4 (j := ((12 * w) + (sN v5))) rfl (by omega) (by decide) dX5_find_108 ?_
          refine lv_istore (lv' := [(5, .int (x 3 ((12 * w) + (sN v5)))), (6, .int (odI (vmX x w) n (sN v5) (kyF true (nI u)))), (4, .int (b2i z4)), (0, .ref (a 0)), (1, .int (nI w)), (2, .int (nI t)), (3, .int (nI u))]) hx hb dX5_find_109 hl (by decide) rfl (fun ls hl => ?_)
          refine lv_goto (tgt := 26) hx hb dX5_find_111 (by decide) ?_
          exact ih_26 (x 3 ((12 * w) + (sN v5))) z4 ls (by first | omega | exact (up_step wx.1 hv9 hg9).1) (by first | exact (up_step wx.1 hv9 hg9).2 | exact Or.inr ⟨isT_nI hnt, by rw [sN_nI (by omega)]; exact gN_le (by omega) (gN12 wx.1 hnt gt)⟩) (lv_sub hl [0, 2, 3, 4, 5, 6] rfl) hE
  refine lv_aload_n hx hb dX5_find_0 rfl (lv_at hl 0 rfl) ?_
  refine va_get (D := D) (ci := 5) (v := .ref (a 2)) (C := RX5) (T := TX5) (N := 21) hx hb hts (fun w9 h9 => List.mem_cons_of_mem _ (inT_X5 w9 h9)) hown hK hP 0 rfl rfl 1 (by decide) (hts (.fieldLink RX5 13 "LinkPredictorModel" "flags" "[I") (List.mem_cons_of_mem _ mw_3_67)) (fun _ h9 => h9) rfl dX5_find_1 ?_
  refine lv_bipush (v := (12 : Int32)) hx hb dX5_find_4 (by decide) ?_
  refine lv_iload_n hx hb dX5_find_6 rfl (lv_at hl 1 rfl) ?_
  refine lv_imul hx hb dX5_find_7 ?_
  refine top_eq (pk_mul 12 w) ?_
  refine lv_iload_n hx hb dX5_find_8 rfl (lv_at hl 2 rfl) ?_
  refine lv_iadd hx hb dX5_find_9 ?_
  refine top_eq (nI_add (12 * w) t) ?_
  refine ro_ald hx hb hEV hP 2 (j := ((12 * w) + t)) rfl (by omega) (by decide) dX5_find_10 ?_
  refine lv_iconst (v := (2 : Int32)) hx hb dX5_find_11 (by decide) ?_
  refine lv_iand hx hb dX5_find_12 ?_
  refine lv_if_eq (tgt := 20) hx hb dX5_find_13 (by decide) (fun c_13 => ?_) (fun c_13 => ?_)
  · skip
    have hE := (if_pos c_13).symm.trans hE
    refine lv_iconst (v := (0 : Int32)) hx hb dX5_find_20 (by decide) ?_
    refine lv_istore (lv' := [(4, .int (0 : Int32)), (0, .ref (a 0)), (1, .int (nI w)), (2, .int (nI t)), (3, .int (nI u))]) hx hb dX5_find_21 hl (by decide) rfl (fun ls hl => ?_)
    refine lv_iload_n hx hb dX5_find_23 rfl (lv_at hl 3 rfl) ?_
    refine lv_istore (lv' := [(5, .int (nI t)), (4, .int (0 : Int32)), (0, .ref (a 0)), (1, .int (nI w)), (2, .int (nI t)), (3, .int (nI u))]) hx hb dX5_find_24 hl (by decide) rfl (fun ls hl => ?_)
    exact key_26 14 (nI t) false ls (by first | omega | exact (up_step wx.1 hv9 hg9).1) (by first | exact (up_step wx.1 hv9 hg9).2 | exact Or.inr ⟨isT_nI hnt, by rw [sN_nI (by omega)]; exact gN_le (by omega) (gN12 wx.1 hnt gt)⟩) (lv_sub hl [0, 1, 2, 3, 4, 5] rfl) hE
  · skip
    have hE := (if_neg c_13).symm.trans hE
    refine lv_iconst (v := (1 : Int32)) hx hb dX5_find_16 (by decide) ?_
    refine lv_goto (tgt := 21) hx hb dX5_find_17 (by decide) ?_
    refine lv_istore (lv' := [(4, .int (1 : Int32)), (0, .ref (a 0)), (1, .int (nI w)), (2, .int (nI t)), (3, .int (nI u))]) hx hb dX5_find_21 hl (by decide) rfl (fun ls hl => ?_)
    refine lv_iload_n hx hb dX5_find_23 rfl (lv_at hl 3 rfl) ?_
    refine lv_istore (lv' := [(5, .int (nI t)), (4, .int (1 : Int32)), (0, .ref (a 0)), (1, .int (nI w)), (2, .int (nI t)), (3, .int (nI u))]) hx hb dX5_find_24 hl (by decide) rfl (fun ls hl => ?_)
    exact key_26 14 (nI t) true ls (by first | omega | exact (up_step wx.1 hv9 hg9).1) (by first | exact (up_step wx.1 hv9 hg9).2 | exact Or.inr ⟨isT_nI hnt, by rw [sN_nI (by omega)]; exact gN_le (by omega) (gN12 wx.1 hnt gt)⟩) (lv_sub hl [0, 1, 2, 3, 4, 5] rfl) hE
noncomputable def p_X5_overrides (x : Nat → Nat → Int32) (w n : Nat) (t : Nat) (u : Nat) : Int32 := if t = u then ((1 : Int32)) else (if (x 11 ((30 * w) + u)) = (3 : Int32) then ((1 : Int32)) else (if (x 11 ((30 * w) + u)) = (2 : Int32) then ((1 : Int32)) else (if (x 11 ((30 * w) + u)) = (1 : Int32) then (if (x 2 ((12 * w) + (sN (x 9 (30 * w + t))))) = (x 2 ((12 * w) + (sN (x 9 (30 * w + u))))) then ((1 : Int32)) else ((0 : Int32))) else ((0 : Int32)))))
set_option maxHeartbeats 4000000 in
set_option maxRecDepth 100000 in
theorem c_X5_overrides (l : Launch) (D : va_G) (cI cZ cB cR : ClassId) (a : Nat → Nat) (x : Nat → Nat → Int32) (r1 r2 : Nat → Int32) (w n : Nat) (t : Nat) (u : Nat) (hw : w < 2) (wx : WX x w n) (hnt : t < n) (hnu : u < n)  : RO l yX5_overrides wsX5_overrides ({ frames := 0, cells := 0, slots := 0, locals := 0 } : Room) D cI cZ cB cR (wX cI cZ a x r1 r2) [.ref (a 0), .int (nI w), .int (nI t), .int (nI u)] (p_X5_overrides x w n t u) := by
  generalize hE : p_X5_overrides x w n t u = tgt
  refine Met.ofW (cc := cX5_overrides) (maxL := 6) (ret := (some .boolean)) (by decide) rfl ?_
  intro p e s m args below meth c s₁ B hml hv
  obtain ⟨hargs, hP, hEV⟩ := hv
  have hx := B.exec
  have hb := B.bytes
  have hr := B.returns
  have hts := atoms_spec (ws := wsX5_overrides) B.pre
  have hown : s.vm.findClass RX5 = some m.cls := findClass_of_methodNamed B.named
  have hlocks := B.notSynchronized
  have hK := hEV.1
  have hl := lv_entry ([.ref (a 0), .int (nI w), .int (nI t), .int (nI u)]) (n := 6) (Nat.le_of_ble_eq_true rfl)
  rw [show entryFrame m args 6 = entryFrame m ([.ref (a 0), .int (nI w), .int (nI t), .int (nI u)] : List Value).toArray 6 from by rw [hargs], lg_entry_eq]
  generalize (lg_sl ([.ref (a 0), .int (nI w), .int (nI t), .int (nI u)]) ++ List.replicate (6 - (lg_sl ([.ref (a 0), .int (nI w), .int (nI t), .int (nI u)])).length) Slot.unset).toArray = ls at hl ⊢
  have hl : lv_has ls 6 [(0, .ref (a 0)), (1, .int (nI w)), (2, .int (nI t)), (3, .int (nI u))] := hl
  rw [p_X5_overrides] at hE
  have hn30 := wx.2.2.1
  have ho1 := (wx.2.2.2 t hnt).1.1
  have ho2 := (wx.2.2.2 u hnu).1.1
  refine lv_bipush (v := (30 : Int32)) hx hb dX5_overrides_0 (by decide) ?_
  refine lv_iload_n hx hb dX5_overrides_2 rfl (lv_at hl 1 rfl) ?_
  refine lv_imul hx hb dX5_overrides_3 ?_
  refine top_eq (pk_mul 30 w) ?_
  refine lv_iload_n hx hb dX5_overrides_4 rfl (lv_at hl 2 rfl) ?_
  refine lv_iadd hx hb dX5_overrides_5 ?_
  refine top_eq (nI_add (30 * w) t) ?_
  refine lv_istore (lv' := [(4, .int (nI ((30 * w) + t))), (0, .ref (a 0)), (1, .int (nI w)), (2, .int (nI t)), (3, .int (nI u))]) hx hb dX5_overrides_6 hl (by decide) rfl (fun ls hl => ?_)
  refine lv_bipush (v := (30 : Int32)) hx hb dX5_overrides_8 (by decide) ?_
  refine lv_iload_n hx hb dX5_overrides_10 rfl (lv_at hl 2 rfl) ?_
  refine lv_imul hx hb dX5_overrides_11 ?_
  refine top_eq (pk_mul 30 w) ?_
  refine lv_iload_n hx hb dX5_overrides_12 rfl (lv_at hl 4 rfl) ?_
  refine lv_iadd hx hb dX5_overrides_13 ?_
  refine top_eq (nI_add (30 * w) u) ?_
  refine lv_istore (lv' := [(5, .int (nI ((30 * w) + u))), (4, .int (nI ((30 * w) + t))), (0, .ref (a 0)), (1, .int (nI w)), (2, .int (nI t)), (3, .int (nI u))]) hx hb dX5_overrides_14 hl (by decide) rfl (fun ls hl => ?_)
  refine lv_iload_n hx hb dX5_overrides_16 rfl (lv_at hl 4 rfl) ?_
  refine lv_iload_n hx hb dX5_overrides_17 rfl (lv_at hl 5 rfl) ?_
  refine lv_icmp_eq (tgt := 43) hx hb dX5_overrides_18 (by decide) (fun c_18 => ?_) (fun c_18 => ?_)
  · have c_18 : t = u := (nI_eq (a := t) (b := u) (by omega) (by omega)).mp c_18
    have hE := (if_pos c_18).symm.trans hE
    refine lv_iconst (v := (1 : Int32)) hx hb dX5_overrides_43 (by decide) ?_
    exact W.zret hx hb hr rfl (fun t9 ht9 _ => ⟨_, rfl, hE, ht9⟩) (fun _ h9 => by cases h9) dX5_overrides_44
  · have c_18 : ¬ (t = u) := fun q9 => c_18 ((nI_eq (a := t) (b := u) (by omega) (by omega)).mpr q9)
    have hE := (if_neg c_18).symm.trans hE
    refine lv_aload_n hx hb dX5_overrides_21 rfl (lv_at hl 2 rfl) ?_
    refine va_get (D := D) (ci := 5) (v := .ref (a 12)) (C := RX5) (T := TX5) (N := 21) hx hb hts (fun w9 h9 => List.mem_cons_of_mem _ (inT_X5 w9 h9)) hown hK hP 0 rfl rfl 11 (by decide) (hts (.fieldLink RX5 44 "LinkPredictorModel" "access" "[I") (List.mem_cons_of_mem _ mw_3_77)) (fun _ h9 => h9) rfl dX5_overrides_22 ?_
    refine lv_iload hx hb dX5_overrides_25 (lv_at hl 0 rfl) ?_
    refine ro_ald hx hb hEV hP 12 (j := ((30 * w) + u)) rfl (by omega) (by decide) dX5_overrides_27 ?_
    refine lv_iconst (v := (3 : Int32)) hx hb dX5_overrides_28 (by decide) ?_
    refine lv_icmp_eq (tgt := 43) hx hb dX5_overrides_29 (by decide) (fun c_29 => ?_) (fun c_29 => ?_)
    · skip
      have hE := (if_pos c_29).symm.trans hE
      refine lv_iconst (v := (1 : Int32)) hx hb dX5_overrides_43 (by decide) ?_
      exact W.zret hx hb hr rfl (fun t9 ht9 _ => ⟨_, rfl, hE, ht9⟩) (fun _ h9 => by cases h9) dX5_overrides_44
    · skip
      have hE := (if_neg c_29).symm.trans hE
      refine lv_aload_n hx hb dX5_overrides_32 rfl (lv_at hl 2 rfl) ?_
      refine va_get (D := D) (ci := 5) (v := .ref (a 12)) (C := RX5) (T := TX5) (N := 21) hx hb hts (fun w9 h9 => List.mem_cons_of_mem _ (inT_X5 w9 h9)) hown hK hP 0 rfl rfl 11 (by decide) (hts (.fieldLink RX5 44 "LinkPredictorModel" "access" "[I") (List.mem_cons_of_mem _ mw_3_77)) (fun _ h9 => h9) rfl dX5_overrides_33 ?_
      refine lv_iload hx hb dX5_overrides_36 (lv_at hl 0 rfl) ?_
      refine ro_ald hx hb hEV hP 12 (j := ((30 * w) + u)) rfl (by omega) (by decide) dX5_overrides_38 ?_
      refine lv_iconst (v := (2 : Int32)) hx hb dX5_overrides_39 (by decide) ?_
      refine lv_icmp_ne (tgt := 45) hx hb dX5_overrides_40 (by decide) (fun c_40 => ?_) (fun c_40 => ?_)
      · skip
        have hE := (if_neg c_40).symm.trans hE
        refine lv_aload_n hx hb dX5_overrides_45 rfl (lv_at hl 2 rfl) ?_
        refine va_get (D := D) (ci := 5) (v := .ref (a 12)) (C := RX5) (T := TX5) (N := 21) hx hb hts (fun w9 h9 => List.mem_cons_of_mem _ (inT_X5 w9 h9)) hown hK hP 0 rfl rfl 11 (by decide) (hts (.fieldLink RX5 44 "LinkPredictorModel" "access" "[I") (List.mem_cons_of_mem _ mw_3_77)) (fun _ h9 => h9) rfl dX5_overrides_46 ?_
        refine lv_iload hx hb dX5_overrides_49 (lv_at hl 0 rfl) ?_
        refine ro_ald hx hb hEV hP 12 (j := ((30 * w) + u)) rfl (by omega) (by decide) dX5_overrides_51 ?_
        refine lv_iconst (v := (1 : Int32)) hx hb dX5_overrides_52 (by decide) ?_
        refine lv_icmp_ne (tgt := 97) hx hb dX5_overrides_53 (by decide) (fun c_53 => ?_) (fun c_53 => ?_)
        · skip
          have hE := (if_neg c_53).symm.trans hE
          refine lv_iconst (v := (0 : Int32)) hx hb dX5_overrides_97 (by decide) ?_
          exact W.zret hx hb hr rfl (fun t9 ht9 _ => ⟨_, rfl, hE, ht9⟩) (fun _ h9 => by cases h9) dX5_overrides_98
        · skip
          have hE := (if_pos c_53).symm.trans hE
          refine lv_aload_n hx hb dX5_overrides_56 rfl (lv_at hl 2 rfl) ?_
          refine va_get (D := D) (ci := 5) (v := .ref (a 3)) (C := RX5) (T := TX5) (N := 21) hx hb hts (fun w9 h9 => List.mem_cons_of_mem _ (inT_X5 w9 h9)) hown hK hP 0 rfl rfl 2 (by decide) (hts (.fieldLink RX5 17 "LinkPredictorModel" "pack" "[I") (List.mem_cons_of_mem _ mw_3_68)) (fun _ h9 => h9) rfl dX5_overrides_57 ?_
          refine lv_bipush (v := (12 : Int32)) hx hb dX5_overrides_60 (by decide) ?_
          refine lv_iload_n hx hb dX5_overrides_62 rfl (lv_at hl 3 rfl) ?_
          refine lv_imul hx hb dX5_overrides_63 ?_
          refine top_eq (pk_mul 12 w) ?_
          refine lv_aload_n hx hb dX5_overrides_64 rfl (lv_at hl 2 rfl) ?_
          refine va_get (D := D) (ci := 5) (v := .ref (a 10)) (C := RX5) (T := TX5) (N := 21) hx hb hts (fun w9 h9 => List.mem_cons_of_mem _ (inT_X5 w9 h9)) hown hK hP 0 rfl rfl 9 (by decide) (hts (.fieldLink RX5 38 "LinkPredictorModel" "owner" "[I") (List.mem_cons_of_mem _ mw_3_75)) (fun _ h9 => h9) rfl dX5_overrides_65 ?_
          refine lv_iload hx hb dX5_overrides_68 (lv_at hl 1 rfl) ?_
          refine ro_ald hx hb hEV hP 10 (j := ((30 * w) + t)) rfl (by omega) (by decide) dX5_overrides_70 ?_
          refine top_eq ((wx.2.2.2 t hnt).1.2) ?_
          refine lv_iadd hx hb dX5_overrides_71 ?_
          refine top_eq (nI_add (12 * w) (sN (x 9 (30 * w + t)))) ?_
          refine ro_ald hx hb hEV hP 3 (j := ((12 * w) + (sN (x 9 (30 * w + t))))) rfl (by omega) (by decide) dX5_overrides_72 ?_
          refine lv_aload_n hx hb dX5_overrides_73 rfl (lv_at hl 2 rfl) ?_
          refine va_get (D := D) (ci := 5) (v := .ref (a 3)) (C := RX5) (T := TX5) (N := 21) hx hb hts (fun w9 h9 => List.mem_cons_of_mem _ (inT_X5 w9 h9)) hown hK hP 0 rfl rfl 2 (by decide) (hts (.fieldLink RX5 17 "LinkPredictorModel" "pack" "[I") (List.mem_cons_of_mem _ mw_3_68)) (fun _ h9 => h9) rfl dX5_overrides_74 ?_
          refine lv_bipush (v := (12 : Int32)) hx hb dX5_overrides_77 (by decide) ?_
          refine lv_iload_n hx hb dX5_overrides_79 rfl (lv_at hl 3 rfl) ?_
          refine lv_imul hx hb dX5_overrides_80 ?_
          refine top_eq (pk_mul 12 w) ?_
          refine lv_aload_n hx hb dX5_overrides_81 rfl (lv_at hl 2 rfl) ?_
          refine va_get (D := D) (ci := 5) (v := .ref (a 10)) (C := RX5) (T := TX5) (N := 21) hx hb hts (fun w9 h9 => List.mem_cons_of_mem _ (inT_X5 w9 h9)) hown hK hP 0 rfl rfl 9 (by decide) (hts (.fieldLink RX5 38 "LinkPredictorModel" "owner" "[I") (List.mem_cons_of_mem _ mw_3_75)) (fun _ h9 => h9) rfl dX5_overrides_82 ?_
          refine lv_iload hx hb dX5_overrides_85 (lv_at hl 0 rfl) ?_
          refine ro_ald hx hb hEV hP 10 (j := ((30 * w) + u)) rfl (by omega) (by decide) dX5_overrides_87 ?_
          refine top_eq ((wx.2.2.2 u hnu).1.2) ?_
          refine lv_iadd hx hb dX5_overrides_88 ?_
          refine top_eq (nI_add (12 * w) (sN (x 9 (30 * w + u)))) ?_
          refine ro_ald hx hb hEV hP 3 (j := ((12 * w) + (sN (x 9 (30 * w + u))))) rfl (by omega) (by decide) dX5_overrides_89 ?_
          refine lv_icmp_ne (tgt := 97) hx hb dX5_overrides_90 (by decide) (fun c_90 => ?_) (fun c_90 => ?_)
          · skip
            have hE := (if_neg c_90).symm.trans hE
            refine lv_iconst (v := (0 : Int32)) hx hb dX5_overrides_97 (by decide) ?_
            exact W.zret hx hb hr rfl (fun t9 ht9 _ => ⟨_, rfl, hE, ht9⟩) (fun _ h9 => by cases h9) dX5_overrides_98
          · skip
            have hE := (if_pos c_90).symm.trans hE
            refine lv_iconst (v := (1 : Int32)) hx hb dX5_overrides_93 (by decide) ?_
            refine lv_goto (tgt := 98) hx hb dX5_overrides_94 (by decide) ?_
            exact W.zret hx hb hr rfl (fun t9 ht9 _ => ⟨_, rfl, hE, ht9⟩) (fun _ h9 => by cases h9) dX5_overrides_98
      · skip
        have hE := (if_pos c_40).symm.trans hE
        refine lv_iconst (v := (1 : Int32)) hx hb dX5_overrides_43 (by decide) ?_
        exact W.zret hx hb hr rfl (fun t9 ht9 _ => ⟨_, rfl, hE, ht9⟩) (fun _ h9 => by cases h9) dX5_overrides_44
noncomputable def p_X5_isOpen_58 (x : Nat → Nat → Int32) (w n : Nat) (t : Nat) (u : Nat) (v : Nat) (zs0 : Bool) : Int32 := if (x 11 ((30 * w) + t)) = (3 : Int32) then ((1 : Int32)) else (if (x 11 ((30 * w) + t)) = (0 : Int32) then (if (nsN (vwX x w) (sN (x 9 (30 * w + t)))) = (nsN (vwX x w) v) then ((1 : Int32)) else ((0 : Int32))) else (if zs0 = true then ((1 : Int32)) else (if (x 11 ((30 * w) + t)) = (2 : Int32) then (if (bt (aboI (vwX x w) v) (sN (x 9 (30 * w + t)))) = true then (if ((x 12 ((30 * w) + t)) &&& (1 : Int32)) = (0 : Int32) then (if (abB (vwX x w) u v || fcB (vwX x w) u v) = true then ((1 : Int32)) else (if (abB (vwX x w) v u || fcB (vwX x w) v u) = true then ((1 : Int32)) else ((0 : Int32)))) else ((1 : Int32))) else ((0 : Int32))) else ((0 : Int32)))))
noncomputable def p_X5_isOpen (x : Nat → Nat → Int32) (w n : Nat) (t : Nat) (u : Nat) (v : Nat) : Int32 := if (x 2 ((12 * w) + (sN (x 9 (30 * w + t))))) = (x 2 ((12 * w) + v)) then (p_X5_isOpen_58 x w n t u v true) else (p_X5_isOpen_58 x w n t u v false)
set_option maxHeartbeats 4000000 in
set_option maxRecDepth 100000 in
theorem c_X5_isOpen (l : Launch) (D : va_G) (cI cZ cB cR : ClassId) (a : Nat → Nat) (x : Nat → Nat → Int32) (r1 r2 : Nat → Int32) (w n : Nat) (t : Nat) (u : Nat) (v : Nat) (hw : w < 2) (wx : WX x w n) (hnt : t < n) (hnu : u < 12) (hnv : v < 12) (gu : Gd (vwX x w) u) (gv : Gd (vwX x w) v) : RO l yX5_isOpen wsX5_isOpen ({ frames := 3, cells := 0, slots := 0, locals := 73 } : Room) D cI cZ cB cR (wX cI cZ a x r1 r2) [.ref (a 0), .int (nI w), .int (nI t), .int (nI u), .int (nI v)] (p_X5_isOpen x w n t u v) := by
  generalize hE : p_X5_isOpen x w n t u v = tgt
  refine Met.ofW (cc := cX5_isOpen) (maxL := 9) (ret := (some .boolean)) (by decide) rfl ?_
  intro p e s m args below meth c s₁ B hml hv
  obtain ⟨hargs, hP, hEV⟩ := hv
  have hx := B.exec
  have hb := B.bytes
  have hr := B.returns
  have hts := atoms_spec (ws := wsX5_isOpen) B.pre
  have hown : s.vm.findClass RX5 = some m.cls := findClass_of_methodNamed B.named
  have hlocks := B.notSynchronized
  have hK := hEV.1
  have hl := lv_entry ([.ref (a 0), .int (nI w), .int (nI t), .int (nI u), .int (nI v)]) (n := 9) (Nat.le_of_ble_eq_true rfl)
  rw [show entryFrame m args 9 = entryFrame m ([.ref (a 0), .int (nI w), .int (nI t), .int (nI u), .int (nI v)] : List Value).toArray 9 from by rw [hargs], lg_entry_eq]
  generalize (lg_sl ([.ref (a 0), .int (nI w), .int (nI t), .int (nI u), .int (nI v)]) ++ List.replicate (9 - (lg_sl ([.ref (a 0), .int (nI w), .int (nI t), .int (nI u), .int (nI v)])).length) Slot.unset).toArray = ls at hl ⊢
  have hl : lv_has ls 9 [(0, .ref (a 0)), (1, .int (nI w)), (2, .int (nI t)), (3, .int (nI u)), (4, .int (nI v))] := hl
  rw [p_X5_isOpen] at hE
  have hn30 := wx.2.2.1
  have ho1 := (wx.2.2.2 t hnt).1.1
  have hz1 := nsN_lt wx.1 ho1
  have hz2 := nsN_lt wx.1 hnv
  have key_58 : ∀ (zs0 : Bool) (ls : Array Slot), lv_has ls 9 [(7, .int (x 11 ((30 * w) + t))), (6, .int (nI (sN (x 9 (30 * w + t))))), (5, .int (nI ((30 * w) + t))), (0, .ref (a 0)), (1, .int (nI w)), (3, .int (nI u)), (4, .int (nI v))] → p_X5_isOpen_58 x w n t u v zs0 = tgt → W p l e (headSpec wsX5_isOpen ({ frames := 3, cells := 0, slots := 0, locals := 73 } : Room)).room s m args below meth c s.heap [] 0 0 (MQ below (vp_Si (fun r => r = tgt)) args s 0 0 (fun _ => False)) (F0 m 58 ls [.int (b2i zs0)]) := by
    intro zs0 ls  hl hE
    rw [p_X5_isOpen_58] at hE
    refine lv_istore (lv' := [(8, .int (b2i zs0)), (7, .int (x 11 ((30 * w) + t))), (6, .int (nI (sN (x 9 (30 * w + t))))), (5, .int (nI ((30 * w) + t))), (0, .ref (a 0)), (1, .int (nI w)), (3, .int (nI u)), (4, .int (nI v))]) hx hb dX5_isOpen_58 hl (by decide) rfl (fun ls hl => ?_)
    refine lv_iload hx hb dX5_isOpen_60 (lv_at hl 1 rfl) ?_
    refine lv_iconst (v := (3 : Int32)) hx hb dX5_isOpen_62 (by decide) ?_
    refine lv_icmp_ne (tgt := 68) hx hb dX5_isOpen_63 (by decide) (fun c_63 => ?_) (fun c_63 => ?_)
    · skip
      have hE := (if_neg c_63).symm.trans hE
      refine lv_iload hx hb dX5_isOpen_68 (lv_at hl 1 rfl) ?_
      refine lv_if_ne (tgt := 96) hx hb dX5_isOpen_70 (by decide) (fun c_70 => ?_) (fun c_70 => ?_)
      · skip
        have hE := (if_neg c_70).symm.trans hE
        refine lv_iload hx hb dX5_isOpen_96 (lv_at hl 0 rfl) ?_
        refine lv_if_eq (tgt := 103) hx hb dX5_isOpen_98 (by decide) (fun c_98 => ?_) (fun c_98 => ?_)
        · have c_98 : ¬ (zs0 = true) := b2i_f c_98
          have hE := (if_neg c_98).symm.trans hE
          refine lv_iload hx hb dX5_isOpen_103 (lv_at hl 1 rfl) ?_
          refine lv_iconst (v := (2 : Int32)) hx hb dX5_isOpen_105 (by decide) ?_
          refine lv_icmp_ne (tgt := 162) hx hb dX5_isOpen_106 (by decide) (fun c_106 => ?_) (fun c_106 => ?_)
          · skip
            have hE := (if_neg c_106).symm.trans hE
            refine lv_iconst (v := (0 : Int32)) hx hb dX5_isOpen_162 (by decide) ?_
            exact W.zret hx hb hr rfl (fun t9 ht9 _ => ⟨_, rfl, hE, ht9⟩) (fun _ h9 => by cases h9) dX5_isOpen_163
          · skip
            have hE := (if_pos c_106).symm.trans hE
            refine lv_aload_n hx hb dX5_isOpen_109 rfl (lv_at hl 4 rfl) ?_
            refine lv_iload_n hx hb dX5_isOpen_110 rfl (lv_at hl 5 rfl) ?_
            refine lv_iload hx hb dX5_isOpen_111 (lv_at hl 7 rfl) ?_
            refine ro_V [.int (nI w), .int (nI v)] [] ⟨hx, hb, hml, hown, hts⟩ (c_X5_aboveOf l D cI cZ cB cR a x r1 r2 w n v (by omega) wx (by omega) gv) (cwV (C := RX5) 2 hts (goodP (ps := [.methodLink RX5 107 yX5_aboveOf, .instanceMethod yX5_aboveOf, .selects RX5 yX5_aboveOf yX5_aboveOf, .initialized RX5]) (all4 mw_4_0 mw_4_2 ms_38 mw_1_6) mw_4_3) rfl rfl rfl (by decide +kernel) ⟨Nat.le_of_ble_eq_true rfl, Nat.le_of_ble_eq_true rfl⟩) hEV hP 0 rfl rfl rfl hl.1 rfl (Nat.le_of_ble_eq_true rfl) dX5_isOpen_113 ⟨Nat.zero_le _, Nat.zero_le _⟩ ?_
            refine lv_iload hx hb dX5_isOpen_116 (lv_at hl 2 rfl) ?_
            refine ro_S [.int (aboI (vwX x w) v), .int (nI (sN (x 9 (30 * w + t))))] [] ⟨hx, hb, hml, hown, hts⟩ (c_X5_has l D cI cZ cB cR (aboI (vwX x w) v) (sN (x 9 (30 * w + t))) (by omega)) (va_cwS 2 hts (goodP (ps := [.methodLink RX5 94 yX5_has, .static yX5_has, .initialized RX5]) (all3 mw_3_201 mw_3_202 mw_1_6) mw_3_203) rfl rfl rfl (by decide +kernel) ⟨Nat.le_of_ble_eq_true rfl, Nat.le_of_ble_eq_true rfl⟩) hEV va_P0 rfl hl.1 rfl (Nat.le_of_ble_eq_true rfl) dX5_isOpen_118 ⟨Nat.zero_le _, Nat.zero_le _⟩ ?_
            refine lv_if_eq (tgt := 162) hx hb dX5_isOpen_121 (by decide) (fun c_121 => ?_) (fun c_121 => ?_)
            · have c_121 : ¬ ((bt (aboI (vwX x w) v) (sN (x 9 (30 * w + t)))) = true) := b2i_f c_121
              have hE := (if_neg c_121).symm.trans hE
              refine lv_iconst (v := (0 : Int32)) hx hb dX5_isOpen_162 (by decide) ?_
              exact W.zret hx hb hr rfl (fun t9 ht9 _ => ⟨_, rfl, hE, ht9⟩) (fun _ h9 => by cases h9) dX5_isOpen_163
            · have c_121 : (bt (aboI (vwX x w) v) (sN (x 9 (30 * w + t)))) = true := b2i_t c_121
              have hE := (if_pos c_121).symm.trans hE
              refine lv_aload_n hx hb dX5_isOpen_124 rfl (lv_at hl 4 rfl) ?_
              refine va_get (D := D) (ci := 5) (v := .ref (a 13)) (C := RX5) (T := TX5) (N := 21) hx hb hts (fun w9 h9 => List.mem_cons_of_mem _ (inT_X5 w9 h9)) hown hK hP 0 rfl rfl 12 (by decide) (hts (.fieldLink RX5 47 "LinkPredictorModel" "marks" "[I") (List.mem_cons_of_mem _ mw_3_78)) (fun _ h9 => h9) rfl dX5_isOpen_125 ?_
              refine lv_iload hx hb dX5_isOpen_128 (lv_at hl 3 rfl) ?_
              refine ro_ald hx hb hEV hP 13 (j := ((30 * w) + t)) rfl (by omega) (by decide) dX5_isOpen_130 ?_
              refine lv_iconst (v := (1 : Int32)) hx hb dX5_isOpen_131 (by decide) ?_
              refine lv_iand hx hb dX5_isOpen_132 ?_
              refine lv_if_ne (tgt := 158) hx hb dX5_isOpen_133 (by decide) (fun c_133 => ?_) (fun c_133 => ?_)
              · skip
                have hE := (if_neg c_133).symm.trans hE
                refine lv_iconst (v := (1 : Int32)) hx hb dX5_isOpen_158 (by decide) ?_
                refine lv_goto (tgt := 163) hx hb dX5_isOpen_159 (by decide) ?_
                exact W.zret hx hb hr rfl (fun t9 ht9 _ => ⟨_, rfl, hE, ht9⟩) (fun _ h9 => by cases h9) dX5_isOpen_163
              · skip
                have hE := (if_pos c_133).symm.trans hE
                refine lv_aload_n hx hb dX5_isOpen_136 rfl (lv_at hl 4 rfl) ?_
                refine lv_iload_n hx hb dX5_isOpen_137 rfl (lv_at hl 5 rfl) ?_
                refine lv_iload_n hx hb dX5_isOpen_138 rfl (lv_at hl 6 rfl) ?_
                refine lv_iload hx hb dX5_isOpen_139 (lv_at hl 7 rfl) ?_
                refine ro_V [.int (nI w), .int (nI u), .int (nI v)] [] ⟨hx, hb, hml, hown, hts⟩ (c_X5_under l D cI cZ cB cR a x r1 r2 w n u v (by omega) wx (by omega) (by omega) gu) (cwV (C := RX5) 3 hts (goodP (ps := [.methodLink RX5 116 yX5_under, .instanceMethod yX5_under, .selects RX5 yX5_under yX5_under, .initialized RX5]) (all4 mw_4_8 mw_4_10 ms_40 mw_1_6) mw_4_11) rfl rfl rfl (by decide +kernel) ⟨Nat.le_of_ble_eq_true rfl, Nat.le_of_ble_eq_true rfl⟩) hEV hP 0 rfl rfl rfl hl.1 rfl (Nat.le_of_ble_eq_true rfl) dX5_isOpen_141 ⟨Nat.zero_le _, Nat.zero_le _⟩ ?_
                refine lv_if_ne (tgt := 158) hx hb dX5_isOpen_144 (by decide) (fun c_144 => ?_) (fun c_144 => ?_)
                · have c_144 : (abB (vwX x w) u v || fcB (vwX x w) u v) = true := b2i_t c_144
                  have hE := (if_pos c_144).symm.trans hE
                  refine lv_iconst (v := (1 : Int32)) hx hb dX5_isOpen_158 (by decide) ?_
                  refine lv_goto (tgt := 163) hx hb dX5_isOpen_159 (by decide) ?_
                  exact W.zret hx hb hr rfl (fun t9 ht9 _ => ⟨_, rfl, hE, ht9⟩) (fun _ h9 => by cases h9) dX5_isOpen_163
                · have c_144 : ¬ ((abB (vwX x w) u v || fcB (vwX x w) u v) = true) := b2i_f c_144
                  have hE := (if_neg c_144).symm.trans hE
                  refine lv_aload_n hx hb dX5_isOpen_147 rfl (lv_at hl 4 rfl) ?_
                  refine lv_iload_n hx hb dX5_isOpen_148 rfl (lv_at hl 5 rfl) ?_
                  refine lv_iload hx hb dX5_isOpen_149 (lv_at hl 7 rfl) ?_
                  refine lv_iload_n hx hb dX5_isOpen_151 rfl (lv_at hl 6 rfl) ?_
                  refine ro_V [.int (nI w), .int (nI v), .int (nI u)] [] ⟨hx, hb, hml, hown, hts⟩ (c_X5_under l D cI cZ cB cR a x r1 r2 w n v u (by omega) wx (by omega) (by omega) gv) (cwV (C := RX5) 3 hts (goodP (ps := [.methodLink RX5 116 yX5_under, .instanceMethod yX5_under, .selects RX5 yX5_under yX5_under, .initialized RX5]) (all4 mw_4_8 mw_4_10 ms_40 mw_1_6) mw_4_11) rfl rfl rfl (by decide +kernel) ⟨Nat.le_of_ble_eq_true rfl, Nat.le_of_ble_eq_true rfl⟩) hEV hP 0 rfl rfl rfl hl.1 rfl (Nat.le_of_ble_eq_true rfl) dX5_isOpen_152 ⟨Nat.zero_le _, Nat.zero_le _⟩ ?_
                  refine lv_if_eq (tgt := 162) hx hb dX5_isOpen_155 (by decide) (fun c_155 => ?_) (fun c_155 => ?_)
                  · have c_155 : ¬ ((abB (vwX x w) v u || fcB (vwX x w) v u) = true) := b2i_f c_155
                    have hE := (if_neg c_155).symm.trans hE
                    refine lv_iconst (v := (0 : Int32)) hx hb dX5_isOpen_162 (by decide) ?_
                    exact W.zret hx hb hr rfl (fun t9 ht9 _ => ⟨_, rfl, hE, ht9⟩) (fun _ h9 => by cases h9) dX5_isOpen_163
                  · have c_155 : (abB (vwX x w) v u || fcB (vwX x w) v u) = true := b2i_t c_155
                    have hE := (if_pos c_155).symm.trans hE
                    refine lv_iconst (v := (1 : Int32)) hx hb dX5_isOpen_158 (by decide) ?_
                    refine lv_goto (tgt := 163) hx hb dX5_isOpen_159 (by decide) ?_
                    exact W.zret hx hb hr rfl (fun t9 ht9 _ => ⟨_, rfl, hE, ht9⟩) (fun _ h9 => by cases h9) dX5_isOpen_163
        · have c_98 : zs0 = true := b2i_t c_98
          have hE := (if_pos c_98).symm.trans hE
          refine lv_iconst (v := (1 : Int32)) hx hb dX5_isOpen_101 (by decide) ?_
          exact W.zret hx hb hr rfl (fun t9 ht9 _ => ⟨_, rfl, hE, ht9⟩) (fun _ h9 => by cases h9) dX5_isOpen_102
      · skip
        have hE := (if_pos c_70).symm.trans hE
        refine lv_aload_n hx hb dX5_isOpen_73 rfl (lv_at hl 4 rfl) ?_
        refine lv_iload_n hx hb dX5_isOpen_74 rfl (lv_at hl 5 rfl) ?_
        refine lv_iload hx hb dX5_isOpen_75 (lv_at hl 2 rfl) ?_
        refine ro_V [.int (nI w), .int (nI (sN (x 9 (30 * w + t))))] [] ⟨hx, hb, hml, hown, hts⟩ (c_X5_nestOf l D cI cZ cB cR a x r1 r2 w n (sN (x 9 (30 * w + t))) (by omega) wx (by omega) ) (cwV (C := RX5) 2 hts (goodP (ps := [.methodLink RX5 113 yX5_nestOf, .instanceMethod yX5_nestOf, .selects RX5 yX5_nestOf yX5_nestOf, .initialized RX5]) (all4 mw_4_20 mw_4_22 ms_43 mw_1_6) mw_4_23) rfl rfl rfl (by decide +kernel) ⟨Nat.le_of_ble_eq_true rfl, Nat.le_of_ble_eq_true rfl⟩) hEV hP 0 rfl rfl rfl hl.1 rfl (Nat.le_of_ble_eq_true rfl) dX5_isOpen_77 ⟨Nat.zero_le _, Nat.zero_le _⟩ ?_
        refine lv_aload_n hx hb dX5_isOpen_80 rfl (lv_at hl 4 rfl) ?_
        refine lv_iload_n hx hb dX5_isOpen_81 rfl (lv_at hl 5 rfl) ?_
        refine lv_iload hx hb dX5_isOpen_82 (lv_at hl 7 rfl) ?_
        refine ro_V [.int (nI w), .int (nI v)] [.int (nI (nsN (vwX x w) (sN (x 9 (30 * w + t)))))] ⟨hx, hb, hml, hown, hts⟩ (c_X5_nestOf l D cI cZ cB cR a x r1 r2 w n v (by omega) wx (by omega) ) (cwV (C := RX5) 2 hts (goodP (ps := [.methodLink RX5 113 yX5_nestOf, .instanceMethod yX5_nestOf, .selects RX5 yX5_nestOf yX5_nestOf, .initialized RX5]) (all4 mw_4_20 mw_4_22 ms_43 mw_1_6) mw_4_23) rfl rfl rfl (by decide +kernel) ⟨Nat.le_of_ble_eq_true rfl, Nat.le_of_ble_eq_true rfl⟩) hEV hP 0 rfl rfl rfl hl.1 rfl (Nat.le_of_ble_eq_true rfl) dX5_isOpen_84 ⟨Nat.zero_le _, Nat.zero_le _⟩ ?_
        refine lv_icmp_ne (tgt := 94) hx hb dX5_isOpen_87 (by decide) (fun c_87 => ?_) (fun c_87 => ?_)
        · have c_87 : ¬ ((nsN (vwX x w) (sN (x 9 (30 * w + t)))) = (nsN (vwX x w) v)) := fun q9 => c_87 ((nI_eq (a := (nsN (vwX x w) (sN (x 9 (30 * w + t))))) (b := (nsN (vwX x w) v)) (by omega) (by omega)).mpr q9)
          have hE := (if_neg c_87).symm.trans hE
          refine lv_iconst (v := (0 : Int32)) hx hb dX5_isOpen_94 (by decide) ?_
          exact W.zret hx hb hr rfl (fun t9 ht9 _ => ⟨_, rfl, hE, ht9⟩) (fun _ h9 => by cases h9) dX5_isOpen_95
        · have c_87 : (nsN (vwX x w) (sN (x 9 (30 * w + t)))) = (nsN (vwX x w) v) := (nI_eq (a := (nsN (vwX x w) (sN (x 9 (30 * w + t))))) (b := (nsN (vwX x w) v)) (by omega) (by omega)).mp c_87
          have hE := (if_pos c_87).symm.trans hE
          refine lv_iconst (v := (1 : Int32)) hx hb dX5_isOpen_90 (by decide) ?_
          refine lv_goto (tgt := 95) hx hb dX5_isOpen_91 (by decide) ?_
          exact W.zret hx hb hr rfl (fun t9 ht9 _ => ⟨_, rfl, hE, ht9⟩) (fun _ h9 => by cases h9) dX5_isOpen_95
    · skip
      have hE := (if_pos c_63).symm.trans hE
      refine lv_iconst (v := (1 : Int32)) hx hb dX5_isOpen_66 (by decide) ?_
      exact W.zret hx hb hr rfl (fun t9 ht9 _ => ⟨_, rfl, hE, ht9⟩) (fun _ h9 => by cases h9) dX5_isOpen_67
  refine lv_bipush (v := (30 : Int32)) hx hb dX5_isOpen_0 (by decide) ?_
  refine lv_iload_n hx hb dX5_isOpen_2 rfl (lv_at hl 1 rfl) ?_
  refine lv_imul hx hb dX5_isOpen_3 ?_
  refine top_eq (pk_mul 30 w) ?_
  refine lv_iload_n hx hb dX5_isOpen_4 rfl (lv_at hl 2 rfl) ?_
  refine lv_iadd hx hb dX5_isOpen_5 ?_
  refine top_eq (nI_add (30 * w) t) ?_
  refine lv_istore (lv' := [(5, .int (nI ((30 * w) + t))), (0, .ref (a 0)), (1, .int (nI w)), (2, .int (nI t)), (3, .int (nI u)), (4, .int (nI v))]) hx hb dX5_isOpen_6 hl (by decide) rfl (fun ls hl => ?_)
  refine lv_aload_n hx hb dX5_isOpen_8 rfl (lv_at hl 1 rfl) ?_
  refine va_get (D := D) (ci := 5) (v := .ref (a 10)) (C := RX5) (T := TX5) (N := 21) hx hb hts (fun w9 h9 => List.mem_cons_of_mem _ (inT_X5 w9 h9)) hown hK hP 0 rfl rfl 9 (by decide) (hts (.fieldLink RX5 38 "LinkPredictorModel" "owner" "[I") (List.mem_cons_of_mem _ mw_3_75)) (fun _ h9 => h9) rfl dX5_isOpen_9 ?_
  refine lv_iload hx hb dX5_isOpen_12 (lv_at hl 0 rfl) ?_
  refine ro_ald hx hb hEV hP 10 (j := ((30 * w) + t)) rfl (by omega) (by decide) dX5_isOpen_14 ?_
  refine top_eq ((wx.2.2.2 t hnt).1.2) ?_
  refine lv_istore (lv' := [(6, .int (nI (sN (x 9 (30 * w + t))))), (5, .int (nI ((30 * w) + t))), (0, .ref (a 0)), (1, .int (nI w)), (2, .int (nI t)), (3, .int (nI u)), (4, .int (nI v))]) hx hb dX5_isOpen_15 hl (by decide) rfl (fun ls hl => ?_)
  refine lv_aload_n hx hb dX5_isOpen_17 rfl (lv_at hl 2 rfl) ?_
  refine va_get (D := D) (ci := 5) (v := .ref (a 12)) (C := RX5) (T := TX5) (N := 21) hx hb hts (fun w9 h9 => List.mem_cons_of_mem _ (inT_X5 w9 h9)) hown hK hP 0 rfl rfl 11 (by decide) (hts (.fieldLink RX5 44 "LinkPredictorModel" "access" "[I") (List.mem_cons_of_mem _ mw_3_77)) (fun _ h9 => h9) rfl dX5_isOpen_18 ?_
  refine lv_iload hx hb dX5_isOpen_21 (lv_at hl 1 rfl) ?_
  refine ro_ald hx hb hEV hP 12 (j := ((30 * w) + t)) rfl (by omega) (by decide) dX5_isOpen_23 ?_
  refine lv_istore (lv' := [(7, .int (x 11 ((30 * w) + t))), (6, .int (nI (sN (x 9 (30 * w + t))))), (5, .int (nI ((30 * w) + t))), (0, .ref (a 0)), (1, .int (nI w)), (2, .int (nI t)), (3, .int (nI u)), (4, .int (nI v))]) hx hb dX5_isOpen_24 hl (by decide) rfl (fun ls hl => ?_)
  refine lv_aload_n hx hb dX5_isOpen_26 rfl (lv_at hl 3 rfl) ?_
  refine va_get (D := D) (ci := 5) (v := .ref (a 3)) (C := RX5) (T := TX5) (N := 21) hx hb hts (fun w9 h9 => List.mem_cons_of_mem _ (inT_X5 w9 h9)) hown hK hP 0 rfl rfl 2 (by decide) (hts (.fieldLink RX5 17 "LinkPredictorModel" "pack" "[I") (List.mem_cons_of_mem _ mw_3_68)) (fun _ h9 => h9) rfl dX5_isOpen_27 ?_
  refine lv_bipush (v := (12 : Int32)) hx hb dX5_isOpen_30 (by decide) ?_
  refine lv_iload_n hx hb dX5_isOpen_32 rfl (lv_at hl 4 rfl) ?_
  refine lv_imul hx hb dX5_isOpen_33 ?_
  refine top_eq (pk_mul 12 w) ?_
  refine lv_iload hx hb dX5_isOpen_34 (lv_at hl 1 rfl) ?_
  refine lv_iadd hx hb dX5_isOpen_36 ?_
  refine top_eq (nI_add (12 * w) (sN (x 9 (30 * w + t)))) ?_
  refine ro_ald hx hb hEV hP 3 (j := ((12 * w) + (sN (x 9 (30 * w + t))))) rfl (by omega) (by decide) dX5_isOpen_37 ?_
  refine lv_aload_n hx hb dX5_isOpen_38 rfl (lv_at hl 3 rfl) ?_
  refine va_get (D := D) (ci := 5) (v := .ref (a 3)) (C := RX5) (T := TX5) (N := 21) hx hb hts (fun w9 h9 => List.mem_cons_of_mem _ (inT_X5 w9 h9)) hown hK hP 0 rfl rfl 2 (by decide) (hts (.fieldLink RX5 17 "LinkPredictorModel" "pack" "[I") (List.mem_cons_of_mem _ mw_3_68)) (fun _ h9 => h9) rfl dX5_isOpen_39 ?_
  refine lv_bipush (v := (12 : Int32)) hx hb dX5_isOpen_42 (by decide) ?_
  refine lv_iload_n hx hb dX5_isOpen_44 rfl (lv_at hl 4 rfl) ?_
  refine lv_imul hx hb dX5_isOpen_45 ?_
  refine top_eq (pk_mul 12 w) ?_
  refine lv_iload hx hb dX5_isOpen_46 (lv_at hl 7 rfl) ?_
  refine lv_iadd hx hb dX5_isOpen_48 ?_
  refine top_eq (nI_add (12 * w) v) ?_
  refine ro_ald hx hb hEV hP 3 (j := ((12 * w) + v)) rfl (by omega) (by decide) dX5_isOpen_49 ?_
  refine lv_icmp_ne (tgt := 57) hx hb dX5_isOpen_50 (by decide) (fun c_50 => ?_) (fun c_50 => ?_)
  · skip
    have hE := (if_neg c_50).symm.trans hE
    refine lv_iconst (v := (0 : Int32)) hx hb dX5_isOpen_57 (by decide) ?_
    exact key_58 false ls  (lv_sub hl [0, 1, 2, 3, 4, 6, 7] rfl) hE
  · skip
    have hE := (if_pos c_50).symm.trans hE
    refine lv_iconst (v := (1 : Int32)) hx hb dX5_isOpen_53 (by decide) ?_
    refine lv_goto (tgt := 58) hx hb dX5_isOpen_54 (by decide) ?_
    exact key_58 true ls  (lv_sub hl [0, 1, 2, 3, 4, 6, 7] rfl) hE
noncomputable def p_X5_isAsk (x : Nat → Nat → Int32) (w n : Nat) (t : Int32) (u : Int32) : Int32 := if (wi t (2 : Int32)) = true then (if (wi u (x 19 0)) = true then ((1 : Int32)) else ((0 : Int32))) else ((0 : Int32))
theorem pe_X5_isAsk (x : Nat → Nat → Int32) (w n : Nat) (t : Int32) (u : Int32)    : p_X5_isAsk x w n t u = b2i (wi t 2 && wi u (x 19 0)) := by
  rw [p_X5_isAsk]
  by_cases c1 : wi t 2 = true <;> by_cases c2 : wi u (x 19 0) = true <;> simp [c1, c2, b2i]
set_option maxHeartbeats 4000000 in
set_option maxRecDepth 100000 in
theorem c_X5_isAsk (l : Launch) (D : va_G) (cI cZ cB cR : ClassId) (a : Nat → Nat) (x : Nat → Nat → Int32) (r1 r2 : Nat → Int32) (w n : Nat) (t : Int32) (u : Int32)    : RO l yX5_isAsk wsX5_isAsk ({ frames := 1, cells := 0, slots := 0, locals := 21 } : Room) D cI cZ cB cR (wX cI cZ a x r1 r2) [.ref (a 0), .int t, .int u] (b2i (wi t 2 && wi u (x 19 0))) := by
  have hE : p_X5_isAsk x w n t u = b2i (wi t 2 && wi u (x 19 0)) := pe_X5_isAsk x w n t u 
  refine Met.ofW (cc := cX5_isAsk) (maxL := 3) (ret := (some .boolean)) (by decide) rfl ?_
  intro p e s m args below meth c s₁ B hml hv
  obtain ⟨hargs, hP, hEV⟩ := hv
  have hx := B.exec
  have hb := B.bytes
  have hr := B.returns
  have hts := atoms_spec (ws := wsX5_isAsk) B.pre
  have hown : s.vm.findClass RX5 = some m.cls := findClass_of_methodNamed B.named
  have hlocks := B.notSynchronized
  have hK := hEV.1
  have hl := lv_entry ([.ref (a 0), .int t, .int u]) (n := 3) (Nat.le_of_ble_eq_true rfl)
  rw [show entryFrame m args 3 = entryFrame m ([.ref (a 0), .int t, .int u] : List Value).toArray 3 from by rw [hargs], lg_entry_eq]
  generalize (lg_sl ([.ref (a 0), .int t, .int u]) ++ List.replicate (3 - (lg_sl ([.ref (a 0), .int t, .int u])).length) Slot.unset).toArray = ls at hl ⊢
  have hl : lv_has ls 3 [(0, .ref (a 0)), (1, .int t), (2, .int u)] := hl
  rw [p_X5_isAsk] at hE
  refine lv_iload_n hx hb dX5_isAsk_0 rfl (lv_at hl 1 rfl) ?_
  refine lv_iconst (v := (2 : Int32)) hx hb dX5_isAsk_1 (by decide) ?_
  refine ro_S [.int t, .int (2 : Int32)] [] ⟨hx, hb, hml, hown, hts⟩ (c_X5_in l D cI cZ cB cR t (2 : Int32)) (va_cwS 2 hts (goodP (ps := [.methodLink RX5 72 yX5_in, .static yX5_in, .initialized RX5]) (all3 mw_3_135 mw_3_136 mw_1_6) mw_3_137) rfl rfl rfl (by decide +kernel) ⟨Nat.le_of_ble_eq_true rfl, Nat.le_of_ble_eq_true rfl⟩) hEV va_P0 rfl hl.1 rfl (Nat.le_of_ble_eq_true rfl) dX5_isAsk_2 ⟨Nat.zero_le _, Nat.zero_le _⟩ ?_
  refine lv_if_eq (tgt := 23) hx hb dX5_isAsk_5 (by decide) (fun c_5 => ?_) (fun c_5 => ?_)
  · have c_5 : ¬ ((wi t (2 : Int32)) = true) := b2i_f c_5
    have hE := (if_neg c_5).symm.trans hE
    refine lv_iconst (v := (0 : Int32)) hx hb dX5_isAsk_23 (by decide) ?_
    exact W.zret hx hb hr rfl (fun t9 ht9 _ => ⟨_, rfl, hE, ht9⟩) (fun _ h9 => by cases h9) dX5_isAsk_24
  · have c_5 : (wi t (2 : Int32)) = true := b2i_t c_5
    have hE := (if_pos c_5).symm.trans hE
    refine lv_iload_n hx hb dX5_isAsk_8 rfl (lv_at hl 2 rfl) ?_
    refine lv_aload_n hx hb dX5_isAsk_9 rfl (lv_at hl 0 rfl) ?_
    refine va_get (D := D) (ci := 5) (v := .int (x 19 0)) (C := RX5) (T := TX5) (N := 21) hx hb hts (fun w9 h9 => List.mem_cons_of_mem _ (inT_X5 w9 h9)) hown hK hP 0 rfl rfl 17 (by decide) (hts (.fieldLink RX5 91 "LinkPredictorModel" "references" "I") (List.mem_cons_of_mem _ mw_3_83)) (fun _ h9 => h9) rfl dX5_isAsk_10 ?_
    refine ro_S [.int u, .int (x 19 0)] [] ⟨hx, hb, hml, hown, hts⟩ (c_X5_in l D cI cZ cB cR u (x 19 0)) (va_cwS 2 hts (goodP (ps := [.methodLink RX5 72 yX5_in, .static yX5_in, .initialized RX5]) (all3 mw_3_135 mw_3_136 mw_1_6) mw_3_137) rfl rfl rfl (by decide +kernel) ⟨Nat.le_of_ble_eq_true rfl, Nat.le_of_ble_eq_true rfl⟩) hEV va_P0 rfl hl.1 rfl (Nat.le_of_ble_eq_true rfl) dX5_isAsk_13 ⟨Nat.zero_le _, Nat.zero_le _⟩ ?_
    refine lv_if_eq (tgt := 23) hx hb dX5_isAsk_16 (by decide) (fun c_16 => ?_) (fun c_16 => ?_)
    · have c_16 : ¬ ((wi u (x 19 0)) = true) := b2i_f c_16
      have hE := (if_neg c_16).symm.trans hE
      refine lv_iconst (v := (0 : Int32)) hx hb dX5_isAsk_23 (by decide) ?_
      exact W.zret hx hb hr rfl (fun t9 ht9 _ => ⟨_, rfl, hE, ht9⟩) (fun _ h9 => by cases h9) dX5_isAsk_24
    · have c_16 : (wi u (x 19 0)) = true := b2i_t c_16
      have hE := (if_pos c_16).symm.trans hE
      refine lv_iconst (v := (1 : Int32)) hx hb dX5_isAsk_19 (by decide) ?_
      refine lv_goto (tgt := 24) hx hb dX5_isAsk_20 (by decide) ?_
      exact W.zret hx hb hr rfl (fun t9 ht9 _ => ⟨_, rfl, hE, ht9⟩) (fun _ h9 => by cases h9) dX5_isAsk_24
noncomputable def p_X5_areAlike (x : Nat → Nat → Int32) (w n : Nat) (t : Nat) (u : Nat) : Int32 := if (t / 64) = (u / 64) then (if (t % 64) < 16 then (if (t % 64) = (u % 64) then ((1 : Int32)) else ((0 : Int32))) else (if 16 ≤ (u % 64) then (if (x 9 (t % 64 - 16)) = (x 9 (30 + u % 64 - 16)) then (if (x 6 (t % 64 - 16)) = (x 6 (30 + u % 64 - 16)) then (if (x 10 (t % 64 - 16)) = (x 10 (30 + u % 64 - 16)) then ((1 : Int32)) else ((0 : Int32))) else ((0 : Int32))) else ((0 : Int32))) else (if (t % 64) = (u % 64) then ((1 : Int32)) else ((0 : Int32))))) else ((0 : Int32))
set_option maxHeartbeats 4000000 in
set_option maxRecDepth 100000 in
theorem c_X5_areAlike (l : Launch) (D : va_G) (cI cZ cB cR : ClassId) (a : Nat → Nat) (x : Nat → Nat → Int32) (r1 r2 : Nat → Int32) (w n : Nat) (t : Nat) (u : Nat)  (hnt : t < 640) (hnu : u < 640) (hb1 : t % 64 < 46) (hb2 : u % 64 < 46) : RO l yX5_areAlike wsX5_areAlike ({ frames := 0, cells := 0, slots := 0, locals := 0 } : Room) D cI cZ cB cR (wX cI cZ a x r1 r2) [.ref (a 0), .int (nI t), .int (nI u)] (p_X5_areAlike x w n t u) := by
  generalize hE : p_X5_areAlike x w n t u = tgt
  refine Met.ofW (cc := cX5_areAlike) (maxL := 7) (ret := (some .boolean)) (by decide) rfl ?_
  intro p e s m args below meth c s₁ B hml hv
  obtain ⟨hargs, hP, hEV⟩ := hv
  have hx := B.exec
  have hb := B.bytes
  have hr := B.returns
  have hts := atoms_spec (ws := wsX5_areAlike) B.pre
  have hown : s.vm.findClass RX5 = some m.cls := findClass_of_methodNamed B.named
  have hlocks := B.notSynchronized
  have hK := hEV.1
  have hl := lv_entry ([.ref (a 0), .int (nI t), .int (nI u)]) (n := 7) (Nat.le_of_ble_eq_true rfl)
  rw [show entryFrame m args 7 = entryFrame m ([.ref (a 0), .int (nI t), .int (nI u)] : List Value).toArray 7 from by rw [hargs], lg_entry_eq]
  generalize (lg_sl ([.ref (a 0), .int (nI t), .int (nI u)]) ++ List.replicate (7 - (lg_sl ([.ref (a 0), .int (nI t), .int (nI u)])).length) Slot.unset).toArray = ls at hl ⊢
  have hl : lv_has ls 7 [(0, .ref (a 0)), (1, .int (nI t)), (2, .int (nI u))] := hl
  rw [p_X5_areAlike] at hE
  refine lv_iload_n hx hb dX5_areAlike_0 rfl (lv_at hl 1 rfl) ?_
  refine lv_bipush (v := (64 : Int32)) hx hb dX5_areAlike_1 (by decide) ?_
  refine lv_idiv hx hb dX5_areAlike_3 (by decide) ?_
  refine top_eq (pk_div (a := t) (d := 64) (by omega) (by omega) (by omega)) ?_
  refine lv_iload_n hx hb dX5_areAlike_4 rfl (lv_at hl 2 rfl) ?_
  refine lv_bipush (v := (64 : Int32)) hx hb dX5_areAlike_5 (by decide) ?_
  refine lv_idiv hx hb dX5_areAlike_7 (by decide) ?_
  refine top_eq (pk_div (a := u) (d := 64) (by omega) (by omega) (by omega)) ?_
  refine lv_icmp_eq (tgt := 13) hx hb dX5_areAlike_8 (by decide) (fun c_8 => ?_) (fun c_8 => ?_)
  · have c_8 : (t / 64) = (u / 64) := (nI_eq (a := (t / 64)) (b := (u / 64)) (by omega) (by omega)).mp c_8
    have hE := (if_pos c_8).symm.trans hE
    refine lv_iload_n hx hb dX5_areAlike_13 rfl (lv_at hl 1 rfl) ?_
    refine lv_bipush (v := (64 : Int32)) hx hb dX5_areAlike_14 (by decide) ?_
    refine lv_irem hx hb dX5_areAlike_16 (by decide) ?_
    refine top_eq (pk_rem (a := t) (d := 64) (by omega) (by omega) (by omega)) ?_
    refine lv_istore_n (lv' := [(3, .int (nI (t % 64))), (0, .ref (a 0)), (1, .int (nI t)), (2, .int (nI u))]) hx hb dX5_areAlike_17 rfl hl (by decide) rfl (fun ls hl => ?_)
    refine lv_iload_n hx hb dX5_areAlike_18 rfl (lv_at hl 3 rfl) ?_
    refine lv_bipush (v := (64 : Int32)) hx hb dX5_areAlike_19 (by decide) ?_
    refine lv_irem hx hb dX5_areAlike_21 (by decide) ?_
    refine top_eq (pk_rem (a := u) (d := 64) (by omega) (by omega) (by omega)) ?_
    refine lv_istore (lv' := [(4, .int (nI (u % 64))), (3, .int (nI (t % 64))), (0, .ref (a 0)), (1, .int (nI t)), (2, .int (nI u))]) hx hb dX5_areAlike_22 hl (by decide) rfl (fun ls hl => ?_)
    refine lv_iload_n hx hb dX5_areAlike_24 rfl (lv_at hl 1 rfl) ?_
    refine lv_bipush (v := (16 : Int32)) hx hb dX5_areAlike_25 (by decide) ?_
    refine lv_icmp_lt (tgt := 37) hx hb dX5_areAlike_27 (by decide) (fun c_27 => ?_) (fun c_27 => ?_)
    · have c_27 : (t % 64) < 16 := (nI_ltI (a := (t % 64)) (b := 16) (by omega) (by omega)).mp c_27
      have hE := (if_pos c_27).symm.trans hE
      refine lv_iload_n hx hb dX5_areAlike_37 rfl (lv_at hl 1 rfl) ?_
      refine lv_iload hx hb dX5_areAlike_38 (lv_at hl 0 rfl) ?_
      refine lv_icmp_ne (tgt := 47) hx hb dX5_areAlike_40 (by decide) (fun c_40 => ?_) (fun c_40 => ?_)
      · have c_40 : ¬ ((t % 64) = (u % 64)) := fun q9 => c_40 ((nI_eq (a := (t % 64)) (b := (u % 64)) (by omega) (by omega)).mpr q9)
        have hE := (if_neg c_40).symm.trans hE
        refine lv_iconst (v := (0 : Int32)) hx hb dX5_areAlike_47 (by decide) ?_
        exact W.zret hx hb hr rfl (fun t9 ht9 _ => ⟨_, rfl, hE, ht9⟩) (fun _ h9 => by cases h9) dX5_areAlike_48
      · have c_40 : (t % 64) = (u % 64) := (nI_eq (a := (t % 64)) (b := (u % 64)) (by omega) (by omega)).mp c_40
        have hE := (if_pos c_40).symm.trans hE
        refine lv_iconst (v := (1 : Int32)) hx hb dX5_areAlike_43 (by decide) ?_
        refine lv_goto (tgt := 48) hx hb dX5_areAlike_44 (by decide) ?_
        exact W.zret hx hb hr rfl (fun t9 ht9 _ => ⟨_, rfl, hE, ht9⟩) (fun _ h9 => by cases h9) dX5_areAlike_48
    · have c_27 : ¬ ((t % 64) < 16) := fun q9 => c_27 ((nI_ltI (a := (t % 64)) (b := 16) (by omega) (by omega)).mpr q9)
      have hE := (if_neg c_27).symm.trans hE
      refine lv_iload hx hb dX5_areAlike_30 (lv_at hl 0 rfl) ?_
      refine lv_bipush (v := (16 : Int32)) hx hb dX5_areAlike_32 (by decide) ?_
      refine lv_icmp_ge (tgt := 49) hx hb dX5_areAlike_34 (by decide) (fun c_34 => ?_) (fun c_34 => ?_)
      · have c_34 : 16 ≤ (u % 64) := (nI_leI (a := 16) (b := (u % 64)) (by omega) (by omega)).mp c_34
        have hE := (if_pos c_34).symm.trans hE
        refine lv_iload_n hx hb dX5_areAlike_49 rfl (lv_at hl 1 rfl) ?_
        refine lv_bipush (v := (16 : Int32)) hx hb dX5_areAlike_50 (by decide) ?_
        refine lv_isub hx hb dX5_areAlike_52 ?_
        refine top_eq (pk_sub (a := t % 64) (b := 16) (by omega)) ?_
        refine lv_istore (lv' := [(5, .int (nI (t % 64 - 16))), (4, .int (nI (u % 64))), (3, .int (nI (t % 64))), (0, .ref (a 0)), (1, .int (nI t)), (2, .int (nI u))]) hx hb dX5_areAlike_53 hl (by decide) rfl (fun ls hl => ?_)
        refine lv_bipush (v := (30 : Int32)) hx hb dX5_areAlike_55 (by decide) ?_
        refine lv_iload hx hb dX5_areAlike_57 (lv_at hl 1 rfl) ?_
        refine lv_iadd hx hb dX5_areAlike_59 ?_
        refine top_eq (nI_add 30 (u % 64)) ?_
        refine lv_bipush (v := (16 : Int32)) hx hb dX5_areAlike_60 (by decide) ?_
        refine lv_isub hx hb dX5_areAlike_62 ?_
        refine top_eq (pk_sub (a := 30 + u % 64) (b := 16) (by omega)) ?_
        refine lv_istore (lv' := [(6, .int (nI (30 + u % 64 - 16))), (5, .int (nI (t % 64 - 16))), (4, .int (nI (u % 64))), (3, .int (nI (t % 64))), (0, .ref (a 0)), (1, .int (nI t)), (2, .int (nI u))]) hx hb dX5_areAlike_63 hl (by decide) rfl (fun ls hl => ?_)
        refine lv_aload_n hx hb dX5_areAlike_65 rfl (lv_at hl 4 rfl) ?_
        refine va_get (D := D) (ci := 5) (v := .ref (a 10)) (C := RX5) (T := TX5) (N := 21) hx hb hts (fun w9 h9 => List.mem_cons_of_mem _ (inT_X5 w9 h9)) hown hK hP 0 rfl rfl 9 (by decide) (hts (.fieldLink RX5 38 "LinkPredictorModel" "owner" "[I") (List.mem_cons_of_mem _ mw_3_75)) (fun _ h9 => h9) rfl dX5_areAlike_66 ?_
        refine lv_iload hx hb dX5_areAlike_69 (lv_at hl 1 rfl) ?_
        refine ro_ald hx hb hEV hP 10 (j := (t % 64 - 16)) rfl (by omega) (by decide) dX5_areAlike_71 ?_
        refine lv_aload_n hx hb dX5_areAlike_72 rfl (lv_at hl 4 rfl) ?_
        refine va_get (D := D) (ci := 5) (v := .ref (a 10)) (C := RX5) (T := TX5) (N := 21) hx hb hts (fun w9 h9 => List.mem_cons_of_mem _ (inT_X5 w9 h9)) hown hK hP 0 rfl rfl 9 (by decide) (hts (.fieldLink RX5 38 "LinkPredictorModel" "owner" "[I") (List.mem_cons_of_mem _ mw_3_75)) (fun _ h9 => h9) rfl dX5_areAlike_73 ?_
        refine lv_iload hx hb dX5_areAlike_76 (lv_at hl 0 rfl) ?_
        refine ro_ald hx hb hEV hP 10 (j := (30 + u % 64 - 16)) rfl (by omega) (by decide) dX5_areAlike_78 ?_
        refine lv_icmp_ne (tgt := 120) hx hb dX5_areAlike_79 (by decide) (fun c_79 => ?_) (fun c_79 => ?_)
        · skip
          have hE := (if_neg c_79).symm.trans hE
          refine lv_iconst (v := (0 : Int32)) hx hb dX5_areAlike_120 (by decide) ?_
          exact W.zret hx hb hr rfl (fun t9 ht9 _ => ⟨_, rfl, hE, ht9⟩) (fun _ h9 => by cases h9) dX5_areAlike_121
        · skip
          have hE := (if_pos c_79).symm.trans hE
          refine lv_aload_n hx hb dX5_areAlike_82 rfl (lv_at hl 4 rfl) ?_
          refine va_get (D := D) (ci := 5) (v := .ref (a 7)) (C := RX5) (T := TX5) (N := 21) hx hb hts (fun w9 h9 => List.mem_cons_of_mem _ (inT_X5 w9 h9)) hown hK hP 0 rfl rfl 6 (by decide) (hts (.fieldLink RX5 29 "LinkPredictorModel" "method" "[Z") (List.mem_cons_of_mem _ mw_3_72)) (fun _ h9 => h9) rfl dX5_areAlike_83 ?_
          refine lv_iload hx hb dX5_areAlike_86 (lv_at hl 1 rfl) ?_
          refine ro_zld hx hb hEV hP 7 (j := (t % 64 - 16)) rfl (by omega) (by decide) dX5_areAlike_88 ?_
          refine lv_aload_n hx hb dX5_areAlike_89 rfl (lv_at hl 4 rfl) ?_
          refine va_get (D := D) (ci := 5) (v := .ref (a 7)) (C := RX5) (T := TX5) (N := 21) hx hb hts (fun w9 h9 => List.mem_cons_of_mem _ (inT_X5 w9 h9)) hown hK hP 0 rfl rfl 6 (by decide) (hts (.fieldLink RX5 29 "LinkPredictorModel" "method" "[Z") (List.mem_cons_of_mem _ mw_3_72)) (fun _ h9 => h9) rfl dX5_areAlike_90 ?_
          refine lv_iload hx hb dX5_areAlike_93 (lv_at hl 0 rfl) ?_
          refine ro_zld hx hb hEV hP 7 (j := (30 + u % 64 - 16)) rfl (by omega) (by decide) dX5_areAlike_95 ?_
          refine lv_icmp_ne (tgt := 120) hx hb dX5_areAlike_96 (by decide) (fun c_96 => ?_) (fun c_96 => ?_)
          · skip
            have hE := (if_neg c_96).symm.trans hE
            refine lv_iconst (v := (0 : Int32)) hx hb dX5_areAlike_120 (by decide) ?_
            exact W.zret hx hb hr rfl (fun t9 ht9 _ => ⟨_, rfl, hE, ht9⟩) (fun _ h9 => by cases h9) dX5_areAlike_121
          · skip
            have hE := (if_pos c_96).symm.trans hE
            refine lv_aload_n hx hb dX5_areAlike_99 rfl (lv_at hl 4 rfl) ?_
            refine va_get (D := D) (ci := 5) (v := .ref (a 11)) (C := RX5) (T := TX5) (N := 21) hx hb hts (fun w9 h9 => List.mem_cons_of_mem _ (inT_X5 w9 h9)) hown hK hP 0 rfl rfl 10 (by decide) (hts (.fieldLink RX5 41 "LinkPredictorModel" "sign" "[I") (List.mem_cons_of_mem _ mw_3_76)) (fun _ h9 => h9) rfl dX5_areAlike_100 ?_
            refine lv_iload hx hb dX5_areAlike_103 (lv_at hl 1 rfl) ?_
            refine ro_ald hx hb hEV hP 11 (j := (t % 64 - 16)) rfl (by omega) (by decide) dX5_areAlike_105 ?_
            refine lv_aload_n hx hb dX5_areAlike_106 rfl (lv_at hl 4 rfl) ?_
            refine va_get (D := D) (ci := 5) (v := .ref (a 11)) (C := RX5) (T := TX5) (N := 21) hx hb hts (fun w9 h9 => List.mem_cons_of_mem _ (inT_X5 w9 h9)) hown hK hP 0 rfl rfl 10 (by decide) (hts (.fieldLink RX5 41 "LinkPredictorModel" "sign" "[I") (List.mem_cons_of_mem _ mw_3_76)) (fun _ h9 => h9) rfl dX5_areAlike_107 ?_
            refine lv_iload hx hb dX5_areAlike_110 (lv_at hl 0 rfl) ?_
            refine ro_ald hx hb hEV hP 11 (j := (30 + u % 64 - 16)) rfl (by omega) (by decide) dX5_areAlike_112 ?_
            refine lv_icmp_ne (tgt := 120) hx hb dX5_areAlike_113 (by decide) (fun c_113 => ?_) (fun c_113 => ?_)
            · skip
              have hE := (if_neg c_113).symm.trans hE
              refine lv_iconst (v := (0 : Int32)) hx hb dX5_areAlike_120 (by decide) ?_
              exact W.zret hx hb hr rfl (fun t9 ht9 _ => ⟨_, rfl, hE, ht9⟩) (fun _ h9 => by cases h9) dX5_areAlike_121
            · skip
              have hE := (if_pos c_113).symm.trans hE
              refine lv_iconst (v := (1 : Int32)) hx hb dX5_areAlike_116 (by decide) ?_
              refine lv_goto (tgt := 121) hx hb dX5_areAlike_117 (by decide) ?_
              exact W.zret hx hb hr rfl (fun t9 ht9 _ => ⟨_, rfl, hE, ht9⟩) (fun _ h9 => by cases h9) dX5_areAlike_121
      · have c_34 : ¬ (16 ≤ (u % 64)) := fun q9 => c_34 ((nI_leI (a := 16) (b := (u % 64)) (by omega) (by omega)).mpr q9)
        have hE := (if_neg c_34).symm.trans hE
        refine lv_iload_n hx hb dX5_areAlike_37 rfl (lv_at hl 1 rfl) ?_
        refine lv_iload hx hb dX5_areAlike_38 (lv_at hl 0 rfl) ?_
        refine lv_icmp_ne (tgt := 47) hx hb dX5_areAlike_40 (by decide) (fun c_40 => ?_) (fun c_40 => ?_)
        · have c_40 : ¬ ((t % 64) = (u % 64)) := fun q9 => c_40 ((nI_eq (a := (t % 64)) (b := (u % 64)) (by omega) (by omega)).mpr q9)
          have hE := (if_neg c_40).symm.trans hE
          refine lv_iconst (v := (0 : Int32)) hx hb dX5_areAlike_47 (by decide) ?_
          exact W.zret hx hb hr rfl (fun t9 ht9 _ => ⟨_, rfl, hE, ht9⟩) (fun _ h9 => by cases h9) dX5_areAlike_48
        · have c_40 : (t % 64) = (u % 64) := (nI_eq (a := (t % 64)) (b := (u % 64)) (by omega) (by omega)).mp c_40
          have hE := (if_pos c_40).symm.trans hE
          refine lv_iconst (v := (1 : Int32)) hx hb dX5_areAlike_43 (by decide) ?_
          refine lv_goto (tgt := 48) hx hb dX5_areAlike_44 (by decide) ?_
          exact W.zret hx hb hr rfl (fun t9 ht9 _ => ⟨_, rfl, hE, ht9⟩) (fun _ h9 => by cases h9) dX5_areAlike_48
  · have c_8 : ¬ ((t / 64) = (u / 64)) := fun q9 => c_8 ((nI_eq (a := (t / 64)) (b := (u / 64)) (by omega) (by omega)).mpr q9)
    have hE := (if_neg c_8).symm.trans hE
    refine lv_iconst (v := (0 : Int32)) hx hb dX5_areAlike_11 (by decide) ?_
    exact W.zret hx hb hr rfl (fun t9 ht9 _ => ⟨_, rfl, hE, ht9⟩) (fun _ h9 => by cases h9) dX5_areAlike_12
noncomputable def p_X5_neighbours_13 (x : Nat → Nat → Int32) (w n : Nat)  (K4 : Nat → Int32 → Int32) : Nat → Nat → Nat → Int32 → Int32
  | 0, _, _, _ => 0
  | k + 1, n4, n3, v2 => if 12 ≤ n4 then (K4 (n3 + 1) v2) else (if n3 = n4 then (p_X5_neighbours_13 x w n  K4 k (n4 + 1) n3 v2) else (if (x 0 ((12 * w) + n3)) = (0 : Int32) then (p_X5_neighbours_13 x w n  K4 k (n4 + 1) n3 v2) else (if (x 0 ((12 * w) + n4)) = (0 : Int32) then (p_X5_neighbours_13 x w n  K4 k (n4 + 1) n3 v2) else (if (nsN (vwX x w) n3) = (nsN (vwX x w) n4) then (p_X5_neighbours_13 x w n  K4 k (n4 + 1) n3 (v2 ||| ((1 : Int32) <<< ((nI n3) &&& 31)))) else (p_X5_neighbours_13 x w n  K4 k (n4 + 1) n3 v2)))))
noncomputable def p_X5_neighbours_4 (x : Nat → Nat → Int32) (w n : Nat)  : Nat → Nat → Int32 → Int32
  | 0, _, _ => 0
  | k + 1, n3, v2 => if 12 ≤ n3 then (v2) else (p_X5_neighbours_13 x w n  (fun n3 v2 => p_X5_neighbours_4 x w n  k n3 v2) 13 0 n3 v2)
noncomputable def p_X5_neighbours (x : Nat → Nat → Int32) (w n : Nat)  : Int32 := p_X5_neighbours_4 x w n  13 0 (0 : Int32)
theorem pl_X5_nb13 (x : Nat → Nat → Int32) (w n : Nat) (K : Nat → Int32 → Int32) (t : Nat) (ht : t < 12) : ∀ k j v, 12 - j < k → j ≤ 12 → ∃ v', p_X5_neighbours_13 x w n K k j t v = K (t + 1) v' ∧ ∀ q, q < 32 → (bt v' q = true ↔ bt v q = true ∨ (q = t ∧ ∃ u, j ≤ u ∧ u < 12 ∧ ¬ t = u ∧ mtB (vwX x w) t u = true)) := by
  intro k
  induction k with
  | zero => intro j v h1; omega
  | succ k ih =>
    intro j v hk hj
    rw [p_X5_neighbours_13]
    by_cases c : 12 ≤ j
    · rw [if_pos c]
      refine ⟨v, rfl, fun q _ => ⟨Or.inl, ?_⟩⟩
      rintro (z | ⟨-, u, z1, z2, -⟩)
      · exact z
      · omega
    · rw [if_neg c]
      have skip : (t = j ∨ mtB (vwX x w) t j = false) → ∃ v', p_X5_neighbours_13 x w n K k (j + 1) t v = K (t + 1) v' ∧ ∀ q, q < 32 → (bt v' q = true ↔ bt v q = true ∨ (q = t ∧ ∃ u, j ≤ u ∧ u < 12 ∧ ¬ t = u ∧ mtB (vwX x w) t u = true)) := by
        intro hq
        obtain ⟨v', e, hv⟩ := ih (j + 1) v (by omega) (by omega)
        refine ⟨v', e, fun q hq2 => ?_⟩
        rw [hv q hq2]
        refine or_congr Iff.rfl (and_congr Iff.rfl ?_)
        constructor
        · rintro ⟨u, z1, z2⟩; exact ⟨u, by omega, z2⟩
        · rintro ⟨u, z1, z2, z3, z4⟩
          rcases Nat.lt_or_ge j u with y | y
          · exact ⟨u, y, z2, z3, z4⟩
          · have e : u = j := by omega
            subst e
            rcases hq with hq | hq
            · exact absurd hq z3
            · rw [hq] at z4; exact absurd z4 (by decide)
      have et : ∀ k, (x 0 (12 * w + k) = 0) ↔ ¬ thB (vwX x w) k = true := fun k => by
        show _ ↔ ¬ (!decide (x 0 (12 * w + k) = 0)) = true
        simp
      by_cases c0 : t = j
      · rw [if_pos c0]; exact skip (Or.inl c0)
      · rw [if_neg c0]
        by_cases c1 : x 0 (12 * w + t) = 0
        · rw [if_pos c1]; exact skip (Or.inr (by unfold mtB; simp [(et t).mp c1]))
        · rw [if_neg c1]
          by_cases c2 : x 0 (12 * w + j) = 0
          · rw [if_pos c2]; exact skip (Or.inr (by unfold mtB; simp [(et j).mp c2]))
          · rw [if_neg c2]
            by_cases c3 : nsN (vwX x w) t = nsN (vwX x w) j
            · rw [if_pos c3]
              have hm : mtB (vwX x w) t j = true := by
                have h1 : thB (vwX x w) t = true := Classical.byContradiction (fun z => c1 ((et t).mpr z))
                have h2 : thB (vwX x w) j = true := Classical.byContradiction (fun z => c2 ((et j).mpr z))
                simp [mtB, h1, h2, c3]
              obtain ⟨v', e, hv⟩ := ih (j + 1) (v ||| bm t) (by omega) (by omega)
              refine ⟨v', e, fun q hq => ?_⟩
              rw [hv q hq, b_or, b_bm (by omega) hq, Bool.or_eq_true, decide_eq_true_eq]
              constructor
              · rintro ((z | z) | ⟨z1, u, z2, z3⟩)
                · exact Or.inl z
                · exact Or.inr ⟨z, j, Nat.le_refl j, by omega, c0, hm⟩
                · exact Or.inr ⟨z1, u, by omega, z3⟩
              · rintro (z | ⟨z1, -⟩)
                · exact Or.inl (Or.inl z)
                · exact Or.inl (Or.inr z1)
            · rw [if_neg c3]; exact skip (Or.inr (by unfold mtB; simp [c3]))
theorem pl_X5_nb4 (x : Nat → Nat → Int32) (w n : Nat) : ∀ k t v, 12 - t < k → t ≤ 12 → ∀ q, q < 32 → (bt (p_X5_neighbours_4 x w n k t v) q = true ↔ bt v q = true ∨ (t ≤ q ∧ q < 12 ∧ shB (vwX x w) q = true)) := by
  intro k
  induction k with
  | zero => intro t v h1; omega
  | succ k ih =>
    intro t v hk ht q hq
    rw [p_X5_neighbours_4]
    by_cases c : 12 ≤ t
    · rw [if_pos c]
      refine ⟨Or.inl, ?_⟩
      rintro (z | ⟨z1, z2, -⟩)
      · exact z
      · omega
    · rw [if_neg c]
      obtain ⟨v', e, hv⟩ := pl_X5_nb13 x w n (fun n3 v2 => p_X5_neighbours_4 x w n k n3 v2) t (by omega) 13 0 v (by omega) (by omega)
      have hs : shB (vwX x w) t = true ↔ ∃ u, 0 ≤ u ∧ u < 12 ∧ ¬ t = u ∧ mtB (vwX x w) t u = true := by
        unfold shB
        rw [exB_iff]
        constructor
        · rintro ⟨u, z1, z2⟩
          simp only [Bool.and_eq_true, Bool.not_eq_true', decide_eq_false_iff_not] at z2
          exact ⟨u, Nat.zero_le u, z1, fun e => z2.1 e.symm, z2.2⟩
        · rintro ⟨u, -, z1, z2, z3⟩
          exact ⟨u, z1, by simp only [Bool.and_eq_true, Bool.not_eq_true', decide_eq_false_iff_not]; exact ⟨fun e => z2 e.symm, z3⟩⟩
      rw [e, ih (t + 1) v' (by omega) (by omega) q hq, hv q hq, ← hs]
      constructor
      · rintro ((z | ⟨z1, z2⟩) | ⟨z1, z2, z3⟩)
        · exact Or.inl z
        · subst z1; exact Or.inr ⟨Nat.le_refl q, by omega, z2⟩
        · exact Or.inr ⟨by omega, z2, z3⟩
      · rintro (z | ⟨z1, z2, z3⟩)
        · exact Or.inl (Or.inl z)
        · rcases Nat.lt_or_ge t q with y | y
          · exact Or.inr ⟨y, z2, z3⟩
          · have e : q = t := by omega
            subst e
            exact Or.inl (Or.inr ⟨rfl, z3⟩)
theorem pe_X5_neighbours (x : Nat → Nat → Int32) (w n : Nat)  (hw : w < 2) (wx : WX x w n)   : p_X5_neighbours x w n  = shI (vwX x w) := by
  rw [p_X5_neighbours]
  apply b_ext
  intro q hq
  rw [Bool.eq_iff_iff, pl_X5_nb4 x w n 13 0 0 (by omega) (by omega) q hq, shI_bt hq, b_0]
  simp
set_option maxHeartbeats 4000000 in
set_option maxRecDepth 100000 in
theorem c_X5_neighbours (l : Launch) (D : va_G) (cI cZ cB cR : ClassId) (a : Nat → Nat) (x : Nat → Nat → Int32) (r1 r2 : Nat → Int32) (w n : Nat)  (hw : w < 2) (wx : WX x w n)   : RO l yX5_neighbours wsX5_neighbours ({ frames := 1, cells := 0, slots := 0, locals := 24 } : Room) D cI cZ cB cR (wX cI cZ a x r1 r2) [.ref (a 0), .int (nI w)] (shI (vwX x w)) := by
  have hE : p_X5_neighbours x w n  = shI (vwX x w) := pe_X5_neighbours x w n  hw wx
  refine Met.ofW (cc := cX5_neighbours) (maxL := 5) (ret := (some .int)) (by decide) rfl ?_
  intro p e s m args below meth c s₁ B hml hv
  obtain ⟨hargs, hP, hEV⟩ := hv
  have hx := B.exec
  have hb := B.bytes
  have hr := B.returns
  have hts := atoms_spec (ws := wsX5_neighbours) B.pre
  have hown : s.vm.findClass RX5 = some m.cls := findClass_of_methodNamed B.named
  have hlocks := B.notSynchronized
  have hK := hEV.1
  have hl := lv_entry ([.ref (a 0), .int (nI w)]) (n := 5) (Nat.le_of_ble_eq_true rfl)
  rw [show entryFrame m args 5 = entryFrame m ([.ref (a 0), .int (nI w)] : List Value).toArray 5 from by rw [hargs], lg_entry_eq]
  generalize (lg_sl ([.ref (a 0), .int (nI w)]) ++ List.replicate (5 - (lg_sl ([.ref (a 0), .int (nI w)])).length) Slot.unset).toArray = ls at hl ⊢
  have hl : lv_has ls 5 [(0, .ref (a 0)), (1, .int (nI w))] := hl
  rw [p_X5_neighbours] at hE
  have hn30 := wx.2.2.1
  have key_4 : ∀ (k_4 : Nat) (n3 : Nat) (v2 : Int32) (ls : Array Slot), (12 - n3) < k_4 → n3 ≤ 12 → lv_has ls 5 [(3, .int (nI n3)), (2, .int v2), (0, .ref (a 0)), (1, .int (nI w))] → p_X5_neighbours_4 x w n  k_4 n3 v2 = shI (vwX x w) → W p l e (headSpec wsX5_neighbours ({ frames := 1, cells := 0, slots := 0, locals := 24 } : Room)).room s m args below meth c s.heap [] 0 0 (MQ below (vp_Si (fun r => r = shI (vwX x w))) args s 0 0 (fun _ => False)) (F0 m 4 ls []) := by
    intro k_4
    induction k_4 with
    | zero => intro n3 v2 ls hm; exact absurd hm (Nat.not_lt_zero _)
    | succ k_4 ih_4 =>
      have key_13 : ∀ (k_13 : Nat) (n4 : Nat) (n3 : Nat) (v2 : Int32) (ls : Array Slot), (12 - n4) < k_13 → n3 < 12 → n4 ≤ 12 → (12 - n3) < k_4 + 1 → lv_has ls 5 [(4, .int (nI n4)), (3, .int (nI n3)), (2, .int v2), (0, .ref (a 0)), (1, .int (nI w))] → p_X5_neighbours_13 x w n  (fun n3 v2 => p_X5_neighbours_4 x w n  k_4 n3 v2) k_13 n4 n3 v2 = shI (vwX x w) → W p l e (headSpec wsX5_neighbours ({ frames := 1, cells := 0, slots := 0, locals := 24 } : Room)).room s m args below meth c s.heap [] 0 0 (MQ below (vp_Si (fun r => r = shI (vwX x w))) args s 0 0 (fun _ => False)) (F0 m 13 ls []) := by
        intro k_13
        induction k_13 with
        | zero => intro n4 n3 v2 ls hm; exact absurd hm (Nat.not_lt_zero _)
        | succ k_13 ih_13 =>
          intro n4 n3 v2 ls hm_13 hi_13_0 hi_13_1 hi_13_2 hl hE
          rw [p_X5_neighbours_13] at hE
          refine lv_iload hx hb dX5_neighbours_13 (lv_at hl 0 rfl) ?_
          refine lv_bipush (v := (12 : Int32)) hx hb dX5_neighbours_15 (by decide) ?_
          refine lv_icmp_ge (tgt := 83) hx hb dX5_neighbours_17 (by decide) (fun c_17 => ?_) (fun c_17 => ?_)
          · have c_17 : 12 ≤ n4 := (nI_leI (a := 12) (b := n4) (by omega) (by omega)).mp c_17
            have hE := (if_pos c_17).symm.trans hE
            refine lv_iinc (v := nI (n3 + 1)) (lv' := [(3, .int (nI (n3 + 1))), (4, .int (nI n4)), (2, .int v2), (0, .ref (a 0)), (1, .int (nI w))]) hx hb dX5_neighbours_83 hl (k := 1) rfl (nI_1 _) (by decide) rfl (fun ls hl => ?_)
            refine lv_goto (tgt := 4) hx hb dX5_neighbours_86 (by decide) ?_
            exact ih_4 (n3 + 1) v2 ls (by omega) (by omega) (lv_sub hl [0, 2, 3, 4] rfl) hE
          · have c_17 : ¬ (12 ≤ n4) := fun q9 => c_17 ((nI_leI (a := 12) (b := n4) (by omega) (by omega)).mpr q9)
            have hE := (if_neg c_17).symm.trans hE
            refine lv_iload_n hx hb dX5_neighbours_20 rfl (lv_at hl 1 rfl) ?_
            refine lv_iload hx hb dX5_neighbours_21 (lv_at hl 0 rfl) ?_
            refine lv_icmp_eq (tgt := 77) hx hb dX5_neighbours_23 (by decide) (fun c_23 => ?_) (fun c_23 => ?_)
            · have c_23 : n3 = n4 := (nI_eq (a := n3) (b := n4) (by omega) (by omega)).mp c_23
              have hE := (if_pos c_23).symm.trans hE
              refine lv_iinc (v := nI (n4 + 1)) (lv' := [(4, .int (nI (n4 + 1))), (3, .int (nI n3)), (2, .int v2), (0, .ref (a 0)), (1, .int (nI w))]) hx hb dX5_neighbours_77 hl (k := 0) rfl (nI_1 _) (by decide) rfl (fun ls hl => ?_)
              refine lv_goto (tgt := 13) hx hb dX5_neighbours_80 (by decide) ?_
              exact ih_13 (n4 + 1) n3 v2 ls (by omega) (by omega) (by omega) (by omega) (lv_sub hl [0, 1, 2, 3, 4] rfl) hE
            · have c_23 : ¬ (n3 = n4) := fun q9 => c_23 ((nI_eq (a := n3) (b := n4) (by omega) (by omega)).mpr q9)
              have hE := (if_neg c_23).symm.trans hE
              refine lv_aload_n hx hb dX5_neighbours_26 rfl (lv_at hl 3 rfl) ?_
              refine va_get (D := D) (ci := 5) (v := .ref (a 1)) (C := RX5) (T := TX5) (N := 21) hx hb hts (fun w9 h9 => List.mem_cons_of_mem _ (inT_X5 w9 h9)) hown hK hP 0 rfl rfl 0 (by decide) (hts (.fieldLink RX5 7 "LinkPredictorModel" "there" "[Z") (List.mem_cons_of_mem _ mw_3_66)) (fun _ h9 => h9) rfl dX5_neighbours_27 ?_
              refine lv_bipush (v := (12 : Int32)) hx hb dX5_neighbours_30 (by decide) ?_
              refine lv_iload_n hx hb dX5_neighbours_32 rfl (lv_at hl 4 rfl) ?_
              refine lv_imul hx hb dX5_neighbours_33 ?_
              refine top_eq (pk_mul 12 w) ?_
              refine lv_iload_n hx hb dX5_neighbours_34 rfl (lv_at hl 1 rfl) ?_
              refine lv_iadd hx hb dX5_neighbours_35 ?_
              refine top_eq (nI_add (12 * w) n3) ?_
              refine ro_zld hx hb hEV hP 1 (j := ((12 * w) + n3)) rfl (by omega) (by decide) dX5_neighbours_36 ?_
              refine lv_if_eq (tgt := 77) hx hb dX5_neighbours_37 (by decide) (fun c_37 => ?_) (fun c_37 => ?_)
              · skip
                have hE := (if_pos c_37).symm.trans hE
                refine lv_iinc (v := nI (n4 + 1)) (lv' := [(4, .int (nI (n4 + 1))), (3, .int (nI n3)), (2, .int v2), (0, .ref (a 0)), (1, .int (nI w))]) hx hb dX5_neighbours_77 hl (k := 0) rfl (nI_1 _) (by decide) rfl (fun ls hl => ?_)
                refine lv_goto (tgt := 13) hx hb dX5_neighbours_80 (by decide) ?_
                exact ih_13 (n4 + 1) n3 v2 ls (by omega) (by omega) (by omega) (by omega) (lv_sub hl [0, 1, 2, 3, 4] rfl) hE
              · skip
                have hE := (if_neg c_37).symm.trans hE
                refine lv_aload_n hx hb dX5_neighbours_40 rfl (lv_at hl 3 rfl) ?_
                refine va_get (D := D) (ci := 5) (v := .ref (a 1)) (C := RX5) (T := TX5) (N := 21) hx hb hts (fun w9 h9 => List.mem_cons_of_mem _ (inT_X5 w9 h9)) hown hK hP 0 rfl rfl 0 (by decide) (hts (.fieldLink RX5 7 "LinkPredictorModel" "there" "[Z") (List.mem_cons_of_mem _ mw_3_66)) (fun _ h9 => h9) rfl dX5_neighbours_41 ?_
                refine lv_bipush (v := (12 : Int32)) hx hb dX5_neighbours_44 (by decide) ?_
                refine lv_iload_n hx hb dX5_neighbours_46 rfl (lv_at hl 4 rfl) ?_
                refine lv_imul hx hb dX5_neighbours_47 ?_
                refine top_eq (pk_mul 12 w) ?_
                refine lv_iload hx hb dX5_neighbours_48 (lv_at hl 0 rfl) ?_
                refine lv_iadd hx hb dX5_neighbours_50 ?_
                refine top_eq (nI_add (12 * w) n4) ?_
                refine ro_zld hx hb hEV hP 1 (j := ((12 * w) + n4)) rfl (by omega) (by decide) dX5_neighbours_51 ?_
                refine lv_if_eq (tgt := 77) hx hb dX5_neighbours_52 (by decide) (fun c_52 => ?_) (fun c_52 => ?_)
                · skip
                  have hE := (if_pos c_52).symm.trans hE
                  refine lv_iinc (v := nI (n4 + 1)) (lv' := [(4, .int (nI (n4 + 1))), (3, .int (nI n3)), (2, .int v2), (0, .ref (a 0)), (1, .int (nI w))]) hx hb dX5_neighbours_77 hl (k := 0) rfl (nI_1 _) (by decide) rfl (fun ls hl => ?_)
                  refine lv_goto (tgt := 13) hx hb dX5_neighbours_80 (by decide) ?_
                  exact ih_13 (n4 + 1) n3 v2 ls (by omega) (by omega) (by omega) (by omega) (lv_sub hl [0, 1, 2, 3, 4] rfl) hE
                · skip
                  have hE := (if_neg c_52).symm.trans hE
                  have hz1 := nsN_lt wx.1 (x := n3) (by omega)
                  have hz2 := nsN_lt wx.1 (x := n4) (by omega)
                  refine lv_aload_n hx hb dX5_neighbours_55 rfl (lv_at hl 3 rfl) ?_
                  refine lv_iload_n hx hb dX5_neighbours_56 rfl (lv_at hl 4 rfl) ?_
                  refine lv_iload_n hx hb dX5_neighbours_57 rfl (lv_at hl 1 rfl) ?_
                  refine ro_V [.int (nI w), .int (nI n3)] [] ⟨hx, hb, hml, hown, hts⟩ (c_X5_nestOf l D cI cZ cB cR a x r1 r2 w n n3 (by omega) wx (by omega) ) (cwV (C := RX5) 2 hts (goodP (ps := [.methodLink RX5 113 yX5_nestOf, .instanceMethod yX5_nestOf, .selects RX5 yX5_nestOf yX5_nestOf, .initialized RX5]) (all4 mw_4_20 mw_4_22 ms_43 mw_1_6) mw_4_23) rfl rfl rfl (by decide +kernel) ⟨Nat.le_of_ble_eq_true rfl, Nat.le_of_ble_eq_true rfl⟩) hEV hP 0 rfl rfl rfl hl.1 rfl (Nat.le_of_ble_eq_true rfl) dX5_neighbours_58 ⟨Nat.zero_le _, Nat.zero_le _⟩ ?_
                  refine lv_aload_n hx hb dX5_neighbours_61 rfl (lv_at hl 3 rfl) ?_
                  refine lv_iload_n hx hb dX5_neighbours_62 rfl (lv_at hl 4 rfl) ?_
                  refine lv_iload hx hb dX5_neighbours_63 (lv_at hl 0 rfl) ?_
                  refine ro_V [.int (nI w), .int (nI n4)] [.int (nI (nsN (vwX x w) n3))] ⟨hx, hb, hml, hown, hts⟩ (c_X5_nestOf l D cI cZ cB cR a x r1 r2 w n n4 (by omega) wx (by omega) ) (cwV (C := RX5) 2 hts (goodP (ps := [.methodLink RX5 113 yX5_nestOf, .instanceMethod yX5_nestOf, .selects RX5 yX5_nestOf yX5_nestOf, .initialized RX5]) (all4 mw_4_20 mw_4_22 ms_43 mw_1_6) mw_4_23) rfl rfl rfl (by decide +kernel) ⟨Nat.le_of_ble_eq_true rfl, Nat.le_of_ble_eq_true rfl⟩) hEV hP 0 rfl rfl rfl hl.1 rfl (Nat.le_of_ble_eq_true rfl) dX5_neighbours_65 ⟨Nat.zero_le _, Nat.zero_le _⟩ ?_
                  refine lv_icmp_ne (tgt := 77) hx hb dX5_neighbours_68 (by decide) (fun c_68 => ?_) (fun c_68 => ?_)
                  · have c_68 : ¬ ((nsN (vwX x w) n3) = (nsN (vwX x w) n4)) := fun q9 => c_68 ((nI_eq (a := (nsN (vwX x w) n3)) (b := (nsN (vwX x w) n4)) (by omega) (by omega)).mpr q9)
                    have hE := (if_neg c_68).symm.trans hE
                    refine lv_iinc (v := nI (n4 + 1)) (lv' := [(4, .int (nI (n4 + 1))), (3, .int (nI n3)), (2, .int v2), (0, .ref (a 0)), (1, .int (nI w))]) hx hb dX5_neighbours_77 hl (k := 0) rfl (nI_1 _) (by decide) rfl (fun ls hl => ?_)
                    refine lv_goto (tgt := 13) hx hb dX5_neighbours_80 (by decide) ?_
                    exact ih_13 (n4 + 1) n3 v2 ls (by omega) (by omega) (by omega) (by omega) (lv_sub hl [0, 1, 2, 3, 4] rfl) hE
                  · have c_68 : (nsN (vwX x w) n3) = (nsN (vwX x w) n4) := (nI_eq (a := (nsN (vwX x w) n3)) (b := (nsN (vwX x w) n4)) (by omega) (by omega)).mp c_68
                    have hE := (if_pos c_68).symm.trans hE
                    refine lv_iload_n hx hb dX5_neighbours_71 rfl (lv_at hl 2 rfl) ?_
                    refine lv_iconst (v := (1 : Int32)) hx hb dX5_neighbours_72 (by decide) ?_
                    refine lv_iload_n hx hb dX5_neighbours_73 rfl (lv_at hl 1 rfl) ?_
                    refine lv_ishl hx hb dX5_neighbours_74 ?_
                    refine lv_ior hx hb dX5_neighbours_75 ?_
                    refine lv_istore_n (lv' := [(2, .int (v2 ||| ((1 : Int32) <<< ((nI n3) &&& 31)))), (4, .int (nI n4)), (3, .int (nI n3)), (0, .ref (a 0)), (1, .int (nI w))]) hx hb dX5_neighbours_76 rfl hl (by decide) rfl (fun ls hl => ?_)
                    refine lv_iinc (v := nI (n4 + 1)) (lv' := [(4, .int (nI (n4 + 1))), (2, .int (v2 ||| ((1 : Int32) <<< ((nI n3) &&& 31)))), (3, .int (nI n3)), (0, .ref (a 0)), (1, .int (nI w))]) hx hb dX5_neighbours_77 hl (k := 1) rfl (nI_1 _) (by decide) rfl (fun ls hl => ?_)
                    refine lv_goto (tgt := 13) hx hb dX5_neighbours_80 (by decide) ?_
                    exact ih_13 (n4 + 1) n3 (v2 ||| ((1 : Int32) <<< ((nI n3) &&& 31))) ls (by omega) (by omega) (by omega) (by omega) (lv_sub hl [0, 2, 1, 3, 4] rfl) hE
      intro n3 v2 ls hm_4 hi_4_0 hl hE
      rw [p_X5_neighbours_4] at hE
      refine lv_iload_n hx hb dX5_neighbours_4 rfl (lv_at hl 0 rfl) ?_
      refine lv_bipush (v := (12 : Int32)) hx hb dX5_neighbours_5 (by decide) ?_
      refine lv_icmp_ge (tgt := 89) hx hb dX5_neighbours_7 (by decide) (fun c_7 => ?_) (fun c_7 => ?_)
      · have c_7 : 12 ≤ n3 := (nI_leI (a := 12) (b := n3) (by omega) (by omega)).mp c_7
        have hE := (if_pos c_7).symm.trans hE
        refine lv_iload_n hx hb dX5_neighbours_89 rfl (lv_at hl 1 rfl) ?_
        exact W.iret hx hb hr (fun t9 ht9 _ => ⟨_, rfl, hE, ht9⟩) (fun _ h9 => by cases h9) dX5_neighbours_90
      · have c_7 : ¬ (12 ≤ n3) := fun q9 => c_7 ((nI_leI (a := 12) (b := n3) (by omega) (by omega)).mpr q9)
        have hE := (if_neg c_7).symm.trans hE
        refine lv_iconst (v := (0 : Int32)) hx hb dX5_neighbours_10 (by decide) ?_
        refine lv_istore (lv' := [(4, .int (0 : Int32)), (3, .int (nI n3)), (2, .int v2), (0, .ref (a 0)), (1, .int (nI w))]) hx hb dX5_neighbours_11 hl (by decide) rfl (fun ls hl => ?_)
        exact key_13 13 0 n3 v2 ls (by omega) (by omega) (by omega) (by omega) (lv_sub hl [0, 1, 2, 3, 4] rfl) hE
  refine lv_iconst (v := (0 : Int32)) hx hb dX5_neighbours_0 (by decide) ?_
  refine lv_istore_n (lv' := [(2, .int (0 : Int32)), (0, .ref (a 0)), (1, .int (nI w))]) hx hb dX5_neighbours_1 rfl hl (by decide) rfl (fun ls hl => ?_)
  refine lv_iconst (v := (0 : Int32)) hx hb dX5_neighbours_2 (by decide) ?_
  refine lv_istore_n (lv' := [(3, .int (0 : Int32)), (2, .int (0 : Int32)), (0, .ref (a 0)), (1, .int (nI w))]) hx hb dX5_neighbours_3 rfl hl (by decide) rfl (fun ls hl => ?_)
  exact key_4 13 0 (0 : Int32) ls (by omega) (by omega) (lv_sub hl [0, 1, 2, 3] rfl) hE
