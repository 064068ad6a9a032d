def LOK (T : Nat → Nat → Nat → Int32) (Φ : Nat → Nat → Nat) (rc : Int32) (τ γ : Nat → Nat → Nat → Int32) (nf : Nat → Nat) (R : Nat) : Prop := (∀ w, w < 2 → OKH (T (2 * w)) (τ w) ∧ WFT (τ w) ∧ OKM (T (2 * w + 1)) (γ w) (nf w) ∧ WFM (γ w) (nf w)) ∧ rc = nI R ∧ R ≤ 16 ∧ ∀ i, i < R → φR (Φ i)
def upN (φ : Nat → Nat) (j v : Nat) : Nat → Nat := fun q => if q = j then v else φ q
theorem nar01 {r : Int32} (h : r = 0 ∨ r = 1) : narrow .boolean (.int r) = .int r := by rcases h with e | e <;> rw [e] <;> rfl
def bs2 (S : LSt) (w : Nat) : Nat → Nat → Nat → Int32 := fun q => if q = 0 then S.1 (2 * w) else S.1 (2 * w + 1)
def wBB (cI : ClassId) (b b9 : Nat) (aH aM oH oM : Nat → Nat) (σ : Nat → Nat → Nat → Int32) (kH kM : Nat → Nat → Int32) (se s9 : Int32) : va_W := [(b, .inr (0, [.ref (aH 0), .ref (aM 0), .int se])), (b9, .inr (0, [.ref (oH 0), .ref (oM 0), .int s9]))] ++ ((wH cI aH (σ 0) ++ wH cI oH kH) ++ (wM cI aM (σ 1) ++ wM cI oM kM))
def p_X3_put (x y z u : Nat) (φ : (Nat → Nat)) : (Nat → Nat) := upN (upN (upN (upN φ 0 x) 1 y) 2 z) 3 u
set_option maxHeartbeats 4000000 in
set_option maxRecDepth 100000 in
theorem c_X3_put (l : Launch) (D : va_G) (cI cZ cB cR : ClassId) (r : Nat) (φ : Nat → Nat) (x y z u : Nat) : MUv l yX3_put wsX3_put ({ frames := 0, cells := 0, slots := 0, locals := 0 } : Room) D cI cZ cB cR (wR r φ) [.ref r, .int (nI x), .int (nI y), .int (nI z), .int (nI u)] (fun (_ : Unit) => wR r ((p_X3_put x y z u φ))) (fun _ => True) := by
  generalize hE : p_X3_put x y z u φ = tgt
  intro sz
  refine Met.ofW (cc := cX3_put) (maxL := 5) (ret := none) (by decide) rfl ?_
  intro p e s m args below meth c s₁ B hml hv
  obtain ⟨hargs, hsz, hP, hEV, hD0⟩ := hv
  have hx := B.exec
  have hb := B.bytes
  have hr := B.returns
  have hts := atoms_spec (ws := wsX3_put) B.pre
  have hown : s.vm.findClass RX3 = some m.cls := findClass_of_methodNamed B.named
  have hlocks := B.notSynchronized
  have hK := hEV.1
  have hl := lv_entry ([.ref r, .int (nI x), .int (nI y), .int (nI z), .int (nI u)]) (n := 5) (Nat.le_of_ble_eq_true rfl)
  rw [show entryFrame m args 5 = entryFrame m ([.ref r, .int (nI x), .int (nI y), .int (nI z), .int (nI u)] : List Value).toArray 5 from by rw [hargs], lg_entry_eq]
  generalize (lg_sl ([.ref r, .int (nI x), .int (nI y), .int (nI z), .int (nI u)]) ++ List.replicate (5 - (lg_sl ([.ref r, .int (nI x), .int (nI y), .int (nI z), .int (nI u)])).length) Slot.unset).toArray = ls at hl ⊢
  have hl : lv_has ls 5 [(0, .ref r), (1, .int (nI x)), (2, .int (nI y)), (3, .int (nI z)), (4, .int (nI u))] := hl
  subst hsz
  have hD := hD0.self (sz := s.heap.size)
  generalize hAe : va_A (wR r φ) s.heap.size = A at hD ⊢
  have hA : ∀ q : Nat, s.heap.size ≤ q → A q := fun q h9 => by rw [← hAe]; exact Or.inr h9
  have hS : va_S A s.heap s.heap [] := va_S.rf
  rw [p_X3_put] at hE
  refine lv_aload_n hx hb dX3_put_0 rfl (lv_at hl 0 rfl) ?_
  refine lv_iload_n hx hb dX3_put_1 rfl (lv_at hl 1 rfl) ?_
  refine va_put (D := D) (ci := 3) (v := .int (nI x)) (ty := .int) (C := RX3) (T := TX3) (N := 4) hx hb hts (fun w9 h9 => List.mem_cons_of_mem _ (inT_X3 w9 h9)) tyX3 tyX3_ok nmX3 hown hK hP hD hS 0 rfl rfl 0 (by decide) (hts (.fieldLink RX3 9 "LinkPredictor$Reference" "kind" "I") (List.mem_cons_of_mem _ mw_1_147)) (fun _ h9 => h9) rfl (by decide +kernel) rfl rfl (Nat.le_of_ble_eq_true rfl) dX3_put_2 (fun H locs hP hD hS => ?_)
  have hP : va_P D vwCl (wR r (upN φ 0 x)) _ := hP
  have hD : va_D A (wR r (upN φ 0 x)) := hD
  refine lv_aload_n hx hb dX3_put_5 rfl (lv_at hl 0 rfl) ?_
  refine lv_iload_n hx hb dX3_put_6 rfl (lv_at hl 2 rfl) ?_
  refine va_put (D := D) (ci := 3) (v := .int (nI y)) (ty := .int) (C := RX3) (T := TX3) (N := 4) hx hb hts (fun w9 h9 => List.mem_cons_of_mem _ (inT_X3 w9 h9)) tyX3 tyX3_ok nmX3 hown hK hP hD hS 0 rfl rfl 1 (by decide) (hts (.fieldLink RX3 15 "LinkPredictor$Reference" "holder" "I") (List.mem_cons_of_mem _ mw_1_149)) (fun _ h9 => h9) rfl (by decide +kernel) rfl rfl (Nat.le_of_ble_eq_true rfl) dX3_put_7 (fun H locs hP hD hS => ?_)
  have hP : va_P D vwCl (wR r (upN (upN φ 0 x) 1 y)) _ := hP
  have hD : va_D A (wR r (upN (upN φ 0 x) 1 y)) := hD
  refine lv_aload_n hx hb dX3_put_10 rfl (lv_at hl 0 rfl) ?_
  refine lv_iload_n hx hb dX3_put_11 rfl (lv_at hl 3 rfl) ?_
  refine va_put (D := D) (ci := 3) (v := .int (nI z)) (ty := .int) (C := RX3) (T := TX3) (N := 4) hx hb hts (fun w9 h9 => List.mem_cons_of_mem _ (inT_X3 w9 h9)) tyX3 tyX3_ok nmX3 hown hK hP hD hS 0 rfl rfl 2 (by decide) (hts (.fieldLink RX3 18 "LinkPredictor$Reference" "way" "I") (List.mem_cons_of_mem _ mw_1_151)) (fun _ h9 => h9) rfl (by decide +kernel) rfl rfl (Nat.le_of_ble_eq_true rfl) dX3_put_12 (fun H locs hP hD hS => ?_)
  have hP : va_P D vwCl (wR r (upN (upN (upN φ 0 x) 1 y) 2 z)) _ := hP
  have hD : va_D A (wR r (upN (upN (upN φ 0 x) 1 y) 2 z)) := hD
  refine lv_aload_n hx hb dX3_put_15 rfl (lv_at hl 0 rfl) ?_
  refine lv_iload hx hb dX3_put_16 (lv_at hl 4 rfl) ?_
  refine va_put (D := D) (ci := 3) (v := .int (nI u)) (ty := .int) (C := RX3) (T := TX3) (N := 4) hx hb hts (fun w9 h9 => List.mem_cons_of_mem _ (inT_X3 w9 h9)) tyX3 tyX3_ok nmX3 hown hK hP hD hS 0 rfl rfl 3 (by decide) (hts (.fieldLink RX3 21 "LinkPredictor$Reference" "sign" "I") (List.mem_cons_of_mem _ mw_1_153)) (fun _ h9 => h9) rfl (by decide +kernel) rfl rfl (Nat.le_of_ble_eq_true rfl) dX3_put_18 (fun H locs hP hD hS => ?_)
  have hP : va_P D vwCl (wR r (upN (upN (upN (upN φ 0 x) 1 y) 2 z) 3 u)) _ := hP
  have hD : va_D A (wR r (upN (upN (upN (upN φ 0 x) 1 y) 2 z) 3 u)) := hD
  exact W.vret hx hb hr (fun t9 ht9 _ => ⟨⟨(), rfl, trivial, by show va_P D vwCl _ t9.heap; rw [ht9, ← hE]; exact hP⟩, hS.F ht9⟩) hS.2.2 dX3_put_21
def p_X2_isSameThing (g k : Nat → Nat → Int32) (x y : Nat) : Int32 := if (g 0 x) = (k 0 y) then (if (g 1 x) = (k 1 y) then ((1 : Int32)) else ((0 : Int32))) else ((0 : Int32))
theorem pe_X2_isSameThing (g k : Nat → Nat → Int32) (x y : Nat) : p_X2_isSameThing g k x y = b2i (decide (g 0 x = k 0 y) && decide (g 1 x = k 1 y)) := by
  unfold p_X2_isSameThing
  by_cases c1 : g 0 x = k 0 y <;> by_cases c2 : g 1 x = k 1 y <;> simp [c1, c2, b2i]
set_option maxHeartbeats 4000000 in
set_option maxRecDepth 100000 in
theorem c_X2_isSameThing (l : Launch) (D : va_G) (cI cZ cB cR : ClassId) (a o : Nat → Nat) (g k : Nat → Nat → Int32) (x y : Nat) (hnx : x < 30) (hny : y < 30) : RO l yX2_isSameThing wsX2_isSameThing ({ frames := 0, cells := 0, slots := 0, locals := 0 } : Room) D cI cZ cB cR (wM cI a g ++ wM cI o k) [.ref (a 0), .int (nI x), .ref (o 0), .int (nI y)] (b2i (decide (g 0 x = k 0 y) && decide (g 1 x = k 1 y))) := by
  have hE : p_X2_isSameThing g k x y = b2i (decide (g 0 x = k 0 y) && decide (g 1 x = k 1 y)) := pe_X2_isSameThing g k x y
  refine Met.ofW (cc := cX2_isSameThing) (maxL := 4) (ret := (some .boolean)) (by decide) rfl ?_
  intro p e s m args below meth c s₁ B hml hv
  obtain ⟨hargs, hP, hEV⟩ := hv
  have hx := B.exec
  have hb := B.bytes
  have hr := B.returns
  have hts := atoms_spec (ws := wsX2_isSameThing) B.pre
  have hown : s.vm.findClass RX2 = some m.cls := findClass_of_methodNamed B.named
  have hlocks := B.notSynchronized
  have hK := hEV.1
  have hl := lv_entry ([.ref (a 0), .int (nI x), .ref (o 0), .int (nI y)]) (n := 4) (Nat.le_of_ble_eq_true rfl)
  rw [show entryFrame m args 4 = entryFrame m ([.ref (a 0), .int (nI x), .ref (o 0), .int (nI y)] : List Value).toArray 4 from by rw [hargs], lg_entry_eq]
  generalize (lg_sl ([.ref (a 0), .int (nI x), .ref (o 0), .int (nI y)]) ++ List.replicate (4 - (lg_sl ([.ref (a 0), .int (nI x), .ref (o 0), .int (nI y)])).length) Slot.unset).toArray = ls at hl ⊢
  have hl : lv_has ls 4 [(0, .ref (a 0)), (1, .int (nI x)), (2, .ref (o 0)), (3, .int (nI y))] := hl
  rw [p_X2_isSameThing] at hE
  refine lv_aload_n hx hb dX2_isSameThing_0 rfl (lv_at hl 0 rfl) ?_
  refine va_get (D := D) (ci := 2) (v := .ref (a 1)) (C := RX2) (T := TX2) (N := 6) hx hb hts (fun w9 h9 => List.mem_cons_of_mem _ (inT_X2 w9 h9)) hown hK hP 0 rfl rfl 2 (by decide) (hts (.fieldLink RX2 9 "LinkPredictor$Members" "owners" "[I") (List.mem_cons_of_mem _ mw_1_111)) (fun _ h9 => h9) rfl dX2_isSameThing_1 ?_
  refine lv_iload_n hx hb dX2_isSameThing_4 rfl (lv_at hl 1 rfl) ?_
  refine ro_ald hx hb hEV hP 1 (j := x) rfl (by omega) (by decide) dX2_isSameThing_5 ?_
  refine lv_aload_n hx hb dX2_isSameThing_6 rfl (lv_at hl 2 rfl) ?_
  refine va_get (D := D) (ci := 2) (v := .ref (o 1)) (C := RX2) (T := TX2) (N := 6) hx hb hts (fun w9 h9 => List.mem_cons_of_mem _ (inT_X2 w9 h9)) hown hK hP 5 rfl rfl 2 (by decide) (hts (.fieldLink RX2 9 "LinkPredictor$Members" "owners" "[I") (List.mem_cons_of_mem _ mw_1_111)) (fun _ h9 => h9) rfl dX2_isSameThing_7 ?_
  refine lv_iload_n hx hb dX2_isSameThing_10 rfl (lv_at hl 3 rfl) ?_
  refine ro_ald hx hb hEV hP 6 (j := y) rfl (by omega) (by decide) dX2_isSameThing_11 ?_
  refine lv_icmp_ne (tgt := 34) hx hb dX2_isSameThing_12 (by decide) (fun c_12 => ?_) (fun c_12 => ?_)
  · skip
    have hE := (if_neg c_12).symm.trans hE
    refine lv_iconst (v := (0 : Int32)) hx hb dX2_isSameThing_34 (by decide) ?_
    exact W.zret hx hb hr rfl (fun t9 ht9 _ => ⟨_, rfl, hE, ht9⟩) (fun _ h9 => by cases h9) dX2_isSameThing_35
  · skip
    have hE := (if_pos c_12).symm.trans hE
    refine lv_aload_n hx hb dX2_isSameThing_15 rfl (lv_at hl 0 rfl) ?_
    refine va_get (D := D) (ci := 2) (v := .ref (a 2)) (C := RX2) (T := TX2) (N := 6) hx hb hts (fun w9 h9 => List.mem_cons_of_mem _ (inT_X2 w9 h9)) hown hK hP 0 rfl rfl 3 (by decide) (hts (.fieldLink RX2 15 "LinkPredictor$Members" "keys" "[I") (List.mem_cons_of_mem _ mw_1_112)) (fun _ h9 => h9) rfl dX2_isSameThing_16 ?_
    refine lv_iload_n hx hb dX2_isSameThing_19 rfl (lv_at hl 1 rfl) ?_
    refine ro_ald hx hb hEV hP 2 (j := x) rfl (by omega) (by decide) dX2_isSameThing_20 ?_
    refine lv_aload_n hx hb dX2_isSameThing_21 rfl (lv_at hl 2 rfl) ?_
    refine va_get (D := D) (ci := 2) (v := .ref (o 2)) (C := RX2) (T := TX2) (N := 6) hx hb hts (fun w9 h9 => List.mem_cons_of_mem _ (inT_X2 w9 h9)) hown hK hP 5 rfl rfl 3 (by decide) (hts (.fieldLink RX2 15 "LinkPredictor$Members" "keys" "[I") (List.mem_cons_of_mem _ mw_1_112)) (fun _ h9 => h9) rfl dX2_isSameThing_22 ?_
    refine lv_iload_n hx hb dX2_isSameThing_25 rfl (lv_at hl 3 rfl) ?_
    refine ro_ald hx hb hEV hP 7 (j := y) rfl (by omega) (by decide) dX2_isSameThing_26 ?_
    refine lv_icmp_ne (tgt := 34) hx hb dX2_isSameThing_27 (by decide) (fun c_27 => ?_) (fun c_27 => ?_)
    · skip
      have hE := (if_neg c_27).symm.trans hE
      refine lv_iconst (v := (0 : Int32)) hx hb dX2_isSameThing_34 (by decide) ?_
      exact W.zret hx hb hr rfl (fun t9 ht9 _ => ⟨_, rfl, hE, ht9⟩) (fun _ h9 => by cases h9) dX2_isSameThing_35
    · skip
      have hE := (if_pos c_27).symm.trans hE
      refine lv_iconst (v := (1 : Int32)) hx hb dX2_isSameThing_30 (by decide) ?_
      refine lv_goto (tgt := 35) hx hb dX2_isSameThing_31 (by decide) ?_
      exact W.zret hx hb hr rfl (fun t9 ht9 _ => ⟨_, rfl, hE, ht9⟩) (fun _ h9 => by cases h9) dX2_isSameThing_35
section BW4
variable {D : va_G} {A : Nat → Prop} {cI : ClassId} {b b9 : Nat} {aH aM oH oM : Nat → Nat} {σ : Nat → Nat → Nat → Int32} {kH kM : Nat → Nat → Int32} {se s9 : Int32} {H : Heap}
theorem wBB_H (hP : va_P D vwCl (wBB cI b b9 aH aM oH oM σ kH kM se s9) H) : va_P D vwCl (wH cI aH (σ 0) ++ wH cI oH kH) H := va_P_l (va_P_r hP)
theorem wBB_M (hP : va_P D vwCl (wBB cI b b9 aH aM oH oM σ kH kM se s9) H) : va_P D vwCl (wM cI aM (σ 1) ++ wM cI oM kM) H := va_P_r (va_P_r hP)
theorem wBB_DH (hD : va_D A (wBB cI b b9 aH aM oH oM σ kH kM se s9)) : va_D A (wH cI aH (σ 0) ++ wH cI oH kH) := va_D_l (va_D_r hD)
theorem wBB_DM (hD : va_D A (wBB cI b b9 aH aM oH oM σ kH kM se s9)) : va_D A (wM cI aM (σ 1) ++ wM cI oM kM) := va_D_r (va_D_r hD)
end BW4
noncomputable def p_X0_becomeAs_22 (kH kM : Nat → Nat → Int32) (σ : (Nat → Nat → Nat → Int32)) : (Nat → Nat → Nat → Int32) := σ
noncomputable def p_X0_becomeAs_11 (kH kM : Nat → Nat → Int32) (σ : (Nat → Nat → Nat → Int32)) : (Nat → Nat → Nat → Int32) := p_X0_becomeAs_22 kH kM (upS σ 1 (p_X2_becomeAs kM (σ 1)))
noncomputable def p_X0_becomeAs (kH kM : Nat → Nat → Int32) (σ : (Nat → Nat → Nat → Int32)) : (Nat → Nat → Nat → Int32) := p_X0_becomeAs_11 kH kM (upS σ 0 (p_X1_becomeAs kH (σ 0)))
set_option maxHeartbeats 4000000 in
set_option maxRecDepth 100000 in
theorem c_X0_becomeAs (l : Launch) (D : va_G) (cI cZ cB cR : ClassId) (b b9 : Nat) (aH aM oH oM : Nat → Nat) (σ : Nat → Nat → Nat → Int32) (kH kM : Nat → Nat → Int32) (se s9 : Int32) (wfb : WFT (vwH (hbF kH (σ 0)))) : MUv l yX0_becomeAs wsX0_becomeAs ({ frames := 39, cells := 0, slots := 0, locals := 1045 } : Room) D cI cZ cB cR (wBB cI b b9 aH aM oH oM σ kH kM se s9) [.ref b, .ref b9] (fun (_ : Unit) => wBB cI b b9 aH aM oH oM ((p_X0_becomeAs kH kM σ)) kH kM se s9) (fun _ => True) := by
  generalize hE : p_X0_becomeAs kH kM σ = tgt
  intro sz
  refine Met.ofW (cc := cX0_becomeAs) (maxL := 2) (ret := none) (by decide) rfl ?_
  intro p e s m args below meth c s₁ B hml hv
  obtain ⟨hargs, hsz, hP, hEV, hD0⟩ := hv
  have hx := B.exec
  have hb := B.bytes
  have hr := B.returns
  have hts := atoms_spec (ws := wsX0_becomeAs) B.pre
  have hown : s.vm.findClass RX0 = some m.cls := findClass_of_methodNamed B.named
  have hlocks := B.notSynchronized
  have hK := hEV.1
  have hl := lv_entry ([.ref b, .ref b9]) (n := 2) (Nat.le_of_ble_eq_true rfl)
  rw [show entryFrame m args 2 = entryFrame m ([.ref b, .ref b9] : List Value).toArray 2 from by rw [hargs], lg_entry_eq]
  generalize (lg_sl ([.ref b, .ref b9]) ++ List.replicate (2 - (lg_sl ([.ref b, .ref b9])).length) Slot.unset).toArray = ls at hl ⊢
  have hl : lv_has ls 2 [(0, .ref b), (1, .ref b9)] := hl
  subst hsz
  have hD := hD0.self (sz := s.heap.size)
  generalize hAe : va_A (wBB cI b b9 aH aM oH oM σ kH kM se s9) s.heap.size = A at hD ⊢
  have hA : ∀ q : Nat, s.heap.size ≤ q → A q := fun q h9 => by rw [← hAe]; exact Or.inr h9
  have hS : va_S A s.heap s.heap [] := va_S.rf
  rw [p_X0_becomeAs] at hE
  have key_22 : ∀ (σ : (Nat → Nat → Nat → Int32)) (ls : Array Slot) (H : Heap) (locs : List Loc) (hP : va_P D vwCl (wBB cI b b9 aH aM oH oM σ kH kM se s9) H) (hD : va_D A (wBB cI b b9 aH aM oH oM σ kH kM se s9)) (hS : va_S A s.heap H locs), lv_has ls 2 [] → p_X0_becomeAs_22 kH kM σ = tgt → W p l e (headSpec wsX0_becomeAs ({ frames := 39, cells := 0, slots := 0, locals := 1045 } : Room)).room s m args below meth c H locs 0 0 (MQ below (va_Qv (fun (_ : Unit) => True) (fun _ t => va_P D vwCl (wBB cI b b9 aH aM oH oM tgt kH kM se s9) t.heap) A) args s 0 0 A) (F0 m 22 ls []) := by
    intro σ ls H locs hP hD hS  hl hE
    rw [p_X0_becomeAs_22] at hE
    exact W.vret hx hb hr (fun t9 ht9 _ => ⟨⟨(), rfl, trivial, by show va_P D vwCl _ t9.heap; rw [ht9, ← hE]; exact hP⟩, hS.F ht9⟩) hS.2.2 dX0_becomeAs_22
  have key_11 : ∀ (σ : (Nat → Nat → Nat → Int32)) (ls : Array Slot) (H : Heap) (locs : List Loc) (hP : va_P D vwCl (wBB cI b b9 aH aM oH oM σ kH kM se s9) H) (hD : va_D A (wBB cI b b9 aH aM oH oM σ kH kM se s9)) (hS : va_S A s.heap H locs), lv_has ls 2 [(0, .ref b), (1, .ref b9)] → p_X0_becomeAs_11 kH kM σ = tgt → W p l e (headSpec wsX0_becomeAs ({ frames := 39, cells := 0, slots := 0, locals := 1045 } : Room)).room s m args below meth c H locs 0 0 (MQ below (va_Qv (fun (_ : Unit) => True) (fun _ t => va_P D vwCl (wBB cI b b9 aH aM oH oM tgt kH kM se s9) t.heap) A) args s 0 0 A) (F0 m 11 ls []) := by
    intro σ ls H locs hP hD hS  hl hE
    rw [p_X0_becomeAs_11] at hE
    refine lv_aload_n hx hb dX0_becomeAs_11 rfl (lv_at hl 0 rfl) ?_
    refine va_get (D := D) (ci := 0) (v := .ref (aM 0)) (C := RX0) (T := TX0) (N := 3) hx hb hts (fun w9 h9 => List.mem_cons_of_mem _ (inT_X0 w9 h9)) hown hK hP 0 rfl rfl 1 (by decide) (hts (.fieldLink RX0 21 "LinkPredictor$Build" "members" "LLinkPredictor$Members;") (List.mem_cons_of_mem _ mw_1_130)) (fun _ h9 => h9) rfl dX0_becomeAs_12 ?_
    refine lv_aload_n hx hb dX0_becomeAs_15 rfl (lv_at hl 1 rfl) ?_
    refine va_get (D := D) (ci := 0) (v := .ref (oM 0)) (C := RX0) (T := TX0) (N := 3) hx hb hts (fun w9 h9 => List.mem_cons_of_mem _ (inT_X0 w9 h9)) hown hK hP 1 rfl rfl 1 (by decide) (hts (.fieldLink RX0 21 "LinkPredictor$Build" "members" "LLinkPredictor$Members;") (List.mem_cons_of_mem _ mw_1_130)) (fun _ h9 => h9) rfl dX0_becomeAs_16 ?_
    refine mu_Vv [.ref (oM 0)] [] ⟨hx, hb, hml, hown, hts⟩ (c_X2_becomeAs l D cI cZ cB cR aM oM (σ 1) kM) (cwV (C := RX2) 1 hts (goodP (ps := [.methodLink RX0 48 yX2_becomeAs, .instanceMethod yX2_becomeAs, .selects RX2 yX2_becomeAs yX2_becomeAs, .initialized RX2]) (all4 mw_2_30 mw_2_31 mw_2_32 mw_1_4) mw_2_33) rfl rfl rfl (by decide +kernel) ⟨Nat.le_of_ble_eq_true rfl, Nat.le_of_ble_eq_true rfl⟩) hEV (wBB_M hP) (wBB_DM hD) hS hA 0 rfl rfl rfl hl.1 rfl (Nat.le_of_ble_eq_true rfl) dX0_becomeAs_19 ⟨Nat.zero_le _, Nat.zero_le _⟩ (fun u9 H1 locs hw hP1 hk1 hS => ?_)
    have hP : va_P D vwCl (wBB cI b b9 aH aM oH oM (upS σ 1 (p_X2_becomeAs kM (σ 1))) kH kM se s9) H1 := va_swap (w1 := [(b, .inr (0, [.ref (aH 0), .ref (aM 0), .int se])), (b9, .inr (0, [.ref (oH 0), .ref (oM 0), .int s9]))] ++ (wH cI aH (σ 0) ++ wH cI oH kH)) (w2 := wM cI aM (σ 1) ++ wM cI oM kM) (w3 := []) (w2' := wM cI aM (p_X2_becomeAs kM (σ 1)) ++ wM cI oM kM) hP hD hP1 hk1
    have hD : va_D A (wBB cI b b9 aH aM oH oM (upS σ 1 (p_X2_becomeAs kM (σ 1))) kH kM se s9) := hD.adr rfl
    generalize H1 = H at hP hS ⊢
    exact key_22 (upS σ 1 (p_X2_becomeAs kM (σ 1))) ls _ _ hP hD hS  (lv_sub hl [] rfl) hE
  refine lv_aload_n hx hb dX0_becomeAs_0 rfl (lv_at hl 0 rfl) ?_
  refine va_get (D := D) (ci := 0) (v := .ref (aH 0)) (C := RX0) (T := TX0) (N := 3) hx hb hts (fun w9 h9 => List.mem_cons_of_mem _ (inT_X0 w9 h9)) hown hK hP 0 rfl rfl 0 (by decide) (hts (.fieldLink RX0 12 "LinkPredictor$Build" "types" "LLinkPredictor$Hierarchy;") (List.mem_cons_of_mem _ mw_1_128)) (fun _ h9 => h9) rfl dX0_becomeAs_1 ?_
  refine lv_aload_n hx hb dX0_becomeAs_4 rfl (lv_at hl 1 rfl) ?_
  refine va_get (D := D) (ci := 0) (v := .ref (oH 0)) (C := RX0) (T := TX0) (N := 3) hx hb hts (fun w9 h9 => List.mem_cons_of_mem _ (inT_X0 w9 h9)) hown hK hP 1 rfl rfl 0 (by decide) (hts (.fieldLink RX0 12 "LinkPredictor$Build" "types" "LLinkPredictor$Hierarchy;") (List.mem_cons_of_mem _ mw_1_128)) (fun _ h9 => h9) rfl dX0_becomeAs_5 ?_
  refine mu_Vv [.ref (oH 0)] [] ⟨hx, hb, hml, hown, hts⟩ (c_X1_becomeAs l D cI cZ cB cR aH oH (σ 0) kH wfb) (cwV (C := RX1) 1 hts (goodP (ps := [.methodLink RX0 44 yX1_becomeAs, .instanceMethod yX1_becomeAs, .selects RX1 yX1_becomeAs yX1_becomeAs, .initialized RX1]) (all4 mw_2_23 mw_2_24 mw_2_25 mw_1_3) mw_2_26) rfl rfl rfl (by decide +kernel) ⟨Nat.le_of_ble_eq_true rfl, Nat.le_of_ble_eq_true rfl⟩) hEV (wBB_H hP) (wBB_DH hD) hS hA 0 rfl rfl rfl hl.1 rfl (Nat.le_of_ble_eq_true rfl) dX0_becomeAs_8 ⟨Nat.zero_le _, Nat.zero_le _⟩ (fun u9 H1 locs hw hP1 hk1 hS => ?_)
  have hP : va_P D vwCl (wBB cI b b9 aH aM oH oM (upS σ 0 (p_X1_becomeAs kH (σ 0))) kH kM se s9) H1 := va_swap (w1 := [(b, .inr (0, [.ref (aH 0), .ref (aM 0), .int se])), (b9, .inr (0, [.ref (oH 0), .ref (oM 0), .int s9]))]) (w2 := wH cI aH (σ 0) ++ wH cI oH kH) (w3 := wM cI aM (σ 1) ++ wM cI oM kM) hP hD hP1 hk1
  have hD : va_D A (wBB cI b b9 aH aM oH oM (upS σ 0 (p_X1_becomeAs kH (σ 0))) kH kM se s9) := hD.adr rfl
  generalize H1 = H at hP hS ⊢
  exact key_11 (upS σ 0 (p_X1_becomeAs kH (σ 0))) ls _ _ hP hD hS  (lv_sub hl [0, 1] rfl) hE
