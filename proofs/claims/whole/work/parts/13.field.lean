noncomputable def p_X0_findField_108 (h τ g γ : Nat → Nat → Int32) (n : Nat) (F : Int32 → Nat → Int32 → Int32 × Int32) (x : Nat) (y : Int32) (v3 : Int32) (se : Int32) : Int32 × Int32 := (v3, se)
noncomputable def p_X0_findField_107 (h τ g γ : Nat → Nat → Int32) (n : Nat) (F : Int32 → Nat → Int32 → Int32 × Int32) (x : Nat) (y : Int32) (vs0 : Int32) (se : Int32) : Int32 × Int32 := p_X0_findField_108 h τ g γ n F x y vs0 se
noncomputable def p_X0_findField_84 (h τ g γ : Nat → Nat → Int32) (n : Nat) (F : Int32 → Nat → Int32 → Int32 × Int32) (x : Nat) (y : Int32) (v3 : Int32) (se : Int32) : Int32 × Int32 := if v3 = (-2 : Int32) then (if x = 0 then (p_X0_findField_108 h τ g γ n F x y v3 se) else (p_X0_findField_107 h τ g γ n F x y ((F se (sN (τ 3 x)) y).1) ((F se (sN (τ 3 x)) y).2))) else (p_X0_findField_108 h τ g γ n F x y v3 se)
noncomputable def p_X0_findField_77 (h τ g γ : Nat → Nat → Int32) (n : Nat) (F : Int32 → Nat → Int32 → Int32 × Int32) (x : Nat) (y : Int32) (K41 : Nat → Int32 → Int32 → Int32 × Int32) (n4 : Nat) (vs0 : Int32) (se : Int32) : Int32 × Int32 := K41 (n4 + 1) vs0 se
noncomputable def p_X0_findField_41 (h τ g γ : Nat → Nat → Int32) (n : Nat) (F : Int32 → Nat → Int32 → Int32 × Int32) (x : Nat) (y : Int32) : Nat → Nat → Int32 → Int32 → Int32 × Int32
  | 0, _, _, se => (0, se)
  | k + 1, n4, v3, se => if 12 ≤ n4 then (p_X0_findField_84 h τ g γ n F x y v3 se) else (if v3 = (-2 : Int32) then (if (bt (τ 4 x) n4) = true then (p_X0_findField_77 h τ g γ n F x y (fun n4 v3 se => p_X0_findField_41 h τ g γ n F x y k n4 v3 se) n4 ((F se n4 y).1) ((F se n4 y).2)) else (p_X0_findField_41 h τ g γ n F x y k (n4 + 1) v3 se)) else (p_X0_findField_84 h τ g γ n F x y v3 se))
noncomputable def p_X0_findField (h τ g γ : Nat → Nat → Int32) (n : Nat) (F : Int32 → Nat → Int32 → Int32 × Int32) (x : Nat) (y : Int32) (se : Int32) : Int32 × Int32 := if (bt se x) = true then (((-2 : Int32), se)) else (p_X0_findField_41 h τ g γ n F x y 13 0 (fdI γ n x (kyF false y)) ((se ||| (bm x))))
set_option maxHeartbeats 4000000 in
set_option maxRecDepth 100000 in
theorem c_X0_findField (l : Launch) (D : va_G) (cI cZ cB cR : ClassId) (d : Nat) (b : Nat) (aH aM : Nat → Nat) (h τ g γ : Nat → Nat → Int32) (n : Nat) (se : Int32) (F : Int32 → Nat → Int32 → Int32 × Int32) (x : Nat) (y : Int32) (okh : OKH h τ) (wf : WFT τ) (okm : OKM g γ n) (wm : WFM γ n) (hnx : x < 12) (gx : Gd τ x) (hd : cN se < d + 1) (hF : ∀ (se' : Int32) (t : Nat) (s' : Int32), t < 12 → Gd τ t → cN se' < d → MUi l yX0_findField wsX0_findField ({ frames := d + 10, cells := 0, slots := 0, locals := 30 * d + 200 } : Room) D cI cZ cB cR (wB cI b aH aM h g se') [.ref b, .int (nI t), .int s'] (fun (_ : Unit) => wB cI b aH aM h g (F se' t s').2) (fun r _ => r = (F se' t s').1)) (hFc : ∀ se' t s', cN (F se' t s').2 ≤ cN se') : MUi l yX0_findField wsX0_findField ({ frames := d + 11, cells := 0, slots := 0, locals := 30 * d + 230 } : Room) D cI cZ cB cR (wB cI b aH aM h g se) [.ref b, .int (nI x), .int y] (fun (_ : Unit) => wB cI b aH aM h g ((p_X0_findField h τ g γ n F x y se).2)) (fun r _ => r = (p_X0_findField h τ g γ n F x y se).1) := by
  generalize hE : p_X0_findField h τ g γ n F x y se = tgt
  intro sz
  refine Met.ofW (cc := cX0_findField) (maxL := 5) (ret := (some .int)) (by decide) rfl ?_
  intro p e s m args below meth c s₁ B hml hv
  obtain ⟨hargs, hsz, hP, hEV, hD0⟩ := hv
  have hx := B.exec
  have hb := B.bytes
  have hr := B.returns
  have hts := atoms_spec (ws := wsX0_findField) B.pre
  have hown : s.vm.findClass RX0 = some m.cls := findClass_of_methodNamed B.named
  have hlocks := B.notSynchronized
  have hK := hEV.1
  have hl := lv_entry ([.ref b, .int (nI x), .int y]) (n := 5) (Nat.le_of_ble_eq_true rfl)
  rw [show entryFrame m args 5 = entryFrame m ([.ref b, .int (nI x), .int y] : List Value).toArray 5 from by rw [hargs], lg_entry_eq]
  generalize (lg_sl ([.ref b, .int (nI x), .int y]) ++ List.replicate (5 - (lg_sl ([.ref b, .int (nI x), .int y])).length) Slot.unset).toArray = ls at hl ⊢
  have hl : lv_has ls 5 [(0, .ref b), (1, .int (nI x)), (2, .int y)] := hl
  subst hsz
  have hD := hD0.self (sz := s.heap.size)
  generalize hAe : va_A (wB cI b aH aM h g se) s.heap.size = A at hD ⊢
  have hA : ∀ q : Nat, s.heap.size ≤ q → A q := fun q h9 => by rw [← hAe]; exact Or.inr h9
  have hS : va_S A s.heap s.heap [] := va_S.rf
  rw [p_X0_findField] at hE
  have hn30 := okm.2.1
  have key_108 : ∀ (v3 : Int32) (se : Int32) (ls : Array Slot) (H : Heap) (locs : List Loc) (hP : va_P D vwCl (wB cI b aH aM h g se) H) (hD : va_D A (wB cI b aH aM h g se)) (hS : va_S A s.heap H locs), lv_has ls 5 [(3, .int v3)] → p_X0_findField_108 h τ g γ n F x y v3 se = tgt → W p l e (headSpec wsX0_findField ({ frames := d + 11, cells := 0, slots := 0, locals := 30 * d + 230 } : Room)).room s m args below meth c H locs 0 0 (MQ below (va_Qi (fun r (_ : Unit) => r = tgt.1) (fun _ t => va_P D vwCl (wB cI b aH aM h g tgt.2) t.heap) A) args s 0 0 A) (F0 m 108 ls []) := by
    intro v3 se ls H locs hP hD hS  hl hE
    rw [p_X0_findField_108] at hE
    refine lv_iload_n hx hb dX0_findField_108 rfl (lv_at hl 0 rfl) ?_
    exact W.iret hx hb hr (fun t9 ht9 _ => ⟨⟨_, (), rfl, congrArg Prod.fst hE, by show va_P D vwCl _ t9.heap; rw [ht9, ← congrArg Prod.snd hE]; exact hP⟩, hS.F ht9⟩) hS.2.2 dX0_findField_109
  have key_107 : ∀ (vs0 : Int32) (se : Int32) (ls : Array Slot) (H : Heap) (locs : List Loc) (hP : va_P D vwCl (wB cI b aH aM h g se) H) (hD : va_D A (wB cI b aH aM h g se)) (hS : va_S A s.heap H locs), lv_has ls 5 [] → p_X0_findField_107 h τ g γ n F x y vs0 se = tgt → W p l e (headSpec wsX0_findField ({ frames := d + 11, cells := 0, slots := 0, locals := 30 * d + 230 } : Room)).room s m args below meth c H locs 0 0 (MQ below (va_Qi (fun r (_ : Unit) => r = tgt.1) (fun _ t => va_P D vwCl (wB cI b aH aM h g tgt.2) t.heap) A) args s 0 0 A) (F0 m 107 ls [.int vs0]) := by
    intro vs0 se ls H locs hP hD hS  hl hE
    rw [p_X0_findField_107] at hE
    refine lv_istore_n (lv' := [(3, .int vs0)]) hx hb dX0_findField_107 rfl hl (by decide) rfl (fun ls hl => ?_)
    exact key_108 vs0 se ls _ _ hP hD hS  (lv_sub hl [0] rfl) hE
  have key_84 : ∀ (v3 : Int32) (se : Int32) (ls : Array Slot) (H : Heap) (locs : List Loc) (hP : va_P D vwCl (wB cI b aH aM h g se) H) (hD : va_D A (wB cI b aH aM h g se)) (hS : va_S A s.heap H locs), cN se < d → lv_has ls 5 [(3, .int v3), (0, .ref b), (1, .int (nI x)), (2, .int y)] → p_X0_findField_84 h τ g γ n F x y v3 se = tgt → W p l e (headSpec wsX0_findField ({ frames := d + 11, cells := 0, slots := 0, locals := 30 * d + 230 } : Room)).room s m args below meth c H locs 0 0 (MQ below (va_Qi (fun r (_ : Unit) => r = tgt.1) (fun _ t => va_P D vwCl (wB cI b aH aM h g tgt.2) t.heap) A) args s 0 0 A) (F0 m 84 ls []) := by
    intro v3 se ls H locs hP hD hS hi_84_0 hl hE
    rw [p_X0_findField_84] at hE
    refine lv_iload_n hx hb dX0_findField_84 rfl (lv_at hl 0 rfl) ?_
    refine lv_bipush (v := (-2 : Int32)) hx hb dX0_findField_85 (by decide) ?_
    refine lv_icmp_ne (tgt := 108) hx hb dX0_findField_87 (by decide) (fun c_87 => ?_) (fun c_87 => ?_)
    · skip
      have hE := (if_neg c_87).symm.trans hE
      exact key_108 v3 se ls _ _ hP hD hS  (lv_sub hl [0] rfl) hE
    · skip
      have hE := (if_pos c_87).symm.trans hE
      refine lv_iload_n hx hb dX0_findField_90 rfl (lv_at hl 2 rfl) ?_
      refine lv_if_eq (tgt := 108) hx hb dX0_findField_91 (by decide) (fun c_91 => ?_) (fun c_91 => ?_)
      · have c_91 : x = 0 := (nI_eq (a := x) (b := 0) (by omega) (by omega)).mp c_91
        have hE := (if_pos c_91).symm.trans hE
        exact key_108 v3 se ls _ _ hP hD hS  (lv_sub hl [0] rfl) hE
      · have c_91 : ¬ (x = 0) := fun q9 => c_91 ((nI_eq (a := x) (b := 0) (by omega) (by omega)).mpr q9)
        have hE := (if_neg c_91).symm.trans hE
        have hz9 := (wf.1 x hnx).2.2.1 c_91
        have hs9 := (wf.1 x hnx).1.resolve_left hz9
        have hs8 := hs9.1
        have gs9 := gx.sup hz9
        refine lv_aload_n hx hb dX0_findField_94 rfl (lv_at hl 1 rfl) ?_
        refine lv_aload_n hx hb dX0_findField_95 rfl (lv_at hl 1 rfl) ?_
        refine va_get (D := D) (ci := 0) (v := .ref (aH 0)) (C := RX0) (T := TX0) (N := 3) hx hb hts (fun w9 h9 => List.mem_cons_of_mem _ (inT_X0 w9 h9)) hown hK hP 0 rfl rfl 0 (by decide) (hts (.fieldLink RX0 12 "LinkPredictor$Build" "types" "LLinkPredictor$Hierarchy;") (List.mem_cons_of_mem _ mw_1_128)) (fun _ h9 => h9) rfl dX0_findField_96 ?_
        refine lv_iload_n hx hb dX0_findField_99 rfl (lv_at hl 2 rfl) ?_
        refine ro_V [.int (nI x)] [.ref b] ⟨hx, hb, hml, hown, hts⟩ (c_X1_superOf l D cI cZ cB cR aH h τ x okh.b (by omega)) (cwV (C := RX1) 1 hts (goodP (ps := [.methodLink RX0 124 yX1_superOf, .instanceMethod yX1_superOf, .selects RX1 yX1_superOf yX1_superOf, .initialized RX1]) (all4 mw_2_105 mw_2_106 mw_2_107 mw_1_3) mw_2_108) rfl rfl rfl (by decide +kernel) ⟨by show 0 + 1 ≤ d + 11; omega, by show 8 + (2 + 11) + (0) ≤ 30 * d + 230; omega⟩) hEV (wB_H hP) 0 rfl rfl rfl hl.1 rfl (Nat.le_of_ble_eq_true rfl) dX0_findField_100 ⟨Nat.zero_le _, Nat.zero_le _⟩ ?_
        refine top_eq (hs9.2) ?_
        refine lv_iload_n hx hb dX0_findField_103 rfl (lv_at hl 3 rfl) ?_
        refine mu_V [.int (nI (sN (τ 3 x))), .int y] [] ⟨hx, hb, hml, hown, hts⟩ (hF se (sN (τ 3 x)) y (by omega) gs9 (by omega)) (cwV (C := RX0) 2 hts (goodP (ps := [.methodLink RX0 112 yX0_findField, .instanceMethod yX0_findField, .selects RX0 yX0_findField yX0_findField, .initialized RX0]) (all4 mw_2_95 mw_2_97 ms_7 mw_1_2) mw_2_98) rfl rfl rfl (by decide +kernel) ⟨by show d + 10 + 1 ≤ d + 11; omega, by show 8 + (5 + 11) + (30 * d + 200) ≤ 30 * d + 230; omega⟩) hEV hP hD hS hA 0 rfl rfl rfl hl.1 rfl (Nat.le_of_ble_eq_true rfl) dX0_findField_104 ⟨Nat.zero_le _, Nat.zero_le _⟩ (fun r9 u9 H1 locs hw hP1 hk1 hS => ?_)
        subst hw
        have hP : va_P D vwCl (wB cI b aH aM h g ((F se (sN (τ 3 x)) y).2)) H1 := hP1
        have hD : va_D A (wB cI b aH aM h g ((F se (sN (τ 3 x)) y).2)) := hD.adr rfl
        generalize H1 = H at hP hS ⊢
        exact key_107 ((F se (sN (τ 3 x)) y).1) ((F se (sN (τ 3 x)) y).2) ls _ _ hP hD hS  (lv_sub hl [] rfl) hE
  have key_41 : ∀ (k_41 : Nat) (n4 : Nat) (v3 : Int32) (se : Int32) (ls : Array Slot) (H : Heap) (locs : List Loc) (hP : va_P D vwCl (wB cI b aH aM h g se) H) (hD : va_D A (wB cI b aH aM h g se)) (hS : va_S A s.heap H locs), (12 - n4) < k_41 → cN se < d → n4 ≤ 12 → lv_has ls 5 [(4, .int (nI n4)), (3, .int v3), (0, .ref b), (1, .int (nI x)), (2, .int y)] → p_X0_findField_41 h τ g γ n F x y k_41 n4 v3 se = tgt → W p l e (headSpec wsX0_findField ({ frames := d + 11, cells := 0, slots := 0, locals := 30 * d + 230 } : Room)).room s m args below meth c H locs 0 0 (MQ below (va_Qi (fun r (_ : Unit) => r = tgt.1) (fun _ t => va_P D vwCl (wB cI b aH aM h g tgt.2) t.heap) A) args s 0 0 A) (F0 m 41 ls []) := by
    intro k_41
    induction k_41 with
    | zero => intro n4 v3 se ls H locs hP hD hS hm; exact absurd hm (Nat.not_lt_zero _)
    | succ k_41 ih_41 =>
      have key_77 : ∀ (n4 : Nat) (vs0 : Int32) (se : Int32) (ls : Array Slot) (H : Heap) (locs : List Loc) (hP : va_P D vwCl (wB cI b aH aM h g se) H) (hD : va_D A (wB cI b aH aM h g se)) (hS : va_S A s.heap H locs), cN se < d → n4 < 12 → (12 - n4) < k_41 + 1 → lv_has ls 5 [(4, .int (nI n4)), (0, .ref b), (1, .int (nI x)), (2, .int y)] → p_X0_findField_77 h τ g γ n F x y (fun n4 v3 se => p_X0_findField_41 h τ g γ n F x y k_41 n4 v3 se) n4 vs0 se = tgt → W p l e (headSpec wsX0_findField ({ frames := d + 11, cells := 0, slots := 0, locals := 30 * d + 230 } : Room)).room s m args below meth c H locs 0 0 (MQ below (va_Qi (fun r (_ : Unit) => r = tgt.1) (fun _ t => va_P D vwCl (wB cI b aH aM h g tgt.2) t.heap) A) args s 0 0 A) (F0 m 77 ls [.int vs0]) := by
        intro n4 vs0 se ls H locs hP hD hS hi_77_0 hi_77_1 hi_77_2 hl hE
        rw [p_X0_findField_77] at hE
        refine lv_istore_n (lv' := [(3, .int vs0), (4, .int (nI n4)), (0, .ref b), (1, .int (nI x)), (2, .int y)]) hx hb dX0_findField_77 rfl hl (by decide) rfl (fun ls hl => ?_)
        refine lv_iinc (v := nI (n4 + 1)) (lv' := [(4, .int (nI (n4 + 1))), (3, .int vs0), (0, .ref b), (1, .int (nI x)), (2, .int y)]) hx hb dX0_findField_78 hl (k := 1) rfl (nI_1 _) (by decide) rfl (fun ls hl => ?_)
        refine lv_goto (tgt := 41) hx hb dX0_findField_81 (by decide) ?_
        exact ih_41 (n4 + 1) vs0 se ls _ _ hP hD hS (by omega) (by first | omega | exact Nat.lt_of_le_of_lt (hFc _ _ _) (by omega)) (by first | omega | exact Nat.lt_of_le_of_lt (hFc _ _ _) (by omega)) (lv_sub hl [0, 1, 2, 3, 4] rfl) hE
      intro n4 v3 se ls H locs hP hD hS hm_41 hi_41_0 hi_41_1 hl hE
      rw [p_X0_findField_41] at hE
      refine lv_iload hx hb dX0_findField_41 (lv_at hl 0 rfl) ?_
      refine lv_bipush (v := (12 : Int32)) hx hb dX0_findField_43 (by decide) ?_
      refine lv_icmp_ge (tgt := 84) hx hb dX0_findField_45 (by decide) (fun c_45 => ?_) (fun c_45 => ?_)
      · have c_45 : 12 ≤ n4 := (nI_leI (a := 12) (b := n4) (by omega) (by omega)).mp c_45
        have hE := (if_pos c_45).symm.trans hE
        exact key_84 v3 se ls _ _ hP hD hS (by first | omega | exact Nat.lt_of_le_of_lt (hFc _ _ _) (by omega)) (lv_sub hl [1, 2, 3, 4] rfl) hE
      · have c_45 : ¬ (12 ≤ n4) := fun q9 => c_45 ((nI_leI (a := 12) (b := n4) (by omega) (by omega)).mpr q9)
        have hE := (if_neg c_45).symm.trans hE
        refine lv_iload_n hx hb dX0_findField_48 rfl (lv_at hl 1 rfl) ?_
        refine lv_bipush (v := (-2 : Int32)) hx hb dX0_findField_49 (by decide) ?_
        refine lv_icmp_ne (tgt := 84) hx hb dX0_findField_51 (by decide) (fun c_51 => ?_) (fun c_51 => ?_)
        · skip
          have hE := (if_neg c_51).symm.trans hE
          exact key_84 v3 se ls _ _ hP hD hS (by first | omega | exact Nat.lt_of_le_of_lt (hFc _ _ _) (by omega)) (lv_sub hl [1, 2, 3, 4] rfl) hE
        · skip
          have hE := (if_pos c_51).symm.trans hE
          refine lv_aload_n hx hb dX0_findField_54 rfl (lv_at hl 2 rfl) ?_
          refine va_get (D := D) (ci := 0) (v := .ref (aH 0)) (C := RX0) (T := TX0) (N := 3) hx hb hts (fun w9 h9 => List.mem_cons_of_mem _ (inT_X0 w9 h9)) hown hK hP 0 rfl rfl 0 (by decide) (hts (.fieldLink RX0 12 "LinkPredictor$Build" "types" "LLinkPredictor$Hierarchy;") (List.mem_cons_of_mem _ mw_1_128)) (fun _ h9 => h9) rfl dX0_findField_55 ?_
          refine lv_iload_n hx hb dX0_findField_58 rfl (lv_at hl 3 rfl) ?_
          refine ro_V [.int (nI x)] [] ⟨hx, hb, hml, hown, hts⟩ (c_X1_directFacesOf l D cI cZ cB cR aH h τ x okh.b (by omega)) (cwV (C := RX1) 1 hts (goodP (ps := [.methodLink RX0 121 yX1_directFacesOf, .instanceMethod yX1_directFacesOf, .selects RX1 yX1_directFacesOf yX1_directFacesOf, .initialized RX1]) (all4 mw_2_101 mw_2_102 mw_2_103 mw_1_3) mw_2_104) rfl rfl rfl (by decide +kernel) ⟨by show 0 + 1 ≤ d + 11; omega, by show 8 + (2 + 11) + (0) ≤ 30 * d + 230; omega⟩) hEV (wB_H hP) 0 rfl rfl rfl hl.1 rfl (Nat.le_of_ble_eq_true rfl) dX0_findField_59 ⟨Nat.zero_le _, Nat.zero_le _⟩ ?_
          refine lv_iload hx hb dX0_findField_62 (lv_at hl 0 rfl) ?_
          refine ro_SN [.int (τ 4 x), .int (nI n4)] [] ⟨hx, hb, hml, hown, hts⟩ (c_X4_contains l D cI cZ cB cR (τ 4 x) n4 (by omega)) (va_cnB (host := "LinkPredictor") 2 hts (goodC mw_1_48) rfl rfl rfl (hEV.2 (.methodLinkNest RX0 115 yX4_contains "LinkPredictor") (by decide +kernel)) (hts (.initialized RX4) (List.mem_cons_of_mem _ mw_1_1)) (by decide +kernel) ⟨by show 0 + 1 ≤ d + 11; omega, by show 8 + (2 + 11) + (0) ≤ 30 * d + 230; omega⟩) (hts (.static yX4_contains) (List.mem_cons_of_mem _ mw_1_47)) hEV va_P0 rfl hl.1 rfl (Nat.le_of_ble_eq_true rfl) dX0_findField_64 ⟨Nat.zero_le _, Nat.zero_le _⟩ ?_
          refine lv_if_eq (tgt := 78) hx hb dX0_findField_67 (by decide) (fun c_67 => ?_) (fun c_67 => ?_)
          · have c_67 : ¬ ((bt (τ 4 x) n4) = true) := b2i_f c_67
            have hE := (if_neg c_67).symm.trans hE
            refine lv_iinc (v := nI (n4 + 1)) (lv' := [(4, .int (nI (n4 + 1))), (3, .int v3), (0, .ref b), (1, .int (nI x)), (2, .int y)]) hx hb dX0_findField_78 hl (k := 0) rfl (nI_1 _) (by decide) rfl (fun ls hl => ?_)
            refine lv_goto (tgt := 41) hx hb dX0_findField_81 (by decide) ?_
            exact ih_41 (n4 + 1) v3 se ls _ _ hP hD hS (by omega) (by first | omega | exact Nat.lt_of_le_of_lt (hFc _ _ _) (by omega)) (by first | omega | exact Nat.lt_of_le_of_lt (hFc _ _ _) (by omega)) (lv_sub hl [0, 1, 2, 3, 4] rfl) hE
          · have c_67 : (bt (τ 4 x) n4) = true := b2i_t c_67
            have hE := (if_pos c_67).symm.trans hE
            refine lv_aload_n hx hb dX0_findField_70 rfl (lv_at hl 2 rfl) ?_
            refine lv_iload hx hb dX0_findField_71 (lv_at hl 0 rfl) ?_
            refine lv_iload_n hx hb dX0_findField_73 rfl (lv_at hl 4 rfl) ?_
            refine mu_V [.int (nI n4), .int y] [] ⟨hx, hb, hml, hown, hts⟩ (hF se n4 y (by omega) (gx.face (by omega) c_67) (by omega)) (cwV (C := RX0) 2 hts (goodP (ps := [.methodLink RX0 112 yX0_findField, .instanceMethod yX0_findField, .selects RX0 yX0_findField yX0_findField, .initialized RX0]) (all4 mw_2_95 mw_2_97 ms_7 mw_1_2) mw_2_98) rfl rfl rfl (by decide +kernel) ⟨by show d + 10 + 1 ≤ d + 11; omega, by show 8 + (5 + 11) + (30 * d + 200) ≤ 30 * d + 230; omega⟩) hEV hP hD hS hA 0 rfl rfl rfl hl.1 rfl (Nat.le_of_ble_eq_true rfl) dX0_findField_74 ⟨Nat.zero_le _, Nat.zero_le _⟩ (fun r9 u9 H1 locs hw hP1 hk1 hS => ?_)
            subst hw
            have hP : va_P D vwCl (wB cI b aH aM h g ((F se n4 y).2)) H1 := hP1
            have hD : va_D A (wB cI b aH aM h g ((F se n4 y).2)) := hD.adr rfl
            generalize H1 = H at hP hS ⊢
            exact key_77 n4 ((F se n4 y).1) ((F se n4 y).2) ls _ _ hP hD hS (by first | omega | exact Nat.lt_of_le_of_lt (hFc _ _ _) (by omega)) (by first | omega | exact Nat.lt_of_le_of_lt (hFc _ _ _) (by omega)) (by first | omega | exact Nat.lt_of_le_of_lt (hFc _ _ _) (by omega)) (lv_sub hl [0, 2, 3, 4] rfl) hE
  refine lv_aload_n hx hb dX0_findField_0 rfl (lv_at hl 0 rfl) ?_
  refine va_get (D := D) (ci := 0) (v := .int se) (C := RX0) (T := TX0) (N := 3) hx hb hts (fun w9 h9 => List.mem_cons_of_mem _ (inT_X0 w9 h9)) hown hK hP 0 rfl rfl 2 (by decide) (hts (.fieldLink RX0 109 "LinkPredictor$Build" "searched" "I") (List.mem_cons_of_mem _ mw_1_132)) (fun _ h9 => h9) rfl dX0_findField_1 ?_
  refine lv_iload_n hx hb dX0_findField_4 rfl (lv_at hl 1 rfl) ?_
  refine ro_SN [.int se, .int (nI x)] [] ⟨hx, hb, hml, hown, hts⟩ (c_X4_contains l D cI cZ cB cR se x (by omega)) (va_cnB (host := "LinkPredictor") 2 hts (goodC mw_1_48) rfl rfl rfl (hEV.2 (.methodLinkNest RX0 115 yX4_contains "LinkPredictor") (by decide +kernel)) (hts (.initialized RX4) (List.mem_cons_of_mem _ mw_1_1)) (by decide +kernel) ⟨by show 0 + 1 ≤ d + 11; omega, by show 8 + (2 + 11) + (0) ≤ 30 * d + 230; omega⟩) (hts (.static yX4_contains) (List.mem_cons_of_mem _ mw_1_47)) hEV va_P0 rfl hl.1 rfl (Nat.le_of_ble_eq_true rfl) dX0_findField_5 ⟨Nat.zero_le _, Nat.zero_le _⟩ ?_
  refine lv_if_eq (tgt := 14) hx hb dX0_findField_8 (by decide) (fun c_8 => ?_) (fun c_8 => ?_)
  · have c_8 : ¬ ((bt se x) = true) := b2i_f c_8
    have hE := (if_neg c_8).symm.trans hE
    refine lv_aload_n hx hb dX0_findField_14 rfl (lv_at hl 0 rfl) ?_
    refine lv_dup hx hb dX0_findField_15 rfl ?_
    refine va_get (D := D) (ci := 0) (v := .int se) (C := RX0) (T := TX0) (N := 3) hx hb hts (fun w9 h9 => List.mem_cons_of_mem _ (inT_X0 w9 h9)) hown hK hP 0 rfl rfl 2 (by decide) (hts (.fieldLink RX0 109 "LinkPredictor$Build" "searched" "I") (List.mem_cons_of_mem _ mw_1_132)) (fun _ h9 => h9) rfl dX0_findField_16 ?_
    refine lv_iload_n hx hb dX0_findField_19 rfl (lv_at hl 1 rfl) ?_
    refine ro_SN [.int (nI x)] [.int se, .ref b] ⟨hx, hb, hml, hown, hts⟩ (c_X4_bit l D cI cZ cB cR x (by omega)) (va_cnB (host := "LinkPredictor") 1 hts (goodC mw_1_33) rfl rfl rfl (hEV.2 (.methodLinkNest RX0 118 yX4_bit "LinkPredictor") (by decide +kernel)) (hts (.initialized RX4) (List.mem_cons_of_mem _ mw_1_1)) (by decide +kernel) ⟨by show 0 + 1 ≤ d + 11; omega, by show 8 + (1 + 11) + (0) ≤ 30 * d + 230; omega⟩) (hts (.static yX4_bit) (List.mem_cons_of_mem _ mw_1_32)) hEV va_P0 rfl hl.1 rfl (Nat.le_of_ble_eq_true rfl) dX0_findField_20 ⟨Nat.zero_le _, Nat.zero_le _⟩ ?_
    refine lv_ior hx hb dX0_findField_23 ?_
    refine va_put (D := D) (ci := 0) (v := .int (se ||| (bm x))) (ty := .int) (C := RX0) (T := TX0) (N := 3) hx hb hts (fun w9 h9 => List.mem_cons_of_mem _ (inT_X0 w9 h9)) tyX0 tyX0_ok nmX0 hown hK hP hD hS 0 rfl rfl 2 (by decide) (hts (.fieldLink RX0 109 "LinkPredictor$Build" "searched" "I") (List.mem_cons_of_mem _ mw_1_132)) (fun _ h9 => h9) rfl (by decide +kernel) rfl rfl (Nat.le_of_ble_eq_true rfl) dX0_findField_24 (fun H locs hP hD hS => ?_)
    have hP : va_P D vwCl (wB cI b aH aM h g ((se ||| (bm x)))) _ := hP
    have hD : va_D A (wB cI b aH aM h g ((se ||| (bm x)))) := hD
    have hcn := cN_or hnx (show bt se x = false by simpa using c_8)
    refine lv_aload_n hx hb dX0_findField_27 rfl (lv_at hl 0 rfl) ?_
    refine va_get (D := D) (ci := 0) (v := .ref (aM 0)) (C := RX0) (T := TX0) (N := 3) hx hb hts (fun w9 h9 => List.mem_cons_of_mem _ (inT_X0 w9 h9)) hown hK hP 0 rfl rfl 1 (by decide) (hts (.fieldLink RX0 21 "LinkPredictor$Build" "members" "LLinkPredictor$Members;") (List.mem_cons_of_mem _ mw_1_130)) (fun _ h9 => h9) rfl dX0_findField_28 ?_
    refine lv_iload_n hx hb dX0_findField_31 rfl (lv_at hl 1 rfl) ?_
    refine lv_iconst (v := (0 : Int32)) hx hb dX0_findField_32 (by decide) ?_
    refine lv_iload_n hx hb dX0_findField_33 rfl (lv_at hl 2 rfl) ?_
    refine ro_V [.int (nI x), .int (0 : Int32), .int y] [] ⟨hx, hb, hml, hown, hts⟩ (c_X2_find l D cI cZ cB cR aM g γ n x false y okm (by omega)) (cwV (C := RX2) 3 hts (goodP (ps := [.methodLink RX0 36 yX2_find, .instanceMethod yX2_find, .selects RX2 yX2_find yX2_find, .initialized RX2]) (all4 mw_1_222 mw_1_223 mw_1_224 mw_1_4) mw_1_225) rfl rfl rfl (by decide +kernel) ⟨by show 1 + 1 ≤ d + 11; omega, by show 8 + (6 + 11) + (21) ≤ 30 * d + 230; omega⟩) hEV (wB_M hP) 0 rfl rfl rfl hl.1 rfl (Nat.le_of_ble_eq_true rfl) dX0_findField_34 ⟨Nat.zero_le _, Nat.zero_le _⟩ ?_
    refine lv_istore_n (lv' := [(3, .int (fdI γ n x (kyF false y))), (0, .ref b), (1, .int (nI x)), (2, .int y)]) hx hb dX0_findField_37 rfl hl (by decide) rfl (fun ls hl => ?_)
    refine lv_iconst (v := (0 : Int32)) hx hb dX0_findField_38 (by decide) ?_
    refine lv_istore (lv' := [(4, .int (0 : Int32)), (3, .int (fdI γ n x (kyF false y))), (0, .ref b), (1, .int (nI x)), (2, .int y)]) hx hb dX0_findField_39 hl (by decide) rfl (fun ls hl => ?_)
    exact key_41 13 0 (fdI γ n x (kyF false y)) ((se ||| (bm x))) ls _ _ hP hD hS (by omega) (by first | omega | exact Nat.lt_of_le_of_lt (hFc _ _ _) (by omega)) (by first | omega | exact Nat.lt_of_le_of_lt (hFc _ _ _) (by omega)) (lv_sub hl [0, 1, 2, 3, 4] rfl) hE
  · have c_8 : (bt se x) = true := b2i_t c_8
    have hE := (if_pos c_8).symm.trans hE
    refine lv_bipush (v := (-2 : Int32)) hx hb dX0_findField_11 (by decide) ?_
    exact W.iret hx hb hr (fun t9 ht9 _ => ⟨⟨_, (), rfl, congrArg Prod.fst hE, by show va_P D vwCl _ t9.heap; rw [ht9, ← congrArg Prod.snd hE]; exact hP⟩, hS.F ht9⟩) hS.2.2 dX0_findField_13
noncomputable def pFF (h τ g γ : Nat → Nat → Int32) (n : Nat) : Nat → Int32 → Nat → Int32 → Int32 × Int32
  | 0, se, _, _ => (-2, se)
  | d + 1, se, t, s => p_X0_findField h τ g γ n (fun se t s => pFF h τ g γ n d se t s) t s se
theorem cN_mono {o o2 : Int32} (h : ∀ t, t < 12 → bt o t = true → bt o2 t = true) : cN o2 ≤ cN o := by
  unfold cN
  have : ∀ k, k ≤ 12 → cnF (fun t => !(bt o2 t)) k ≤ cnF (fun t => !(bt o t)) k := by
    intro k
    induction k with
    | zero => intro _; exact Nat.le_refl _
    | succ k ih =>
      intro hk
      have := ih (by omega)
      by_cases c : bt o2 k = true
      · rw [cnF_f (n := k) (by simp [c])]
        have : cnF (fun t => !(bt o t)) k ≤ cnF (fun t => !(bt o t)) (k + 1) := by rw [cnF]; exact Nat.le_add_right _ _
        omega
      · have c2 : ¬ bt o k = true := fun q => c (h k (by omega) q)
        rw [cnF_t (n := k) (by simpa using c), cnF_t (n := k) (by simpa using c2)]
        omega
  exact this 12 (Nat.le_refl _)
theorem cN_FF (h τ g γ : Nat → Nat → Int32) (n : Nat) : ∀ d se t s, cN (pFF h τ g γ n d se t s).2 ≤ cN se := by
  intro d
  induction d with
  | zero => intro se t s; exact Nat.le_refl _
  | succ d ih =>
    intro se t s
    have h108 : ∀ v se, cN (p_X0_findField_108 h τ g γ n (fun se t s => pFF h τ g γ n d se t s) t s v se).2 ≤ cN se := fun v se => by rw [p_X0_findField_108]; exact Nat.le_refl _
    have h107 : ∀ v se, cN (p_X0_findField_107 h τ g γ n (fun se t s => pFF h τ g γ n d se t s) t s v se).2 ≤ cN se := fun v se => by rw [p_X0_findField_107]; exact h108 _ _
    have h84 : ∀ v se, cN (p_X0_findField_84 h τ g γ n (fun se t s => pFF h τ g γ n d se t s) t s v se).2 ≤ cN se := fun v se => by
      rw [p_X0_findField_84]
      split
      · split
        · exact h108 _ _
        · exact Nat.le_trans (h107 _ _) (ih _ _ _)
      · exact h108 _ _
    have h41 : ∀ k i v se, cN (p_X0_findField_41 h τ g γ n (fun se t s => pFF h τ g γ n d se t s) t s k i v se).2 ≤ cN se := by
      intro k
      induction k with
      | zero => intro i v se; exact Nat.le_refl _
      | succ k ih2 =>
        intro i v se
        rw [p_X0_findField_41]
        split
        · exact h84 _ _
        · split
          · split
            · rw [p_X0_findField_77]; exact Nat.le_trans (ih2 _ _ _) (ih _ _ _)
            · exact ih2 _ _ _
          · exact h84 _ _
    rw [pFF, p_X0_findField]
    split
    · exact Nat.le_refl _
    · exact Nat.le_trans (h41 _ _ _ _) (cN_mono (fun u hu q => by rw [b_or, q]; rfl))
theorem c_FF (l : Launch) (D : va_G) (cI cZ cB cR : ClassId) (b : Nat) (aH aM : Nat → Nat) (h τ g γ : Nat → Nat → Int32) (n : Nat) (okh : OKH h τ) (wf : WFT τ) (okm : OKM g γ n) (wm : WFM γ n) : ∀ (d : Nat) (se : Int32) (t : Nat) (s : Int32), t < 12 → Gd τ t → cN se < d → MUi l yX0_findField wsX0_findField ({ frames := d + 10, cells := 0, slots := 0, locals := 30 * d + 200 } : Room) D cI cZ cB cR (wB cI b aH aM h g se) [.ref b, .int (nI t), .int s] (fun (_ : Unit) => wB cI b aH aM h g (pFF h τ g γ n d se t s).2) (fun r _ => r = (pFF h τ g γ n d se t s).1) := by
  intro d
  induction d with
  | zero => intro se t s _ _ hc; exact absurd hc (Nat.not_lt_zero _)
  | succ d ih =>
    intro se t s ht gt hc
    exact c_X0_findField l D cI cZ cB cR d b aH aM h τ g γ n se (fun se t s => pFF h τ g γ n d se t s) t s okh wf okm wm ht gt hc ih (fun se' t' s' => cN_FF h τ g γ n d se' t' s')
/-- none, or a member -/
def on1 (n : Nat) (v : Int32) : Prop := v = -2 ∨ ∃ k, k < n ∧ v = nI k
theorem on1_fd {γ : Nat → Nat → Int32} {n t : Nat} {key : Int32} : on1 n (fdI γ n t key) := by
  by_cases c : fdI γ n t key = -2
  · exact Or.inl c
  · exact Or.inr ⟨_, fdI_nat c⟩
theorem nI_nn {k : Nat} (h : k < 2 ^ 31) : ¬ nI k = -2 := fun z => by have := congrArg Int32.toInt z; rw [nI_toInt h] at this; simp at this
theorem on1_16 {n : Nat} {v : Int32} (h : on1 n v) (c : ¬ v = -2) : g16 n (16 + v) := by
  obtain ⟨k, hk, e⟩ := h.resolve_left c
  exact ⟨k, hk, by rw [e]; exact nI_add 16 k⟩
theorem on1_min {n : Nat} {v w : Int32} (hn : n ≤ 30) (h1 : on1 n v) (h2 : on1 n w) : on1 n (if w < v then w else v) := by
  split
  · exact h2
  · exact h1
theorem fl_on1 (h τ g γ : Nat → Nat → Int32) (n : Nat) (hn : n ≤ 30) (x y : Int32) : on1 n (p_X0_findLeast h τ g γ n x y) := by
  have key : ∀ k i v, 12 - i < k → i ≤ 12 → on1 n v → on1 n (p_X0_findLeast_6 h τ g γ n x y k i v) := by
    intro k
    induction k with
    | zero => intro i v h1; omega
    | succ k ih =>
      intro i v hk hi hv
      rw [p_X0_findLeast_6]
      split
      · exact hv
      · split
        · split
          · exact ih _ _ (by omega) (by omega) on1_fd
          · exact ih _ _ (by omega) (by omega) (on1_min hn hv on1_fd)
        · exact ih _ _ (by omega) (by omega) hv
  rw [p_X0_findLeast]
  exact key 13 0 _ (by omega) (by omega) (Or.inl rfl)
theorem fb_on1 (h τ g γ : Nat → Nat → Int32) (n : Nat) (hn : n ≤ 30) (x : Nat) (y : Int32) : on1 n (p_X0_findBest h τ g γ n x y) := by
  rw [p_X0_findBest]
  split
  · exact fl_on1 _ _ _ _ _ hn _ _
  · rename_i c
    rcases fowb_cases h τ g γ n (msI h ((h 7 x) &&& (owI γ n (kyF true y)))) y with e | e | e
    · exact Or.inl e
    · rw [e] at c; exact absurd (by decide) c
    · exact Or.inr e
theorem fii_on1 (h τ g γ : Nat → Nat → Int32) (n x : Nat) (y : Int32) : on1 n (p_X0_findInInterface h τ g γ n x y) := by
  rw [p_X0_findInInterface]
  split
  · split
    · exact Or.inl rfl
    · split
      · split
        · exact Or.inl rfl
        · exact on1_fd
      · exact Or.inl rfl
  · exact on1_fd
theorem fia_on1 (h τ g γ : Nat → Nat → Int32) (n x : Nat) (y : Int32) : on1 n (p_X0_findInAbove h τ g γ n x y) := by
  have key : ∀ k i v, 12 - i < k → i ≤ 12 → on1 n (p_X0_findInAbove_5 h τ g γ n x y k i v) := by
    intro k
    induction k with
    | zero => intro i v h1; omega
    | succ k ih =>
      intro i v hk hi
      rw [p_X0_findInAbove_5]
      split
      · exact Or.inl rfl
      · split
        · exact Or.inl rfl
        · split
          · exact ih _ _ (by omega) (by omega)
          · exact on1_fd
  rw [p_X0_findInAbove]
  exact key 13 0 _ (by omega) (by omega)
theorem lum_g16 (h τ g γ : Nat → Nat → Int32) (n : Nat) (hn : n ≤ 30) (φ : Nat → Nat) (hφ : φR φ) : gd (p_X0_lookUpMethod h τ g γ n φ) = true → g16 n (p_X0_lookUpMethod h τ g γ n φ) := by
  have h2 := hφ.2.2.1
  have h97 : ∀ v, on1 n v → gd (p_X0_lookUpMethod_97 h τ g γ n φ v) = true → g16 n (p_X0_lookUpMethod_97 h τ g γ n φ v) := by
    intro v hv q
    rw [p_X0_lookUpMethod_97] at q ⊢
    by_cases c : v = -2
    · rw [if_pos c, gd_nI (by omega), decide_eq_false (by omega)] at q; exact absurd q (by decide)
    · rw [if_neg c]; exact on1_16 hv c
  have h77 : ∀ v, on1 n v → gd (p_X0_lookUpMethod_77 h τ g γ n φ v) = true → g16 n (p_X0_lookUpMethod_77 h τ g γ n φ v) := by
    intro v hv q
    rw [p_X0_lookUpMethod_77] at q ⊢
    split at q
    · rename_i c; rw [if_pos c]; exact h97 _ (fb_on1 _ _ _ _ _ hn _ _) q
    · rename_i c; rw [if_neg c]; exact h97 _ hv q
  have h46 : ∀ z, gd (p_X0_lookUpMethod_46 h τ g γ n φ z) = true → g16 n (p_X0_lookUpMethod_46 h τ g γ n φ z) := by
    intro z q
    rw [p_X0_lookUpMethod_46] at q ⊢
    split at q
    · rename_i c; rw [if_pos c]; exact h77 _ (fii_on1 _ _ _ _ _ _ _) q
    · rename_i c; rw [if_neg c]; exact h77 _ (fia_on1 _ _ _ _ _ _ _) q
  have bad : ∀ {P : Prop}, gd (nI (192 + φ 2)) = true → P := fun q => by rw [gd_nI (by omega), decide_eq_false (by omega)] at q; exact absurd q (by decide)
  have h24 : ∀ z, gd (p_X0_lookUpMethod_24 h τ g γ n φ z) = true → g16 n (p_X0_lookUpMethod_24 h τ g γ n φ z) := by
    intro z q
    rw [p_X0_lookUpMethod_24] at q ⊢
    split at q
    · rename_i c; rw [if_pos c]
      split at q
      · rename_i c2; rw [if_pos c2]; exact h46 _ q
      · exact bad q
    · rename_i c; rw [if_neg c]; exact h46 _ q
  intro q
  rw [p_X0_lookUpMethod] at q ⊢
  split at q
  · rename_i c; rw [if_pos c]
    split at q
    · exact bad q
    · rename_i c2; rw [if_neg c2]; exact h24 _ q
  · rename_i c; rw [if_neg c]; exact h24 _ q
theorem FF_on1 (h τ g γ : Nat → Nat → Int32) (n : Nat) : ∀ d se t s, on1 n (pFF h τ g γ n d se t s).1 := by
  intro d
  induction d with
  | zero => intro se t s; exact Or.inl rfl
  | succ d ih =>
    intro se t s
    rw [pFF, p_X0_findField]
    split
    · exact Or.inl rfl
    · have h108 : ∀ v se, on1 n v → on1 n (p_X0_findField_108 h τ g γ n (fun se t s => pFF h τ g γ n d se t s) t s v se).1 := fun v se hv => by rw [p_X0_findField_108]; exact hv
      have h84 : ∀ v se, on1 n v → on1 n (p_X0_findField_84 h τ g γ n (fun se t s => pFF h τ g γ n d se t s) t s v se).1 := fun v se hv => by
        rw [p_X0_findField_84]
        split
        · split
          · exact h108 _ _ hv
          · rw [p_X0_findField_107]; exact h108 _ _ (ih _ _ _)
        · exact h108 _ _ hv
      have h41 : ∀ k i v se, 12 - i < k → on1 n v → on1 n (p_X0_findField_41 h τ g γ n (fun se t s => pFF h τ g γ n d se t s) t s k i v se).1 := by
        intro k
        induction k with
        | zero => intro i v se h1; omega
        | succ k ih2 =>
          intro i v se hk hv
          rw [p_X0_findField_41]
          split
          · exact h84 _ _ hv
          · split
            · split
              · rw [p_X0_findField_77]; exact ih2 _ _ _ (by omega) (ih _ _ _)
              · exact ih2 _ _ _ (by omega) hv
            · exact h84 _ _ hv
      exact h41 _ _ _ _ (by omega) on1_fd
section BW2
variable {D : va_G} {A : Nat → Prop} {cI : ClassId} {b r : Nat} {aH aM : Nat → Nat} {h g : Nat → Nat → Int32} {se : Int32} {φ : Nat → Nat}
theorem wBR_DB (hD : va_D A (wBR cI b aH aM h g se r φ)) : va_D A (wB cI b aH aM h g se) := hD.sub [0, 1, 2, 3, 4, 5, 6, 7, 8, 9, 10, 11, 12, 13, 14] (by decide) rfl
end BW2
theorem rcI_gd {τ : Nat → Nat → Int32} {x y : Nat} (h : gd (rcI τ x y) = true) : gd (LV τ x) = true := by
  unfold rcI at h
  by_cases c : gd (LV τ x) = true
  · exact c
  · rw [if_neg c] at h; exact h
noncomputable def p_X0_lookUpField (h τ g γ : Nat → Nat → Int32) (n : Nat) (φ : Nat → Nat)  : Int32 := if ((pFF h τ g γ n 13 (0 : Int32) (φ 2) (nI (φ 3))).1) = (-2 : Int32) then (nI (320 + (φ 2))) else ((16 : Int32) + ((pFF h τ g γ n 13 (0 : Int32) (φ 2) (nI (φ 3))).1))
set_option maxHeartbeats 4000000 in
set_option maxRecDepth 100000 in
theorem c_X0_lookUpField (l : Launch) (D : va_G) (cI cZ cB cR : ClassId) (b : Nat) (aH aM : Nat → Nat) (h τ g γ : Nat → Nat → Int32) (n : Nat) (se : Int32) (r : Nat) (φ : Nat → Nat)  (okh : OKH h τ) (wf : WFT τ) (okm : OKM g γ n) (wm : WFM γ n) (hφ : φR φ)  (gw : Gd τ (φ 2)) : MUi l yX0_lookUpField wsX0_lookUpField ({ frames := 24, cells := 0, slots := 0, locals := 614 } : Room) D cI cZ cB cR (wBR cI b aH aM h g se r φ) [.ref b, .ref r] (fun (se : Int32) => wBR cI b aH aM h g se r φ) (fun r _ => r = (p_X0_lookUpField h τ g γ n φ )) := by
  generalize hE : p_X0_lookUpField h τ g γ n φ  = tgt
  intro sz
  refine Met.ofW (cc := cX0_lookUpField) (maxL := 3) (ret := (some .int)) (by decide) rfl ?_
  intro p e s m args below meth c s₁ B hml hv
  obtain ⟨hargs, hsz, hP, hEV, hD0⟩ := hv
  have hx := B.exec
  have hb := B.bytes
  have hr := B.returns
  have hts := atoms_spec (ws := wsX0_lookUpField) B.pre
  have hown : s.vm.findClass RX0 = some m.cls := findClass_of_methodNamed B.named
  have hlocks := B.notSynchronized
  have hK := hEV.1
  have hl := lv_entry ([.ref b, .ref r]) (n := 3) (Nat.le_of_ble_eq_true rfl)
  rw [show entryFrame m args 3 = entryFrame m ([.ref b, .ref r] : List Value).toArray 3 from by rw [hargs], lg_entry_eq]
  generalize (lg_sl ([.ref b, .ref r]) ++ List.replicate (3 - (lg_sl ([.ref b, .ref r])).length) Slot.unset).toArray = ls at hl ⊢
  have hl : lv_has ls 3 [(0, .ref b), (1, .ref r)] := hl
  subst hsz
  have hD := hD0.self (sz := s.heap.size)
  generalize hAe : va_A (wBR cI b aH aM h g se r φ) s.heap.size = A at hD ⊢
  have hA : ∀ q : Nat, s.heap.size ≤ q → A q := fun q h9 => by rw [← hAe]; exact Or.inr h9
  have hS : va_S A s.heap s.heap [] := va_S.rf
  rw [p_X0_lookUpField] at hE
  have hn30 := okm.2.1
  obtain ⟨hf0, hf1, hf2, hf3⟩ := id hφ
  refine lv_aload_n hx hb dX0_lookUpField_0 rfl (lv_at hl 0 rfl) ?_
  refine lv_iconst (v := (0 : Int32)) hx hb dX0_lookUpField_1 (by decide) ?_
  refine va_put (D := D) (ci := 0) (v := .int (0 : Int32)) (ty := .int) (C := RX0) (T := TX0) (N := 3) hx hb hts (fun w9 h9 => List.mem_cons_of_mem _ (inT_X0 w9 h9)) tyX0 tyX0_ok nmX0 hown hK hP hD hS 0 rfl rfl 2 (by decide) (hts (.fieldLink RX0 109 "LinkPredictor$Build" "searched" "I") (List.mem_cons_of_mem _ mw_1_132)) (fun _ h9 => h9) rfl (by decide +kernel) rfl rfl (Nat.le_of_ble_eq_true rfl) dX0_lookUpField_2 (fun H locs hP hD hS => ?_)
  have hP : va_P D vwCl (wBR cI b aH aM h g (0 : Int32) r φ) _ := hP
  have hD : va_D A (wBR cI b aH aM h g (0 : Int32) r φ) := hD
  refine lv_aload_n hx hb dX0_lookUpField_5 rfl (lv_at hl 0 rfl) ?_
  refine lv_aload_n hx hb dX0_lookUpField_6 rfl (lv_at hl 1 rfl) ?_
  refine va_getN (D := D) (ci := 3) (v := .int (nI (φ 2))) (C := RX3) (T := TX3) (N := 4) (host := "LinkPredictor") hx hb hts (fun w9 h9 => List.mem_cons_of_mem _ (inT_X3 w9 h9)) hown hK hP 15 rfl rfl 2 (by decide) (va_Nw.use rfl (hEV.2 (.fieldLinkNest RX0 64 "LinkPredictor$Reference" "way" "I" "LinkPredictor") (by decide +kernel))) (fun _ h9 => h9) rfl dX0_lookUpField_7 ?_
  refine lv_aload_n hx hb dX0_lookUpField_10 rfl (lv_at hl 1 rfl) ?_
  refine va_getN (D := D) (ci := 3) (v := .int (nI (φ 3))) (C := RX3) (T := TX3) (N := 4) (host := "LinkPredictor") hx hb hts (fun w9 h9 => List.mem_cons_of_mem _ (inT_X3 w9 h9)) hown hK hP 15 rfl rfl 3 (by decide) (va_Nw.use rfl (hEV.2 (.fieldLinkNest RX0 99 "LinkPredictor$Reference" "sign" "I" "LinkPredictor") (by decide +kernel))) (fun _ h9 => h9) rfl dX0_lookUpField_11 ?_
  refine mu_V [.int (nI (φ 2)), .int (nI (φ 3))] [] ⟨hx, hb, hml, hown, hts⟩ (c_FF l D cI cZ cB cR b aH aM h τ g γ n okh wf okm wm 13 (0 : Int32) (φ 2) (nI (φ 3)) (by omega) gw (by rw [cN_0]; omega)) (cwV (C := RX0) 2 hts (goodP (ps := [.methodLink RX0 112 yX0_findField, .instanceMethod yX0_findField, .selects RX0 yX0_findField yX0_findField, .initialized RX0]) (all4 mw_2_95 mw_2_97 ms_7 mw_1_2) mw_2_98) rfl rfl rfl (by decide +kernel) ⟨Nat.le_of_ble_eq_true rfl, Nat.le_of_ble_eq_true rfl⟩) hEV (wBR_B hP) (wBR_DB hD) hS hA 0 rfl rfl rfl hl.1 rfl (Nat.le_of_ble_eq_true rfl) dX0_lookUpField_14 ⟨Nat.zero_le _, Nat.zero_le _⟩ (fun r9 u9 H1 locs hw hP1 hk1 hS => ?_)
  subst hw
  have hP : va_P D vwCl (wBR cI b aH aM h g ((pFF h τ g γ n 13 (0 : Int32) (φ 2) (nI (φ 3))).2) r φ) H1 := va_swap (w1 := []) (w2 := wB cI b aH aM h g (0 : Int32)) (w3 := wR r φ) hP hD hP1 hk1
  have hD : va_D A (wBR cI b aH aM h g ((pFF h τ g γ n 13 (0 : Int32) (φ 2) (nI (φ 3))).2) r φ) := hD.adr rfl
  generalize H1 = H at hP hS ⊢
  refine lv_istore_n (lv' := [(2, .int ((pFF h τ g γ n 13 (0 : Int32) (φ 2) (nI (φ 3))).1)), (0, .ref b), (1, .ref r)]) hx hb dX0_lookUpField_17 rfl hl (by decide) rfl (fun ls hl => ?_)
  refine lv_iload_n hx hb dX0_lookUpField_18 rfl (lv_at hl 0 rfl) ?_
  refine lv_bipush (v := (-2 : Int32)) hx hb dX0_lookUpField_19 (by decide) ?_
  refine lv_icmp_ne (tgt := 35) hx hb dX0_lookUpField_21 (by decide) (fun c_21 => ?_) (fun c_21 => ?_)
  · skip
    have hE := (if_neg c_21).symm.trans hE
    refine lv_bipush (v := (16 : Int32)) hx hb dX0_lookUpField_35 (by decide) ?_
    refine lv_iload_n hx hb dX0_lookUpField_37 rfl (lv_at hl 0 rfl) ?_
    refine lv_iadd hx hb dX0_lookUpField_38 ?_
    exact W.iret hx hb hr (fun t9 ht9 _ => ⟨⟨_, (pFF h τ g γ n 13 (0 : Int32) (φ 2) (nI (φ 3))).2, rfl, hE, by show va_P D vwCl _ t9.heap; rw [ht9]; exact hP⟩, hS.F ht9⟩) hS.2.2 dX0_lookUpField_39
  · skip
    have hE := (if_pos c_21).symm.trans hE
    refine lv_sipush (v := (320 : Int32)) hx hb dX0_lookUpField_24 (by decide) ?_
    refine lv_aload_n hx hb dX0_lookUpField_27 rfl (lv_at hl 2 rfl) ?_
    refine va_getN (D := D) (ci := 3) (v := .int (nI (φ 2))) (C := RX3) (T := TX3) (N := 4) (host := "LinkPredictor") hx hb hts (fun w9 h9 => List.mem_cons_of_mem _ (inT_X3 w9 h9)) hown hK hP 15 rfl rfl 2 (by decide) (va_Nw.use rfl (hEV.2 (.fieldLinkNest RX0 64 "LinkPredictor$Reference" "way" "I" "LinkPredictor") (by decide +kernel))) (fun _ h9 => h9) rfl dX0_lookUpField_28 ?_
    refine lv_iadd hx hb dX0_lookUpField_31 ?_
    refine top_eq (nI_add 320 (φ 2)) ?_
    refine lv_goto (tgt := 39) hx hb dX0_lookUpField_32 (by decide) ?_
    exact W.iret hx hb hr (fun t9 ht9 _ => ⟨⟨_, (pFF h τ g γ n 13 (0 : Int32) (φ 2) (nI (φ 3))).2, rfl, hE, by show va_P D vwCl _ t9.heap; rw [ht9]; exact hP⟩, hS.F ht9⟩) hS.2.2 dX0_lookUpField_39
theorem luf_g16 (h τ g γ : Nat → Nat → Int32) (n : Nat) (φ : Nat → Nat) (hφ : φR φ) : gd (p_X0_lookUpField h τ g γ n φ) = true → g16 n (p_X0_lookUpField h τ g γ n φ) := by
  have h2 := hφ.2.2.1
  intro q
  rw [p_X0_lookUpField] at q ⊢
  split at q
  · rw [gd_nI (by omega), decide_eq_false (by omega)] at q; exact absurd q (by decide)
  · rename_i c; rw [if_neg c]; exact on1_16 (FF_on1 _ _ _ _ _ _ _ _ _) c
noncomputable def p_X0_resolution_75 (h τ g γ : Nat → Nat → Int32) (n : Nat) (φ : Nat → Nat)  (vs0 : Int32) : Int32 := if (gd vs0) = true then (p_X0_checkMember h τ g γ n φ (sN vs0 - 16)) else (vs0)
noncomputable def p_X0_resolution (h τ g γ : Nat → Nat → Int32) (n : Nat) (φ : Nat → Nat)  : Int32 := if (gd (LV τ (φ 1))) = true then (if (gd (rcI τ (φ 2) (φ 1))) = true then (if (φ 0) = 8 then (rcI τ (φ 2) (φ 1)) else (if (decide (φ 0 ≤ 3)) = true then (p_X0_resolution_75 h τ g γ n φ  (p_X0_lookUpField h τ g γ n φ )) else (p_X0_resolution_75 h τ g γ n φ  (p_X0_lookUpMethod h τ g γ n φ )))) else (rcI τ (φ 2) (φ 1))) else (LV τ (φ 1))
set_option maxHeartbeats 4000000 in
set_option maxRecDepth 100000 in
theorem c_X0_resolution (l : Launch) (D : va_G) (cI cZ cB cR : ClassId) (b : Nat) (aH aM : Nat → Nat) (h τ g γ : Nat → Nat → Int32) (n : Nat) (se : Int32) (r : Nat) (φ : Nat → Nat)  (okh : OKH h τ) (wf : WFT τ) (okm : OKM g γ n) (wm : WFM γ n) (hφ : φR φ)   : MUi l yX0_resolution wsX0_resolution ({ frames := 25, cells := 0, slots := 0, locals := 636 } : Room) D cI cZ cB cR (wBR cI b aH aM h g se r φ) [.ref b, .ref r] (fun (se : Int32) => wBR cI b aH aM h g se r φ) (fun r _ => r = (p_X0_resolution h τ g γ n φ )) := by
  generalize hE : p_X0_resolution h τ g γ n φ  = tgt
  intro sz
  refine Met.ofW (cc := cX0_resolution) (maxL := 3) (ret := (some .int)) (by decide) rfl ?_
  intro p e s m args below meth c s₁ B hml hv
  obtain ⟨hargs, hsz, hP, hEV, hD0⟩ := hv
  have hx := B.exec
  have hb := B.bytes
  have hr := B.returns
  have hts := atoms_spec (ws := wsX0_resolution) B.pre
  have hown : s.vm.findClass RX0 = some m.cls := findClass_of_methodNamed B.named
  have hlocks := B.notSynchronized
  have hK := hEV.1
  have hl := lv_entry ([.ref b, .ref r]) (n := 3) (Nat.le_of_ble_eq_true rfl)
  rw [show entryFrame m args 3 = entryFrame m ([.ref b, .ref r] : List Value).toArray 3 from by rw [hargs], lg_entry_eq]
  generalize (lg_sl ([.ref b, .ref r]) ++ List.replicate (3 - (lg_sl ([.ref b, .ref r])).length) Slot.unset).toArray = ls at hl ⊢
  have hl : lv_has ls 3 [(0, .ref b), (1, .ref r)] := hl
  subst hsz
  have hD := hD0.self (sz := s.heap.size)
  generalize hAe : va_A (wBR cI b aH aM h g se r φ) s.heap.size = A at hD ⊢
  have hA : ∀ q : Nat, s.heap.size ≤ q → A q := fun q h9 => by rw [← hAe]; exact Or.inr h9
  have hS : va_S A s.heap s.heap [] := va_S.rf
  rw [p_X0_resolution] at hE
  have hn30 := okm.2.1
  obtain ⟨hf0, hf1, hf2, hf3⟩ := id hφ
  have key_75 : ∀ (vs0 : Int32) (ls : Array Slot) (se : Int32) (H : Heap) (locs : List Loc) (hP : va_P D vwCl (wBR cI b aH aM h g se r φ) H) (hD : va_D A (wBR cI b aH aM h g se r φ)) (hS : va_S A s.heap H locs), (gd vs0 = true → g16 n vs0) → Gd τ (φ 1) → Gd τ (φ 2) → lv_has ls 3 [(0, .ref b), (1, .ref r)] → p_X0_resolution_75 h τ g γ n φ  vs0 = tgt → W p l e (headSpec wsX0_resolution ({ frames := 25, cells := 0, slots := 0, locals := 636 } : Room)).room s m args below meth c H locs 0 0 (MQ below (va_Qi (fun r (_ : (Int32)) => r = tgt) (fun u t => va_P D vwCl ((fun (se : Int32) => wBR cI b aH aM h g se r φ) u) t.heap) A) args s 0 0 A) (F0 m 75 ls [.int vs0]) := by
    intro vs0 ls se H locs hP hD hS hi_75_0 hi_75_1 hi_75_2 hl hE
    rw [p_X0_resolution_75] at hE
    refine lv_istore_n (lv' := [(2, .int vs0), (0, .ref b), (1, .ref r)]) hx hb dX0_resolution_75 rfl hl (by decide) rfl (fun ls hl => ?_)
    refine lv_iload_n hx hb dX0_resolution_76 rfl (lv_at hl 0 rfl) ?_
    refine ro_SN [.int vs0] [] ⟨hx, hb, hml, hown, hts⟩ (c_X4_isGood l D cI cZ cB cR vs0) (va_cnB (host := "LinkPredictor") 1 hts (goodC mw_1_55) rfl rfl rfl (hEV.2 (.methodLinkNest RX0 61 yX4_isGood "LinkPredictor") (by decide +kernel)) (hts (.initialized RX4) (List.mem_cons_of_mem _ mw_1_1)) (by decide +kernel) ⟨Nat.le_of_ble_eq_true rfl, Nat.le_of_ble_eq_true rfl⟩) (hts (.static yX4_isGood) (List.mem_cons_of_mem _ mw_1_54)) hEV va_P0 rfl hl.1 rfl (Nat.le_of_ble_eq_true rfl) dX0_resolution_77 ⟨Nat.zero_le _, Nat.zero_le _⟩ ?_
    refine lv_if_eq (tgt := 95) hx hb dX0_resolution_80 (by decide) (fun c_80 => ?_) (fun c_80 => ?_)
    · have c_80 : ¬ ((gd vs0) = true) := b2i_f c_80
      have hE := (if_neg c_80).symm.trans hE
      refine lv_iload_n hx hb dX0_resolution_95 rfl (lv_at hl 0 rfl) ?_
      exact W.iret hx hb hr (fun t9 ht9 _ => ⟨⟨_, se, rfl, hE, by show va_P D vwCl _ t9.heap; rw [ht9]; exact hP⟩, hS.F ht9⟩) hS.2.2 dX0_resolution_96
    · have c_80 : (gd vs0) = true := b2i_t c_80
      have hE := (if_pos c_80).symm.trans hE
      refine lv_aload_n hx hb dX0_resolution_83 rfl (lv_at hl 1 rfl) ?_
      refine lv_aload_n hx hb dX0_resolution_84 rfl (lv_at hl 2 rfl) ?_
      have gh := hi_75_1
      have gw := hi_75_2
      have hm9 := (g16_sub hn30 (hi_75_0 c_80)).1
      refine lv_iload_n hx hb dX0_resolution_85 rfl (lv_at hl 0 rfl) ?_
      refine lv_bipush (v := (16 : Int32)) hx hb dX0_resolution_86 (by decide) ?_
      refine lv_isub hx hb dX0_resolution_88 ?_
      refine top_eq ((g16_sub hn30 (hi_75_0 c_80)).2) ?_
      refine ro_V [.ref r, .int (nI (sN vs0 - 16))] [] ⟨hx, hb, hml, hown, hts⟩ (c_X0_checkMember l D cI cZ cB cR b aH aM h τ g γ n se r φ (sN vs0 - 16) okh wf okm wm hφ (by omega) gh gw) (cwV (C := RX0) 2 hts (goodP (ps := [.methodLink RX0 85 yX0_checkMember, .instanceMethod yX0_checkMember, .selects RX0 yX0_checkMember yX0_checkMember, .initialized RX0]) (all4 mw_2_165 mw_2_167 ms_14 mw_1_2) mw_2_168) rfl rfl rfl (by decide +kernel) ⟨Nat.le_of_ble_eq_true rfl, Nat.le_of_ble_eq_true rfl⟩) hEV hP 0 rfl rfl rfl hl.1 rfl (Nat.le_of_ble_eq_true rfl) dX0_resolution_89 ⟨Nat.zero_le _, Nat.zero_le _⟩ ?_
      refine lv_goto (tgt := 96) hx hb dX0_resolution_92 (by decide) ?_
      exact W.iret hx hb hr (fun t9 ht9 _ => ⟨⟨_, se, rfl, hE, by show va_P D vwCl _ t9.heap; rw [ht9]; exact hP⟩, hS.F ht9⟩) hS.2.2 dX0_resolution_96
  refine lv_aload_n hx hb dX0_resolution_0 rfl (lv_at hl 0 rfl) ?_
  refine va_get (D := D) (ci := 0) (v := .ref (aH 0)) (C := RX0) (T := TX0) (N := 3) hx hb hts (fun w9 h9 => List.mem_cons_of_mem _ (inT_X0 w9 h9)) hown hK hP 0 rfl rfl 0 (by decide) (hts (.fieldLink RX0 12 "LinkPredictor$Build" "types" "LLinkPredictor$Hierarchy;") (List.mem_cons_of_mem _ mw_1_128)) (fun _ h9 => h9) rfl dX0_resolution_1 ?_
  refine lv_aload_n hx hb dX0_resolution_4 rfl (lv_at hl 1 rfl) ?_
  refine va_getN (D := D) (ci := 3) (v := .int (nI (φ 1))) (C := RX3) (T := TX3) (N := 4) (host := "LinkPredictor") hx hb hts (fun w9 h9 => List.mem_cons_of_mem _ (inT_X3 w9 h9)) hown hK hP 15 rfl rfl 1 (by decide) (va_Nw.use rfl (hEV.2 (.fieldLinkNest RX0 51 "LinkPredictor$Reference" "holder" "I" "LinkPredictor") (by decide +kernel))) (fun _ h9 => h9) rfl dX0_resolution_5 ?_
  refine ro_V [.int (nI (φ 1))] [] ⟨hx, hb, hml, hown, hts⟩ (c_X1_loading l D cI cZ cB cR aH h τ (φ 1) okh (by omega)) (cwV (C := RX1) 1 hts (goodP (ps := [.methodLink RX0 57 yX1_loading, .instanceMethod yX1_loading, .selects RX1 yX1_loading yX1_loading, .initialized RX1]) (all4 mw_2_77 mw_2_66 mw_2_67 mw_1_3) mw_2_68) rfl rfl rfl (by decide +kernel) ⟨Nat.le_of_ble_eq_true rfl, Nat.le_of_ble_eq_true rfl⟩) hEV (wBR_H hP) 0 rfl rfl rfl hl.1 rfl (Nat.le_of_ble_eq_true rfl) dX0_resolution_8 ⟨Nat.zero_le _, Nat.zero_le _⟩ ?_
  refine lv_istore_n (lv' := [(2, .int (LV τ (φ 1))), (0, .ref b), (1, .ref r)]) hx hb dX0_resolution_11 rfl hl (by decide) rfl (fun ls hl => ?_)
  refine lv_iload_n hx hb dX0_resolution_12 rfl (lv_at hl 0 rfl) ?_
  refine ro_SN [.int (LV τ (φ 1))] [] ⟨hx, hb, hml, hown, hts⟩ (c_X4_isGood l D cI cZ cB cR (LV τ (φ 1))) (va_cnB (host := "LinkPredictor") 1 hts (goodC mw_1_55) rfl rfl rfl (hEV.2 (.methodLinkNest RX0 61 yX4_isGood "LinkPredictor") (by decide +kernel)) (hts (.initialized RX4) (List.mem_cons_of_mem _ mw_1_1)) (by decide +kernel) ⟨Nat.le_of_ble_eq_true rfl, Nat.le_of_ble_eq_true rfl⟩) (hts (.static yX4_isGood) (List.mem_cons_of_mem _ mw_1_54)) hEV va_P0 rfl hl.1 rfl (Nat.le_of_ble_eq_true rfl) dX0_resolution_13 ⟨Nat.zero_le _, Nat.zero_le _⟩ ?_
  refine lv_if_ne (tgt := 21) hx hb dX0_resolution_16 (by decide) (fun c_16 => ?_) (fun c_16 => ?_)
  · have c_16 : (gd (LV τ (φ 1))) = true := b2i_t c_16
    have hE := (if_pos c_16).symm.trans hE
    have gh := gdB_iff.mp ((gd_LV wf hf1).symm.trans c_16)
    refine lv_aload_n hx hb dX0_resolution_21 rfl (lv_at hl 1 rfl) ?_
    refine va_get (D := D) (ci := 0) (v := .ref (aH 0)) (C := RX0) (T := TX0) (N := 3) hx hb hts (fun w9 h9 => List.mem_cons_of_mem _ (inT_X0 w9 h9)) hown hK hP 0 rfl rfl 0 (by decide) (hts (.fieldLink RX0 12 "LinkPredictor$Build" "types" "LLinkPredictor$Hierarchy;") (List.mem_cons_of_mem _ mw_1_128)) (fun _ h9 => h9) rfl dX0_resolution_22 ?_
    refine lv_aload_n hx hb dX0_resolution_25 rfl (lv_at hl 2 rfl) ?_
    refine va_getN (D := D) (ci := 3) (v := .int (nI (φ 2))) (C := RX3) (T := TX3) (N := 4) (host := "LinkPredictor") hx hb hts (fun w9 h9 => List.mem_cons_of_mem _ (inT_X3 w9 h9)) hown hK hP 15 rfl rfl 2 (by decide) (va_Nw.use rfl (hEV.2 (.fieldLinkNest RX0 64 "LinkPredictor$Reference" "way" "I" "LinkPredictor") (by decide +kernel))) (fun _ h9 => h9) rfl dX0_resolution_26 ?_
    refine lv_aload_n hx hb dX0_resolution_29 rfl (lv_at hl 2 rfl) ?_
    refine va_getN (D := D) (ci := 3) (v := .int (nI (φ 1))) (C := RX3) (T := TX3) (N := 4) (host := "LinkPredictor") hx hb hts (fun w9 h9 => List.mem_cons_of_mem _ (inT_X3 w9 h9)) hown hK hP 15 rfl rfl 1 (by decide) (va_Nw.use rfl (hEV.2 (.fieldLinkNest RX0 51 "LinkPredictor$Reference" "holder" "I" "LinkPredictor") (by decide +kernel))) (fun _ h9 => h9) rfl dX0_resolution_30 ?_
    refine ro_V [.int (nI (φ 2)), .int (nI (φ 1))] [] ⟨hx, hb, hml, hown, hts⟩ (c_X1_reaching l D cI cZ cB cR aH h τ (φ 2) (φ 1) okh (by omega) (by omega)) (cwV (C := RX1) 2 hts (goodP (ps := [.methodLink RX0 67 yX1_reaching, .instanceMethod yX1_reaching, .selects RX1 yX1_reaching yX1_reaching, .initialized RX1]) (all4 mw_2_79 mw_2_80 mw_2_81 mw_1_3) mw_2_82) rfl rfl rfl (by decide +kernel) ⟨Nat.le_of_ble_eq_true rfl, Nat.le_of_ble_eq_true rfl⟩) hEV (wBR_H hP) 0 rfl rfl rfl hl.1 rfl (Nat.le_of_ble_eq_true rfl) dX0_resolution_33 ⟨Nat.zero_le _, Nat.zero_le _⟩ ?_
    refine lv_istore_n (lv' := [(2, .int (rcI τ (φ 2) (φ 1))), (0, .ref b), (1, .ref r)]) hx hb dX0_resolution_36 rfl hl (by decide) rfl (fun ls hl => ?_)
    refine lv_iload_n hx hb dX0_resolution_37 rfl (lv_at hl 0 rfl) ?_
    refine ro_SN [.int (rcI τ (φ 2) (φ 1))] [] ⟨hx, hb, hml, hown, hts⟩ (c_X4_isGood l D cI cZ cB cR (rcI τ (φ 2) (φ 1))) (va_cnB (host := "LinkPredictor") 1 hts (goodC mw_1_55) rfl rfl rfl (hEV.2 (.methodLinkNest RX0 61 yX4_isGood "LinkPredictor") (by decide +kernel)) (hts (.initialized RX4) (List.mem_cons_of_mem _ mw_1_1)) (by decide +kernel) ⟨Nat.le_of_ble_eq_true rfl, Nat.le_of_ble_eq_true rfl⟩) (hts (.static yX4_isGood) (List.mem_cons_of_mem _ mw_1_54)) hEV va_P0 rfl hl.1 rfl (Nat.le_of_ble_eq_true rfl) dX0_resolution_38 ⟨Nat.zero_le _, Nat.zero_le _⟩ ?_
    refine lv_if_eq (tgt := 53) hx hb dX0_resolution_41 (by decide) (fun c_41 => ?_) (fun c_41 => ?_)
    · have c_41 : ¬ ((gd (rcI τ (φ 2) (φ 1))) = true) := b2i_f c_41
      have hE := (if_neg c_41).symm.trans hE
      refine lv_iload_n hx hb dX0_resolution_53 rfl (lv_at hl 0 rfl) ?_
      exact W.iret hx hb hr (fun t9 ht9 _ => ⟨⟨_, se, rfl, hE, by show va_P D vwCl _ t9.heap; rw [ht9]; exact hP⟩, hS.F ht9⟩) hS.2.2 dX0_resolution_54
    · have c_41 : (gd (rcI τ (φ 2) (φ 1))) = true := b2i_t c_41
      have hE := (if_pos c_41).symm.trans hE
      refine lv_aload_n hx hb dX0_resolution_44 rfl (lv_at hl 2 rfl) ?_
      refine va_getN (D := D) (ci := 3) (v := .int (nI (φ 0))) (C := RX3) (T := TX3) (N := 4) (host := "LinkPredictor") hx hb hts (fun w9 h9 => List.mem_cons_of_mem _ (inT_X3 w9 h9)) hown hK hP 15 rfl rfl 0 (by decide) (va_Nw.use rfl (hEV.2 (.fieldLinkNest RX0 71 "LinkPredictor$Reference" "kind" "I" "LinkPredictor") (by decide +kernel))) (fun _ h9 => h9) rfl dX0_resolution_45 ?_
      refine lv_bipush (v := (8 : Int32)) hx hb dX0_resolution_48 (by decide) ?_
      refine lv_icmp_ne (tgt := 55) hx hb dX0_resolution_50 (by decide) (fun c_50 => ?_) (fun c_50 => ?_)
      · have c_50 : ¬ ((φ 0) = 8) := fun q9 => c_50 ((nI_eq (a := (φ 0)) (b := 8) (by omega) (by omega)).mpr q9)
        have hE := (if_neg c_50).symm.trans hE
        have gw := gdB_iff.mp ((gd_LV wf hf2).symm.trans (rcI_gd c_41))
        refine lv_aload_n hx hb dX0_resolution_55 rfl (lv_at hl 2 rfl) ?_
        refine ro_V [] [] ⟨hx, hb, hml, hown, hts⟩ (c_X3_isOfField l D cI cZ cB cR r φ hφ) (cwV (C := RX3) 0 hts (goodP (ps := [.methodLink RX0 74 yX3_isOfField, .instanceMethod yX3_isOfField, .selects RX3 yX3_isOfField yX3_isOfField, .initialized RX3]) (all4 mw_2_87 mw_2_88 mw_2_89 mw_1_5) mw_2_90) rfl rfl rfl (by decide +kernel) ⟨Nat.le_of_ble_eq_true rfl, Nat.le_of_ble_eq_true rfl⟩) hEV (wBR_R hP) 0 rfl rfl rfl hl.1 rfl (Nat.le_of_ble_eq_true rfl) dX0_resolution_56 ⟨Nat.zero_le _, Nat.zero_le _⟩ ?_
        refine lv_if_eq (tgt := 70) hx hb dX0_resolution_59 (by decide) (fun c_59 => ?_) (fun c_59 => ?_)
        · have c_59 : ¬ ((decide (φ 0 ≤ 3)) = true) := b2i_f c_59
          have hE := (if_neg c_59).symm.trans hE
          refine lv_aload_n hx hb dX0_resolution_70 rfl (lv_at hl 1 rfl) ?_
          refine lv_aload_n hx hb dX0_resolution_71 rfl (lv_at hl 2 rfl) ?_
          refine ro_V [.ref r] [] ⟨hx, hb, hml, hown, hts⟩ (c_X0_lookUpMethod l D cI cZ cB cR b aH aM h τ g γ n se r φ  okh wf okm wm hφ ) (cwV (C := RX0) 1 hts (goodP (ps := [.methodLink RX0 82 yX0_lookUpMethod, .instanceMethod yX0_lookUpMethod, .selects RX0 yX0_lookUpMethod yX0_lookUpMethod, .initialized RX0]) (all4 mw_2_109 mw_2_111 ms_8 mw_1_2) mw_2_112) rfl rfl rfl (by decide +kernel) ⟨Nat.le_of_ble_eq_true rfl, Nat.le_of_ble_eq_true rfl⟩) hEV hP 0 rfl rfl rfl hl.1 rfl (Nat.le_of_ble_eq_true rfl) dX0_resolution_72 ⟨Nat.zero_le _, Nat.zero_le _⟩ ?_
          exact key_75 (p_X0_lookUpMethod h τ g γ n φ ) ls _ _ _ hP hD hS (by first | exact gh | exact gw | exact lum_g16 h τ g γ n hn30 φ hφ | exact luf_g16 h τ g γ n φ hφ) (by first | exact gh | exact gw | exact lum_g16 h τ g γ n hn30 φ hφ | exact luf_g16 h τ g γ n φ hφ) (by first | exact gh | exact gw | exact lum_g16 h τ g γ n hn30 φ hφ | exact luf_g16 h τ g γ n φ hφ) (lv_sub hl [1, 2] rfl) hE
        · have c_59 : (decide (φ 0 ≤ 3)) = true := b2i_t c_59
          have hE := (if_pos c_59).symm.trans hE
          refine lv_aload_n hx hb dX0_resolution_62 rfl (lv_at hl 1 rfl) ?_
          refine lv_aload_n hx hb dX0_resolution_63 rfl (lv_at hl 2 rfl) ?_
          refine mu_V [.ref r] [] ⟨hx, hb, hml, hown, hts⟩ (c_X0_lookUpField l D cI cZ cB cR b aH aM h τ g γ n se r φ  okh wf okm wm hφ gw) (cwV (C := RX0) 1 hts (goodP (ps := [.methodLink RX0 78 yX0_lookUpField, .instanceMethod yX0_lookUpField, .selects RX0 yX0_lookUpField yX0_lookUpField, .initialized RX0]) (all4 mw_2_91 mw_2_93 ms_6 mw_1_2) mw_2_94) rfl rfl rfl (by decide +kernel) ⟨Nat.le_of_ble_eq_true rfl, Nat.le_of_ble_eq_true rfl⟩) hEV hP hD hS hA 0 rfl rfl rfl hl.1 rfl (Nat.le_of_ble_eq_true rfl) dX0_resolution_64 ⟨Nat.zero_le _, Nat.zero_le _⟩ (fun r9 se H1 locs hw hP1 hk1 hS => ?_)
          subst hw
          have hP : va_P D vwCl (wBR cI b aH aM h g se r φ) H1 := hP1
          have hD : va_D A (wBR cI b aH aM h g se r φ) := hD.adr rfl
          generalize H1 = H at hP hS ⊢
          refine lv_goto (tgt := 75) hx hb dX0_resolution_67 (by decide) ?_
          exact key_75 (p_X0_lookUpField h τ g γ n φ ) ls _ _ _ hP hD hS (by first | exact gh | exact gw | exact lum_g16 h τ g γ n hn30 φ hφ | exact luf_g16 h τ g γ n φ hφ) (by first | exact gh | exact gw | exact lum_g16 h τ g γ n hn30 φ hφ | exact luf_g16 h τ g γ n φ hφ) (by first | exact gh | exact gw | exact lum_g16 h τ g γ n hn30 φ hφ | exact luf_g16 h τ g γ n φ hφ) (lv_sub hl [1, 2] rfl) hE
      · have c_50 : (φ 0) = 8 := (nI_eq (a := (φ 0)) (b := 8) (by omega) (by omega)).mp c_50
        have hE := (if_pos c_50).symm.trans hE
        refine lv_iload_n hx hb dX0_resolution_53 rfl (lv_at hl 0 rfl) ?_
        exact W.iret hx hb hr (fun t9 ht9 _ => ⟨⟨_, se, rfl, hE, by show va_P D vwCl _ t9.heap; rw [ht9]; exact hP⟩, hS.F ht9⟩) hS.2.2 dX0_resolution_54
  · have c_16 : ¬ ((gd (LV τ (φ 1))) = true) := b2i_f c_16
    have hE := (if_neg c_16).symm.trans hE
    refine lv_iload_n hx hb dX0_resolution_19 rfl (lv_at hl 0 rfl) ?_
    exact W.iret hx hb hr (fun t9 ht9 _ => ⟨⟨_, se, rfl, hE, by show va_P D vwCl _ t9.heap; rw [ht9]; exact hP⟩, hS.F ht9⟩) hS.2.2 dX0_resolution_20
