def WFM (γ : Nat → Nat → Int32) (n : Nat) : Prop := ∀ m, m < n → isT (γ 0 m)
/-- the masks of the numbers that f gives where p holds -/
def orF (p : Nat → Bool) (f : Nat → Nat) : Nat → Int32
  | 0 => 0
  | n + 1 => orF p f n ||| (if p n = true then bm (f n) else 0)
theorem or_0 (x : Int32) : x ||| 0 = x := b_ext (fun i _ => by rw [b_or, b_0, Bool.or_false])
theorem orF_t {p : Nat → Bool} {f : Nat → Nat} {n : Nat} (h : p n = true) : orF p f (n + 1) = orF p f n ||| bm (f n) := by rw [orF, if_pos h]
theorem orF_f {p : Nat → Bool} {f : Nat → Nat} {n : Nat} (h : ¬ p n = true) : orF p f (n + 1) = orF p f n := by rw [orF, if_neg h, or_0]
theorem orF_bt (p : Nat → Bool) (f : Nat → Nat) {t : Nat} (ht : t < 32) : ∀ n, (∀ m, m < n → f m < 32) → (bt (orF p f n) t = true ↔ ∃ m, m < n ∧ p m = true ∧ f m = t)
  | 0, _ => by simp [orF, b_0]
  | n + 1, hf => by
    have ih := orF_bt p f ht n (fun m hm => hf m (by omega))
    have hn := hf n (by omega)
    by_cases q : p n = true
    · rw [orF_t q, b_or, b_bm hn ht, Bool.or_eq_true, ih]
      constructor
      · rintro (⟨m, h1, h2⟩ | h)
        · exact ⟨m, by omega, h2⟩
        · exact ⟨n, by omega, q, by simpa using (of_decide_eq_true h).symm⟩
      · rintro ⟨m, h1, h2, h3⟩
        rcases Nat.lt_or_ge m n with z | z
        · exact Or.inl ⟨m, z, h2, h3⟩
        · have e : m = n := by omega
          subst e
          exact Or.inr (by rw [h3]; simp)
    · rw [orF_f q, ih]
      constructor
      · rintro ⟨m, h1, h2⟩; exact ⟨m, by omega, h2⟩
      · rintro ⟨m, h1, h2, h3⟩
        rcases Nat.lt_or_ge m n with z | z
        · exact ⟨m, z, h2, h3⟩
        · have e : m = n := by omega
          subst e
          exact absurd h2 q
/-- how many numbers below n have p -/
def cnF (p : Nat → Bool) : Nat → Nat
  | 0 => 0
  | n + 1 => cnF p n + (if p n = true then 1 else 0)
theorem cnF_t {p : Nat → Bool} {n : Nat} (h : p n = true) : cnF p (n + 1) = cnF p n + 1 := by rw [cnF, if_pos h]
theorem cnF_f {p : Nat → Bool} {n : Nat} (h : ¬ p n = true) : cnF p (n + 1) = cnF p n := by rw [cnF, if_neg h]; rfl
theorem cnF_le (p : Nat → Bool) : ∀ n, cnF p n ≤ n
  | 0 => Nat.le_refl 0
  | n + 1 => by have := cnF_le p n; unfold cnF; split <;> omega
theorem cnF_cong {p q : Nat → Bool} : ∀ {n : Nat}, (∀ j, j < n → p j = q j) → cnF p n = cnF q n
  | 0, _ => rfl
  | n + 1, h => by unfold cnF; rw [cnF_cong (n := n) (fun j hj => h j (by omega)), h n (by omega)]
def p_X2_isStatic (g : Nat → Nat → Int32) (γ : Nat → Nat → Int32) (n : Nat) (x : Nat) : Int32 := if ((g 3 x) &&& (1 : Int32)) = (0 : Int32) then ((0 : Int32)) else ((1 : Int32))
theorem pe_X2_isStatic (g : Nat → Nat → Int32) (γ : Nat → Nat → Int32) (n : Nat) (x : Nat) (ok : OKM g γ n) (hnx : x < n) : p_X2_isStatic g γ n x = b2i (bt (γ 3 x) 0) := by rw [p_X2_isStatic, ok.mk hnx]; exact ite_b2i and1_eq
set_option maxHeartbeats 4000000 in
set_option maxRecDepth 100000 in
theorem c_X2_isStatic (l : Launch) (D : va_G) (cI cZ cB cR : ClassId) (a : Nat → Nat) (g : Nat → Nat → Int32) (γ : Nat → Nat → Int32) (n : Nat) (x : Nat) (ok : OKM g γ n) (hnx : x < n) : RO l yX2_isStatic wsX2_isStatic ({ frames := 0, cells := 0, slots := 0, locals := 0 } : Room) D cI cZ cB cR (wM cI a g) [.ref (a 0), .int (nI x)] (b2i (bt (γ 3 x) 0)) := by
  have hE : p_X2_isStatic g γ n x = b2i (bt (γ 3 x) 0) := pe_X2_isStatic g γ n x ok hnx
  refine Met.ofW (cc := cX2_isStatic) (maxL := 2) (ret := (some .boolean)) (by decide) rfl ?_
  intro p e s m args below meth c s₁ B hml hv
  obtain ⟨hargs, hP, hEV⟩ := hv
  have hx := B.exec
  have hb := B.bytes
  have hr := B.returns
  have hts := atoms_spec (ws := wsX2_isStatic) B.pre
  have hown : s.vm.findClass RX2 = some m.cls := findClass_of_methodNamed B.named
  have hlocks := B.notSynchronized
  have hK := hEV.1
  have hl := lv_entry ([.ref (a 0), .int (nI x)]) (n := 2) (Nat.le_of_ble_eq_true rfl)
  rw [show entryFrame m args 2 = entryFrame m ([.ref (a 0), .int (nI x)] : List Value).toArray 2 from by rw [hargs], lg_entry_eq]
  generalize (lg_sl ([.ref (a 0), .int (nI x)]) ++ List.replicate (2 - (lg_sl ([.ref (a 0), .int (nI x)])).length) Slot.unset).toArray = ls at hl ⊢
  have hl : lv_has ls 2 [(0, .ref (a 0)), (1, .int (nI x))] := hl
  rw [p_X2_isStatic] at hE
  have hn30 := ok.2.1
  refine lv_aload_n hx hb dX2_isStatic_0 rfl (lv_at hl 0 rfl) ?_
  refine va_get (D := D) (ci := 2) (v := .ref (a 4)) (C := RX2) (T := TX2) (N := 6) hx hb hts (fun w9 h9 => List.mem_cons_of_mem _ (inT_X2 w9 h9)) hown hK hP 0 rfl rfl 5 (by decide) (hts (.fieldLink RX2 21 "LinkPredictor$Members" "flags" "[I") (List.mem_cons_of_mem _ mw_1_114)) (fun _ h9 => h9) rfl dX2_isStatic_1 ?_
  refine lv_iload_n hx hb dX2_isStatic_4 rfl (lv_at hl 1 rfl) ?_
  refine ro_ald hx hb hEV hP 4 (j := x) rfl (by omega) (by decide) dX2_isStatic_5 ?_
  refine lv_iconst (v := (1 : Int32)) hx hb dX2_isStatic_6 (by decide) ?_
  refine lv_iand hx hb dX2_isStatic_7 ?_
  refine lv_if_eq (tgt := 15) hx hb dX2_isStatic_8 (by decide) (fun c_8 => ?_) (fun c_8 => ?_)
  · skip
    have hE := (if_pos c_8).symm.trans hE
    refine lv_iconst (v := (0 : Int32)) hx hb dX2_isStatic_15 (by decide) ?_
    exact W.zret hx hb hr rfl (fun t9 ht9 _ => ⟨_, rfl, hE, ht9⟩) (fun _ h9 => by cases h9) dX2_isStatic_16
  · skip
    have hE := (if_neg c_8).symm.trans hE
    refine lv_iconst (v := (1 : Int32)) hx hb dX2_isStatic_11 (by decide) ?_
    refine lv_goto (tgt := 16) hx hb dX2_isStatic_12 (by decide) ?_
    exact W.zret hx hb hr rfl (fun t9 ht9 _ => ⟨_, rfl, hE, ht9⟩) (fun _ h9 => by cases h9) dX2_isStatic_16
def p_X2_isAbstract (g : Nat → Nat → Int32) (γ : Nat → Nat → Int32) (n : Nat) (x : Nat) : Int32 := if ((g 3 x) &&& (2 : Int32)) = (0 : Int32) then ((0 : Int32)) else ((1 : Int32))
theorem pe_X2_isAbstract (g : Nat → Nat → Int32) (γ : Nat → Nat → Int32) (n : Nat) (x : Nat) (ok : OKM g γ n) (hnx : x < n) : p_X2_isAbstract g γ n x = b2i (bt (γ 3 x) 1) := by rw [p_X2_isAbstract, ok.mk hnx]; exact ite_b2i and2_eq
set_option maxHeartbeats 4000000 in
set_option maxRecDepth 100000 in
theorem c_X2_isAbstract (l : Launch) (D : va_G) (cI cZ cB cR : ClassId) (a : Nat → Nat) (g : Nat → Nat → Int32) (γ : Nat → Nat → Int32) (n : Nat) (x : Nat) (ok : OKM g γ n) (hnx : x < n) : RO l yX2_isAbstract wsX2_isAbstract ({ frames := 0, cells := 0, slots := 0, locals := 0 } : Room) D cI cZ cB cR (wM cI a g) [.ref (a 0), .int (nI x)] (b2i (bt (γ 3 x) 1)) := by
  have hE : p_X2_isAbstract g γ n x = b2i (bt (γ 3 x) 1) := pe_X2_isAbstract g γ n x ok hnx
  refine Met.ofW (cc := cX2_isAbstract) (maxL := 2) (ret := (some .boolean)) (by decide) rfl ?_
  intro p e s m args below meth c s₁ B hml hv
  obtain ⟨hargs, hP, hEV⟩ := hv
  have hx := B.exec
  have hb := B.bytes
  have hr := B.returns
  have hts := atoms_spec (ws := wsX2_isAbstract) B.pre
  have hown : s.vm.findClass RX2 = some m.cls := findClass_of_methodNamed B.named
  have hlocks := B.notSynchronized
  have hK := hEV.1
  have hl := lv_entry ([.ref (a 0), .int (nI x)]) (n := 2) (Nat.le_of_ble_eq_true rfl)
  rw [show entryFrame m args 2 = entryFrame m ([.ref (a 0), .int (nI x)] : List Value).toArray 2 from by rw [hargs], lg_entry_eq]
  generalize (lg_sl ([.ref (a 0), .int (nI x)]) ++ List.replicate (2 - (lg_sl ([.ref (a 0), .int (nI x)])).length) Slot.unset).toArray = ls at hl ⊢
  have hl : lv_has ls 2 [(0, .ref (a 0)), (1, .int (nI x))] := hl
  rw [p_X2_isAbstract] at hE
  have hn30 := ok.2.1
  refine lv_aload_n hx hb dX2_isAbstract_0 rfl (lv_at hl 0 rfl) ?_
  refine va_get (D := D) (ci := 2) (v := .ref (a 4)) (C := RX2) (T := TX2) (N := 6) hx hb hts (fun w9 h9 => List.mem_cons_of_mem _ (inT_X2 w9 h9)) hown hK hP 0 rfl rfl 5 (by decide) (hts (.fieldLink RX2 21 "LinkPredictor$Members" "flags" "[I") (List.mem_cons_of_mem _ mw_1_114)) (fun _ h9 => h9) rfl dX2_isAbstract_1 ?_
  refine lv_iload_n hx hb dX2_isAbstract_4 rfl (lv_at hl 1 rfl) ?_
  refine ro_ald hx hb hEV hP 4 (j := x) rfl (by omega) (by decide) dX2_isAbstract_5 ?_
  refine lv_iconst (v := (2 : Int32)) hx hb dX2_isAbstract_6 (by decide) ?_
  refine lv_iand hx hb dX2_isAbstract_7 ?_
  refine lv_if_eq (tgt := 15) hx hb dX2_isAbstract_8 (by decide) (fun c_8 => ?_) (fun c_8 => ?_)
  · skip
    have hE := (if_pos c_8).symm.trans hE
    refine lv_iconst (v := (0 : Int32)) hx hb dX2_isAbstract_15 (by decide) ?_
    exact W.zret hx hb hr rfl (fun t9 ht9 _ => ⟨_, rfl, hE, ht9⟩) (fun _ h9 => by cases h9) dX2_isAbstract_16
  · skip
    have hE := (if_neg c_8).symm.trans hE
    refine lv_iconst (v := (1 : Int32)) hx hb dX2_isAbstract_11 (by decide) ?_
    refine lv_goto (tgt := 16) hx hb dX2_isAbstract_12 (by decide) ?_
    exact W.zret hx hb hr rfl (fun t9 ht9 _ => ⟨_, rfl, hE, ht9⟩) (fun _ h9 => by cases h9) dX2_isAbstract_16
def p_X2_isFinal (g : Nat → Nat → Int32) (γ : Nat → Nat → Int32) (n : Nat) (x : Nat) : Int32 := if ((g 3 x) &&& (4 : Int32)) = (0 : Int32) then ((0 : Int32)) else ((1 : Int32))
theorem pe_X2_isFinal (g : Nat → Nat → Int32) (γ : Nat → Nat → Int32) (n : Nat) (x : Nat) (ok : OKM g γ n) (hnx : x < n) : p_X2_isFinal g γ n x = b2i (bt (γ 3 x) 2) := by rw [p_X2_isFinal, ok.mk hnx]; exact ite_b2i and4_eq
set_option maxHeartbeats 4000000 in
set_option maxRecDepth 100000 in
theorem c_X2_isFinal (l : Launch) (D : va_G) (cI cZ cB cR : ClassId) (a : Nat → Nat) (g : Nat → Nat → Int32) (γ : Nat → Nat → Int32) (n : Nat) (x : Nat) (ok : OKM g γ n) (hnx : x < n) : RO l yX2_isFinal wsX2_isFinal ({ frames := 0, cells := 0, slots := 0, locals := 0 } : Room) D cI cZ cB cR (wM cI a g) [.ref (a 0), .int (nI x)] (b2i (bt (γ 3 x) 2)) := by
  have hE : p_X2_isFinal g γ n x = b2i (bt (γ 3 x) 2) := pe_X2_isFinal g γ n x ok hnx
  refine Met.ofW (cc := cX2_isFinal) (maxL := 2) (ret := (some .boolean)) (by decide) rfl ?_
  intro p e s m args below meth c s₁ B hml hv
  obtain ⟨hargs, hP, hEV⟩ := hv
  have hx := B.exec
  have hb := B.bytes
  have hr := B.returns
  have hts := atoms_spec (ws := wsX2_isFinal) B.pre
  have hown : s.vm.findClass RX2 = some m.cls := findClass_of_methodNamed B.named
  have hlocks := B.notSynchronized
  have hK := hEV.1
  have hl := lv_entry ([.ref (a 0), .int (nI x)]) (n := 2) (Nat.le_of_ble_eq_true rfl)
  rw [show entryFrame m args 2 = entryFrame m ([.ref (a 0), .int (nI x)] : List Value).toArray 2 from by rw [hargs], lg_entry_eq]
  generalize (lg_sl ([.ref (a 0), .int (nI x)]) ++ List.replicate (2 - (lg_sl ([.ref (a 0), .int (nI x)])).length) Slot.unset).toArray = ls at hl ⊢
  have hl : lv_has ls 2 [(0, .ref (a 0)), (1, .int (nI x))] := hl
  rw [p_X2_isFinal] at hE
  have hn30 := ok.2.1
  refine lv_aload_n hx hb dX2_isFinal_0 rfl (lv_at hl 0 rfl) ?_
  refine va_get (D := D) (ci := 2) (v := .ref (a 4)) (C := RX2) (T := TX2) (N := 6) hx hb hts (fun w9 h9 => List.mem_cons_of_mem _ (inT_X2 w9 h9)) hown hK hP 0 rfl rfl 5 (by decide) (hts (.fieldLink RX2 21 "LinkPredictor$Members" "flags" "[I") (List.mem_cons_of_mem _ mw_1_114)) (fun _ h9 => h9) rfl dX2_isFinal_1 ?_
  refine lv_iload_n hx hb dX2_isFinal_4 rfl (lv_at hl 1 rfl) ?_
  refine ro_ald hx hb hEV hP 4 (j := x) rfl (by omega) (by decide) dX2_isFinal_5 ?_
  refine lv_iconst (v := (4 : Int32)) hx hb dX2_isFinal_6 (by decide) ?_
  refine lv_iand hx hb dX2_isFinal_7 ?_
  refine lv_if_eq (tgt := 15) hx hb dX2_isFinal_8 (by decide) (fun c_8 => ?_) (fun c_8 => ?_)
  · skip
    have hE := (if_pos c_8).symm.trans hE
    refine lv_iconst (v := (0 : Int32)) hx hb dX2_isFinal_15 (by decide) ?_
    exact W.zret hx hb hr rfl (fun t9 ht9 _ => ⟨_, rfl, hE, ht9⟩) (fun _ h9 => by cases h9) dX2_isFinal_16
  · skip
    have hE := (if_neg c_8).symm.trans hE
    refine lv_iconst (v := (1 : Int32)) hx hb dX2_isFinal_11 (by decide) ?_
    refine lv_goto (tgt := 16) hx hb dX2_isFinal_12 (by decide) ?_
    exact W.zret hx hb hr rfl (fun t9 ht9 _ => ⟨_, rfl, hE, ht9⟩) (fun _ h9 => by cases h9) dX2_isFinal_16
def p_X2_ownerOf (g : Nat → Nat → Int32) (γ : Nat → Nat → Int32) (n : Nat) (x : Nat) : Int32 := g 0 x
theorem pe_X2_ownerOf (g : Nat → Nat → Int32) (γ : Nat → Nat → Int32) (n : Nat) (x : Nat) (ok : OKM g γ n) (hnx : x < n) : p_X2_ownerOf g γ n x = γ 0 x := ok.ow hnx
set_option maxHeartbeats 4000000 in
set_option maxRecDepth 100000 in
theorem c_X2_ownerOf (l : Launch) (D : va_G) (cI cZ cB cR : ClassId) (a : Nat → Nat) (g : Nat → Nat → Int32) (γ : Nat → Nat → Int32) (n : Nat) (x : Nat) (ok : OKM g γ n) (hnx : x < n) : RO l yX2_ownerOf wsX2_ownerOf ({ frames := 0, cells := 0, slots := 0, locals := 0 } : Room) D cI cZ cB cR (wM cI a g) [.ref (a 0), .int (nI x)] (γ 0 x) := by
  have hE : p_X2_ownerOf g γ n x = γ 0 x := pe_X2_ownerOf g γ n x ok hnx
  refine Met.ofW (cc := cX2_ownerOf) (maxL := 2) (ret := (some .int)) (by decide) rfl ?_
  intro p e s m args below meth c s₁ B hml hv
  obtain ⟨hargs, hP, hEV⟩ := hv
  have hx := B.exec
  have hb := B.bytes
  have hr := B.returns
  have hts := atoms_spec (ws := wsX2_ownerOf) B.pre
  have hown : s.vm.findClass RX2 = some m.cls := findClass_of_methodNamed B.named
  have hlocks := B.notSynchronized
  have hK := hEV.1
  have hl := lv_entry ([.ref (a 0), .int (nI x)]) (n := 2) (Nat.le_of_ble_eq_true rfl)
  rw [show entryFrame m args 2 = entryFrame m ([.ref (a 0), .int (nI x)] : List Value).toArray 2 from by rw [hargs], lg_entry_eq]
  generalize (lg_sl ([.ref (a 0), .int (nI x)]) ++ List.replicate (2 - (lg_sl ([.ref (a 0), .int (nI x)])).length) Slot.unset).toArray = ls at hl ⊢
  have hl : lv_has ls 2 [(0, .ref (a 0)), (1, .int (nI x))] := hl
  rw [p_X2_ownerOf] at hE
  have hn30 := ok.2.1
  refine lv_aload_n hx hb dX2_ownerOf_0 rfl (lv_at hl 0 rfl) ?_
  refine va_get (D := D) (ci := 2) (v := .ref (a 1)) (C := RX2) (T := TX2) (N := 6) hx hb hts (fun w9 h9 => List.mem_cons_of_mem _ (inT_X2 w9 h9)) hown hK hP 0 rfl rfl 2 (by decide) (hts (.fieldLink RX2 9 "LinkPredictor$Members" "owners" "[I") (List.mem_cons_of_mem _ mw_1_111)) (fun _ h9 => h9) rfl dX2_ownerOf_1 ?_
  refine lv_iload_n hx hb dX2_ownerOf_4 rfl (lv_at hl 1 rfl) ?_
  refine ro_ald hx hb hEV hP 1 (j := x) rfl (by omega) (by decide) dX2_ownerOf_5 ?_
  exact W.iret hx hb hr (fun t9 ht9 _ => ⟨_, rfl, hE, ht9⟩) (fun _ h9 => by cases h9) dX2_ownerOf_6
def p_X2_accessOf (g : Nat → Nat → Int32) (γ : Nat → Nat → Int32) (n : Nat) (x : Nat) : Int32 := g 2 x
theorem pe_X2_accessOf (g : Nat → Nat → Int32) (γ : Nat → Nat → Int32) (n : Nat) (x : Nat) (ok : OKM g γ n) (hnx : x < n) : p_X2_accessOf g γ n x = γ 2 x := ok.ac hnx
set_option maxHeartbeats 4000000 in
set_option maxRecDepth 100000 in
theorem c_X2_accessOf (l : Launch) (D : va_G) (cI cZ cB cR : ClassId) (a : Nat → Nat) (g : Nat → Nat → Int32) (γ : Nat → Nat → Int32) (n : Nat) (x : Nat) (ok : OKM g γ n) (hnx : x < n) : RO l yX2_accessOf wsX2_accessOf ({ frames := 0, cells := 0, slots := 0, locals := 0 } : Room) D cI cZ cB cR (wM cI a g) [.ref (a 0), .int (nI x)] (γ 2 x) := by
  have hE : p_X2_accessOf g γ n x = γ 2 x := pe_X2_accessOf g γ n x ok hnx
  refine Met.ofW (cc := cX2_accessOf) (maxL := 2) (ret := (some .int)) (by decide) rfl ?_
  intro p e s m args below meth c s₁ B hml hv
  obtain ⟨hargs, hP, hEV⟩ := hv
  have hx := B.exec
  have hb := B.bytes
  have hr := B.returns
  have hts := atoms_spec (ws := wsX2_accessOf) B.pre
  have hown : s.vm.findClass RX2 = some m.cls := findClass_of_methodNamed B.named
  have hlocks := B.notSynchronized
  have hK := hEV.1
  have hl := lv_entry ([.ref (a 0), .int (nI x)]) (n := 2) (Nat.le_of_ble_eq_true rfl)
  rw [show entryFrame m args 2 = entryFrame m ([.ref (a 0), .int (nI x)] : List Value).toArray 2 from by rw [hargs], lg_entry_eq]
  generalize (lg_sl ([.ref (a 0), .int (nI x)]) ++ List.replicate (2 - (lg_sl ([.ref (a 0), .int (nI x)])).length) Slot.unset).toArray = ls at hl ⊢
  have hl : lv_has ls 2 [(0, .ref (a 0)), (1, .int (nI x))] := hl
  rw [p_X2_accessOf] at hE
  have hn30 := ok.2.1
  refine lv_aload_n hx hb dX2_accessOf_0 rfl (lv_at hl 0 rfl) ?_
  refine va_get (D := D) (ci := 2) (v := .ref (a 3)) (C := RX2) (T := TX2) (N := 6) hx hb hts (fun w9 h9 => List.mem_cons_of_mem _ (inT_X2 w9 h9)) hown hK hP 0 rfl rfl 4 (by decide) (hts (.fieldLink RX2 18 "LinkPredictor$Members" "accesses" "[I") (List.mem_cons_of_mem _ mw_1_113)) (fun _ h9 => h9) rfl dX2_accessOf_1 ?_
  refine lv_iload_n hx hb dX2_accessOf_4 rfl (lv_at hl 1 rfl) ?_
  refine ro_ald hx hb hEV hP 3 (j := x) rfl (by omega) (by decide) dX2_accessOf_5 ?_
  exact W.iret hx hb hr (fun t9 ht9 _ => ⟨_, rfl, hE, ht9⟩) (fun _ h9 => by cases h9) dX2_accessOf_6
def p_X2_countAll (g : Nat → Nat → Int32) (γ : Nat → Nat → Int32) (n : Nat)  : Int32 := g 4 0
theorem pe_X2_countAll (g : Nat → Nat → Int32) (γ : Nat → Nat → Int32) (n : Nat)  (ok : OKM g γ n)  : p_X2_countAll g γ n = nI (n) := ok.1
set_option maxHeartbeats 4000000 in
set_option maxRecDepth 100000 in
theorem c_X2_countAll (l : Launch) (D : va_G) (cI cZ cB cR : ClassId) (a : Nat → Nat) (g : Nat → Nat → Int32) (γ : Nat → Nat → Int32) (n : Nat)  (ok : OKM g γ n)  : RO l yX2_countAll wsX2_countAll ({ frames := 0, cells := 0, slots := 0, locals := 0 } : Room) D cI cZ cB cR (wM cI a g) [.ref (a 0)] (nI (n)) := by
  have hE : p_X2_countAll g γ n = nI (n) := pe_X2_countAll g γ n ok
  refine Met.ofW (cc := cX2_countAll) (maxL := 1) (ret := (some .int)) (by decide) rfl ?_
  intro p e s m args below meth c s₁ B hml hv
  obtain ⟨hargs, hP, hEV⟩ := hv
  have hx := B.exec
  have hb := B.bytes
  have hr := B.returns
  have hts := atoms_spec (ws := wsX2_countAll) B.pre
  have hown : s.vm.findClass RX2 = some m.cls := findClass_of_methodNamed B.named
  have hlocks := B.notSynchronized
  have hK := hEV.1
  have hl := lv_entry ([.ref (a 0)]) (n := 1) (Nat.le_of_ble_eq_true rfl)
  rw [show entryFrame m args 1 = entryFrame m ([.ref (a 0)] : List Value).toArray 1 from by rw [hargs], lg_entry_eq]
  generalize (lg_sl ([.ref (a 0)]) ++ List.replicate (1 - (lg_sl ([.ref (a 0)])).length) Slot.unset).toArray = ls at hl ⊢
  have hl : lv_has ls 1 [(0, .ref (a 0))] := hl
  rw [p_X2_countAll] at hE
  have hn30 := ok.2.1
  refine lv_aload_n hx hb dX2_countAll_0 rfl (lv_at hl 0 rfl) ?_
  refine va_get (D := D) (ci := 2) (v := .int (g 4 0)) (C := RX2) (T := TX2) (N := 6) hx hb hts (fun w9 h9 => List.mem_cons_of_mem _ (inT_X2 w9 h9)) hown hK hP 0 rfl rfl 0 (by decide) (hts (.fieldLink RX2 24 "LinkPredictor$Members" "size" "I") (List.mem_cons_of_mem _ mw_1_109)) (fun _ h9 => h9) rfl dX2_countAll_1 ?_
  exact W.iret hx hb hr (fun t9 ht9 _ => ⟨_, rfl, hE, ht9⟩) (fun _ h9 => by cases h9) dX2_countAll_4
def p_X2_isInheritable (g : Nat → Nat → Int32) (γ : Nat → Nat → Int32) (n : Nat) (x : Nat) : Int32 := if (g 2 x) = (0 : Int32) then ((0 : Int32)) else (if ((g 3 x) &&& (1 : Int32)) = (0 : Int32) then ((1 : Int32)) else ((0 : Int32)))
theorem pe_X2_isInheritable (g : Nat → Nat → Int32) (γ : Nat → Nat → Int32) (n : Nat) (x : Nat) (ok : OKM g γ n) (hnx : x < n) : p_X2_isInheritable g γ n x = b2i (inhB γ x) := by
  rw [p_X2_isInheritable, ok.mk hnx, ok.ac hnx]
  unfold inhB
  by_cases h1 : γ 2 x = 0
  · simp [h1, b2i]
  · by_cases h2 : bt (γ 3 x) 0 = true
    · have : ¬ (γ 3 x &&& 1 = 0) := fun z => and1_eq.mp z h2
      simp [h1, h2, this, b2i]
    · have := and1_eq.mpr h2
      simp [h1, h2, this, b2i]
set_option maxHeartbeats 4000000 in
set_option maxRecDepth 100000 in
theorem c_X2_isInheritable (l : Launch) (D : va_G) (cI cZ cB cR : ClassId) (a : Nat → Nat) (g : Nat → Nat → Int32) (γ : Nat → Nat → Int32) (n : Nat) (x : Nat) (ok : OKM g γ n) (hnx : x < n) : RO l yX2_isInheritable wsX2_isInheritable ({ frames := 0, cells := 0, slots := 0, locals := 0 } : Room) D cI cZ cB cR (wM cI a g) [.ref (a 0), .int (nI x)] (b2i (inhB γ x)) := by
  have hE : p_X2_isInheritable g γ n x = b2i (inhB γ x) := pe_X2_isInheritable g γ n x ok hnx
  refine Met.ofW (cc := cX2_isInheritable) (maxL := 2) (ret := (some .boolean)) (by decide) rfl ?_
  intro p e s m args below meth c s₁ B hml hv
  obtain ⟨hargs, hP, hEV⟩ := hv
  have hx := B.exec
  have hb := B.bytes
  have hr := B.returns
  have hts := atoms_spec (ws := wsX2_isInheritable) B.pre
  have hown : s.vm.findClass RX2 = some m.cls := findClass_of_methodNamed B.named
  have hlocks := B.notSynchronized
  have hK := hEV.1
  have hl := lv_entry ([.ref (a 0), .int (nI x)]) (n := 2) (Nat.le_of_ble_eq_true rfl)
  rw [show entryFrame m args 2 = entryFrame m ([.ref (a 0), .int (nI x)] : List Value).toArray 2 from by rw [hargs], lg_entry_eq]
  generalize (lg_sl ([.ref (a 0), .int (nI x)]) ++ List.replicate (2 - (lg_sl ([.ref (a 0), .int (nI x)])).length) Slot.unset).toArray = ls at hl ⊢
  have hl : lv_has ls 2 [(0, .ref (a 0)), (1, .int (nI x))] := hl
  rw [p_X2_isInheritable] at hE
  have hn30 := ok.2.1
  refine lv_aload_n hx hb dX2_isInheritable_0 rfl (lv_at hl 0 rfl) ?_
  refine va_get (D := D) (ci := 2) (v := .ref (a 3)) (C := RX2) (T := TX2) (N := 6) hx hb hts (fun w9 h9 => List.mem_cons_of_mem _ (inT_X2 w9 h9)) hown hK hP 0 rfl rfl 4 (by decide) (hts (.fieldLink RX2 18 "LinkPredictor$Members" "accesses" "[I") (List.mem_cons_of_mem _ mw_1_113)) (fun _ h9 => h9) rfl dX2_isInheritable_1 ?_
  refine lv_iload_n hx hb dX2_isInheritable_4 rfl (lv_at hl 1 rfl) ?_
  refine ro_ald hx hb hEV hP 3 (j := x) rfl (by omega) (by decide) dX2_isInheritable_5 ?_
  refine lv_if_eq (tgt := 24) hx hb dX2_isInheritable_6 (by decide) (fun c_6 => ?_) (fun c_6 => ?_)
  · skip
    have hE := (if_pos c_6).symm.trans hE
    refine lv_iconst (v := (0 : Int32)) hx hb dX2_isInheritable_24 (by decide) ?_
    exact W.zret hx hb hr rfl (fun t9 ht9 _ => ⟨_, rfl, hE, ht9⟩) (fun _ h9 => by cases h9) dX2_isInheritable_25
  · skip
    have hE := (if_neg c_6).symm.trans hE
    refine lv_aload_n hx hb dX2_isInheritable_9 rfl (lv_at hl 0 rfl) ?_
    refine va_get (D := D) (ci := 2) (v := .ref (a 4)) (C := RX2) (T := TX2) (N := 6) hx hb hts (fun w9 h9 => List.mem_cons_of_mem _ (inT_X2 w9 h9)) hown hK hP 0 rfl rfl 5 (by decide) (hts (.fieldLink RX2 21 "LinkPredictor$Members" "flags" "[I") (List.mem_cons_of_mem _ mw_1_114)) (fun _ h9 => h9) rfl dX2_isInheritable_10 ?_
    refine lv_iload_n hx hb dX2_isInheritable_13 rfl (lv_at hl 1 rfl) ?_
    refine ro_ald hx hb hEV hP 4 (j := x) rfl (by omega) (by decide) dX2_isInheritable_14 ?_
    refine lv_iconst (v := (1 : Int32)) hx hb dX2_isInheritable_15 (by decide) ?_
    refine lv_iand hx hb dX2_isInheritable_16 ?_
    refine lv_if_ne (tgt := 24) hx hb dX2_isInheritable_17 (by decide) (fun c_17 => ?_) (fun c_17 => ?_)
    · skip
      have hE := (if_neg c_17).symm.trans hE
      refine lv_iconst (v := (0 : Int32)) hx hb dX2_isInheritable_24 (by decide) ?_
      exact W.zret hx hb hr rfl (fun t9 ht9 _ => ⟨_, rfl, hE, ht9⟩) (fun _ h9 => by cases h9) dX2_isInheritable_25
    · skip
      have hE := (if_pos c_17).symm.trans hE
      refine lv_iconst (v := (1 : Int32)) hx hb dX2_isInheritable_20 (by decide) ?_
      refine lv_goto (tgt := 25) hx hb dX2_isInheritable_21 (by decide) ?_
      exact W.zret hx hb hr rfl (fun t9 ht9 _ => ⟨_, rfl, hE, ht9⟩) (fun _ h9 => by cases h9) dX2_isInheritable_25
def p_X2_isPresent (g : Nat → Nat → Int32) (γ : Nat → Nat → Int32) (n : Nat) (x : Int32) : Int32 := if (wi x (nI n)) = true then (if (bt (g 4 1) (sN x)) = true then ((0 : Int32)) else ((1 : Int32))) else ((0 : Int32))
theorem pe_X2_isPresent (g : Nat → Nat → Int32) (γ : Nat → Nat → Int32) (n : Nat) (x : Int32) (ok : OKM g γ n)  : p_X2_isPresent g γ n x = b2i (wi x (nI n) && !(goB γ (sN x))) := by
  rw [p_X2_isPresent]
  by_cases c : wi x (nI n) = true
  · obtain ⟨j, hj, e⟩ := wi_of (by have := ok.2.1; omega) c
    rw [if_pos c]
    have hs : sN x = j := by rw [e]; exact sN_nI (by have := ok.2.1; omega)
    rw [c, hs, ok.go hj]
    cases goB γ j <;> rfl
  · rw [if_neg c]
    simp at c
    rw [c]
    rfl
set_option maxHeartbeats 4000000 in
set_option maxRecDepth 100000 in
theorem c_X2_isPresent (l : Launch) (D : va_G) (cI cZ cB cR : ClassId) (a : Nat → Nat) (g : Nat → Nat → Int32) (γ : Nat → Nat → Int32) (n : Nat) (x : Int32) (ok : OKM g γ n)  : RO l yX2_isPresent wsX2_isPresent ({ frames := 1, cells := 0, slots := 0, locals := 21 } : Room) D cI cZ cB cR (wM cI a g) [.ref (a 0), .int x] (b2i (wi x (nI n) && !(goB γ (sN x)))) := by
  have hE : p_X2_isPresent g γ n x = b2i (wi x (nI n) && !(goB γ (sN x))) := pe_X2_isPresent g γ n x ok
  refine Met.ofW (cc := cX2_isPresent) (maxL := 2) (ret := (some .boolean)) (by decide) rfl ?_
  intro p e s m args below meth c s₁ B hml hv
  obtain ⟨hargs, hP, hEV⟩ := hv
  have hx := B.exec
  have hb := B.bytes
  have hr := B.returns
  have hts := atoms_spec (ws := wsX2_isPresent) B.pre
  have hown : s.vm.findClass RX2 = some m.cls := findClass_of_methodNamed B.named
  have hlocks := B.notSynchronized
  have hK := hEV.1
  have hl := lv_entry ([.ref (a 0), .int x]) (n := 2) (Nat.le_of_ble_eq_true rfl)
  rw [show entryFrame m args 2 = entryFrame m ([.ref (a 0), .int x] : List Value).toArray 2 from by rw [hargs], lg_entry_eq]
  generalize (lg_sl ([.ref (a 0), .int x]) ++ List.replicate (2 - (lg_sl ([.ref (a 0), .int x])).length) Slot.unset).toArray = ls at hl ⊢
  have hl : lv_has ls 2 [(0, .ref (a 0)), (1, .int x)] := hl
  rw [p_X2_isPresent] at hE
  have hn30 := ok.2.1
  refine lv_iload_n hx hb dX2_isPresent_0 rfl (lv_at hl 1 rfl) ?_
  refine lv_aload_n hx hb dX2_isPresent_1 rfl (lv_at hl 0 rfl) ?_
  refine va_get (D := D) (ci := 2) (v := .int (g 4 0)) (C := RX2) (T := TX2) (N := 6) hx hb hts (fun w9 h9 => List.mem_cons_of_mem _ (inT_X2 w9 h9)) hown hK hP 0 rfl rfl 0 (by decide) (hts (.fieldLink RX2 24 "LinkPredictor$Members" "size" "I") (List.mem_cons_of_mem _ mw_1_109)) (fun _ h9 => h9) rfl dX2_isPresent_2 ?_
  refine top_eq (ok.1) ?_
  refine ro_SN [.int x, .int (nI n)] [] ⟨hx, hb, hml, hown, hts⟩ (c_X4_isWithin l D cI cZ cB cR x (nI n)) (va_cnB (host := "LinkPredictor") 2 hts (goodC mw_1_58) rfl rfl rfl (hEV.2 (.methodLinkNest RX2 64 yX4_isWithin "LinkPredictor") (by decide +kernel)) (hts (.initialized RX4) (List.mem_cons_of_mem _ mw_1_1)) (by decide +kernel) ⟨Nat.le_of_ble_eq_true rfl, Nat.le_of_ble_eq_true rfl⟩) (hts (.static yX4_isWithin) (List.mem_cons_of_mem _ mw_1_57)) hEV va_P0 rfl hl.1 rfl (Nat.le_of_ble_eq_true rfl) dX2_isPresent_5 ⟨Nat.zero_le _, Nat.zero_le _⟩ ?_
  refine lv_if_eq (tgt := 26) hx hb dX2_isPresent_8 (by decide) (fun c_8 => ?_) (fun c_8 => ?_)
  · have c_8 : ¬ ((wi x (nI n)) = true) := b2i_f c_8
    have hE := (if_neg c_8).symm.trans hE
    refine lv_iconst (v := (0 : Int32)) hx hb dX2_isPresent_26 (by decide) ?_
    exact W.zret hx hb hr rfl (fun t9 ht9 _ => ⟨_, rfl, hE, ht9⟩) (fun _ h9 => by cases h9) dX2_isPresent_27
  · have c_8 : (wi x (nI n)) = true := b2i_t c_8
    have hE := (if_pos c_8).symm.trans hE
    have hxn : sN x < n ∧ x = nI (sN x) := by
      obtain ⟨j, hj, e9⟩ := wi_of (by omega) c_8
      have hs : sN x = j := by rw [e9]; exact sN_nI (by omega)
      exact ⟨by omega, by rw [hs]; exact e9⟩
    have hxn1 := hxn.1
    refine lv_aload_n hx hb dX2_isPresent_11 rfl (lv_at hl 0 rfl) ?_
    refine va_get (D := D) (ci := 2) (v := .int (g 4 1)) (C := RX2) (T := TX2) (N := 6) hx hb hts (fun w9 h9 => List.mem_cons_of_mem _ (inT_X2 w9 h9)) hown hK hP 0 rfl rfl 1 (by decide) (hts (.fieldLink RX2 36 "LinkPredictor$Members" "gone" "I") (List.mem_cons_of_mem _ mw_1_110)) (fun _ h9 => h9) rfl dX2_isPresent_12 ?_
    refine lv_iload_n hx hb dX2_isPresent_15 rfl (lv_at hl 1 rfl) ?_
    refine top_eq ((hxn.2)) ?_
    refine ro_SN [.int (g 4 1), .int (nI (sN x))] [] ⟨hx, hb, hml, hown, hts⟩ (c_X4_contains l D cI cZ cB cR (g 4 1) (sN x) (by omega)) (va_cnB (host := "LinkPredictor") 2 hts (goodC mw_1_48) rfl rfl rfl (hEV.2 (.methodLinkNest RX2 49 yX4_contains "LinkPredictor") (by decide +kernel)) (hts (.initialized RX4) (List.mem_cons_of_mem _ mw_1_1)) (by decide +kernel) ⟨Nat.le_of_ble_eq_true rfl, Nat.le_of_ble_eq_true rfl⟩) (hts (.static yX4_contains) (List.mem_cons_of_mem _ mw_1_47)) hEV va_P0 rfl hl.1 rfl (Nat.le_of_ble_eq_true rfl) dX2_isPresent_16 ⟨Nat.zero_le _, Nat.zero_le _⟩ ?_
    refine lv_if_ne (tgt := 26) hx hb dX2_isPresent_19 (by decide) (fun c_19 => ?_) (fun c_19 => ?_)
    · have c_19 : (bt (g 4 1) (sN x)) = true := b2i_t c_19
      have hE := (if_pos c_19).symm.trans hE
      refine lv_iconst (v := (0 : Int32)) hx hb dX2_isPresent_26 (by decide) ?_
      exact W.zret hx hb hr rfl (fun t9 ht9 _ => ⟨_, rfl, hE, ht9⟩) (fun _ h9 => by cases h9) dX2_isPresent_27
    · have c_19 : ¬ ((bt (g 4 1) (sN x)) = true) := b2i_f c_19
      have hE := (if_neg c_19).symm.trans hE
      refine lv_iconst (v := (1 : Int32)) hx hb dX2_isPresent_22 (by decide) ?_
      refine lv_goto (tgt := 27) hx hb dX2_isPresent_23 (by decide) ?_
      exact W.zret hx hb hr rfl (fun t9 ht9 _ => ⟨_, rfl, hE, ht9⟩) (fun _ h9 => by cases h9) dX2_isPresent_27
def p_X2_find_10 (g : Nat → Nat → Int32) (γ : Nat → Nat → Int32) (n : Nat) (x : Nat) (y : Bool) (z : Int32) : Nat → Nat → Int32
  | 0, _ => 0
  | k + 1, n5 => if n ≤ n5 then ((-2 : Int32)) else (if (g 1 n5) = (kyF y z) then (if (g 0 n5) = (nI x) then (if (bt (g 4 1) n5) = true then (p_X2_find_10 g γ n x y z k (n5 + 1)) else (nI n5)) else (p_X2_find_10 g γ n x y z k (n5 + 1))) else (p_X2_find_10 g γ n x y z k (n5 + 1)))
def p_X2_find (g : Nat → Nat → Int32) (γ : Nat → Nat → Int32) (n : Nat) (x : Nat) (y : Bool) (z : Int32) : Int32 := p_X2_find_10 g γ n x y z 31 0
theorem pl_X2_find (g γ : Nat → Nat → Int32) (n : Nat) (x : Nat) (y : Bool) (z : Int32) (ok : OKM g γ n) : ∀ k i, 30 - i < k → i ≤ n → (∀ j, j < i → ownP γ x (kyF y z) j = false) → p_X2_find_10 g γ n x y z k i = fdI γ n x (kyF y z) := by
  intro k
  have hn30 := ok.2.1
  induction k with
  | zero => intro i h1; omega
  | succ k ih =>
    intro i hk hi h0
    rw [p_X2_find_10]
    by_cases c : n ≤ i
    · rw [if_pos c]
      have e : i = n := by omega
      subst e
      unfold fdI fdN
      rw [fst_none h0]
      simp
    · rw [if_neg c]
      have him : i < n := by omega
      rw [ok.ky him, ok.ow him, ok.go him]
      have step : ownP γ x (kyF y z) i = false → p_X2_find_10 g γ n x y z k (i + 1) = fdI γ n x (kyF y z) := fun q => ih (i + 1) (by omega) (by omega) (fun j hj => by
        rcases Nat.lt_or_ge j i with z9 | z9
        · exact h0 j z9
        · have e : j = i := by omega
          subst e
          exact q)
      by_cases c1 : γ 1 i = kyF y z
      · rw [if_pos c1]
        by_cases c2 : γ 0 i = nI x
        · rw [if_pos c2]
          by_cases c3 : goB γ i = true
          · rw [if_pos c3]; exact step (by simp [ownP, c3])
          · rw [if_neg c3]
            have q : ownP γ x (kyF y z) i = true := by simp [ownP, c1, c2, c3]
            unfold fdI fdN
            rw [fst_at him q h0, if_pos him]
        · rw [if_neg c2]; exact step (by simp [ownP, c2])
      · rw [if_neg c1]; exact step (by simp [ownP, c1])
theorem pe_X2_find (g : Nat → Nat → Int32) (γ : Nat → Nat → Int32) (n : Nat) (x : Nat) (y : Bool) (z : Int32) (ok : OKM g γ n) (hnx : x < 12) : p_X2_find g γ n x y z = fdI γ n x (kyF y z) := pl_X2_find g γ n x y z ok 31 0 (by omega) (by omega) (fun j h => absurd h (Nat.not_lt_zero j))
set_option maxHeartbeats 4000000 in
set_option maxRecDepth 100000 in
theorem c_X2_find (l : Launch) (D : va_G) (cI cZ cB cR : ClassId) (a : Nat → Nat) (g : Nat → Nat → Int32) (γ : Nat → Nat → Int32) (n : Nat) (x : Nat) (y : Bool) (z : Int32) (ok : OKM g γ n) (hnx : x < 12) : RO l yX2_find wsX2_find ({ frames := 1, cells := 0, slots := 0, locals := 21 } : Room) D cI cZ cB cR (wM cI a g) [.ref (a 0), .int (nI x), .int (b2i y), .int z] (fdI γ n x (kyF y z)) := by
  have hE : p_X2_find g γ n x y z = fdI γ n x (kyF y z) := pe_X2_find g γ n x y z ok hnx
  refine Met.ofW (cc := cX2_find) (maxL := 6) (ret := (some .int)) (by decide) rfl ?_
  intro p e s m args below meth c s₁ B hml hv
  obtain ⟨hargs, hP, hEV⟩ := hv
  have hx := B.exec
  have hb := B.bytes
  have hr := B.returns
  have hts := atoms_spec (ws := wsX2_find) B.pre
  have hown : s.vm.findClass RX2 = some m.cls := findClass_of_methodNamed B.named
  have hlocks := B.notSynchronized
  have hK := hEV.1
  have hl := lv_entry ([.ref (a 0), .int (nI x), .int (b2i y), .int z]) (n := 6) (Nat.le_of_ble_eq_true rfl)
  rw [show entryFrame m args 6 = entryFrame m ([.ref (a 0), .int (nI x), .int (b2i y), .int z] : List Value).toArray 6 from by rw [hargs], lg_entry_eq]
  generalize (lg_sl ([.ref (a 0), .int (nI x), .int (b2i y), .int z]) ++ List.replicate (6 - (lg_sl ([.ref (a 0), .int (nI x), .int (b2i y), .int z])).length) Slot.unset).toArray = ls at hl ⊢
  have hl : lv_has ls 6 [(0, .ref (a 0)), (1, .int (nI x)), (2, .int (b2i y)), (3, .int z)] := hl
  rw [p_X2_find] at hE
  have hn30 := ok.2.1
  have key_10 : ∀ (k_10 : Nat) (n5 : Nat) (ls : Array Slot), (30 - n5) < k_10 → n5 ≤ n → lv_has ls 6 [(5, .int (nI n5)), (4, .int (kyF y z)), (0, .ref (a 0)), (1, .int (nI x))] → p_X2_find_10 g γ n x y z k_10 n5 = fdI γ n x (kyF y z) → W p l e (headSpec wsX2_find ({ frames := 1, cells := 0, slots := 0, locals := 21 } : Room)).room s m args below meth c s.heap [] 0 0 (MQ below (vp_Si (fun r => r = fdI γ n x (kyF y z))) args s 0 0 (fun _ => False)) (F0 m 10 ls []) := by
    intro k_10
    induction k_10 with
    | zero => intro n5 ls hm; exact absurd hm (Nat.not_lt_zero _)
    | succ k_10 ih_10 =>
      intro n5 ls hm_10 hi_10_0 hl hE
      rw [p_X2_find_10] at hE
      refine lv_iload hx hb dX2_find_10 (lv_at hl 0 rfl) ?_
      refine lv_aload_n hx hb dX2_find_12 rfl (lv_at hl 2 rfl) ?_
      refine va_get (D := D) (ci := 2) (v := .int (g 4 0)) (C := RX2) (T := TX2) (N := 6) hx hb hts (fun w9 h9 => List.mem_cons_of_mem _ (inT_X2 w9 h9)) hown hK hP 0 rfl rfl 0 (by decide) (hts (.fieldLink RX2 24 "LinkPredictor$Members" "size" "I") (List.mem_cons_of_mem _ mw_1_109)) (fun _ h9 => h9) rfl dX2_find_13 ?_
      refine top_eq (ok.1) ?_
      refine lv_icmp_ge (tgt := 63) hx hb dX2_find_16 (by decide) (fun c_16 => ?_) (fun c_16 => ?_)
      · have c_16 : n ≤ n5 := (nI_leI (a := n) (b := n5) (by omega) (by omega)).mp c_16
        have hE := (if_pos c_16).symm.trans hE
        refine lv_bipush (v := (-2 : Int32)) hx hb dX2_find_63 (by decide) ?_
        exact W.iret hx hb hr (fun t9 ht9 _ => ⟨_, rfl, hE, ht9⟩) (fun _ h9 => by cases h9) dX2_find_65
      · have c_16 : ¬ (n ≤ n5) := fun q9 => c_16 ((nI_leI (a := n) (b := n5) (by omega) (by omega)).mpr q9)
        have hE := (if_neg c_16).symm.trans hE
        refine lv_aload_n hx hb dX2_find_19 rfl (lv_at hl 2 rfl) ?_
        refine va_get (D := D) (ci := 2) (v := .ref (a 2)) (C := RX2) (T := TX2) (N := 6) hx hb hts (fun w9 h9 => List.mem_cons_of_mem _ (inT_X2 w9 h9)) hown hK hP 0 rfl rfl 3 (by decide) (hts (.fieldLink RX2 15 "LinkPredictor$Members" "keys" "[I") (List.mem_cons_of_mem _ mw_1_112)) (fun _ h9 => h9) rfl dX2_find_20 ?_
        refine lv_iload hx hb dX2_find_23 (lv_at hl 0 rfl) ?_
        refine ro_ald hx hb hEV hP 2 (j := n5) rfl (by omega) (by decide) dX2_find_25 ?_
        refine lv_iload hx hb dX2_find_26 (lv_at hl 1 rfl) ?_
        refine lv_icmp_ne (tgt := 57) hx hb dX2_find_28 (by decide) (fun c_28 => ?_) (fun c_28 => ?_)
        · skip
          have hE := (if_neg c_28).symm.trans hE
          refine lv_iinc (v := nI (n5 + 1)) (lv' := [(5, .int (nI (n5 + 1))), (4, .int (kyF y z)), (0, .ref (a 0)), (1, .int (nI x))]) hx hb dX2_find_57 hl (k := 0) rfl (nI_1 _) (by decide) rfl (fun ls hl => ?_)
          refine lv_goto (tgt := 10) hx hb dX2_find_60 (by decide) ?_
          exact ih_10 (n5 + 1) ls (by omega) (by omega) (lv_sub hl [0, 1, 2, 3] rfl) hE
        · skip
          have hE := (if_pos c_28).symm.trans hE
          refine lv_aload_n hx hb dX2_find_31 rfl (lv_at hl 2 rfl) ?_
          refine va_get (D := D) (ci := 2) (v := .ref (a 1)) (C := RX2) (T := TX2) (N := 6) hx hb hts (fun w9 h9 => List.mem_cons_of_mem _ (inT_X2 w9 h9)) hown hK hP 0 rfl rfl 2 (by decide) (hts (.fieldLink RX2 9 "LinkPredictor$Members" "owners" "[I") (List.mem_cons_of_mem _ mw_1_111)) (fun _ h9 => h9) rfl dX2_find_32 ?_
          refine lv_iload hx hb dX2_find_35 (lv_at hl 0 rfl) ?_
          refine ro_ald hx hb hEV hP 1 (j := n5) rfl (by omega) (by decide) dX2_find_37 ?_
          refine lv_iload_n hx hb dX2_find_38 rfl (lv_at hl 3 rfl) ?_
          refine lv_icmp_ne (tgt := 57) hx hb dX2_find_39 (by decide) (fun c_39 => ?_) (fun c_39 => ?_)
          · skip
            have hE := (if_neg c_39).symm.trans hE
            refine lv_iinc (v := nI (n5 + 1)) (lv' := [(5, .int (nI (n5 + 1))), (4, .int (kyF y z)), (0, .ref (a 0)), (1, .int (nI x))]) hx hb dX2_find_57 hl (k := 0) rfl (nI_1 _) (by decide) rfl (fun ls hl => ?_)
            refine lv_goto (tgt := 10) hx hb dX2_find_60 (by decide) ?_
            exact ih_10 (n5 + 1) ls (by omega) (by omega) (lv_sub hl [0, 1, 2, 3] rfl) hE
          · skip
            have hE := (if_pos c_39).symm.trans hE
            refine lv_aload_n hx hb dX2_find_42 rfl (lv_at hl 2 rfl) ?_
            refine va_get (D := D) (ci := 2) (v := .int (g 4 1)) (C := RX2) (T := TX2) (N := 6) hx hb hts (fun w9 h9 => List.mem_cons_of_mem _ (inT_X2 w9 h9)) hown hK hP 0 rfl rfl 1 (by decide) (hts (.fieldLink RX2 36 "LinkPredictor$Members" "gone" "I") (List.mem_cons_of_mem _ mw_1_110)) (fun _ h9 => h9) rfl dX2_find_43 ?_
            refine lv_iload hx hb dX2_find_46 (lv_at hl 0 rfl) ?_
            refine ro_SN [.int (g 4 1), .int (nI n5)] [] ⟨hx, hb, hml, hown, hts⟩ (c_X4_contains l D cI cZ cB cR (g 4 1) n5 (by omega)) (va_cnB (host := "LinkPredictor") 2 hts (goodC mw_1_48) rfl rfl rfl (hEV.2 (.methodLinkNest RX2 49 yX4_contains "LinkPredictor") (by decide +kernel)) (hts (.initialized RX4) (List.mem_cons_of_mem _ mw_1_1)) (by decide +kernel) ⟨Nat.le_of_ble_eq_true rfl, Nat.le_of_ble_eq_true rfl⟩) (hts (.static yX4_contains) (List.mem_cons_of_mem _ mw_1_47)) hEV va_P0 rfl hl.1 rfl (Nat.le_of_ble_eq_true rfl) dX2_find_48 ⟨Nat.zero_le _, Nat.zero_le _⟩ ?_
            refine lv_if_ne (tgt := 57) hx hb dX2_find_51 (by decide) (fun c_51 => ?_) (fun c_51 => ?_)
            · have c_51 : (bt (g 4 1) n5) = true := b2i_t c_51
              have hE := (if_pos c_51).symm.trans hE
              refine lv_iinc (v := nI (n5 + 1)) (lv' := [(5, .int (nI (n5 + 1))), (4, .int (kyF y z)), (0, .ref (a 0)), (1, .int (nI x))]) hx hb dX2_find_57 hl (k := 0) rfl (nI_1 _) (by decide) rfl (fun ls hl => ?_)
              refine lv_goto (tgt := 10) hx hb dX2_find_60 (by decide) ?_
              exact ih_10 (n5 + 1) ls (by omega) (by omega) (lv_sub hl [0, 1, 2, 3] rfl) hE
            · have c_51 : ¬ ((bt (g 4 1) n5) = true) := b2i_f c_51
              have hE := (if_neg c_51).symm.trans hE
              refine lv_iload hx hb dX2_find_54 (lv_at hl 0 rfl) ?_
              exact W.iret hx hb hr (fun t9 ht9 _ => ⟨_, rfl, hE, ht9⟩) (fun _ h9 => by cases h9) dX2_find_56
  refine lv_iload_n hx hb dX2_find_0 rfl (lv_at hl 2 rfl) ?_
  refine lv_iload_n hx hb dX2_find_1 rfl (lv_at hl 3 rfl) ?_
  refine ro_S [.int (b2i y), .int z] [] ⟨hx, hb, hml, hown, hts⟩ (c_X2_keyOf l D cI cZ cB cR y z) (va_cwS 2 hts (goodP (ps := [.methodLink RX2 28 yX2_keyOf, .static yX2_keyOf, .initialized RX2]) (all3 mw_1_226 mw_1_227 mw_1_4) mw_1_228) rfl rfl rfl (by decide +kernel) ⟨Nat.le_of_ble_eq_true rfl, Nat.le_of_ble_eq_true rfl⟩) hEV va_P0 rfl hl.1 rfl (Nat.le_of_ble_eq_true rfl) dX2_find_2 ⟨Nat.zero_le _, Nat.zero_le _⟩ ?_
  refine lv_istore (lv' := [(4, .int (kyF y z)), (0, .ref (a 0)), (1, .int (nI x)), (2, .int (b2i y)), (3, .int z)]) hx hb dX2_find_5 hl (by decide) rfl (fun ls hl => ?_)
  refine lv_iconst (v := (0 : Int32)) hx hb dX2_find_7 (by decide) ?_
  refine lv_istore (lv' := [(5, .int (0 : Int32)), (4, .int (kyF y z)), (0, .ref (a 0)), (1, .int (nI x)), (2, .int (b2i y)), (3, .int z)]) hx hb dX2_find_8 hl (by decide) rfl (fun ls hl => ?_)
  exact key_10 31 0 ls (by omega) (by omega) (lv_sub hl [0, 1, 2, 3] rfl) hE
def p_X2_ownersOfInheritable_11 (g : Nat → Nat → Int32) (γ : Nat → Nat → Int32) (n : Nat) (x : Int32) : Nat → Nat → Int32 → Int32
  | 0, _, _ => 0
  | k + 1, n4, v3 => if n ≤ n4 then (v3) else (if (g 1 n4) = (kyF true x) then (if (bt (g 4 1) n4) = true then (p_X2_ownersOfInheritable_11 g γ n x k (n4 + 1) v3) else (if (inhB γ n4) = true then (p_X2_ownersOfInheritable_11 g γ n x k (n4 + 1) (v3 ||| (bm (sN (γ 0 n4))))) else (p_X2_ownersOfInheritable_11 g γ n x k (n4 + 1) v3))) else (p_X2_ownersOfInheritable_11 g γ n x k (n4 + 1) v3))
def p_X2_ownersOfInheritable (g : Nat → Nat → Int32) (γ : Nat → Nat → Int32) (n : Nat) (x : Int32) : Int32 := p_X2_ownersOfInheritable_11 g γ n x 31 0 (0 : Int32)
/-- the owners of what can be inherited, of a key -/
def owI (γ : Nat → Nat → Int32) (n : Nat) (key : Int32) : Int32 := orF (fun m => decide (γ 1 m = key) && !(goB γ m) && inhB γ m) (fun m => sN (γ 0 m)) n
theorem pl_X2_ooi (g γ : Nat → Nat → Int32) (n : Nat) (x : Int32) (ok : OKM g γ n) (wf : WFM γ n) : ∀ k i v, 30 - i < k → i ≤ n → v = orF (fun m => decide (γ 1 m = kyF true x) && !(goB γ m) && inhB γ m) (fun m => sN (γ 0 m)) i → p_X2_ownersOfInheritable_11 g γ n x k i v = owI γ n (kyF true x) := by
  intro k
  have hn30 := ok.2.1
  induction k with
  | zero => intro i v h1; omega
  | succ k ih =>
    intro i v hk hi hv
    rw [p_X2_ownersOfInheritable_11]
    by_cases c : n ≤ i
    · rw [if_pos c]
      have e : i = n := by omega
      subst e
      exact hv
    · rw [if_neg c]
      have him : i < n := by omega
      rw [ok.ky him, ok.go him]
      have step : ∀ w, w = orF (fun m => decide (γ 1 m = kyF true x) && !(goB γ m) && inhB γ m) (fun m => sN (γ 0 m)) (i + 1) → p_X2_ownersOfInheritable_11 g γ n x k (i + 1) w = owI γ n (kyF true x) := fun w hw => ih (i + 1) w (by omega) (by omega) hw
      by_cases c1 : γ 1 i = kyF true x
      · rw [if_pos c1]
        by_cases c2 : goB γ i = true
        · rw [if_pos c2]; exact step _ (by rw [orF_f (by simp [c2])]; exact hv)
        · rw [if_neg c2]
          by_cases c3 : inhB γ i = true
          · rw [if_pos c3]; exact step _ (by rw [orF_t (by simp [c1, c2, c3]), hv])
          · rw [if_neg c3]; exact step _ (by rw [orF_f (by simp [c3])]; exact hv)
      · rw [if_neg c1]; exact step _ (by rw [orF_f (by simp [c1])]; exact hv)
theorem pe_X2_ownersOfInheritable (g : Nat → Nat → Int32) (γ : Nat → Nat → Int32) (n : Nat) (x : Int32) (ok : OKM g γ n) (wf : WFM γ n)  : p_X2_ownersOfInheritable g γ n x = owI γ n (kyF true x) := pl_X2_ooi g γ n x ok wf 31 0 0 (by omega) (by omega) rfl
set_option maxHeartbeats 4000000 in
set_option maxRecDepth 100000 in
theorem c_X2_ownersOfInheritable (l : Launch) (D : va_G) (cI cZ cB cR : ClassId) (a : Nat → Nat) (g : Nat → Nat → Int32) (γ : Nat → Nat → Int32) (n : Nat) (x : Int32) (ok : OKM g γ n) (wf : WFM γ n)  : RO l yX2_ownersOfInheritable wsX2_ownersOfInheritable ({ frames := 1, cells := 0, slots := 0, locals := 21 } : Room) D cI cZ cB cR (wM cI a g) [.ref (a 0), .int x] (owI γ n (kyF true x)) := by
  have hE : p_X2_ownersOfInheritable g γ n x = owI γ n (kyF true x) := pe_X2_ownersOfInheritable g γ n x ok wf
  refine Met.ofW (cc := cX2_ownersOfInheritable) (maxL := 5) (ret := (some .int)) (by decide) rfl ?_
  intro p e s m args below meth c s₁ B hml hv
  obtain ⟨hargs, hP, hEV⟩ := hv
  have hx := B.exec
  have hb := B.bytes
  have hr := B.returns
  have hts := atoms_spec (ws := wsX2_ownersOfInheritable) B.pre
  have hown : s.vm.findClass RX2 = some m.cls := findClass_of_methodNamed B.named
  have hlocks := B.notSynchronized
  have hK := hEV.1
  have hl := lv_entry ([.ref (a 0), .int x]) (n := 5) (Nat.le_of_ble_eq_true rfl)
  rw [show entryFrame m args 5 = entryFrame m ([.ref (a 0), .int x] : List Value).toArray 5 from by rw [hargs], lg_entry_eq]
  generalize (lg_sl ([.ref (a 0), .int x]) ++ List.replicate (5 - (lg_sl ([.ref (a 0), .int x])).length) Slot.unset).toArray = ls at hl ⊢
  have hl : lv_has ls 5 [(0, .ref (a 0)), (1, .int x)] := hl
  rw [p_X2_ownersOfInheritable] at hE
  have hn30 := ok.2.1
  have key_11 : ∀ (k_11 : Nat) (n4 : Nat) (v3 : Int32) (ls : Array Slot), (30 - n4) < k_11 → n4 ≤ n → lv_has ls 5 [(4, .int (nI n4)), (3, .int v3), (2, .int (kyF true x)), (0, .ref (a 0))] → p_X2_ownersOfInheritable_11 g γ n x k_11 n4 v3 = owI γ n (kyF true x) → W p l e (headSpec wsX2_ownersOfInheritable ({ frames := 1, cells := 0, slots := 0, locals := 21 } : Room)).room s m args below meth c s.heap [] 0 0 (MQ below (vp_Si (fun r => r = owI γ n (kyF true x))) args s 0 0 (fun _ => False)) (F0 m 11 ls []) := by
    intro k_11
    induction k_11 with
    | zero => intro n4 v3 ls hm; exact absurd hm (Nat.not_lt_zero _)
    | succ k_11 ih_11 =>
      intro n4 v3 ls hm_11 hi_11_0 hl hE
      rw [p_X2_ownersOfInheritable_11] at hE
      refine lv_iload hx hb dX2_ownersOfInheritable_11 (lv_at hl 0 rfl) ?_
      refine lv_aload_n hx hb dX2_ownersOfInheritable_13 rfl (lv_at hl 3 rfl) ?_
      refine va_get (D := D) (ci := 2) (v := .int (g 4 0)) (C := RX2) (T := TX2) (N := 6) hx hb hts (fun w9 h9 => List.mem_cons_of_mem _ (inT_X2 w9 h9)) hown hK hP 0 rfl rfl 0 (by decide) (hts (.fieldLink RX2 24 "LinkPredictor$Members" "size" "I") (List.mem_cons_of_mem _ mw_1_109)) (fun _ h9 => h9) rfl dX2_ownersOfInheritable_14 ?_
      refine top_eq (ok.1) ?_
      refine lv_icmp_ge (tgt := 71) hx hb dX2_ownersOfInheritable_17 (by decide) (fun c_17 => ?_) (fun c_17 => ?_)
      · have c_17 : n ≤ n4 := (nI_leI (a := n) (b := n4) (by omega) (by omega)).mp c_17
        have hE := (if_pos c_17).symm.trans hE
        refine lv_iload_n hx hb dX2_ownersOfInheritable_71 rfl (lv_at hl 1 rfl) ?_
        exact W.iret hx hb hr (fun t9 ht9 _ => ⟨_, rfl, hE, ht9⟩) (fun _ h9 => by cases h9) dX2_ownersOfInheritable_72
      · have c_17 : ¬ (n ≤ n4) := fun q9 => c_17 ((nI_leI (a := n) (b := n4) (by omega) (by omega)).mpr q9)
        have hE := (if_neg c_17).symm.trans hE
        refine lv_aload_n hx hb dX2_ownersOfInheritable_20 rfl (lv_at hl 3 rfl) ?_
        refine va_get (D := D) (ci := 2) (v := .ref (a 2)) (C := RX2) (T := TX2) (N := 6) hx hb hts (fun w9 h9 => List.mem_cons_of_mem _ (inT_X2 w9 h9)) hown hK hP 0 rfl rfl 3 (by decide) (hts (.fieldLink RX2 15 "LinkPredictor$Members" "keys" "[I") (List.mem_cons_of_mem _ mw_1_112)) (fun _ h9 => h9) rfl dX2_ownersOfInheritable_21 ?_
        refine lv_iload hx hb dX2_ownersOfInheritable_24 (lv_at hl 0 rfl) ?_
        refine ro_ald hx hb hEV hP 2 (j := n4) rfl (by omega) (by decide) dX2_ownersOfInheritable_26 ?_
        refine lv_iload_n hx hb dX2_ownersOfInheritable_27 rfl (lv_at hl 2 rfl) ?_
        refine lv_icmp_ne (tgt := 65) hx hb dX2_ownersOfInheritable_28 (by decide) (fun c_28 => ?_) (fun c_28 => ?_)
        · skip
          have hE := (if_neg c_28).symm.trans hE
          refine lv_iinc (v := nI (n4 + 1)) (lv' := [(4, .int (nI (n4 + 1))), (3, .int v3), (2, .int (kyF true x)), (0, .ref (a 0))]) hx hb dX2_ownersOfInheritable_65 hl (k := 0) rfl (nI_1 _) (by decide) rfl (fun ls hl => ?_)
          refine lv_goto (tgt := 11) hx hb dX2_ownersOfInheritable_68 (by decide) ?_
          exact ih_11 (n4 + 1) v3 ls (by omega) (by omega) (lv_sub hl [0, 1, 2, 3] rfl) hE
        · skip
          have hE := (if_pos c_28).symm.trans hE
          refine lv_aload_n hx hb dX2_ownersOfInheritable_31 rfl (lv_at hl 3 rfl) ?_
          refine va_get (D := D) (ci := 2) (v := .int (g 4 1)) (C := RX2) (T := TX2) (N := 6) hx hb hts (fun w9 h9 => List.mem_cons_of_mem _ (inT_X2 w9 h9)) hown hK hP 0 rfl rfl 1 (by decide) (hts (.fieldLink RX2 36 "LinkPredictor$Members" "gone" "I") (List.mem_cons_of_mem _ mw_1_110)) (fun _ h9 => h9) rfl dX2_ownersOfInheritable_32 ?_
          refine lv_iload hx hb dX2_ownersOfInheritable_35 (lv_at hl 0 rfl) ?_
          refine ro_SN [.int (g 4 1), .int (nI n4)] [] ⟨hx, hb, hml, hown, hts⟩ (c_X4_contains l D cI cZ cB cR (g 4 1) n4 (by omega)) (va_cnB (host := "LinkPredictor") 2 hts (goodC mw_1_48) rfl rfl rfl (hEV.2 (.methodLinkNest RX2 49 yX4_contains "LinkPredictor") (by decide +kernel)) (hts (.initialized RX4) (List.mem_cons_of_mem _ mw_1_1)) (by decide +kernel) ⟨Nat.le_of_ble_eq_true rfl, Nat.le_of_ble_eq_true rfl⟩) (hts (.static yX4_contains) (List.mem_cons_of_mem _ mw_1_47)) hEV va_P0 rfl hl.1 rfl (Nat.le_of_ble_eq_true rfl) dX2_ownersOfInheritable_37 ⟨Nat.zero_le _, Nat.zero_le _⟩ ?_
          refine lv_if_ne (tgt := 65) hx hb dX2_ownersOfInheritable_40 (by decide) (fun c_40 => ?_) (fun c_40 => ?_)
          · have c_40 : (bt (g 4 1) n4) = true := b2i_t c_40
            have hE := (if_pos c_40).symm.trans hE
            refine lv_iinc (v := nI (n4 + 1)) (lv' := [(4, .int (nI (n4 + 1))), (3, .int v3), (2, .int (kyF true x)), (0, .ref (a 0))]) hx hb dX2_ownersOfInheritable_65 hl (k := 0) rfl (nI_1 _) (by decide) rfl (fun ls hl => ?_)
            refine lv_goto (tgt := 11) hx hb dX2_ownersOfInheritable_68 (by decide) ?_
            exact ih_11 (n4 + 1) v3 ls (by omega) (by omega) (lv_sub hl [0, 1, 2, 3] rfl) hE
          · have c_40 : ¬ ((bt (g 4 1) n4) = true) := b2i_f c_40
            have hE := (if_neg c_40).symm.trans hE
            refine lv_aload_n hx hb dX2_ownersOfInheritable_43 rfl (lv_at hl 3 rfl) ?_
            refine lv_iload hx hb dX2_ownersOfInheritable_44 (lv_at hl 0 rfl) ?_
            refine ro_V [.int (nI n4)] [] ⟨hx, hb, hml, hown, hts⟩ (c_X2_isInheritable l D cI cZ cB cR a g γ n n4 ok (by omega)) (cwV (C := RX2) 1 hts (goodP (ps := [.methodLink RX2 53 yX2_isInheritable, .instanceMethod yX2_isInheritable, .selects RX2 yX2_isInheritable yX2_isInheritable, .initialized RX2]) (all4 mw_2_142 mw_2_143 mw_2_144 mw_1_4) mw_2_145) rfl rfl rfl (by decide +kernel) ⟨Nat.le_of_ble_eq_true rfl, Nat.le_of_ble_eq_true rfl⟩) hEV hP 0 rfl rfl rfl hl.1 rfl (Nat.le_of_ble_eq_true rfl) dX2_ownersOfInheritable_46 ⟨Nat.zero_le _, Nat.zero_le _⟩ ?_
            refine lv_if_eq (tgt := 65) hx hb dX2_ownersOfInheritable_49 (by decide) (fun c_49 => ?_) (fun c_49 => ?_)
            · have c_49 : ¬ ((inhB γ n4) = true) := b2i_f c_49
              have hE := (if_neg c_49).symm.trans hE
              refine lv_iinc (v := nI (n4 + 1)) (lv' := [(4, .int (nI (n4 + 1))), (3, .int v3), (2, .int (kyF true x)), (0, .ref (a 0))]) hx hb dX2_ownersOfInheritable_65 hl (k := 0) rfl (nI_1 _) (by decide) rfl (fun ls hl => ?_)
              refine lv_goto (tgt := 11) hx hb dX2_ownersOfInheritable_68 (by decide) ?_
              exact ih_11 (n4 + 1) v3 ls (by omega) (by omega) (lv_sub hl [0, 1, 2, 3] rfl) hE
            · have c_49 : (inhB γ n4) = true := b2i_t c_49
              have hE := (if_pos c_49).symm.trans hE
              refine lv_iload_n hx hb dX2_ownersOfInheritable_52 rfl (lv_at hl 1 rfl) ?_
              refine lv_aload_n hx hb dX2_ownersOfInheritable_53 rfl (lv_at hl 3 rfl) ?_
              refine va_get (D := D) (ci := 2) (v := .ref (a 1)) (C := RX2) (T := TX2) (N := 6) hx hb hts (fun w9 h9 => List.mem_cons_of_mem _ (inT_X2 w9 h9)) hown hK hP 0 rfl rfl 2 (by decide) (hts (.fieldLink RX2 9 "LinkPredictor$Members" "owners" "[I") (List.mem_cons_of_mem _ mw_1_111)) (fun _ h9 => h9) rfl dX2_ownersOfInheritable_54 ?_
              refine lv_iload hx hb dX2_ownersOfInheritable_57 (lv_at hl 0 rfl) ?_
              refine ro_ald hx hb hEV hP 1 (j := n4) rfl (by omega) (by decide) dX2_ownersOfInheritable_59 ?_
              refine top_eq ((ok.ow (by omega)).trans (wf n4 (by omega)).2) ?_
              have how := (wf n4 (by omega)).1
              refine ro_SN [.int (nI (sN (γ 0 n4)))] [.int v3] ⟨hx, hb, hml, hown, hts⟩ (c_X4_bit l D cI cZ cB cR (sN (γ 0 n4)) (by omega)) (va_cnB (host := "LinkPredictor") 1 hts (goodC mw_1_33) rfl rfl rfl (hEV.2 (.methodLinkNest RX2 39 yX4_bit "LinkPredictor") (by decide +kernel)) (hts (.initialized RX4) (List.mem_cons_of_mem _ mw_1_1)) (by decide +kernel) ⟨Nat.le_of_ble_eq_true rfl, Nat.le_of_ble_eq_true rfl⟩) (hts (.static yX4_bit) (List.mem_cons_of_mem _ mw_1_32)) hEV va_P0 rfl hl.1 rfl (Nat.le_of_ble_eq_true rfl) dX2_ownersOfInheritable_60 ⟨Nat.zero_le _, Nat.zero_le _⟩ ?_
              refine lv_ior hx hb dX2_ownersOfInheritable_63 ?_
              refine lv_istore_n (lv' := [(3, .int (v3 ||| (bm (sN (γ 0 n4))))), (4, .int (nI n4)), (2, .int (kyF true x)), (0, .ref (a 0))]) hx hb dX2_ownersOfInheritable_64 rfl hl (by decide) rfl (fun ls hl => ?_)
              refine lv_iinc (v := nI (n4 + 1)) (lv' := [(4, .int (nI (n4 + 1))), (3, .int (v3 ||| (bm (sN (γ 0 n4))))), (2, .int (kyF true x)), (0, .ref (a 0))]) hx hb dX2_ownersOfInheritable_65 hl (k := 1) rfl (nI_1 _) (by decide) rfl (fun ls hl => ?_)
              refine lv_goto (tgt := 11) hx hb dX2_ownersOfInheritable_68 (by decide) ?_
              exact ih_11 (n4 + 1) (v3 ||| (bm (sN (γ 0 n4)))) ls (by omega) (by omega) (lv_sub hl [0, 1, 2, 3] rfl) hE
  refine lv_iconst (v := (1 : Int32)) hx hb dX2_ownersOfInheritable_0 (by decide) ?_
  refine lv_iload_n hx hb dX2_ownersOfInheritable_1 rfl (lv_at hl 1 rfl) ?_
  refine ro_S [.int (1 : Int32), .int x] [] ⟨hx, hb, hml, hown, hts⟩ (c_X2_keyOf l D cI cZ cB cR true x) (va_cwS 2 hts (goodP (ps := [.methodLink RX2 28 yX2_keyOf, .static yX2_keyOf, .initialized RX2]) (all3 mw_1_226 mw_1_227 mw_1_4) mw_1_228) rfl rfl rfl (by decide +kernel) ⟨Nat.le_of_ble_eq_true rfl, Nat.le_of_ble_eq_true rfl⟩) hEV va_P0 rfl hl.1 rfl (Nat.le_of_ble_eq_true rfl) dX2_ownersOfInheritable_2 ⟨Nat.zero_le _, Nat.zero_le _⟩ ?_
  refine lv_istore_n (lv' := [(2, .int (kyF true x)), (0, .ref (a 0)), (1, .int x)]) hx hb dX2_ownersOfInheritable_5 rfl hl (by decide) rfl (fun ls hl => ?_)
  refine lv_iconst (v := (0 : Int32)) hx hb dX2_ownersOfInheritable_6 (by decide) ?_
  refine lv_istore_n (lv' := [(3, .int (0 : Int32)), (2, .int (kyF true x)), (0, .ref (a 0)), (1, .int x)]) hx hb dX2_ownersOfInheritable_7 rfl hl (by decide) rfl (fun ls hl => ?_)
  refine lv_iconst (v := (0 : Int32)) hx hb dX2_ownersOfInheritable_8 (by decide) ?_
  refine lv_istore (lv' := [(4, .int (0 : Int32)), (3, .int (0 : Int32)), (2, .int (kyF true x)), (0, .ref (a 0)), (1, .int x)]) hx hb dX2_ownersOfInheritable_9 hl (by decide) rfl (fun ls hl => ?_)
  exact key_11 31 0 (0 : Int32) ls (by omega) (by omega) (lv_sub hl [0, 1, 2, 3] rfl) hE
def p_X2_countAbstractMethods_4 (g : Nat → Nat → Int32) (γ : Nat → Nat → Int32) (n : Nat)  : Nat → Nat → Int32 → Int32
  | 0, _, _ => 0
  | k + 1, n2, v1 => if n ≤ n2 then (v1) else (if (g 1 n2) < (15 : Int32) then (p_X2_countAbstractMethods_4 g γ n k (n2 + 1) (v1 + (0 : Int32))) else (if (bt (γ 3 n2) 1) = true then (if (bt (g 4 1) n2) = true then (p_X2_countAbstractMethods_4 g γ n k (n2 + 1) (v1 + (0 : Int32))) else (p_X2_countAbstractMethods_4 g γ n k (n2 + 1) (v1 + (1 : Int32)))) else (p_X2_countAbstractMethods_4 g γ n k (n2 + 1) (v1 + (0 : Int32)))))
def p_X2_countAbstractMethods (g : Nat → Nat → Int32) (γ : Nat → Nat → Int32) (n : Nat)  : Int32 := p_X2_countAbstractMethods_4 g γ n 31 0 (0 : Int32)
def abM (γ : Nat → Nat → Int32) (m : Nat) : Bool := !decide (γ 1 m < 15) && bt (γ 3 m) 1 && !(goB γ m)
theorem pl_X2_cam (g γ : Nat → Nat → Int32) (n : Nat) (ok : OKM g γ n) : ∀ k i v, 30 - i < k → i ≤ n → v = nI (cnF (abM γ) i) → p_X2_countAbstractMethods_4 g γ n k i v = nI (cnF (abM γ) n) := by
  intro k
  have hn30 := ok.2.1
  induction k with
  | zero => intro i v h1; omega
  | succ k ih =>
    intro i v hk hi hv
    rw [p_X2_countAbstractMethods_4]
    by_cases c : n ≤ i
    · rw [if_pos c]
      have e : i = n := by omega
      subst e
      exact hv
    · rw [if_neg c]
      have him : i < n := by omega
      rw [ok.ky him, ok.go him]
      have s0 : abM γ i = false → p_X2_countAbstractMethods_4 g γ n k (i + 1) (v + 0) = nI (cnF (abM γ) n) := fun q => ih (i + 1) _ (by omega) (by omega) (by rw [cnF_f (by simp [q]), hv]; exact Int32.add_zero _)
      have s1 : abM γ i = true → p_X2_countAbstractMethods_4 g γ n k (i + 1) (v + 1) = nI (cnF (abM γ) n) := fun q => ih (i + 1) _ (by omega) (by omega) (by rw [cnF_t q, hv]; exact nI_1 _)
      by_cases c1 : γ 1 i < 15
      · rw [if_pos c1]; exact s0 (by simp [abM, c1])
      · rw [if_neg c1]
        by_cases c2 : bt (γ 3 i) 1 = true
        · rw [if_pos c2]
          by_cases c3 : goB γ i = true
          · rw [if_pos c3]; exact s0 (by simp [abM, c3])
          · rw [if_neg c3]; exact s1 (by simp [abM, c1, c2, c3])
        · rw [if_neg c2]; exact s0 (by simp [abM, c2])
theorem pe_X2_countAbstractMethods (g : Nat → Nat → Int32) (γ : Nat → Nat → Int32) (n : Nat)  (ok : OKM g γ n)  : p_X2_countAbstractMethods g γ n = nI (cnF (abM γ) n) := pl_X2_cam g γ n ok 31 0 0 (by omega) (by omega) nI_0.symm
set_option maxHeartbeats 4000000 in
set_option maxRecDepth 100000 in
theorem c_X2_countAbstractMethods (l : Launch) (D : va_G) (cI cZ cB cR : ClassId) (a : Nat → Nat) (g : Nat → Nat → Int32) (γ : Nat → Nat → Int32) (n : Nat)  (ok : OKM g γ n)  : RO l yX2_countAbstractMethods wsX2_countAbstractMethods ({ frames := 1, cells := 0, slots := 0, locals := 21 } : Room) D cI cZ cB cR (wM cI a g) [.ref (a 0)] (nI (cnF (abM γ) n)) := by
  have hE : p_X2_countAbstractMethods g γ n = nI (cnF (abM γ) n) := pe_X2_countAbstractMethods g γ n ok
  refine Met.ofW (cc := cX2_countAbstractMethods) (maxL := 3) (ret := (some .int)) (by decide) rfl ?_
  intro p e s m args below meth c s₁ B hml hv
  obtain ⟨hargs, hP, hEV⟩ := hv
  have hx := B.exec
  have hb := B.bytes
  have hr := B.returns
  have hts := atoms_spec (ws := wsX2_countAbstractMethods) B.pre
  have hown : s.vm.findClass RX2 = some m.cls := findClass_of_methodNamed B.named
  have hlocks := B.notSynchronized
  have hK := hEV.1
  have hl := lv_entry ([.ref (a 0)]) (n := 3) (Nat.le_of_ble_eq_true rfl)
  rw [show entryFrame m args 3 = entryFrame m ([.ref (a 0)] : List Value).toArray 3 from by rw [hargs], lg_entry_eq]
  generalize (lg_sl ([.ref (a 0)]) ++ List.replicate (3 - (lg_sl ([.ref (a 0)])).length) Slot.unset).toArray = ls at hl ⊢
  have hl : lv_has ls 3 [(0, .ref (a 0))] := hl
  rw [p_X2_countAbstractMethods] at hE
  have hn30 := ok.2.1
  have key_4 : ∀ (k_4 : Nat) (n2 : Nat) (v1 : Int32) (ls : Array Slot), (30 - n2) < k_4 → n2 ≤ n → lv_has ls 3 [(2, .int (nI n2)), (1, .int v1), (0, .ref (a 0))] → p_X2_countAbstractMethods_4 g γ n k_4 n2 v1 = nI (cnF (abM γ) n) → W p l e (headSpec wsX2_countAbstractMethods ({ frames := 1, cells := 0, slots := 0, locals := 21 } : Room)).room s m args below meth c s.heap [] 0 0 (MQ below (vp_Si (fun r => r = nI (cnF (abM γ) n))) args s 0 0 (fun _ => False)) (F0 m 4 ls []) := by
    intro k_4
    induction k_4 with
    | zero => intro n2 v1 ls hm; exact absurd hm (Nat.not_lt_zero _)
    | succ k_4 ih_4 =>
      intro n2 v1 ls hm_4 hi_4_0 hl hE
      rw [p_X2_countAbstractMethods_4] at hE
      refine lv_iload_n hx hb dX2_countAbstractMethods_4 rfl (lv_at hl 0 rfl) ?_
      refine lv_aload_n hx hb dX2_countAbstractMethods_5 rfl (lv_at hl 2 rfl) ?_
      refine va_get (D := D) (ci := 2) (v := .int (g 4 0)) (C := RX2) (T := TX2) (N := 6) hx hb hts (fun w9 h9 => List.mem_cons_of_mem _ (inT_X2 w9 h9)) hown hK hP 0 rfl rfl 0 (by decide) (hts (.fieldLink RX2 24 "LinkPredictor$Members" "size" "I") (List.mem_cons_of_mem _ mw_1_109)) (fun _ h9 => h9) rfl dX2_countAbstractMethods_6 ?_
      refine top_eq (ok.1) ?_
      refine lv_icmp_ge (tgt := 56) hx hb dX2_countAbstractMethods_9 (by decide) (fun c_9 => ?_) (fun c_9 => ?_)
      · have c_9 : n ≤ n2 := (nI_leI (a := n) (b := n2) (by omega) (by omega)).mp c_9
        have hE := (if_pos c_9).symm.trans hE
        refine lv_iload_n hx hb dX2_countAbstractMethods_56 rfl (lv_at hl 1 rfl) ?_
        exact W.iret hx hb hr (fun t9 ht9 _ => ⟨_, rfl, hE, ht9⟩) (fun _ h9 => by cases h9) dX2_countAbstractMethods_57
      · have c_9 : ¬ (n ≤ n2) := fun q9 => c_9 ((nI_leI (a := n) (b := n2) (by omega) (by omega)).mpr q9)
        have hE := (if_neg c_9).symm.trans hE
        refine lv_iload_n hx hb dX2_countAbstractMethods_12 rfl (lv_at hl 1 rfl) ?_
        refine lv_aload_n hx hb dX2_countAbstractMethods_13 rfl (lv_at hl 2 rfl) ?_
        refine va_get (D := D) (ci := 2) (v := .ref (a 2)) (C := RX2) (T := TX2) (N := 6) hx hb hts (fun w9 h9 => List.mem_cons_of_mem _ (inT_X2 w9 h9)) hown hK hP 0 rfl rfl 3 (by decide) (hts (.fieldLink RX2 15 "LinkPredictor$Members" "keys" "[I") (List.mem_cons_of_mem _ mw_1_112)) (fun _ h9 => h9) rfl dX2_countAbstractMethods_14 ?_
        refine lv_iload_n hx hb dX2_countAbstractMethods_17 rfl (lv_at hl 0 rfl) ?_
        refine ro_ald hx hb hEV hP 2 (j := n2) rfl (by omega) (by decide) dX2_countAbstractMethods_18 ?_
        refine lv_bipush (v := (15 : Int32)) hx hb dX2_countAbstractMethods_19 (by decide) ?_
        refine lv_icmp_lt (tgt := 47) hx hb dX2_countAbstractMethods_21 (by decide) (fun c_21 => ?_) (fun c_21 => ?_)
        · skip
          have hE := (if_pos c_21).symm.trans hE
          refine lv_iconst (v := (0 : Int32)) hx hb dX2_countAbstractMethods_47 (by decide) ?_
          refine lv_iadd hx hb dX2_countAbstractMethods_48 ?_
          refine lv_istore_n (lv' := [(1, .int (v1 + (0 : Int32))), (2, .int (nI n2)), (0, .ref (a 0))]) hx hb dX2_countAbstractMethods_49 rfl hl (by decide) rfl (fun ls hl => ?_)
          refine lv_iinc (v := nI (n2 + 1)) (lv' := [(2, .int (nI (n2 + 1))), (1, .int (v1 + (0 : Int32))), (0, .ref (a 0))]) hx hb dX2_countAbstractMethods_50 hl (k := 1) rfl (nI_1 _) (by decide) rfl (fun ls hl => ?_)
          refine lv_goto (tgt := 4) hx hb dX2_countAbstractMethods_53 (by decide) ?_
          exact ih_4 (n2 + 1) (v1 + (0 : Int32)) ls (by omega) (by omega) (lv_sub hl [0, 1, 2] rfl) hE
        · skip
          have hE := (if_neg c_21).symm.trans hE
          refine lv_aload_n hx hb dX2_countAbstractMethods_24 rfl (lv_at hl 2 rfl) ?_
          refine lv_iload_n hx hb dX2_countAbstractMethods_25 rfl (lv_at hl 0 rfl) ?_
          refine ro_V [.int (nI n2)] [.int v1] ⟨hx, hb, hml, hown, hts⟩ (c_X2_isAbstract l D cI cZ cB cR a g γ n n2 ok (by omega)) (cwV (C := RX2) 1 hts (goodP (ps := [.methodLink RX2 61 yX2_isAbstract, .instanceMethod yX2_isAbstract, .selects RX2 yX2_isAbstract yX2_isAbstract, .initialized RX2]) (all4 mw_3_54 mw_2_155 mw_2_156 mw_1_4) mw_2_157) rfl rfl rfl (by decide +kernel) ⟨Nat.le_of_ble_eq_true rfl, Nat.le_of_ble_eq_true rfl⟩) hEV hP 0 rfl rfl rfl hl.1 rfl (Nat.le_of_ble_eq_true rfl) dX2_countAbstractMethods_26 ⟨Nat.zero_le _, Nat.zero_le _⟩ ?_
          refine lv_if_eq (tgt := 47) hx hb dX2_countAbstractMethods_29 (by decide) (fun c_29 => ?_) (fun c_29 => ?_)
          · have c_29 : ¬ ((bt (γ 3 n2) 1) = true) := b2i_f c_29
            have hE := (if_neg c_29).symm.trans hE
            refine lv_iconst (v := (0 : Int32)) hx hb dX2_countAbstractMethods_47 (by decide) ?_
            refine lv_iadd hx hb dX2_countAbstractMethods_48 ?_
            refine lv_istore_n (lv' := [(1, .int (v1 + (0 : Int32))), (2, .int (nI n2)), (0, .ref (a 0))]) hx hb dX2_countAbstractMethods_49 rfl hl (by decide) rfl (fun ls hl => ?_)
            refine lv_iinc (v := nI (n2 + 1)) (lv' := [(2, .int (nI (n2 + 1))), (1, .int (v1 + (0 : Int32))), (0, .ref (a 0))]) hx hb dX2_countAbstractMethods_50 hl (k := 1) rfl (nI_1 _) (by decide) rfl (fun ls hl => ?_)
            refine lv_goto (tgt := 4) hx hb dX2_countAbstractMethods_53 (by decide) ?_
            exact ih_4 (n2 + 1) (v1 + (0 : Int32)) ls (by omega) (by omega) (lv_sub hl [0, 1, 2] rfl) hE
          · have c_29 : (bt (γ 3 n2) 1) = true := b2i_t c_29
            have hE := (if_pos c_29).symm.trans hE
            refine lv_aload_n hx hb dX2_countAbstractMethods_32 rfl (lv_at hl 2 rfl) ?_
            refine va_get (D := D) (ci := 2) (v := .int (g 4 1)) (C := RX2) (T := TX2) (N := 6) hx hb hts (fun w9 h9 => List.mem_cons_of_mem _ (inT_X2 w9 h9)) hown hK hP 0 rfl rfl 1 (by decide) (hts (.fieldLink RX2 36 "LinkPredictor$Members" "gone" "I") (List.mem_cons_of_mem _ mw_1_110)) (fun _ h9 => h9) rfl dX2_countAbstractMethods_33 ?_
            refine lv_iload_n hx hb dX2_countAbstractMethods_36 rfl (lv_at hl 0 rfl) ?_
            refine ro_SN [.int (g 4 1), .int (nI n2)] [.int v1] ⟨hx, hb, hml, hown, hts⟩ (c_X4_contains l D cI cZ cB cR (g 4 1) n2 (by omega)) (va_cnB (host := "LinkPredictor") 2 hts (goodC mw_1_48) rfl rfl rfl (hEV.2 (.methodLinkNest RX2 49 yX4_contains "LinkPredictor") (by decide +kernel)) (hts (.initialized RX4) (List.mem_cons_of_mem _ mw_1_1)) (by decide +kernel) ⟨Nat.le_of_ble_eq_true rfl, Nat.le_of_ble_eq_true rfl⟩) (hts (.static yX4_contains) (List.mem_cons_of_mem _ mw_1_47)) hEV va_P0 rfl hl.1 rfl (Nat.le_of_ble_eq_true rfl) dX2_countAbstractMethods_37 ⟨Nat.zero_le _, Nat.zero_le _⟩ ?_
            refine lv_if_ne (tgt := 47) hx hb dX2_countAbstractMethods_40 (by decide) (fun c_40 => ?_) (fun c_40 => ?_)
            · have c_40 : (bt (g 4 1) n2) = true := b2i_t c_40
              have hE := (if_pos c_40).symm.trans hE
              refine lv_iconst (v := (0 : Int32)) hx hb dX2_countAbstractMethods_47 (by decide) ?_
              refine lv_iadd hx hb dX2_countAbstractMethods_48 ?_
              refine lv_istore_n (lv' := [(1, .int (v1 + (0 : Int32))), (2, .int (nI n2)), (0, .ref (a 0))]) hx hb dX2_countAbstractMethods_49 rfl hl (by decide) rfl (fun ls hl => ?_)
              refine lv_iinc (v := nI (n2 + 1)) (lv' := [(2, .int (nI (n2 + 1))), (1, .int (v1 + (0 : Int32))), (0, .ref (a 0))]) hx hb dX2_countAbstractMethods_50 hl (k := 1) rfl (nI_1 _) (by decide) rfl (fun ls hl => ?_)
              refine lv_goto (tgt := 4) hx hb dX2_countAbstractMethods_53 (by decide) ?_
              exact ih_4 (n2 + 1) (v1 + (0 : Int32)) ls (by omega) (by omega) (lv_sub hl [0, 1, 2] rfl) hE
            · have c_40 : ¬ ((bt (g 4 1) n2) = true) := b2i_f c_40
              have hE := (if_neg c_40).symm.trans hE
              refine lv_iconst (v := (1 : Int32)) hx hb dX2_countAbstractMethods_43 (by decide) ?_
              refine lv_goto (tgt := 48) hx hb dX2_countAbstractMethods_44 (by decide) ?_
              refine lv_iadd hx hb dX2_countAbstractMethods_48 ?_
              refine lv_istore_n (lv' := [(1, .int (v1 + (1 : Int32))), (2, .int (nI n2)), (0, .ref (a 0))]) hx hb dX2_countAbstractMethods_49 rfl hl (by decide) rfl (fun ls hl => ?_)
              refine lv_iinc (v := nI (n2 + 1)) (lv' := [(2, .int (nI (n2 + 1))), (1, .int (v1 + (1 : Int32))), (0, .ref (a 0))]) hx hb dX2_countAbstractMethods_50 hl (k := 1) rfl (nI_1 _) (by decide) rfl (fun ls hl => ?_)
              refine lv_goto (tgt := 4) hx hb dX2_countAbstractMethods_53 (by decide) ?_
              exact ih_4 (n2 + 1) (v1 + (1 : Int32)) ls (by omega) (by omega) (lv_sub hl [0, 1, 2] rfl) hE
  refine lv_iconst (v := (0 : Int32)) hx hb dX2_countAbstractMethods_0 (by decide) ?_
  refine lv_istore_n (lv' := [(1, .int (0 : Int32)), (0, .ref (a 0))]) hx hb dX2_countAbstractMethods_1 rfl hl (by decide) rfl (fun ls hl => ?_)
  refine lv_iconst (v := (0 : Int32)) hx hb dX2_countAbstractMethods_2 (by decide) ?_
  refine lv_istore_n (lv' := [(2, .int (0 : Int32)), (1, .int (0 : Int32)), (0, .ref (a 0))]) hx hb dX2_countAbstractMethods_3 rfl hl (by decide) rfl (fun ls hl => ?_)
  exact key_4 31 0 (0 : Int32) ls (by omega) (by omega) (lv_sub hl [0, 1, 2] rfl) hE
