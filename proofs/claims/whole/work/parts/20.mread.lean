/-! ===== the reference: its rows as tables ===== -/
def vwX (x : Nat → Nat → Int32) (w : Nat) : Nat → Nat → Int32 := fun k t => x k (12 * w + t)
/-- members: owner, key, access, marks, gone -/
def vmX (x : Nat → Nat → Int32) (w : Nat) : Nat → Nat → Int32 := fun k m => if k = 0 then x 9 (30 * w + m) else if k = 1 then kyF (!decide (x 6 (30 * w + m) = 0)) (x 10 (30 * w + m)) else if k = 2 then x 11 (30 * w + m) else if k = 3 then x 12 (30 * w + m) else x 7 (30 * w + m)
def isS (v : Int32) : Prop := sN v < 15 ∧ v = nI (sN v)
def isA (v : Int32) : Prop := sN v < 4 ∧ v = nI (sN v)
def WX (x : Nat → Nat → Int32) (w n : Nat) : Prop := WFT (vwX x w) ∧ x 8 w = nI n ∧ n ≤ 30 ∧ ∀ m, m < n → isT (x 9 (30 * w + m)) ∧ isS (x 10 (30 * w + m)) ∧ (x 6 (30 * w + m) = 0 ∨ x 6 (30 * w + m) = 1) ∧ isA (x 11 (30 * w + m))
theorem WX.wm {x : Nat → Nat → Int32} {w n : Nat} (h : WX x w n) : WFM (vmX x w) n := fun m hm => (h.2.2.2 m hm).1
theorem ky_eq {z z2 : Bool} {v : Int32} {s : Nat} (hv : isS v) (hs : s < 15) : kyF z2 v = kyF z (nI s) ↔ z2 = z ∧ v = nI s := by
  constructor
  · intro h
    rw [hv.2] at h ⊢
    have h1 := hv.1
    cases z <;> cases z2 <;> simp only [kyF, if_true, if_false, Bool.false_eq_true] at h
    · exact ⟨rfl, h⟩
    · have e : nI (15 + sN v) = nI s := by rw [← nI_add]; exact h
      rw [nI_eq (by omega) (by omega)] at e; omega
    · have e : nI (sN v) = nI (15 + s) := by rw [← nI_add]; exact h
      rw [nI_eq (by omega) (by omega)] at e; omega
    · have e : nI (15 + sN v) = nI (15 + s) := by rw [← nI_add, ← nI_add]; exact h
      rw [nI_eq (by omega) (by omega)] at e
      exact ⟨rfl, by rw [show sN v = s by omega]⟩
  · rintro ⟨h1, h2⟩; rw [h1, h2]
/-- the member of a type itself, as the reference tells it -/
def odI (γ : Nat → Nat → Int32) (n t : Nat) (key : Int32) : Int32 := if fdN γ n t key < n then nI (fdN γ n t key) else -1
theorem odI_nat {γ : Nat → Nat → Int32} {n t : Nat} {key : Int32} (h : ¬ odI γ n t key < 0) : fdN γ n t key < n ∧ odI γ n t key = nI (fdN γ n t key) := by
  unfold odI at h ⊢
  by_cases c : fdN γ n t key < n
  · rw [if_pos c]; exact ⟨c, rfl⟩
  · rw [if_neg c] at h; exact absurd (by decide) h
def p_X5_in (x : Int32) (y : Int32) : Int32 := if x < (0 : Int32) then ((0 : Int32)) else (if y ≤ x then ((0 : Int32)) else ((1 : Int32)))
theorem pe_X5_in (x : Int32) (y : Int32)  : p_X5_in x y = b2i (wi x y) := by
  unfold p_X5_in wi
  by_cases h1 : x < 0 <;> by_cases h2 : y ≤ x <;> simp [h1, h2, b2i]
set_option maxHeartbeats 4000000 in
set_option maxRecDepth 100000 in
theorem c_X5_in (l : Launch) (D : va_G) (cI cZ cB cR : ClassId) (x : Int32) (y : Int32) : RO l yX5_in wsX5_in ({ frames := 0, cells := 0, slots := 0, locals := 0 } : Room) D cI cZ cB cR ([]) [.int x, .int y] (b2i (wi x y)) := by
  have hE : p_X5_in x y = b2i (wi x y) := pe_X5_in x y
  refine Met.ofW (cc := cX5_in) (maxL := 2) (ret := (some .boolean)) (by decide) rfl ?_
  intro p e s m args below meth c s₁ B hml hv
  obtain ⟨hargs, hP, hEV⟩ := hv
  have hx := B.exec
  have hb := B.bytes
  have hr := B.returns
  have hts := atoms_spec (ws := wsX5_in) B.pre
  have hown : s.vm.findClass RX5 = some m.cls := findClass_of_methodNamed B.named
  have hlocks := B.notSynchronized
  have hK := hEV.1
  have hl := lv_entry ([.int x, .int y]) (n := 2) (Nat.le_of_ble_eq_true rfl)
  rw [show entryFrame m args 2 = entryFrame m ([.int x, .int y] : List Value).toArray 2 from by rw [hargs], lg_entry_eq]
  generalize (lg_sl ([.int x, .int y]) ++ List.replicate (2 - (lg_sl ([.int x, .int y])).length) Slot.unset).toArray = ls at hl ⊢
  have hl : lv_has ls 2 [(0, .int x), (1, .int y)] := hl
  rw [p_X5_in] at hE
  refine lv_iload_n hx hb dX5_in_0 rfl (lv_at hl 0 rfl) ?_
  refine lv_if_lt (tgt := 13) hx hb dX5_in_1 (by decide) (fun c_1 => ?_) (fun c_1 => ?_)
  · skip
    have hE := (if_pos c_1).symm.trans hE
    refine lv_iconst (v := (0 : Int32)) hx hb dX5_in_13 (by decide) ?_
    exact W.zret hx hb hr rfl (fun t9 ht9 _ => ⟨_, rfl, hE, ht9⟩) (fun _ h9 => by cases h9) dX5_in_14
  · skip
    have hE := (if_neg c_1).symm.trans hE
    refine lv_iload_n hx hb dX5_in_4 rfl (lv_at hl 0 rfl) ?_
    refine lv_iload_n hx hb dX5_in_5 rfl (lv_at hl 1 rfl) ?_
    refine lv_icmp_ge (tgt := 13) hx hb dX5_in_6 (by decide) (fun c_6 => ?_) (fun c_6 => ?_)
    · skip
      have hE := (if_pos c_6).symm.trans hE
      refine lv_iconst (v := (0 : Int32)) hx hb dX5_in_13 (by decide) ?_
      exact W.zret hx hb hr rfl (fun t9 ht9 _ => ⟨_, rfl, hE, ht9⟩) (fun _ h9 => by cases h9) dX5_in_14
    · skip
      have hE := (if_neg c_6).symm.trans hE
      refine lv_iconst (v := (1 : Int32)) hx hb dX5_in_9 (by decide) ?_
      refine lv_goto (tgt := 14) hx hb dX5_in_10 (by decide) ?_
      exact W.zret hx hb hr rfl (fun t9 ht9 _ => ⟨_, rfl, hE, ht9⟩) (fun _ h9 => by cases h9) dX5_in_14
def p_X5_has (x : Int32) (y : Nat) : Int32 := if ((x >>> ((nI y) &&& 31)) &&& (1 : Int32)) = (1 : Int32) then ((1 : Int32)) else ((0 : Int32))
theorem pe_X5_has (x : Int32) (y : Nat) (hny : y < 32) : p_X5_has x y = b2i (bt x y) := ite_b2i' (shr_eq hny)
set_option maxHeartbeats 4000000 in
set_option maxRecDepth 100000 in
theorem c_X5_has (l : Launch) (D : va_G) (cI cZ cB cR : ClassId) (x : Int32) (y : Nat) (hny : y < 32) : RO l yX5_has wsX5_has ({ frames := 0, cells := 0, slots := 0, locals := 0 } : Room) D cI cZ cB cR ([]) [.int x, .int (nI y)] (b2i (bt x y)) := by
  have hE : p_X5_has x y = b2i (bt x y) := pe_X5_has x y hny
  refine Met.ofW (cc := cX5_has) (maxL := 2) (ret := (some .boolean)) (by decide) rfl ?_
  intro p e s m args below meth c s₁ B hml hv
  obtain ⟨hargs, hP, hEV⟩ := hv
  have hx := B.exec
  have hb := B.bytes
  have hr := B.returns
  have hts := atoms_spec (ws := wsX5_has) B.pre
  have hown : s.vm.findClass RX5 = some m.cls := findClass_of_methodNamed B.named
  have hlocks := B.notSynchronized
  have hK := hEV.1
  have hl := lv_entry ([.int x, .int (nI y)]) (n := 2) (Nat.le_of_ble_eq_true rfl)
  rw [show entryFrame m args 2 = entryFrame m ([.int x, .int (nI y)] : List Value).toArray 2 from by rw [hargs], lg_entry_eq]
  generalize (lg_sl ([.int x, .int (nI y)]) ++ List.replicate (2 - (lg_sl ([.int x, .int (nI y)])).length) Slot.unset).toArray = ls at hl ⊢
  have hl : lv_has ls 2 [(0, .int x), (1, .int (nI y))] := hl
  rw [p_X5_has] at hE
  refine lv_iload_n hx hb dX5_has_0 rfl (lv_at hl 0 rfl) ?_
  refine lv_iload_n hx hb dX5_has_1 rfl (lv_at hl 1 rfl) ?_
  refine lv_ishr hx hb dX5_has_2 ?_
  refine lv_iconst (v := (1 : Int32)) hx hb dX5_has_3 (by decide) ?_
  refine lv_iand hx hb dX5_has_4 ?_
  refine lv_iconst (v := (1 : Int32)) hx hb dX5_has_5 (by decide) ?_
  refine lv_icmp_ne (tgt := 13) hx hb dX5_has_6 (by decide) (fun c_6 => ?_) (fun c_6 => ?_)
  · skip
    have hE := (if_neg c_6).symm.trans hE
    refine lv_iconst (v := (0 : Int32)) hx hb dX5_has_13 (by decide) ?_
    exact W.zret hx hb hr rfl (fun t9 ht9 _ => ⟨_, rfl, hE, ht9⟩) (fun _ h9 => by cases h9) dX5_has_14
  · skip
    have hE := (if_pos c_6).symm.trans hE
    refine lv_iconst (v := (1 : Int32)) hx hb dX5_has_9 (by decide) ?_
    refine lv_goto (tgt := 14) hx hb dX5_has_10 (by decide) ?_
    exact W.zret hx hb hr rfl (fun t9 ht9 _ => ⟨_, rfl, hE, ht9⟩) (fun _ h9 => by cases h9) dX5_has_14
def p_X5_verdict (x : Nat) (y : Nat) : Int32 := nI ((64 * x) + y)
theorem pe_X5_verdict (x : Nat) (y : Nat) (hnx : x < 9) (hny : y < 64) : p_X5_verdict x y = nI (64 * x + y) := rfl
set_option maxHeartbeats 4000000 in
set_option maxRecDepth 100000 in
theorem c_X5_verdict (l : Launch) (D : va_G) (cI cZ cB cR : ClassId) (x : Nat) (y : Nat) (hnx : x < 9) (hny : y < 64) : RO l yX5_verdict wsX5_verdict ({ frames := 0, cells := 0, slots := 0, locals := 0 } : Room) D cI cZ cB cR ([]) [.int (nI x), .int (nI y)] (nI (64 * x + y)) := by
  have hE : p_X5_verdict x y = nI (64 * x + y) := pe_X5_verdict x y hnx hny
  refine Met.ofW (cc := cX5_verdict) (maxL := 2) (ret := (some .int)) (by decide) rfl ?_
  intro p e s m args below meth c s₁ B hml hv
  obtain ⟨hargs, hP, hEV⟩ := hv
  have hx := B.exec
  have hb := B.bytes
  have hr := B.returns
  have hts := atoms_spec (ws := wsX5_verdict) B.pre
  have hown : s.vm.findClass RX5 = some m.cls := findClass_of_methodNamed B.named
  have hlocks := B.notSynchronized
  have hK := hEV.1
  have hl := lv_entry ([.int (nI x), .int (nI y)]) (n := 2) (Nat.le_of_ble_eq_true rfl)
  rw [show entryFrame m args 2 = entryFrame m ([.int (nI x), .int (nI y)] : List Value).toArray 2 from by rw [hargs], lg_entry_eq]
  generalize (lg_sl ([.int (nI x), .int (nI y)]) ++ List.replicate (2 - (lg_sl ([.int (nI x), .int (nI y)])).length) Slot.unset).toArray = ls at hl ⊢
  have hl : lv_has ls 2 [(0, .int (nI x)), (1, .int (nI y))] := hl
  rw [p_X5_verdict] at hE
  refine lv_bipush (v := (64 : Int32)) hx hb dX5_verdict_0 (by decide) ?_
  refine lv_iload_n hx hb dX5_verdict_2 rfl (lv_at hl 0 rfl) ?_
  refine lv_imul hx hb dX5_verdict_3 ?_
  refine top_eq (pk_mul 64 x) ?_
  refine lv_iload_n hx hb dX5_verdict_4 rfl (lv_at hl 1 rfl) ?_
  refine lv_iadd hx hb dX5_verdict_5 ?_
  refine top_eq (nI_add (64 * x) y) ?_
  exact W.iret hx hb hr (fun t9 ht9 _ => ⟨_, rfl, hE, ht9⟩) (fun _ h9 => by cases h9) dX5_verdict_6
noncomputable def p_X5_own_3 (x : Nat → Nat → Int32) (w n : Nat) (t : Nat) (u : Bool) (v : Nat) : Nat → Nat → Int32
  | 0, _ => 0
  | k + 1, n5 => if n ≤ n5 then ((-1 : Int32)) else (if (x 7 ((30 * w) + n5)) = (0 : Int32) then (if (x 9 ((30 * w) + n5)) = (nI t) then (if (x 6 ((30 * w) + n5)) = (b2i u) then (if (x 10 ((30 * w) + n5)) = (nI v) then (nI n5) else (p_X5_own_3 x w n t u v k (n5 + 1))) else (p_X5_own_3 x w n t u v k (n5 + 1))) else (p_X5_own_3 x w n t u v k (n5 + 1))) else (p_X5_own_3 x w n t u v k (n5 + 1)))
noncomputable def p_X5_own (x : Nat → Nat → Int32) (w n : Nat) (t : Nat) (u : Bool) (v : Nat) : Int32 := p_X5_own_3 x w n t u v 31 0
theorem pl_X5_own (x : Nat → Nat → Int32) (w n t : Nat) (u : Bool) (v : Nat) (hw : w < 2) (wx : WX x w n) (ht : t < 12) (hs : v < 15) : ∀ k i, 30 - i < k → i ≤ n → (∀ j, j < i → ownP (vmX x w) t (kyF u (nI v)) j = false) → p_X5_own_3 x w n t u v k i = odI (vmX x w) n t (kyF u (nI v)) := by
  intro k
  have hn30 := wx.2.2.1
  induction k with
  | zero => intro i h1; omega
  | succ k ih =>
    intro i hk hi h0
    rw [p_X5_own_3]
    by_cases c : n ≤ i
    · rw [if_pos c]
      have e : i = n := by omega
      subst e
      unfold odI fdN
      rw [fst_none h0]
      simp
    · rw [if_neg c]
      have him : i < n := by omega
      obtain ⟨w1, w2, w3, -⟩ := wx.2.2.2 i him
      have step : ownP (vmX x w) t (kyF u (nI v)) i = false → p_X5_own_3 x w n t u v k (i + 1) = odI (vmX x w) n t (kyF u (nI v)) := fun q => ih (i + 1) (by omega) (by omega) (fun j hj => by
        rcases Nat.lt_or_ge j i with z9 | z9
        · exact h0 j z9
        · have e : j = i := by omega
          subst e
          exact q)
      have eg : goB (vmX x w) i = !decide (x 7 (30 * w + i) = 0) := rfl
      have ek : (vmX x w 1 i = kyF u (nI v)) ↔ (x 6 (30 * w + i) = b2i u ∧ x 10 (30 * w + i) = nI v) := by
        show kyF (!decide (x 6 (30 * w + i) = 0)) (x 10 (30 * w + i)) = kyF u (nI v) ↔ _
        rw [ky_eq w2 hs]
        refine and_congr ?_ Iff.rfl
        rcases w3 with e | e <;> rw [e] <;> cases u <;> decide
      by_cases c1 : x 7 (30 * w + i) = 0
      · rw [if_pos c1]
        by_cases c2 : x 9 (30 * w + i) = nI t
        · rw [if_pos c2]
          by_cases c3 : x 6 (30 * w + i) = b2i u
          · rw [if_pos c3]
            by_cases c4 : x 10 (30 * w + i) = nI v
            · rw [if_pos c4]
              have q : ownP (vmX x w) t (kyF u (nI v)) i = true := by
                unfold ownP
                rw [decide_eq_true (ek.mpr ⟨c3, c4⟩), eg, decide_eq_true c1, show decide (vmX x w 0 i = nI t) = true from decide_eq_true c2]
                rfl
              unfold odI fdN
              rw [fst_at him q h0, if_pos him]
            · rw [if_neg c4]; exact step (by unfold ownP; rw [decide_eq_false (fun z => c4 (ek.mp z).2)]; rfl)
          · rw [if_neg c3]; exact step (by unfold ownP; rw [decide_eq_false (fun z => c3 (ek.mp z).1)]; rfl)
        · rw [if_neg c2]; exact step (by unfold ownP; rw [show decide (vmX x w 0 i = nI t) = false from decide_eq_false c2]; simp)
      · rw [if_neg c1]; exact step (by unfold ownP; rw [eg]; simp [c1])
theorem pe_X5_own (x : Nat → Nat → Int32) (w n : Nat) (t : Nat) (u : Bool) (v : Nat) (hw : w < 2) (wx : WX x w n) (hnt : t < 12) (hnv : v < 15)  : p_X5_own x w n t u v = odI (vmX x w) n t (kyF u (nI v)) := pl_X5_own x w n t u v hw wx hnt hnv 31 0 (by omega) (by omega) (fun j h => absurd h (Nat.not_lt_zero j))
set_option maxHeartbeats 4000000 in
set_option maxRecDepth 100000 in
theorem c_X5_own (l : Launch) (D : va_G) (cI cZ cB cR : ClassId) (a : Nat → Nat) (x : Nat → Nat → Int32) (r1 r2 : Nat → Int32) (w n : Nat) (t : Nat) (u : Bool) (v : Nat) (hw : w < 2) (wx : WX x w n) (hnt : t < 12) (hnv : v < 15)  : RO l yX5_own wsX5_own ({ frames := 0, cells := 0, slots := 0, locals := 0 } : Room) D cI cZ cB cR (wX cI cZ a x r1 r2) [.ref (a 0), .int (nI w), .int (nI t), .int (b2i u), .int (nI v)] (odI (vmX x w) n t (kyF u (nI v))) := by
  have hE : p_X5_own x w n t u v = odI (vmX x w) n t (kyF u (nI v)) := pe_X5_own x w n t u v hw wx hnt hnv
  refine Met.ofW (cc := cX5_own) (maxL := 7) (ret := (some .int)) (by decide) rfl ?_
  intro p e s m args below meth c s₁ B hml hv
  obtain ⟨hargs, hP, hEV⟩ := hv
  have hx := B.exec
  have hb := B.bytes
  have hr := B.returns
  have hts := atoms_spec (ws := wsX5_own) B.pre
  have hown : s.vm.findClass RX5 = some m.cls := findClass_of_methodNamed B.named
  have hlocks := B.notSynchronized
  have hK := hEV.1
  have hl := lv_entry ([.ref (a 0), .int (nI w), .int (nI t), .int (b2i u), .int (nI v)]) (n := 7) (Nat.le_of_ble_eq_true rfl)
  rw [show entryFrame m args 7 = entryFrame m ([.ref (a 0), .int (nI w), .int (nI t), .int (b2i u), .int (nI v)] : List Value).toArray 7 from by rw [hargs], lg_entry_eq]
  generalize (lg_sl ([.ref (a 0), .int (nI w), .int (nI t), .int (b2i u), .int (nI v)]) ++ List.replicate (7 - (lg_sl ([.ref (a 0), .int (nI w), .int (nI t), .int (b2i u), .int (nI v)])).length) Slot.unset).toArray = ls at hl ⊢
  have hl : lv_has ls 7 [(0, .ref (a 0)), (1, .int (nI w)), (2, .int (nI t)), (3, .int (b2i u)), (4, .int (nI v))] := hl
  rw [p_X5_own] at hE
  have hn30 := wx.2.2.1
  have key_3 : ∀ (k_3 : Nat) (n5 : Nat) (ls : Array Slot), (30 - n5) < k_3 → n5 ≤ n → lv_has ls 7 [(5, .int (nI n5)), (0, .ref (a 0)), (1, .int (nI w)), (2, .int (nI t)), (3, .int (b2i u)), (4, .int (nI v))] → p_X5_own_3 x w n t u v k_3 n5 = odI (vmX x w) n t (kyF u (nI v)) → W p l e (headSpec wsX5_own ({ frames := 0, cells := 0, slots := 0, locals := 0 } : Room)).room s m args below meth c s.heap [] 0 0 (MQ below (vp_Si (fun r => r = odI (vmX x w) n t (kyF u (nI v)))) args s 0 0 (fun _ => False)) (F0 m 3 ls []) := by
    intro k_3
    induction k_3 with
    | zero => intro n5 ls hm; exact absurd hm (Nat.not_lt_zero _)
    | succ k_3 ih_3 =>
      intro n5 ls hm_3 hi_3_0 hl hE
      rw [p_X5_own_3] at hE
      refine lv_iload hx hb dX5_own_3 (lv_at hl 0 rfl) ?_
      refine lv_aload_n hx hb dX5_own_5 rfl (lv_at hl 1 rfl) ?_
      refine va_get (D := D) (ci := 5) (v := .ref (a 9)) (C := RX5) (T := TX5) (N := 21) hx hb hts (fun w9 h9 => List.mem_cons_of_mem _ (inT_X5 w9 h9)) hown hK hP 0 rfl rfl 8 (by decide) (hts (.fieldLink RX5 35 "LinkPredictorModel" "many" "[I") (List.mem_cons_of_mem _ mw_3_74)) (fun _ h9 => h9) rfl dX5_own_6 ?_
      refine lv_iload_n hx hb dX5_own_9 rfl (lv_at hl 2 rfl) ?_
      refine ro_ald hx hb hEV hP 9 (j := w) rfl (by omega) (by decide) dX5_own_10 ?_
      refine top_eq (wx.2.1) ?_
      refine lv_icmp_ge (tgt := 76) hx hb dX5_own_11 (by decide) (fun c_11 => ?_) (fun c_11 => ?_)
      · have c_11 : n ≤ n5 := (nI_leI (a := n) (b := n5) (by omega) (by omega)).mp c_11
        have hE := (if_pos c_11).symm.trans hE
        refine lv_iconst (v := (-1 : Int32)) hx hb dX5_own_76 (by decide) ?_
        exact W.iret hx hb hr (fun t9 ht9 _ => ⟨_, rfl, hE, ht9⟩) (fun _ h9 => by cases h9) dX5_own_77
      · have c_11 : ¬ (n ≤ n5) := fun q9 => c_11 ((nI_leI (a := n) (b := n5) (by omega) (by omega)).mpr q9)
        have hE := (if_neg c_11).symm.trans hE
        refine lv_bipush (v := (30 : Int32)) hx hb dX5_own_14 (by decide) ?_
        refine lv_iload_n hx hb dX5_own_16 rfl (lv_at hl 2 rfl) ?_
        refine lv_imul hx hb dX5_own_17 ?_
        refine top_eq (pk_mul 30 w) ?_
        refine lv_iload hx hb dX5_own_18 (lv_at hl 0 rfl) ?_
        refine lv_iadd hx hb dX5_own_20 ?_
        refine top_eq (nI_add (30 * w) n5) ?_
        refine lv_istore (lv' := [(6, .int (nI ((30 * w) + n5))), (5, .int (nI n5)), (0, .ref (a 0)), (1, .int (nI w)), (2, .int (nI t)), (3, .int (b2i u)), (4, .int (nI v))]) hx hb dX5_own_21 hl (by decide) rfl (fun ls hl => ?_)
        refine lv_aload_n hx hb dX5_own_23 rfl (lv_at hl 2 rfl) ?_
        refine va_get (D := D) (ci := 5) (v := .ref (a 8)) (C := RX5) (T := TX5) (N := 21) hx hb hts (fun w9 h9 => List.mem_cons_of_mem _ (inT_X5 w9 h9)) hown hK hP 0 rfl rfl 7 (by decide) (hts (.fieldLink RX5 32 "LinkPredictorModel" "gone" "[Z") (List.mem_cons_of_mem _ mw_3_73)) (fun _ h9 => h9) rfl dX5_own_24 ?_
        refine lv_iload hx hb dX5_own_27 (lv_at hl 0 rfl) ?_
        refine ro_zld hx hb hEV hP 8 (j := ((30 * w) + n5)) rfl (by omega) (by decide) dX5_own_29 ?_
        refine lv_if_ne (tgt := 70) hx hb dX5_own_30 (by decide) (fun c_30 => ?_) (fun c_30 => ?_)
        · skip
          have hE := (if_neg c_30).symm.trans hE
          refine lv_iinc (v := nI (n5 + 1)) (lv' := [(5, .int (nI (n5 + 1))), (6, .int (nI ((30 * w) + n5))), (0, .ref (a 0)), (1, .int (nI w)), (2, .int (nI t)), (3, .int (b2i u)), (4, .int (nI v))]) hx hb dX5_own_70 hl (k := 1) rfl (nI_1 _) (by decide) rfl (fun ls hl => ?_)
          refine lv_goto (tgt := 3) hx hb dX5_own_73 (by decide) ?_
          exact ih_3 (n5 + 1) ls (by omega) (by omega) (lv_sub hl [0, 2, 3, 4, 5, 6] rfl) hE
        · skip
          have hE := (if_pos c_30).symm.trans hE
          refine lv_aload_n hx hb dX5_own_33 rfl (lv_at hl 2 rfl) ?_
          refine va_get (D := D) (ci := 5) (v := .ref (a 10)) (C := RX5) (T := TX5) (N := 21) hx hb hts (fun w9 h9 => List.mem_cons_of_mem _ (inT_X5 w9 h9)) hown hK hP 0 rfl rfl 9 (by decide) (hts (.fieldLink RX5 38 "LinkPredictorModel" "owner" "[I") (List.mem_cons_of_mem _ mw_3_75)) (fun _ h9 => h9) rfl dX5_own_34 ?_
          refine lv_iload hx hb dX5_own_37 (lv_at hl 0 rfl) ?_
          refine ro_ald hx hb hEV hP 10 (j := ((30 * w) + n5)) rfl (by omega) (by decide) dX5_own_39 ?_
          refine lv_iload_n hx hb dX5_own_40 rfl (lv_at hl 4 rfl) ?_
          refine lv_icmp_ne (tgt := 70) hx hb dX5_own_41 (by decide) (fun c_41 => ?_) (fun c_41 => ?_)
          · skip
            have hE := (if_neg c_41).symm.trans hE
            refine lv_iinc (v := nI (n5 + 1)) (lv' := [(5, .int (nI (n5 + 1))), (6, .int (nI ((30 * w) + n5))), (0, .ref (a 0)), (1, .int (nI w)), (2, .int (nI t)), (3, .int (b2i u)), (4, .int (nI v))]) hx hb dX5_own_70 hl (k := 1) rfl (nI_1 _) (by decide) rfl (fun ls hl => ?_)
            refine lv_goto (tgt := 3) hx hb dX5_own_73 (by decide) ?_
            exact ih_3 (n5 + 1) ls (by omega) (by omega) (lv_sub hl [0, 2, 3, 4, 5, 6] rfl) hE
          · skip
            have hE := (if_pos c_41).symm.trans hE
            refine lv_aload_n hx hb dX5_own_44 rfl (lv_at hl 2 rfl) ?_
            refine va_get (D := D) (ci := 5) (v := .ref (a 7)) (C := RX5) (T := TX5) (N := 21) hx hb hts (fun w9 h9 => List.mem_cons_of_mem _ (inT_X5 w9 h9)) hown hK hP 0 rfl rfl 6 (by decide) (hts (.fieldLink RX5 29 "LinkPredictorModel" "method" "[Z") (List.mem_cons_of_mem _ mw_3_72)) (fun _ h9 => h9) rfl dX5_own_45 ?_
            refine lv_iload hx hb dX5_own_48 (lv_at hl 0 rfl) ?_
            refine ro_zld hx hb hEV hP 7 (j := ((30 * w) + n5)) rfl (by omega) (by decide) dX5_own_50 ?_
            refine lv_iload_n hx hb dX5_own_51 rfl (lv_at hl 5 rfl) ?_
            refine lv_icmp_ne (tgt := 70) hx hb dX5_own_52 (by decide) (fun c_52 => ?_) (fun c_52 => ?_)
            · skip
              have hE := (if_neg c_52).symm.trans hE
              refine lv_iinc (v := nI (n5 + 1)) (lv' := [(5, .int (nI (n5 + 1))), (6, .int (nI ((30 * w) + n5))), (0, .ref (a 0)), (1, .int (nI w)), (2, .int (nI t)), (3, .int (b2i u)), (4, .int (nI v))]) hx hb dX5_own_70 hl (k := 1) rfl (nI_1 _) (by decide) rfl (fun ls hl => ?_)
              refine lv_goto (tgt := 3) hx hb dX5_own_73 (by decide) ?_
              exact ih_3 (n5 + 1) ls (by omega) (by omega) (lv_sub hl [0, 2, 3, 4, 5, 6] rfl) hE
            · skip
              have hE := (if_pos c_52).symm.trans hE
              refine lv_aload_n hx hb dX5_own_55 rfl (lv_at hl 2 rfl) ?_
              refine va_get (D := D) (ci := 5) (v := .ref (a 11)) (C := RX5) (T := TX5) (N := 21) hx hb hts (fun w9 h9 => List.mem_cons_of_mem _ (inT_X5 w9 h9)) hown hK hP 0 rfl rfl 10 (by decide) (hts (.fieldLink RX5 41 "LinkPredictorModel" "sign" "[I") (List.mem_cons_of_mem _ mw_3_76)) (fun _ h9 => h9) rfl dX5_own_56 ?_
              refine lv_iload hx hb dX5_own_59 (lv_at hl 0 rfl) ?_
              refine ro_ald hx hb hEV hP 11 (j := ((30 * w) + n5)) rfl (by omega) (by decide) dX5_own_61 ?_
              refine lv_iload hx hb dX5_own_62 (lv_at hl 6 rfl) ?_
              refine lv_icmp_ne (tgt := 70) hx hb dX5_own_64 (by decide) (fun c_64 => ?_) (fun c_64 => ?_)
              · skip
                have hE := (if_neg c_64).symm.trans hE
                refine lv_iinc (v := nI (n5 + 1)) (lv' := [(5, .int (nI (n5 + 1))), (6, .int (nI ((30 * w) + n5))), (0, .ref (a 0)), (1, .int (nI w)), (2, .int (nI t)), (3, .int (b2i u)), (4, .int (nI v))]) hx hb dX5_own_70 hl (k := 1) rfl (nI_1 _) (by decide) rfl (fun ls hl => ?_)
                refine lv_goto (tgt := 3) hx hb dX5_own_73 (by decide) ?_
                exact ih_3 (n5 + 1) ls (by omega) (by omega) (lv_sub hl [0, 2, 3, 4, 5, 6] rfl) hE
              · skip
                have hE := (if_pos c_64).symm.trans hE
                refine lv_iload hx hb dX5_own_67 (lv_at hl 1 rfl) ?_
                exact W.iret hx hb hr (fun t9 ht9 _ => ⟨_, rfl, hE, ht9⟩) (fun _ h9 => by cases h9) dX5_own_69
  refine lv_iconst (v := (0 : Int32)) hx hb dX5_own_0 (by decide) ?_
  refine lv_istore (lv' := [(5, .int (0 : Int32)), (0, .ref (a 0)), (1, .int (nI w)), (2, .int (nI t)), (3, .int (b2i u)), (4, .int (nI v))]) hx hb dX5_own_1 hl (by decide) rfl (fun ls hl => ?_)
  exact key_3 31 0 ls (by omega) (by omega) (lv_sub hl [0, 1, 2, 3, 4, 5] rfl) hE
noncomputable def p_X5_isChanged_59 (x : Nat → Nat → Int32) (w n : Nat) (t : Nat) : Nat → Nat → Int32
  | 0, _ => 0
  | k + 1, n5 => if 12 ≤ n5 then ((0 : Int32)) else (if (bt (x 4 ((12 * w) + t)) n5) = true then (if ((x 1 ((12 * w) + n5)) &&& (2 : Int32)) = (0 : Int32) then ((1 : Int32)) else (p_X5_isChanged_59 x w n t k (n5 + 1))) else (p_X5_isChanged_59 x w n t k (n5 + 1)))
noncomputable def p_X5_isChanged_56 (x : Nat → Nat → Int32) (w n : Nat) (t : Nat) : Int32 := p_X5_isChanged_59 x w n t 13 0
noncomputable def p_X5_isChanged (x : Nat → Nat → Int32) (w n : Nat) (t : Nat) : Int32 := if (x 3 ((12 * w) + t)) < (0 : Int32) then (p_X5_isChanged_56 x w n t ) else (if ((x 1 ((12 * w) + (sN (x 3 (12 * w + t))))) &&& (10 : Int32)) = (0 : Int32) then (if ((x 1 ((12 * w) + t)) &&& (2 : Int32)) = (0 : Int32) then (p_X5_isChanged_56 x w n t ) else (if (x 3 ((12 * w) + t)) = (0 : Int32) then (p_X5_isChanged_56 x w n t ) else ((1 : Int32)))) else ((1 : Int32)))
theorem pl_X5_isChanged (x : Nat → Nat → Int32) (w n t : Nat) : ∀ k i, 12 - i < k → i ≤ 12 → (∀ j, j < i → (bt (x 4 (12 * w + t)) j && !(bt (x 1 (12 * w + j)) 1)) = false) → p_X5_isChanged_59 x w n t k i = b2i (exB (fun u => bt (vwX x w 4 t) u && !(bt (vwX x w 1 u) 1)) 12) := by
  intro k
  induction k with
  | zero => intro i h1; omega
  | succ k ih =>
    intro i hk hi h0
    rw [p_X5_isChanged_59]
    by_cases c : 12 ≤ i
    · rw [if_pos c]
      have e : i = 12 := by omega
      subst e
      unfold exB
      rw [fst_none h0]
      rfl
    · rw [if_neg c]
      have step : (bt (x 4 (12 * w + t)) i && !(bt (x 1 (12 * w + i)) 1)) = false → p_X5_isChanged_59 x w n t k (i + 1) = b2i (exB (fun u => bt (vwX x w 4 t) u && !(bt (vwX x w 1 u) 1)) 12) := fun q => ih (i + 1) (by omega) (by omega) (fun j hj => by
        rcases Nat.lt_or_ge j i with z9 | z9
        · exact h0 j z9
        · have e : j = i := by omega
          subst e
          exact q)
      by_cases c1 : bt (x 4 (12 * w + t)) i = true
      · rw [if_pos c1]
        by_cases c2 : x 1 (12 * w + i) &&& 2 = 0
        · rw [if_pos c2, exB_iff.mpr ⟨i, by omega, by show (bt (x 4 (12 * w + t)) i && !(bt (x 1 (12 * w + i)) 1)) = true; simp [c1, and2_eq.mp c2]⟩]; rfl
        · rw [if_neg c2]
          have : bt (x 1 (12 * w + i)) 1 = true := Classical.byContradiction (fun z => c2 (and2_eq.mpr z))
          exact step (by simp [this])
      · rw [if_neg c1]; exact step (by simp [c1])
theorem pe_X5_isChanged (x : Nat → Nat → Int32) (w n : Nat) (t : Nat) (hw : w < 2) (wx : WX x w n) (hnt : t < 12)  : p_X5_isChanged x w n t = b2i (wrB (vwX x w) t) := by
  have hl := pl_X5_isChanged x w n t 13 0 (by omega) (by omega) (fun j q => absurd q (Nat.not_lt_zero j))
  have hT := (wx.1.1 t hnt).1
  have e3 : vwX x w 3 t = x 3 (12 * w + t) := rfl
  have h56 : p_X5_isChanged_56 x w n t = b2i (exB (fun u => bt (vwX x w 4 t) u && !(bt (vwX x w 1 u) 1)) 12) := by rw [p_X5_isChanged_56]; exact hl
  rw [p_X5_isChanged, h56]
  unfold wrB
  rw [e3] at hT ⊢
  by_cases c1 : x 3 (12 * w + t) < 0
  · rw [if_pos c1]
    have em : x 3 (12 * w + t) = -1 := by
      rcases hT with e | e
      · exact e
      · rw [e.2] at c1; exact absurd c1 (nI_pos (by have := e.1; omega))
    have hi : bt (vwX x w 1 t) 1 = false := by
      cases q : bt (vwX x w 1 t) 1 with
      | false => rfl
      | true =>
        by_cases z : t = 0
        · subst z
          have := wx.1.2.2.1
          rw [this] at q
          exact absurd q (by decide)
        · exact absurd em ((wx.1.1 t hnt).2.2.1 z)
    simp [em, hi]
  · rw [if_neg c1]
    have hs := hT.resolve_left (fun e => c1 (by rw [e]; decide))
    have nm : ¬ x 3 (12 * w + t) = -1 := fun e => c1 (by rw [e]; decide)
    show (if x 1 (12 * w + sN (x 3 (12 * w + t))) &&& 10 = 0 then _ else _) = _
    by_cases c2 : x 1 (12 * w + sN (x 3 (12 * w + t))) &&& 10 = 0
    · rw [if_pos c2]
      have c2' := and10_eq.mp c2
      simp only [not_or, Bool.not_eq_true] at c2'
      have f1 : bt (vwX x w 1 (sN (x 3 (12 * w + t)))) 1 = false := c2'.1
      have f2 : bt (vwX x w 1 (sN (x 3 (12 * w + t)))) 3 = false := c2'.2
      by_cases c3 : x 1 (12 * w + t) &&& 2 = 0
      · rw [if_pos c3]
        have f3 : ¬ (bt (vwX x w 1 t) 1 = true) := and2_eq.mp c3
        simp [f1, f2, f3]
      · rw [if_neg c3]
        have f3 : bt (vwX x w 1 t) 1 = true := Classical.byContradiction (fun z => c3 (and2_eq.mpr z))
        by_cases c4 : x 3 (12 * w + t) = 0
        · rw [if_pos c4]; simp [f1, f2, f3, c4]
          rw [c4] at f1 f2
          simp [f1, f2]
        · rw [if_neg c4]; simp [f3, c4, b2i]
    · rw [if_neg c2]
      have e : bt (vwX x w 1 (sN (x 3 (12 * w + t)))) 1 = true ∨ bt (vwX x w 1 (sN (x 3 (12 * w + t)))) 3 = true := Classical.byContradiction (fun z => c2 (and10_eq.mpr z))
      rcases e with e | e <;> simp [nm, e, b2i]
set_option maxHeartbeats 4000000 in
set_option maxRecDepth 100000 in
theorem c_X5_isChanged (l : Launch) (D : va_G) (cI cZ cB cR : ClassId) (a : Nat → Nat) (x : Nat → Nat → Int32) (r1 r2 : Nat → Int32) (w n : Nat) (t : Nat) (hw : w < 2) (wx : WX x w n) (hnt : t < 12)  : RO l yX5_isChanged wsX5_isChanged ({ frames := 1, cells := 0, slots := 0, locals := 21 } : Room) D cI cZ cB cR (wX cI cZ a x r1 r2) [.ref (a 0), .int (nI w), .int (nI t)] (b2i (wrB (vwX x w) t)) := by
  have hE : p_X5_isChanged x w n t = b2i (wrB (vwX x w) t) := pe_X5_isChanged x w n t hw wx hnt
  refine Met.ofW (cc := cX5_isChanged) (maxL := 6) (ret := (some .boolean)) (by decide) rfl ?_
  intro p e s m args below meth c s₁ B hml hv
  obtain ⟨hargs, hP, hEV⟩ := hv
  have hx := B.exec
  have hb := B.bytes
  have hr := B.returns
  have hts := atoms_spec (ws := wsX5_isChanged) B.pre
  have hown : s.vm.findClass RX5 = some m.cls := findClass_of_methodNamed B.named
  have hlocks := B.notSynchronized
  have hK := hEV.1
  have hl := lv_entry ([.ref (a 0), .int (nI w), .int (nI t)]) (n := 6) (Nat.le_of_ble_eq_true rfl)
  rw [show entryFrame m args 6 = entryFrame m ([.ref (a 0), .int (nI w), .int (nI t)] : List Value).toArray 6 from by rw [hargs], lg_entry_eq]
  generalize (lg_sl ([.ref (a 0), .int (nI w), .int (nI t)]) ++ List.replicate (6 - (lg_sl ([.ref (a 0), .int (nI w), .int (nI t)])).length) Slot.unset).toArray = ls at hl ⊢
  have hl : lv_has ls 6 [(0, .ref (a 0)), (1, .int (nI w)), (2, .int (nI t))] := hl
  rw [p_X5_isChanged] at hE
  have hn30 := wx.2.2.1
  have key_59 : ∀ (k_59 : Nat) (n5 : Nat) (ls : Array Slot), (12 - n5) < k_59 → n5 ≤ 12 → lv_has ls 6 [(5, .int (nI n5)), (3, .int (nI ((12 * w) + t))), (0, .ref (a 0)), (1, .int (nI w))] → p_X5_isChanged_59 x w n t k_59 n5 = b2i (wrB (vwX x w) t) → W p l e (headSpec wsX5_isChanged ({ frames := 1, cells := 0, slots := 0, locals := 21 } : Room)).room s m args below meth c s.heap [] 0 0 (MQ below (vp_Si (fun r => r = b2i (wrB (vwX x w) t))) args s 0 0 (fun _ => False)) (F0 m 59 ls []) := by
    intro k_59
    induction k_59 with
    | zero => intro n5 ls hm; exact absurd hm (Nat.not_lt_zero _)
    | succ k_59 ih_59 =>
      intro n5 ls hm_59 hi_59_0 hl hE
      rw [p_X5_isChanged_59] at hE
      refine lv_iload hx hb dX5_isChanged_59 (lv_at hl 0 rfl) ?_
      refine lv_bipush (v := (12 : Int32)) hx hb dX5_isChanged_61 (by decide) ?_
      refine lv_icmp_ge (tgt := 105) hx hb dX5_isChanged_63 (by decide) (fun c_63 => ?_) (fun c_63 => ?_)
      · have c_63 : 12 ≤ n5 := (nI_leI (a := 12) (b := n5) (by omega) (by omega)).mp c_63
        have hE := (if_pos c_63).symm.trans hE
        refine lv_iconst (v := (0 : Int32)) hx hb dX5_isChanged_105 (by decide) ?_
        exact W.zret hx hb hr rfl (fun t9 ht9 _ => ⟨_, rfl, hE, ht9⟩) (fun _ h9 => by cases h9) dX5_isChanged_106
      · have c_63 : ¬ (12 ≤ n5) := fun q9 => c_63 ((nI_leI (a := 12) (b := n5) (by omega) (by omega)).mpr q9)
        have hE := (if_neg c_63).symm.trans hE
        refine lv_aload_n hx hb dX5_isChanged_66 rfl (lv_at hl 2 rfl) ?_
        refine va_get (D := D) (ci := 5) (v := .ref (a 5)) (C := RX5) (T := TX5) (N := 21) hx hb hts (fun w9 h9 => List.mem_cons_of_mem _ (inT_X5 w9 h9)) hown hK hP 0 rfl rfl 4 (by decide) (hts (.fieldLink RX5 23 "LinkPredictorModel" "faces" "[I") (List.mem_cons_of_mem _ mw_3_70)) (fun _ h9 => h9) rfl dX5_isChanged_67 ?_
        refine lv_iload_n hx hb dX5_isChanged_70 rfl (lv_at hl 1 rfl) ?_
        refine ro_ald hx hb hEV hP 5 (j := ((12 * w) + t)) rfl (by omega) (by decide) dX5_isChanged_71 ?_
        refine lv_iload hx hb dX5_isChanged_72 (lv_at hl 0 rfl) ?_
        refine ro_S [.int (x 4 ((12 * w) + t)), .int (nI n5)] [] ⟨hx, hb, hml, hown, hts⟩ (c_X5_has l D cI cZ cB cR (x 4 ((12 * w) + t)) n5 (by omega)) (va_cwS 2 hts (goodP (ps := [.methodLink RX5 94 yX5_has, .static yX5_has, .initialized RX5]) (all3 mw_3_201 mw_3_202 mw_1_6) mw_3_203) rfl rfl rfl (by decide +kernel) ⟨Nat.le_of_ble_eq_true rfl, Nat.le_of_ble_eq_true rfl⟩) hEV va_P0 rfl hl.1 rfl (Nat.le_of_ble_eq_true rfl) dX5_isChanged_74 ⟨Nat.zero_le _, Nat.zero_le _⟩ ?_
        refine lv_if_eq (tgt := 99) hx hb dX5_isChanged_77 (by decide) (fun c_77 => ?_) (fun c_77 => ?_)
        · have c_77 : ¬ ((bt (x 4 ((12 * w) + t)) n5) = true) := b2i_f c_77
          have hE := (if_neg c_77).symm.trans hE
          refine lv_iinc (v := nI (n5 + 1)) (lv' := [(5, .int (nI (n5 + 1))), (3, .int (nI ((12 * w) + t))), (0, .ref (a 0)), (1, .int (nI w))]) hx hb dX5_isChanged_99 hl (k := 0) rfl (nI_1 _) (by decide) rfl (fun ls hl => ?_)
          refine lv_goto (tgt := 59) hx hb dX5_isChanged_102 (by decide) ?_
          exact ih_59 (n5 + 1) ls (by omega) (by omega) (lv_sub hl [0, 1, 2, 3] rfl) hE
        · have c_77 : (bt (x 4 ((12 * w) + t)) n5) = true := b2i_t c_77
          have hE := (if_pos c_77).symm.trans hE
          refine lv_aload_n hx hb dX5_isChanged_80 rfl (lv_at hl 2 rfl) ?_
          refine va_get (D := D) (ci := 5) (v := .ref (a 2)) (C := RX5) (T := TX5) (N := 21) hx hb hts (fun w9 h9 => List.mem_cons_of_mem _ (inT_X5 w9 h9)) hown hK hP 0 rfl rfl 1 (by decide) (hts (.fieldLink RX5 13 "LinkPredictorModel" "flags" "[I") (List.mem_cons_of_mem _ mw_3_67)) (fun _ h9 => h9) rfl dX5_isChanged_81 ?_
          refine lv_bipush (v := (12 : Int32)) hx hb dX5_isChanged_84 (by decide) ?_
          refine lv_iload_n hx hb dX5_isChanged_86 rfl (lv_at hl 3 rfl) ?_
          refine lv_imul hx hb dX5_isChanged_87 ?_
          refine top_eq (pk_mul 12 w) ?_
          refine lv_iload hx hb dX5_isChanged_88 (lv_at hl 0 rfl) ?_
          refine lv_iadd hx hb dX5_isChanged_90 ?_
          refine top_eq (nI_add (12 * w) n5) ?_
          refine ro_ald hx hb hEV hP 2 (j := ((12 * w) + n5)) rfl (by omega) (by decide) dX5_isChanged_91 ?_
          refine lv_iconst (v := (2 : Int32)) hx hb dX5_isChanged_92 (by decide) ?_
          refine lv_iand hx hb dX5_isChanged_93 ?_
          refine lv_if_ne (tgt := 99) hx hb dX5_isChanged_94 (by decide) (fun c_94 => ?_) (fun c_94 => ?_)
          · skip
            have hE := (if_neg c_94).symm.trans hE
            refine lv_iinc (v := nI (n5 + 1)) (lv' := [(5, .int (nI (n5 + 1))), (3, .int (nI ((12 * w) + t))), (0, .ref (a 0)), (1, .int (nI w))]) hx hb dX5_isChanged_99 hl (k := 0) rfl (nI_1 _) (by decide) rfl (fun ls hl => ?_)
            refine lv_goto (tgt := 59) hx hb dX5_isChanged_102 (by decide) ?_
            exact ih_59 (n5 + 1) ls (by omega) (by omega) (lv_sub hl [0, 1, 2, 3] rfl) hE
          · skip
            have hE := (if_pos c_94).symm.trans hE
            refine lv_iconst (v := (1 : Int32)) hx hb dX5_isChanged_97 (by decide) ?_
            exact W.zret hx hb hr rfl (fun t9 ht9 _ => ⟨_, rfl, hE, ht9⟩) (fun _ h9 => by cases h9) dX5_isChanged_98
  have key_56 : ∀ (ls : Array Slot), lv_has ls 6 [(3, .int (nI ((12 * w) + t))), (0, .ref (a 0)), (1, .int (nI w))] → p_X5_isChanged_56 x w n t  = b2i (wrB (vwX x w) t) → W p l e (headSpec wsX5_isChanged ({ frames := 1, cells := 0, slots := 0, locals := 21 } : Room)).room s m args below meth c s.heap [] 0 0 (MQ below (vp_Si (fun r => r = b2i (wrB (vwX x w) t))) args s 0 0 (fun _ => False)) (F0 m 56 ls []) := by
    intro  ls  hl hE
    rw [p_X5_isChanged_56] at hE
    refine lv_iconst (v := (0 : Int32)) hx hb dX5_isChanged_56 (by decide) ?_
    refine lv_istore (lv' := [(5, .int (0 : Int32)), (3, .int (nI ((12 * w) + t))), (0, .ref (a 0)), (1, .int (nI w))]) hx hb dX5_isChanged_57 hl (by decide) rfl (fun ls hl => ?_)
    exact key_59 13 0 ls (by omega) (by omega) (lv_sub hl [0, 1, 2, 3] rfl) hE
  refine lv_bipush (v := (12 : Int32)) hx hb dX5_isChanged_0 (by decide) ?_
  refine lv_iload_n hx hb dX5_isChanged_2 rfl (lv_at hl 1 rfl) ?_
  refine lv_imul hx hb dX5_isChanged_3 ?_
  refine top_eq (pk_mul 12 w) ?_
  refine lv_iload_n hx hb dX5_isChanged_4 rfl (lv_at hl 2 rfl) ?_
  refine lv_iadd hx hb dX5_isChanged_5 ?_
  refine top_eq (nI_add (12 * w) t) ?_
  refine lv_istore_n (lv' := [(3, .int (nI ((12 * w) + t))), (0, .ref (a 0)), (1, .int (nI w)), (2, .int (nI t))]) hx hb dX5_isChanged_6 rfl hl (by decide) rfl (fun ls hl => ?_)
  refine lv_aload_n hx hb dX5_isChanged_7 rfl (lv_at hl 1 rfl) ?_
  refine va_get (D := D) (ci := 5) (v := .ref (a 4)) (C := RX5) (T := TX5) (N := 21) hx hb hts (fun w9 h9 => List.mem_cons_of_mem _ (inT_X5 w9 h9)) hown hK hP 0 rfl rfl 3 (by decide) (hts (.fieldLink RX5 20 "LinkPredictorModel" "above" "[I") (List.mem_cons_of_mem _ mw_3_69)) (fun _ h9 => h9) rfl dX5_isChanged_8 ?_
  refine lv_iload_n hx hb dX5_isChanged_11 rfl (lv_at hl 0 rfl) ?_
  refine ro_ald hx hb hEV hP 4 (j := ((12 * w) + t)) rfl (by omega) (by decide) dX5_isChanged_12 ?_
  refine lv_istore (lv' := [(4, .int (x 3 ((12 * w) + t))), (3, .int (nI ((12 * w) + t))), (0, .ref (a 0)), (1, .int (nI w)), (2, .int (nI t))]) hx hb dX5_isChanged_13 hl (by decide) rfl (fun ls hl => ?_)
  refine lv_iload hx hb dX5_isChanged_15 (lv_at hl 0 rfl) ?_
  refine lv_if_lt (tgt := 56) hx hb dX5_isChanged_17 (by decide) (fun c_17 => ?_) (fun c_17 => ?_)
  · skip
    have hE := (if_pos c_17).symm.trans hE
    exact key_56  ls  (lv_sub hl [1, 2, 3] rfl) hE
  · skip
    have hE := (if_neg c_17).symm.trans hE
    have hs9 : isT (x 3 (12 * w + t)) := (wx.1.1 t hnt).1.resolve_left (fun e9 => c_17 (by rw [show x 3 (12 * w + t) = -1 from e9]; decide))
    have hs8 := hs9.1
    refine lv_aload_n hx hb dX5_isChanged_20 rfl (lv_at hl 2 rfl) ?_
    refine va_get (D := D) (ci := 5) (v := .ref (a 2)) (C := RX5) (T := TX5) (N := 21) hx hb hts (fun w9 h9 => List.mem_cons_of_mem _ (inT_X5 w9 h9)) hown hK hP 0 rfl rfl 1 (by decide) (hts (.fieldLink RX5 13 "LinkPredictorModel" "flags" "[I") (List.mem_cons_of_mem _ mw_3_67)) (fun _ h9 => h9) rfl dX5_isChanged_21 ?_
    refine lv_bipush (v := (12 : Int32)) hx hb dX5_isChanged_24 (by decide) ?_
    refine lv_iload_n hx hb dX5_isChanged_26 rfl (lv_at hl 3 rfl) ?_
    refine lv_imul hx hb dX5_isChanged_27 ?_
    refine top_eq (pk_mul 12 w) ?_
    refine lv_iload hx hb dX5_isChanged_28 (lv_at hl 0 rfl) ?_
    refine top_eq (hs9.2) ?_
    refine lv_iadd hx hb dX5_isChanged_30 ?_
    refine top_eq (nI_add (12 * w) (sN (x 3 (12 * w + t)))) ?_
    refine ro_ald hx hb hEV hP 2 (j := ((12 * w) + (sN (x 3 (12 * w + t))))) rfl (by omega) (by decide) dX5_isChanged_31 ?_
    refine lv_bipush (v := (10 : Int32)) hx hb dX5_isChanged_32 (by decide) ?_
    refine lv_iand hx hb dX5_isChanged_34 ?_
    refine lv_if_ne (tgt := 54) hx hb dX5_isChanged_35 (by decide) (fun c_35 => ?_) (fun c_35 => ?_)
    · skip
      have hE := (if_neg c_35).symm.trans hE
      refine lv_iconst (v := (1 : Int32)) hx hb dX5_isChanged_54 (by decide) ?_
      exact W.zret hx hb hr rfl (fun t9 ht9 _ => ⟨_, rfl, hE, ht9⟩) (fun _ h9 => by cases h9) dX5_isChanged_55
    · skip
      have hE := (if_pos c_35).symm.trans hE
      refine lv_aload_n hx hb dX5_isChanged_38 rfl (lv_at hl 2 rfl) ?_
      refine va_get (D := D) (ci := 5) (v := .ref (a 2)) (C := RX5) (T := TX5) (N := 21) hx hb hts (fun w9 h9 => List.mem_cons_of_mem _ (inT_X5 w9 h9)) hown hK hP 0 rfl rfl 1 (by decide) (hts (.fieldLink RX5 13 "LinkPredictorModel" "flags" "[I") (List.mem_cons_of_mem _ mw_3_67)) (fun _ h9 => h9) rfl dX5_isChanged_39 ?_
      refine lv_iload_n hx hb dX5_isChanged_42 rfl (lv_at hl 1 rfl) ?_
      refine ro_ald hx hb hEV hP 2 (j := ((12 * w) + t)) rfl (by omega) (by decide) dX5_isChanged_43 ?_
      refine lv_iconst (v := (2 : Int32)) hx hb dX5_isChanged_44 (by decide) ?_
      refine lv_iand hx hb dX5_isChanged_45 ?_
      refine lv_if_eq (tgt := 56) hx hb dX5_isChanged_46 (by decide) (fun c_46 => ?_) (fun c_46 => ?_)
      · skip
        have hE := (if_pos c_46).symm.trans hE
        exact key_56  ls  (lv_sub hl [1, 2, 3] rfl) hE
      · skip
        have hE := (if_neg c_46).symm.trans hE
        refine lv_iload hx hb dX5_isChanged_49 (lv_at hl 0 rfl) ?_
        refine lv_if_eq (tgt := 56) hx hb dX5_isChanged_51 (by decide) (fun c_51 => ?_) (fun c_51 => ?_)
        · skip
          have hE := (if_pos c_51).symm.trans hE
          exact key_56  ls  (lv_sub hl [1, 2, 3] rfl) hE
        · skip
          have hE := (if_neg c_51).symm.trans hE
          refine lv_iconst (v := (1 : Int32)) hx hb dX5_isChanged_54 (by decide) ?_
          exact W.zret hx hb hr rfl (fun t9 ht9 _ => ⟨_, rfl, hE, ht9⟩) (fun _ h9 => by cases h9) dX5_isChanged_55
