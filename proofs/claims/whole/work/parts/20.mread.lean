/-! ===== the reference: its rows as tables ===== -/
def vwX (x : Nat → Nat → Int32) (w : Nat) : Nat → Nat → Int32 := fun k t => x k (12 * w + t)
/-- members: owner, key, access, marks, gone -/
def vmX (x : Nat → Nat → Int32) (w : Nat) : Nat → Nat → Int32 := fun k m => if k = 0 then x 9 (30 * w + m) else if k = 1 then kyF (!decide (x 6 (30 * w + m) = 0)) (x 10 (30 * w + m)) else if k = 2 then x 11 (30 * w + m) else if k = 3 then x 12 (30 * w + m) else x 7 (30 * w + m)
def isS (v : Int32) : Prop := sN v < 15 ∧ v = nI (sN v)
def isA (v : Int32) : Prop := sN v < 4 ∧ v = nI (sN v)
def WX (x : Nat → Nat → Int32) (w n : Nat) : Prop := WFT (vwX x w) ∧ x 8 w = nI n ∧ n ≤ 30 ∧ ∀ m, m < n → isT (x 9 (30 * w + m)) ∧ isS (x 10 (30 * w + m)) ∧ (x 6 (30 * w + m) = 0 ∨ x 6 (30 * w + m) = 1) ∧ isA (x 11 (30 * w + m))
theorem WX.wm {x : Nat → Nat → Int32} {w n : Nat} (h : WX x w n) : WFM (vmX x w) n := fun m hm => (h.2.2.2 m hm).1
theorem ky_eq {z z2 : Bool} {v : Int32} {s : Nat} (hv : isS v) (hs : s < 15) : kyF z2 v = kyF z (nI s) ↔ z2 = z ∧ v = nI s := by
  constructor
  · intro h
    rw [hv.2] at h ⊢
    have h1 := hv.1
    cases z <;> cases z2 <;> simp only [kyF, if_true, if_false, Bool.false_eq_true] at h
    · exact ⟨rfl, h⟩
    · have e : nI (15 + sN v) = nI s := by rw [← nI_add]; exact h
      rw [nI_eq (by omega) (by omega)] at e; omega
    · have e : nI (sN v) = nI (15 + s) := by rw [← nI_add]; exact h
      rw [nI_eq (by omega) (by omega)] at e; omega
    · have e : nI (15 + sN v) = nI (15 + s) := by rw [← nI_add, ← nI_add]; exact h
      rw [nI_eq (by omega) (by omega)] at e
      exact ⟨rfl, by rw [show sN v = s by omega]⟩
  · rintro ⟨h1, h2⟩; rw [h1, h2]
/-- the member of a type itself, as the reference tells it -/
def odI (γ : Nat → Nat → Int32) (n t : Nat) (key : Int32) : Int32 := if fdN γ n t key < n then nI (fdN γ n t key) else -1
theorem odI_nat {γ : Nat → Nat → Int32} {n t : Nat} {key : Int32} (h : ¬ odI γ n t key < 0) : fdN γ n t key < n ∧ odI γ n t key = nI (fdN γ n t key) := by
  unfold odI at h ⊢
  by_cases c : fdN γ n t key < n
  · rw [if_pos c]; exact ⟨c, rfl⟩
  · rw [if_neg c] at h; exact absurd (by decide) h
def p_X5_in (x : Int32) (y : Int32) : Int32 := if x < (0 : Int32) then ((0 : Int32)) else (if y ≤ x then ((0 : Int32)) else ((1 : Int32)))
theorem pe_X5_in (x : Int32) (y : Int32)  : p_X5_in x y = b2i (wi x y) := by
  unfold p_X5_in wi
  by_cases h1 : x < 0 <;> by_cases h2 : y ≤ x <;> simp [h1, h2, b2i]
set_option maxHeartbeats 4000000 in
set_option maxRecDepth 100000 in
theorem c_X5_in (l : Launch) (D : va_G) (cI cZ cB cR : ClassId) (x : Int32) (y : Int32) : RO l yX5_in wsX5_in ({ frames := 0, cells := 0, slots := 0, locals := 0 } : Room) D cI cZ cB cR ([]) [.int x, .int y] (b2i (wi x y)) := by
  have hE : p_X5_in x y = b2i (wi x y) := pe_X5_in x y
  refine Met.ofW (cc := cX5_in) (maxL := 2) (ret := (some .boolean)) (by decide) rfl ?_
  intro p e s m args below meth c s₁ B hml hv
  obtain ⟨hargs, hP, hEV⟩ := hv
  have hx := B.exec
  have hb := B.bytes
  have hr := B.returns
  have hts := atoms_spec (ws := wsX5_in) B.pre
  have hown : s.vm.findClass RX5 = some m.cls := findClass_of_methodNamed B.named
  have hlocks := B.notSynchronized
  have hK := hEV.1
  have hl := lv_entry ([.int x, .int y]) (n := 2) (Nat.le_of_ble_eq_true rfl)
  rw [show entryFrame m args 2 = entryFrame m ([.int x, .int y] : List Value).toArray 2 from by rw [hargs], lg_entry_eq]
  generalize (lg_sl ([.int x, .int y]) ++ List.replicate (2 - (lg_sl ([.int x, .int y])).length) Slot.unset).toArray = ls at hl ⊢
  have hl : lv_has ls 2 [(0, .int x), (1, .int y)] := hl
  rw [p_X5_in] at hE
  refine lv_iload_n hx hb dX5_in_0 rfl (lv_at hl 0 rfl) ?_
  refine lv_if_lt (tgt := 13) hx hb dX5_in_1 (by decide) (fun c_1 => ?_) (fun c_1 => ?_)
  · skip
    have hE := (if_pos c_1).symm.trans hE
    refine lv_iconst (v := (0 : Int32)) hx hb dX5_in_13 (by decide) ?_
    exact W.zret hx hb hr rfl (fun t9 ht9 _ => ⟨_, rfl, hE, ht9⟩) (fun _ h9 => by cases h9) dX5_in_14
  · skip
    have hE := (if_neg c_1).symm.trans hE
    refine lv_iload_n hx hb dX5_in_4 rfl (lv_at hl 0 rfl) ?_
    refine lv_iload_n hx hb dX5_in_5 rfl (lv_at hl 1 rfl) ?_
    refine lv_icmp_ge (tgt := 13) hx hb dX5_in_6 (by decide) (fun c_6 => ?_) (fun c_6 => ?_)
    · skip
      have hE := (if_pos c_6).symm.trans hE
      refine lv_iconst (v := (0 : Int32)) hx hb dX5_in_13 (by decide) ?_
      exact W.zret hx hb hr rfl (fun t9 ht9 _ => ⟨_, rfl, hE, ht9⟩) (fun _ h9 => by cases h9) dX5_in_14
    · skip
      have hE := (if_neg c_6).symm.trans hE
      refine lv_iconst (v := (1 : Int32)) hx hb dX5_in_9 (by decide) ?_
      refine lv_goto (tgt := 14) hx hb dX5_in_10 (by decide) ?_
      exact W.zret hx hb hr rfl (fun t9 ht9 _ => ⟨_, rfl, hE, ht9⟩) (fun _ h9 => by cases h9) dX5_in_14
def p_X5_has (x : Int32) (y : Nat) : Int32 := if ((x >>> ((nI y) &&& 31)) &&& (1 : Int32)) = (1 : Int32) then ((1 : Int32)) else ((0 : Int32))
theorem pe_X5_has (x : Int32) (y : Nat) (hny : y < 32) : p_X5_has x y = b2i (bt x y) := ite_b2i' (shr_eq hny)
set_option maxHeartbeats 4000000 in
set_option maxRecDepth 100000 in
theorem c_X5_has (l : Launch) (D : va_G) (cI cZ cB cR : ClassId) (x : Int32) (y : Nat) (hny : y < 32) : RO l yX5_has wsX5_has ({ frames := 0, cells := 0, slots := 0, locals := 0 } : Room) D cI cZ cB cR ([]) [.int x, .int (nI y)] (b2i (bt x y)) := by
  have hE : p_X5_has x y = b2i (bt x y) := pe_X5_has x y hny
  refine Met.ofW (cc := cX5_has) (maxL := 2) (ret := (some .boolean)) (by decide) rfl ?_
  intro p e s m args below meth c s₁ B hml hv
  obtain ⟨hargs, hP, hEV⟩ := hv
  have hx := B.exec
  have hb := B.bytes
  have hr := B.returns
  have hts := atoms_spec (ws := wsX5_has) B.pre
  have hown : s.vm.findClass RX5 = some m.cls := findClass_of_methodNamed B.named
  have hlocks := B.notSynchronized
  have hK := hEV.1
  have hl := lv_entry ([.int x, .int (nI y)]) (n := 2) (Nat.le_of_ble_eq_true rfl)
  rw [show entryFrame m args 2 = entryFrame m ([.int x, .int (nI y)] : List Value).toArray 2 from by rw [hargs], lg_entry_eq]
  generalize (lg_sl ([.int x, .int (nI y)]) ++ List.replicate (2 - (lg_sl ([.int x, .int (nI y)])).length) Slot.unset).toArray = ls at hl ⊢
  have hl : lv_has ls 2 [(0, .int x), (1, .int (nI y))] := hl
  rw [p_X5_has] at hE
  refine lv_iload_n hx hb dX5_has_0 rfl (lv_at hl 0 rfl) ?_
  refine lv_iload_n hx hb dX5_has_1 rfl (lv_at hl 1 rfl) ?_
  refine lv_ishr hx hb dX5_has_2 ?_
  refine lv_iconst (v := (1 : Int32)) hx hb dX5_has_3 (by decide) ?_
  refine lv_iand hx hb dX5_has_4 ?_
  refine lv_iconst (v := (1 : Int32)) hx hb dX5_has_5 (by decide) ?_
  refine lv_icmp_ne (tgt := 13) hx hb dX5_has_6 (by decide) (fun c_6 => ?_) (fun c_6 => ?_)
  · skip
    have hE := (if_neg c_6).symm.trans hE
    refine lv_iconst (v := (0 : Int32)) hx hb dX5_has_13 (by decide) ?_
    exact W.zret hx hb hr rfl (fun t9 ht9 _ => ⟨_, rfl, hE, ht9⟩) (fun _ h9 => by cases h9) dX5_has_14
  · skip
    have hE := (if_pos c_6).symm.trans hE
    refine lv_iconst (v := (1 : Int32)) hx hb dX5_has_9 (by decide) ?_
    refine lv_goto (tgt := 14) hx hb dX5_has_10 (by decide) ?_
    exact W.zret hx hb hr rfl (fun t9 ht9 _ => ⟨_, rfl, hE, ht9⟩) (fun _ h9 => by cases h9) dX5_has_14
def p_X5_verdict (x : Nat) (y : Nat) : Int32 := nI ((64 * x) + y)
theorem pe_X5_verdict (x : Nat) (y : Nat) (hnx : x < 9) (hny : y < 64) : p_X5_verdict x y = nI (64 * x + y) := rfl
set_option maxHeartbeats 4000000 in
set_option maxRecDepth 100000 in
theorem c_X5_verdict (l : Launch) (D : va_G) (cI cZ cB cR : ClassId) (x : Nat) (y : Nat) (hnx : x < 9) (hny : y < 64) : RO l yX5_verdict wsX5_verdict ({ frames := 0, cells := 0, slots := 0, locals := 0 } : Room) D cI cZ cB cR ([]) [.int (nI x), .int (nI y)] (nI (64 * x + y)) := by
  have hE : p_X5_verdict x y = nI (64 * x + y) := pe_X5_verdict x y hnx hny
  refine Met.ofW (cc := cX5_verdict) (maxL := 2) (ret := (some .int)) (by decide) rfl ?_
  intro p e s m args below meth c s₁ B hml hv
  obtain ⟨hargs, hP, hEV⟩ := hv
  have hx := B.exec
  have hb := B.bytes
  have hr := B.returns
  have hts := atoms_spec (ws := wsX5_verdict) B.pre
  have hown : s.vm.findClass RX5 = some m.cls := findClass_of_methodNamed B.named
  have hlocks := B.notSynchronized
  have hK := hEV.1
  have hl := lv_entry ([.int (nI x), .int (nI y)]) (n := 2) (Nat.le_of_ble_eq_true rfl)
  rw [show entryFrame m args 2 = entryFrame m ([.int (nI x), .int (nI y)] : List Value).toArray 2 from by rw [hargs], lg_entry_eq]
  generalize (lg_sl ([.int (nI x), .int (nI y)]) ++ List.replicate (2 - (lg_sl ([.int (nI x), .int (nI y)])).length) Slot.unset).toArray = ls at hl ⊢
  have hl : lv_has ls 2 [(0, .int (nI x)), (1, .int (nI y))] := hl
  rw [p_X5_verdict] at hE
  refine lv_bipush (v := (64 : Int32)) hx hb dX5_verdict_0 (by decide) ?_
  refine lv_iload_n hx hb dX5_verdict_2 rfl (lv_at hl 0 rfl) ?_
  refine lv_imul hx hb dX5_verdict_3 ?_
  refine top_eq (pk_mul 64 x) ?_
  refine lv_iload_n hx hb dX5_verdict_4 rfl (lv_at hl 1 rfl) ?_
  refine lv_iadd hx hb dX5_verdict_5 ?_
  refine top_eq (nI_add (64 * x) y) ?_
  exact W.iret hx hb hr (fun t9 ht9 _ => ⟨_, rfl, hE, ht9⟩) (fun _ h9 => by cases h9) dX5_verdict_6
noncomputable def p_X5_own_3 (x : Nat → Nat → Int32) (w n : Nat) (t : Nat) (u : Bool) (v : Nat) : Nat → Nat → Int32
  | 0, _ => 0
  | k + 1, n5 => if n ≤ n5 then ((-1 : Int32)) else (if (x 7 ((30 * w) + n5)) = (0 : Int32) then (if (x 9 ((30 * w) + n5)) = (nI t) then (if (x 6 ((30 * w) + n5)) = (b2i u) then (if (x 10 ((30 * w) + n5)) = (nI v) then (nI n5) else (p_X5_own_3 x w n t u v k (n5 + 1))) else (p_X5_own_3 x w n t u v k (n5 + 1))) else (p_X5_own_3 x w n t u v k (n5 + 1))) else (p_X5_own_3 x w n t u v k (n5 + 1)))
noncomputable def p_X5_own (x : Nat → Nat → Int32) (w n : Nat) (t : Nat) (u : Bool) (v : Nat) : Int32 := p_X5_own_3 x w n t u v 31 0
theorem pl_X5_own (x : Nat → Nat → Int32) (w n t : Nat) (u : Bool) (v : Nat) (hw : w < 2) (wx : WX x w n) (ht : t < 12) (hs : v < 15) : ∀ k i, 30 - i < k → i ≤ n → (∀ j, j < i → ownP (vmX x w) t (kyF u (nI v)) j = false) → p_X5_own_3 x w n t u v k i = odI (vmX x w) n t (kyF u (nI v)) := by
  intro k
  have hn30 := wx.2.2.1
  induction k with
  | zero => intro i h1; omega
  | succ k ih =>
    intro i hk hi h0
    rw [p_X5_own_3]
    by_cases c : n ≤ i
    · rw [if_pos c]
      have e : i = n := by omega
      subst e
      unfold odI fdN
      rw [fst_none h0]
      simp
    · rw [if_neg c]
      have him : i < n := by omega
      obtain ⟨w1, w2, w3, -⟩ := wx.2.2.2 i him
      have step : ownP (vmX x w) t (kyF u (nI v)) i = false → p_X5_own_3 x w n t u v k (i + 1) = odI (vmX x w) n t (kyF u (nI v)) := fun q => ih (i + 1) (by omega) (by omega) (fun j hj => by
        rcases Nat.lt_or_ge j i with z9 | z9
        · exact h0 j z9
        · have e : j = i := by omega
          subst e
          exact q)
      have eg : goB (vmX x w) i = !decide (x 7 (30 * w + i) = 0) := rfl
      have ek : (vmX x w 1 i = kyF u (nI v)) ↔ (x 6 (30 * w + i) = b2i u ∧ x 10 (30 * w + i) = nI v) := by
        show kyF (!decide (x 6 (30 * w + i) = 0)) (x 10 (30 * w + i)) = kyF u (nI v) ↔ _
        rw [ky_eq w2 hs]
        refine and_congr ?_ Iff.rfl
        rcases w3 with e | e <;> rw [e] <;> cases u <;> decide
      by_cases c1 : x 7 (30 * w + i) = 0
      · rw [if_pos c1]
        by_cases c2 : x 9 (30 * w + i) = nI t
        · rw [if_pos c2]
          by_cases c3 : x 6 (30 * w + i) = b2i u
          · rw [if_pos c3]
            by_cases c4 : x 10 (30 * w + i) = nI v
            · rw [if_pos c4]
              have q : ownP (vmX x w) t (kyF u (nI v)) i = true := by
                unfold ownP
                rw [decide_eq_true (ek.mpr ⟨c3, c4⟩), eg, decide_eq_true c1, show decide (vmX x w 0 i = nI t) = true from decide_eq_true c2]
                rfl
              unfold odI fdN
              rw [fst_at him q h0, if_pos him]
            · rw [if_neg c4]; exact step (by unfold ownP; rw [decide_eq_false (fun z => c4 (ek.mp z).2)]; rfl)
          · rw [if_neg c3]; exact step (by unfold ownP; rw [decide_eq_false (fun z => c3 (ek.mp z).1)]; rfl)
        · rw [if_neg c2]; exact step (by unfold ownP; rw [show decide (vmX x w 0 i = nI t) = false from decide_eq_false c2]; simp)
      · rw [if_neg c1]; exact step (by unfold ownP; rw [eg]; simp [c1])
theorem pe_X5_own (x : Nat → Nat → Int32) (w n : Nat) (t : Nat) (u : Bool) (v : Nat) (hw : w < 2) (wx : WX x w n) (hnt : t < 12) (hnv : v < 15)  : p_X5_own x w n t u v = odI (vmX x w) n t (kyF u (nI v)) := pl_X5_own x w n t u v hw wx hnt hnv 31 0 (by omega) (by omega) (fun j h => absurd h (Nat.not_lt_zero j))
set_option maxHeartbeats 4000000 in
set_option maxRecDepth 100000 in
theorem c_X5_own (l : Launch) (D : va_G) (cI cZ cB cR : ClassId) (a : Nat → Nat) (x : Nat → Nat → Int32) (r1 r2 : Nat → Int32) (w n : Nat) (t : Nat) (u : Bool) (v : Nat) (hw : w < 2) (wx : WX x w n) (hnt : t < 12) (hnv : v < 15)  : RO l yX5_own wsX5_own ({ frames := 0, cells := 0, slots := 0, locals := 0 } : Room) D cI cZ cB cR (wX cI cZ a x r1 r2) [.ref (a 0), .int (nI w), .int (nI t), .int (b2i u), .int (nI v)] (odI (vmX x w) n t (kyF u (nI v))) := by
  have hE : p_X5_own x w n t u v = odI (vmX x w) n t (kyF u (nI v)) := pe_X5_own x w n t u v hw wx hnt hnv
  refine Met.ofW (cc := cX5_own) (maxL := 7) (ret := (some .int)) (by decide) rfl ?_
  intro p e s m args below meth c s₁ B hml hv
  obtain ⟨hargs, hP, hEV⟩ := hv
  have hx := B.exec
  have hb := B.bytes
  have hr := B.returns
  have hts := atoms_spec (ws := wsX5_own) B.pre
  have hown : s.vm.findClass RX5 = some m.cls := findClass_of_methodNamed B.named
  have hlocks := B.notSynchronized
  have hK := hEV.1
  have hl := lv_entry ([.ref (a 0), .int (nI w), .int (nI t), .int (b2i u), .int (nI v)]) (n := 7) (Nat.le_of_ble_eq_true rfl)
  rw [show entryFrame m args 7 = entryFrame m ([.ref (a 0), .int (nI w), .int (nI t), .int (b2i u), .int (nI v)] : List Value).toArray 7 from by rw [hargs], lg_entry_eq]
  generalize (lg_sl ([.ref (a 0), .int (nI w), .int (nI t), .int (b2i u), .int (nI v)]) ++ List.replicate (7 - (lg_sl ([.ref (a 0), .int (nI w), .int (nI t), .int (b2i u), .int (nI v)])).length) Slot.unset).toArray = ls at hl ⊢
  have hl : lv_has ls 7 [(0, .ref (a 0)), (1, .int (nI w)), (2, .int (nI t)), (3, .int (b2i u)), (4, .int (nI v))] := hl
  rw [p_X5_own] at hE
  have hn30 := wx.2.2.1
  have key_3 : ∀ (k_3 : Nat) (n5 : Nat) (ls : Array Slot), (30 - n5) < k_3 → n5 ≤ n → lv_has ls 7 [(5, .int (nI n5)), (0, .ref (a 0)), (1, .int (nI w)), (2, .int (nI t)), (3, .int (b2i u)), (4, .int (nI v))] → p_X5_own_3 x w n t u v k_3 n5 = odI (vmX x w) n t (kyF u (nI v)) → W p l e (headSpec wsX5_own ({ frames := 0, cells := 0, slots := 0, locals := 0 } : Room)).room s m args below meth c s.heap [] 0 0 (MQ below (vp_Si (fun r => r = odI (vmX x w) n t (kyF u (nI v)))) args s 0 0 (fun _ => False)) (F0 m 3 ls []) := by
    intro k_3
    induction k_3 with
    | zero => intro n5 ls hm; exact absurd hm (Nat.not_lt_zero _)
    | succ k_3 ih_3 =>
      intro n5 ls hm_3 hi_3_0 hl hE
      rw [p_X5_own_3] at hE
      refine lv_iload hx hb dX5_own_3 (lv_at hl 0 rfl) ?_
      refine lv_aload_n hx hb dX5_own_5 rfl (lv_at hl 1 rfl) ?_
      refine va_get (D := D) (ci := 5) (v := .ref (a 9)) (C := RX5) (T := TX5) (N := 21) hx hb hts (fun w9 h9 => List.mem_cons_of_mem _ (inT_X5 w9 h9)) hown hK hP 0 rfl rfl 8 (by decide) (hts (.fieldLink RX5 35 "LinkPredictorModel" "many" "[I") (List.mem_cons_of_mem _ mw_3_74)) (fun _ h9 => h9) rfl dX5_own_6 ?_
      refine lv_iload_n hx hb dX5_own_9 rfl (lv_at hl 2 rfl) ?_
      refine ro_ald hx hb hEV hP 9 (j := w) rfl (by omega) (by decide) dX5_own_10 ?_
      refine top_eq (wx.2.1) ?_
      refine lv_icmp_ge (tgt := 76) hx hb dX5_own_11 (by decide) (fun c_11 => ?_) (fun c_11 => ?_)
      · have c_11 : n ≤ n5 := (nI_leI (a := n) (b := n5) (by omega) (by omega)).mp c_11
        have hE := (if_pos c_11).symm.trans hE
        refine lv_iconst (v := (-1 : Int32)) hx hb dX5_own_76 (by decide) ?_
        exact W.iret hx hb hr (fun t9 ht9 _ => ⟨_, rfl, hE, ht9⟩) (fun _ h9 => by cases h9) dX5_own_77
      · have c_11 : ¬ (n ≤ n5) := fun q9 => c_11 ((nI_leI (a := n) (b := n5) (by omega) (by omega)).mpr q9)
        have hE := (if_neg c_11).symm.trans hE
        refine lv_bipush (v := (30 : Int32)) hx hb dX5_own_14 (by decide) ?_
        refine lv_iload_n hx hb dX5_own_16 rfl (lv_at hl 2 rfl) ?_
        refine lv_imul hx hb dX5_own_17 ?_
        refine top_eq (pk_mul 30 w) ?_
        refine lv_iload hx hb dX5_own_18 (lv_at hl 0 rfl) ?_
        refine lv_iadd hx hb dX5_own_20 ?_
        refine top_eq (nI_add (30 * w) n5) ?_
        refine lv_istore (lv' := [(6, .int (nI ((30 * w) + n5))), (5, .int (nI n5)), (0, .ref (a 0)), (1, .int (nI w)), (2, .int (nI t)), (3, .int (b2i u)), (4, .int (nI v))]) hx hb dX5_own_21 hl (by decide) rfl (fun ls hl => ?_)
        refine lv_aload_n hx hb dX5_own_23 rfl (lv_at hl 2 rfl) ?_
        refine va_get (D := D) (ci := 5) (v := .ref (a 8)) (C := RX5) (T := TX5) (N := 21) hx hb hts (fun w9 h9 => List.mem_cons_of_mem _ (inT_X5 w9 h9)) hown hK hP 0 rfl rfl 7 (by decide) (hts (.fieldLink RX5 32 "LinkPredictorModel" "gone" "[Z") (List.mem_cons_of_mem _ mw_3_73)) (fun _ h9 => h9) rfl dX5_own_24 ?_
        refine lv_iload hx hb dX5_own_27 (lv_at hl 0 rfl) ?_
        refine ro_zld hx hb hEV hP 8 (j := ((30 * w) + n5)) rfl (by omega) (by decide) dX5_own_29 ?_
        refine lv_if_ne (tgt := 70) hx hb dX5_own_30 (by decide) (fun c_30 => ?_) (fun c_30 => ?_)
        · skip
          have hE := (if_neg c_30).symm.trans hE
          refine lv_iinc (v := nI (n5 + 1)) (lv' := [(5, .int (nI (n5 + 1))), (6, .int (nI ((30 * w) + n5))), (0, .ref (a 0)), (1, .int (nI w)), (2, .int (nI t)), (3, .int (b2i u)), (4, .int (nI v))]) hx hb dX5_own_70 hl (k := 1) rfl (nI_1 _) (by decide) rfl (fun ls hl => ?_)
          refine lv_goto (tgt := 3) hx hb dX5_own_73 (by decide) ?_
          exact ih_3 (n5 + 1) ls (by omega) (by omega) (lv_sub hl [0, 2, 3, 4, 5, 6] rfl) hE
        · skip
          have hE := (if_pos c_30).symm.trans hE
          refine lv_aload_n hx hb dX5_own_33 rfl (lv_at hl 2 rfl) ?_
          refine va_get (D := D) (ci := 5) (v := .ref (a 10)) (C := RX5) (T := TX5) (N := 21) hx hb hts (fun w9 h9 => List.mem_cons_of_mem _ (inT_X5 w9 h9)) hown hK hP 0 rfl rfl 9 (by decide) (hts (.fieldLink RX5 38 "LinkPredictorModel" "owner" "[I") (List.mem_cons_of_mem _ mw_3_75)) (fun _ h9 => h9) rfl dX5_own_34 ?_
          refine lv_iload hx hb dX5_own_37 (lv_at hl 0 rfl) ?_
          refine ro_ald hx hb hEV hP 10 (j := ((30 * w) + n5)) rfl (by omega) (by decide) dX5_own_39 ?_
          refine lv_iload_n hx hb dX5_own_40 rfl (lv_at hl 4 rfl) ?_
          refine lv_icmp_ne (tgt := 70) hx hb dX5_own_41 (by decide) (fun c_41 => ?_) (fun c_41 => ?_)
          · skip
            have hE := (if_neg c_41).symm.trans hE
            refine lv_iinc (v := nI (n5 + 1)) (lv' := [(5, .int (nI (n5 + 1))), (6, .int (nI ((30 * w) + n5))), (0, .ref (a 0)), (1, .int (nI w)), (2, .int (nI t)), (3, .int (b2i u)), (4, .int (nI v))]) hx hb dX5_own_70 hl (k := 1) rfl (nI_1 _) (by decide) rfl (fun ls hl => ?_)
            refine lv_goto (tgt := 3) hx hb dX5_own_73 (by decide) ?_
            exact ih_3 (n5 + 1) ls (by omega) (by omega) (lv_sub hl [0, 2, 3, 4, 5, 6] rfl) hE
          · skip
            have hE := (if_pos c_41).symm.trans hE
            refine lv_aload_n hx hb dX5_own_44 rfl (lv_at hl 2 rfl) ?_
            refine va_get (D := D) (ci := 5) (v := .ref (a 7)) (C := RX5) (T := TX5) (N := 21) hx hb hts (fun w9 h9 => List.mem_cons_of_mem _ (inT_X5 w9 h9)) hown hK hP 0 rfl rfl 6 (by decide) (hts (.fieldLink RX5 29 "LinkPredictorModel" "method" "[Z") (List.mem_cons_of_mem _ mw_3_72)) (fun _ h9 => h9) rfl dX5_own_45 ?_
            refine lv_iload hx hb dX5_own_48 (lv_at hl 0 rfl) ?_
            refine ro_zld hx hb hEV hP 7 (j := ((30 * w) + n5)) rfl (by omega) (by decide) dX5_own_50 ?_
            refine lv_iload_n hx hb dX5_own_51 rfl (lv_at hl 5 rfl) ?_
            refine lv_icmp_ne (tgt := 70) hx hb dX5_own_52 (by decide) (fun c_52 => ?_) (fun c_52 => ?_)
            · skip
              have hE := (if_neg c_52).symm.trans hE
              refine lv_iinc (v := nI (n5 + 1)) (lv' := [(5, .int (nI (n5 + 1))), (6, .int (nI ((30 * w) + n5))), (0, .ref (a 0)), (1, .int (nI w)), (2, .int (nI t)), (3, .int (b2i u)), (4, .int (nI v))]) hx hb dX5_own_70 hl (k := 1) rfl (nI_1 _) (by decide) rfl (fun ls hl => ?_)
              refine lv_goto (tgt := 3) hx hb dX5_own_73 (by decide) ?_
              exact ih_3 (n5 + 1) ls (by omega) (by omega) (lv_sub hl [0, 2, 3, 4, 5, 6] rfl) hE
            · skip
              have hE := (if_pos c_52).symm.trans hE
              refine lv_aload_n hx hb dX5_own_55 rfl (lv_at hl 2 rfl) ?_
              refine va_get (D := D) (ci := 5) (v := .ref (a 11)) (C := RX5) (T := TX5) (N := 21) hx hb hts (fun w9 h9 => List.mem_cons_of_mem _ (inT_X5 w9 h9)) hown hK hP 0 rfl rfl 10 (by decide) (hts (.fieldLink RX5 41 "LinkPredictorModel" "sign" "[I") (List.mem_cons_of_mem _ mw_3_76)) (fun _ h9 => h9) rfl dX5_own_56 ?_
              refine lv_iload hx hb dX5_own_59 (lv_at hl 0 rfl) ?_
              refine ro_ald hx hb hEV hP 11 (j := ((30 * w) + n5)) rfl (by omega) (by decide) dX5_own_61 ?_
              refine lv_iload hx hb dX5_own_62 (lv_at hl 6 rfl) ?_
              refine lv_icmp_ne (tgt := 70) hx hb dX5_own_64 (by decide) (fun c_64 => ?_) (fun c_64 => ?_)
              · skip
                have hE := (if_neg c_64).symm.trans hE
                refine lv_iinc (v := nI (n5 + 1)) (lv' := [(5, .int (nI (n5 + 1))), (6, .int (nI ((30 * w) + n5))), (0, .ref (a 0)), (1, .int (nI w)), (2, .int (nI t)), (3, .int (b2i u)), (4, .int (nI v))]) hx hb dX5_own_70 hl (k := 1) rfl (nI_1 _) (by decide) rfl (fun ls hl => ?_)
                refine lv_goto (tgt := 3) hx hb dX5_own_73 (by decide) ?_
                exact ih_3 (n5 + 1) ls (by omega) (by omega) (lv_sub hl [0, 2, 3, 4, 5, 6] rfl) hE
              · skip
                have hE := (if_pos c_64).symm.trans hE
                refine lv_iload hx hb dX5_own_67 (lv_at hl 1 rfl) ?_
                exact W.iret hx hb hr (fun t9 ht9 _ => ⟨_, rfl, hE, ht9⟩) (fun _ h9 => by cases h9) dX5_own_69
  refine lv_iconst (v := (0 : Int32)) hx hb dX5_own_0 (by decide) ?_
  refine lv_istore (lv' := [(5, .int (0 : Int32)), (0, .ref (a 0)), (1, .int (nI w)), (2, .int (nI t)), (3, .int (b2i u)), (4, .int (nI v))]) hx hb dX5_own_1 hl (by decide) rfl (fun ls hl => ?_)
  exact key_3 31 0 ls (by omega) (by omega) (lv_sub hl [0, 1, 2, 3, 4, 5] rfl) hE
noncomputable def p_X5_isChanged_59 (x : Nat → Nat → Int32) (w n : Nat) (t : Nat) : Nat → Nat → Int32
  | 0, _ => 0
  | k + 1, n5 => if 12 ≤ n5 then ((0 : Int32)) else (if (bt (x 4 ((12 * w) + t)) n5) = true then (if ((x 1 ((12 * w) + n5)) &&& (2 : Int32)) = (0 : Int32) then ((1 : Int32)) else (p_X5_isChanged_59 x w n t k (n5 + 1))) else (p_X5_isChanged_59 x w n t k (n5 + 1)))
noncomputable def p_X5_isChanged_56 (x : Nat → Nat → Int32) (w n : Nat) (t : Nat) : Int32 := p_X5_isChanged_59 x w n t 13 0
noncomputable def p_X5_isChanged (x : Nat → Nat → Int32) (w n : Nat) (t : Nat) : Int32 := if (x 3 ((12 * w) + t)) < (0 : Int32) then (p_X5_isChanged_56 x w n t ) else (if ((x 1 ((12 * w) + (sN (x 3 (12 * w + t))))) &&& (10 : Int32)) = (0 : Int32) then (if ((x 1 ((12 * w) + t)) &&& (2 : Int32)) = (0 : Int32) then (p_X5_isChanged_56 x w n t ) else (if (x 3 ((12 * w) + t)) = (0 : Int32) then (p_X5_isChanged_56 x w n t ) else ((1 : Int32)))) else ((1 : Int32)))
theorem pl_X5_isChanged (x : Nat → Nat → Int32) (w n t : Nat) : ∀ k i, 12 - i < k → i ≤ 12 → (∀ j, j < i → (bt (x 4 (12 * w + t)) j && !(bt (x 1 (12 * w + j)) 1)) = false) → p_X5_isChanged_59 x w n t k i = b2i (exB (fun u => bt (vwX x w 4 t) u && !(bt (vwX x w 1 u) 1)) 12) := by
  intro k
  induction k with
  | zero => intro i h1; omega
  | succ k ih =>
    intro i hk hi h0
    rw [p_X5_isChanged_59]
    by_cases c : 12 ≤ i
    · rw [if_pos c]
      have e : i = 12 := by omega
      subst e
      unfold exB
      rw [show fst (fun u => bt (vwX x w 4 t) u && !(bt (vwX x w 1 u) 1)) 12 = 12 from fst_none h0]
      rfl
    · rw [if_neg c]
      have step : (bt (x 4 (12 * w + t)) i && !(bt (x 1 (12 * w + i)) 1)) = false → p_X5_isChanged_59 x w n t k (i + 1) = b2i (exB (fun u => bt (vwX x w 4 t) u && !(bt (vwX x w 1 u) 1)) 12) := fun q => ih (i + 1) (by omega) (by omega) (fun j hj => by
        rcases Nat.lt_or_ge j i with z9 | z9
        · exact h0 j z9
        · have e : j = i := by omega
          subst e
          exact q)
      by_cases c1 : bt (x 4 (12 * w + t)) i = true
      · rw [if_pos c1]
        by_cases c2 : x 1 (12 * w + i) &&& 2 = 0
        · rw [if_pos c2, exB_iff.mpr ⟨i, by omega, by show (bt (x 4 (12 * w + t)) i && !(bt (x 1 (12 * w + i)) 1)) = true; simp [c1, and2_eq.mp c2]⟩]; rfl
        · rw [if_neg c2]
          have : bt (x 1 (12 * w + i)) 1 = true := Classical.byContradiction (fun z => c2 (and2_eq.mpr z))
          exact step (by simp [this])
      · rw [if_neg c1]; exact step (by simp [c1])
theorem pe_X5_isChanged (x : Nat → Nat → Int32) (w n : Nat) (t : Nat) (hw : w < 2) (wx : WX x w n) (hnt : t < 12)  : p_X5_isChanged x w n t = b2i (wrB (vwX x w) t) := by
  have hl := pl_X5_isChanged x w n t 13 0 (by omega) (by omega) (fun j q => absurd q (Nat.not_lt_zero j))
  have hT := (wx.1.1 t hnt).1
  have e3 : vwX x w 3 t = x 3 (12 * w + t) := rfl
  have h56 : p_X5_isChanged_56 x w n t = b2i (exB (fun u => bt (vwX x w 4 t) u && !(bt (vwX x w 1 u) 1)) 12) := by rw [p_X5_isChanged_56]; exact hl
  rw [p_X5_isChanged, h56]
  unfold wrB
  rw [e3] at hT ⊢
  by_cases c1 : x 3 (12 * w + t) < 0
  · rw [if_pos c1]
    have em : x 3 (12 * w + t) = -1 := by
      rcases hT with e | e
      · exact e
      · rw [e.2] at c1; exact absurd c1 (nI_pos (by have := e.1; omega))
    have hi : bt (vwX x w 1 t) 1 = false := by
      cases q : bt (vwX x w 1 t) 1 with
      | false => rfl
      | true =>
        by_cases z : t = 0
        · subst z
          have := wx.1.2.2.1
          rw [this] at q
          exact absurd q (by decide)
        · exact absurd em ((wx.1.1 t hnt).2.2.1 z)
    simp [em, hi]
  · rw [if_neg c1]
    have hs := hT.resolve_left (fun e => c1 (by rw [e]; decide))
    have nm : ¬ x 3 (12 * w + t) = -1 := fun e => c1 (by rw [e]; decide)
    show (if x 1 (12 * w + sN (x 3 (12 * w + t))) &&& 10 = 0 then _ else _) = _
    by_cases c2 : x 1 (12 * w + sN (x 3 (12 * w + t))) &&& 10 = 0
    · rw [if_pos c2]
      have c2' := and10_eq.mp c2
      simp only [not_or, Bool.not_eq_true] at c2'
      have f1 : bt (vwX x w 1 (sN (x 3 (12 * w + t)))) 1 = false := c2'.1
      have f2 : bt (vwX x w 1 (sN (x 3 (12 * w + t)))) 3 = false := c2'.2
      by_cases c3 : x 1 (12 * w + t) &&& 2 = 0
      · rw [if_pos c3]
        have f3 : ¬ (bt (vwX x w 1 t) 1 = true) := and2_eq.mp c3
        simp [f1, f2, f3]
      · rw [if_neg c3]
        have f3 : bt (vwX x w 1 t) 1 = true := Classical.byContradiction (fun z => c3 (and2_eq.mpr z))
        by_cases c4 : x 3 (12 * w + t) = 0
        · rw [if_pos c4]; simp [f1, f2, f3, c4]
          rw [c4] at f1 f2
          simp [f1, f2]
        · rw [if_neg c4]; simp [f3, c4, b2i]
    · rw [if_neg c2]
      have e : bt (vwX x w 1 (sN (x 3 (12 * w + t)))) 1 = true ∨ bt (vwX x w 1 (sN (x 3 (12 * w + t)))) 3 = true := Classical.byContradiction (fun z => c2 (and10_eq.mpr z))
      rcases e with e | e <;> simp [nm, e, b2i]
set_option maxHeartbeats 4000000 in
set_option maxRecDepth 100000 in
theorem c_X5_isChanged (l : Launch) (D : va_G) (cI cZ cB cR : ClassId) (a : Nat → Nat) (x : Nat → Nat → Int32) (r1 r2 : Nat → Int32) (w n : Nat) (t : Nat) (hw : w < 2) (wx : WX x w n) (hnt : t < 12)  : RO l yX5_isChanged wsX5_isChanged ({ frames := 1, cells := 0, slots := 0, locals := 21 } : Room) D cI cZ cB cR (wX cI cZ a x r1 r2) [.ref (a 0), .int (nI w), .int (nI t)] (b2i (wrB (vwX x w) t)) := by
  have hE : p_X5_isChanged x w n t = b2i (wrB (vwX x w) t) := pe_X5_isChanged x w n t hw wx hnt
  refine Met.ofW (cc := cX5_isChanged) (maxL := 6) (ret := (some .boolean)) (by decide) rfl ?_
  intro p e s m args below meth c s₁ B hml hv
  obtain ⟨hargs, hP, hEV⟩ := hv
  have hx := B.exec
  have hb := B.bytes
  have hr := B.returns
  have hts := atoms_spec (ws := wsX5_isChanged) B.pre
  have hown : s.vm.findClass RX5 = some m.cls := findClass_of_methodNamed B.named
  have hlocks := B.notSynchronized
  have hK := hEV.1
  have hl := lv_entry ([.ref (a 0), .int (nI w), .int (nI t)]) (n := 6) (Nat.le_of_ble_eq_true rfl)
  rw [show entryFrame m args 6 = entryFrame m ([.ref (a 0), .int (nI w), .int (nI t)] : List Value).toArray 6 from by rw [hargs], lg_entry_eq]
  generalize (lg_sl ([.ref (a 0), .int (nI w), .int (nI t)]) ++ List.replicate (6 - (lg_sl ([.ref (a 0), .int (nI w), .int (nI t)])).length) Slot.unset).toArray = ls at hl ⊢
  have hl : lv_has ls 6 [(0, .ref (a 0)), (1, .int (nI w)), (2, .int (nI t))] := hl
  rw [p_X5_isChanged] at hE
  have hn30 := wx.2.2.1
  have key_59 : ∀ (k_59 : Nat) (n5 : Nat) (ls : Array Slot), (12 - n5) < k_59 → n5 ≤ 12 → lv_has ls 6 [(5, .int (nI n5)), (3, .int (nI ((12 * w) + t))), (0, .ref (a 0)), (1, .int (nI w))] → p_X5_isChanged_59 x w n t k_59 n5 = b2i (wrB (vwX x w) t) → W p l e (headSpec wsX5_isChanged ({ frames := 1, cells := 0, slots := 0, locals := 21 } : Room)).room s m args below meth c s.heap [] 0 0 (MQ below (vp_Si (fun r => r = b2i (wrB (vwX x w) t))) args s 0 0 (fun _ => False)) (F0 m 59 ls []) := by
    intro k_59
    induction k_59 with
    | zero => intro n5 ls hm; exact absurd hm (Nat.not_lt_zero _)
    | succ k_59 ih_59 =>
      intro n5 ls hm_59 hi_59_0 hl hE
      rw [p_X5_isChanged_59] at hE
      refine lv_iload hx hb dX5_isChanged_59 (lv_at hl 0 rfl) ?_
      refine lv_bipush (v := (12 : Int32)) hx hb dX5_isChanged_61 (by decide) ?_
      refine lv_icmp_ge (tgt := 105) hx hb dX5_isChanged_63 (by decide) (fun c_63 => ?_) (fun c_63 => ?_)
      · have c_63 : 12 ≤ n5 := (nI_leI (a := 12) (b := n5) (by omega) (by omega)).mp c_63
        have hE := (if_pos c_63).symm.trans hE
        refine lv_iconst (v := (0 : Int32)) hx hb dX5_isChanged_105 (by decide) ?_
        exact W.zret hx hb hr rfl (fun t9 ht9 _ => ⟨_, rfl, hE, ht9⟩) (fun _ h9 => by cases h9) dX5_isChanged_106
      · have c_63 : ¬ (12 ≤ n5) := fun q9 => c_63 ((nI_leI (a := 12) (b := n5) (by omega) (by omega)).mpr q9)
        have hE := (if_neg c_63).symm.trans hE
        refine lv_aload_n hx hb dX5_isChanged_66 rfl (lv_at hl 2 rfl) ?_
        refine va_get (D := D) (ci := 5) (v := .ref (a 5)) (C := RX5) (T := TX5) (N := 21) hx hb hts (fun w9 h9 => List.mem_cons_of_mem _ (inT_X5 w9 h9)) hown hK hP 0 rfl rfl 4 (by decide) (hts (.fieldLink RX5 23 "LinkPredictorModel" "faces" "[I") (List.mem_cons_of_mem _ mw_3_70)) (fun _ h9 => h9) rfl dX5_isChanged_67 ?_
        refine lv_iload_n hx hb dX5_isChanged_70 rfl (lv_at hl 1 rfl) ?_
        refine ro_ald hx hb hEV hP 5 (j := ((12 * w) + t)) rfl (by omega) (by decide) dX5_isChanged_71 ?_
        refine lv_iload hx hb dX5_isChanged_72 (lv_at hl 0 rfl) ?_
        refine ro_S [.int (x 4 ((12 * w) + t)), .int (nI n5)] [] ⟨hx, hb, hml, hown, hts⟩ (c_X5_has l D cI cZ cB cR (x 4 ((12 * w) + t)) n5 (by omega)) (va_cwS 2 hts (goodP (ps := [.methodLink RX5 94 yX5_has, .static yX5_has, .initialized RX5]) (all3 mw_3_201 mw_3_202 mw_1_6) mw_3_203) rfl rfl rfl (by decide +kernel) ⟨Nat.le_of_ble_eq_true rfl, Nat.le_of_ble_eq_true rfl⟩) hEV va_P0 rfl hl.1 rfl (Nat.le_of_ble_eq_true rfl) dX5_isChanged_74 ⟨Nat.zero_le _, Nat.zero_le _⟩ ?_
        refine lv_if_eq (tgt := 99) hx hb dX5_isChanged_77 (by decide) (fun c_77 => ?_) (fun c_77 => ?_)
        · have c_77 : ¬ ((bt (x 4 ((12 * w) + t)) n5) = true) := b2i_f c_77
          have hE := (if_neg c_77).symm.trans hE
          refine lv_iinc (v := nI (n5 + 1)) (lv' := [(5, .int (nI (n5 + 1))), (3, .int (nI ((12 * w) + t))), (0, .ref (a 0)), (1, .int (nI w))]) hx hb dX5_isChanged_99 hl (k := 0) rfl (nI_1 _) (by decide) rfl (fun ls hl => ?_)
          refine lv_goto (tgt := 59) hx hb dX5_isChanged_102 (by decide) ?_
          exact ih_59 (n5 + 1) ls (by omega) (by omega) (lv_sub hl [0, 1, 2, 3] rfl) hE
        · have c_77 : (bt (x 4 ((12 * w) + t)) n5) = true := b2i_t c_77
          have hE := (if_pos c_77).symm.trans hE
          refine lv_aload_n hx hb dX5_isChanged_80 rfl (lv_at hl 2 rfl) ?_
          refine va_get (D := D) (ci := 5) (v := .ref (a 2)) (C := RX5) (T := TX5) (N := 21) hx hb hts (fun w9 h9 => List.mem_cons_of_mem _ (inT_X5 w9 h9)) hown hK hP 0 rfl rfl 1 (by decide) (hts (.fieldLink RX5 13 "LinkPredictorModel" "flags" "[I") (List.mem_cons_of_mem _ mw_3_67)) (fun _ h9 => h9) rfl dX5_isChanged_81 ?_
          refine lv_bipush (v := (12 : Int32)) hx hb dX5_isChanged_84 (by decide) ?_
          refine lv_iload_n hx hb dX5_isChanged_86 rfl (lv_at hl 3 rfl) ?_
          refine lv_imul hx hb dX5_isChanged_87 ?_
          refine top_eq (pk_mul 12 w) ?_
          refine lv_iload hx hb dX5_isChanged_88 (lv_at hl 0 rfl) ?_
          refine lv_iadd hx hb dX5_isChanged_90 ?_
          refine top_eq (nI_add (12 * w) n5) ?_
          refine ro_ald hx hb hEV hP 2 (j := ((12 * w) + n5)) rfl (by omega) (by decide) dX5_isChanged_91 ?_
          refine lv_iconst (v := (2 : Int32)) hx hb dX5_isChanged_92 (by decide) ?_
          refine lv_iand hx hb dX5_isChanged_93 ?_
          refine lv_if_ne (tgt := 99) hx hb dX5_isChanged_94 (by decide) (fun c_94 => ?_) (fun c_94 => ?_)
          · skip
            have hE := (if_neg c_94).symm.trans hE
            refine lv_iinc (v := nI (n5 + 1)) (lv' := [(5, .int (nI (n5 + 1))), (3, .int (nI ((12 * w) + t))), (0, .ref (a 0)), (1, .int (nI w))]) hx hb dX5_isChanged_99 hl (k := 0) rfl (nI_1 _) (by decide) rfl (fun ls hl => ?_)
            refine lv_goto (tgt := 59) hx hb dX5_isChanged_102 (by decide) ?_
            exact ih_59 (n5 + 1) ls (by omega) (by omega) (lv_sub hl [0, 1, 2, 3] rfl) hE
          · skip
            have hE := (if_pos c_94).symm.trans hE
            refine lv_iconst (v := (1 : Int32)) hx hb dX5_isChanged_97 (by decide) ?_
            exact W.zret hx hb hr rfl (fun t9 ht9 _ => ⟨_, rfl, hE, ht9⟩) (fun _ h9 => by cases h9) dX5_isChanged_98
  have key_56 : ∀ (ls : Array Slot), lv_has ls 6 [(3, .int (nI ((12 * w) + t))), (0, .ref (a 0)), (1, .int (nI w))] → p_X5_isChanged_56 x w n t  = b2i (wrB (vwX x w) t) → W p l e (headSpec wsX5_isChanged ({ frames := 1, cells := 0, slots := 0, locals := 21 } : Room)).room s m args below meth c s.heap [] 0 0 (MQ below (vp_Si (fun r => r = b2i (wrB (vwX x w) t))) args s 0 0 (fun _ => False)) (F0 m 56 ls []) := by
    intro  ls  hl hE
    rw [p_X5_isChanged_56] at hE
    refine lv_iconst (v := (0 : Int32)) hx hb dX5_isChanged_56 (by decide) ?_
    refine lv_istore (lv' := [(5, .int (0 : Int32)), (3, .int (nI ((12 * w) + t))), (0, .ref (a 0)), (1, .int (nI w))]) hx hb dX5_isChanged_57 hl (by decide) rfl (fun ls hl => ?_)
    exact key_59 13 0 ls (by omega) (by omega) (lv_sub hl [0, 1, 2, 3] rfl) hE
  refine lv_bipush (v := (12 : Int32)) hx hb dX5_isChanged_0 (by decide) ?_
  refine lv_iload_n hx hb dX5_isChanged_2 rfl (lv_at hl 1 rfl) ?_
  refine lv_imul hx hb dX5_isChanged_3 ?_
  refine top_eq (pk_mul 12 w) ?_
  refine lv_iload_n hx hb dX5_isChanged_4 rfl (lv_at hl 2 rfl) ?_
  refine lv_iadd hx hb dX5_isChanged_5 ?_
  refine top_eq (nI_add (12 * w) t) ?_
  refine lv_istore_n (lv' := [(3, .int (nI ((12 * w) + t))), (0, .ref (a 0)), (1, .int (nI w)), (2, .int (nI t))]) hx hb dX5_isChanged_6 rfl hl (by decide) rfl (fun ls hl => ?_)
  refine lv_aload_n hx hb dX5_isChanged_7 rfl (lv_at hl 1 rfl) ?_
  refine va_get (D := D) (ci := 5) (v := .ref (a 4)) (C := RX5) (T := TX5) (N := 21) hx hb hts (fun w9 h9 => List.mem_cons_of_mem _ (inT_X5 w9 h9)) hown hK hP 0 rfl rfl 3 (by decide) (hts (.fieldLink RX5 20 "LinkPredictorModel" "above" "[I") (List.mem_cons_of_mem _ mw_3_69)) (fun _ h9 => h9) rfl dX5_isChanged_8 ?_
  refine lv_iload_n hx hb dX5_isChanged_11 rfl (lv_at hl 0 rfl) ?_
  refine ro_ald hx hb hEV hP 4 (j := ((12 * w) + t)) rfl (by omega) (by decide) dX5_isChanged_12 ?_
  refine lv_istore (lv' := [(4, .int (x 3 ((12 * w) + t))), (3, .int (nI ((12 * w) + t))), (0, .ref (a 0)), (1, .int (nI w)), (2, .int (nI t))]) hx hb dX5_isChanged_13 hl (by decide) rfl (fun ls hl => ?_)
  refine lv_iload hx hb dX5_isChanged_15 (lv_at hl 0 rfl) ?_
  refine lv_if_lt (tgt := 56) hx hb dX5_isChanged_17 (by decide) (fun c_17 => ?_) (fun c_17 => ?_)
  · skip
    have hE := (if_pos c_17).symm.trans hE
    exact key_56  ls  (lv_sub hl [1, 2, 3] rfl) hE
  · skip
    have hE := (if_neg c_17).symm.trans hE
    have hs9 : isT (x 3 (12 * w + t)) := (wx.1.1 t hnt).1.resolve_left (fun e9 => c_17 (by rw [show x 3 (12 * w + t) = -1 from e9]; decide))
    have hs8 := hs9.1
    refine lv_aload_n hx hb dX5_isChanged_20 rfl (lv_at hl 2 rfl) ?_
    refine va_get (D := D) (ci := 5) (v := .ref (a 2)) (C := RX5) (T := TX5) (N := 21) hx hb hts (fun w9 h9 => List.mem_cons_of_mem _ (inT_X5 w9 h9)) hown hK hP 0 rfl rfl 1 (by decide) (hts (.fieldLink RX5 13 "LinkPredictorModel" "flags" "[I") (List.mem_cons_of_mem _ mw_3_67)) (fun _ h9 => h9) rfl dX5_isChanged_21 ?_
    refine lv_bipush (v := (12 : Int32)) hx hb dX5_isChanged_24 (by decide) ?_
    refine lv_iload_n hx hb dX5_isChanged_26 rfl (lv_at hl 3 rfl) ?_
    refine lv_imul hx hb dX5_isChanged_27 ?_
    refine top_eq (pk_mul 12 w) ?_
    refine lv_iload hx hb dX5_isChanged_28 (lv_at hl 0 rfl) ?_
    refine top_eq (hs9.2) ?_
    refine lv_iadd hx hb dX5_isChanged_30 ?_
    refine top_eq (nI_add (12 * w) (sN (x 3 (12 * w + t)))) ?_
    refine ro_ald hx hb hEV hP 2 (j := ((12 * w) + (sN (x 3 (12 * w + t))))) rfl (by omega) (by decide) dX5_isChanged_31 ?_
    refine lv_bipush (v := (10 : Int32)) hx hb dX5_isChanged_32 (by decide) ?_
    refine lv_iand hx hb dX5_isChanged_34 ?_
    refine lv_if_ne (tgt := 54) hx hb dX5_isChanged_35 (by decide) (fun c_35 => ?_) (fun c_35 => ?_)
    · skip
      have hE := (if_neg c_35).symm.trans hE
      refine lv_iconst (v := (1 : Int32)) hx hb dX5_isChanged_54 (by decide) ?_
      exact W.zret hx hb hr rfl (fun t9 ht9 _ => ⟨_, rfl, hE, ht9⟩) (fun _ h9 => by cases h9) dX5_isChanged_55
    · skip
      have hE := (if_pos c_35).symm.trans hE
      refine lv_aload_n hx hb dX5_isChanged_38 rfl (lv_at hl 2 rfl) ?_
      refine va_get (D := D) (ci := 5) (v := .ref (a 2)) (C := RX5) (T := TX5) (N := 21) hx hb hts (fun w9 h9 => List.mem_cons_of_mem _ (inT_X5 w9 h9)) hown hK hP 0 rfl rfl 1 (by decide) (hts (.fieldLink RX5 13 "LinkPredictorModel" "flags" "[I") (List.mem_cons_of_mem _ mw_3_67)) (fun _ h9 => h9) rfl dX5_isChanged_39 ?_
      refine lv_iload_n hx hb dX5_isChanged_42 rfl (lv_at hl 1 rfl) ?_
      refine ro_ald hx hb hEV hP 2 (j := ((12 * w) + t)) rfl (by omega) (by decide) dX5_isChanged_43 ?_
      refine lv_iconst (v := (2 : Int32)) hx hb dX5_isChanged_44 (by decide) ?_
      refine lv_iand hx hb dX5_isChanged_45 ?_
      refine lv_if_eq (tgt := 56) hx hb dX5_isChanged_46 (by decide) (fun c_46 => ?_) (fun c_46 => ?_)
      · skip
        have hE := (if_pos c_46).symm.trans hE
        exact key_56  ls  (lv_sub hl [1, 2, 3] rfl) hE
      · skip
        have hE := (if_neg c_46).symm.trans hE
        refine lv_iload hx hb dX5_isChanged_49 (lv_at hl 0 rfl) ?_
        refine lv_if_eq (tgt := 56) hx hb dX5_isChanged_51 (by decide) (fun c_51 => ?_) (fun c_51 => ?_)
        · skip
          have hE := (if_pos c_51).symm.trans hE
          exact key_56  ls  (lv_sub hl [1, 2, 3] rfl) hE
        · skip
          have hE := (if_neg c_51).symm.trans hE
          refine lv_iconst (v := (1 : Int32)) hx hb dX5_isChanged_54 (by decide) ?_
          exact W.zret hx hb hr rfl (fun t9 ht9 _ => ⟨_, rfl, hE, ht9⟩) (fun _ h9 => by cases h9) dX5_isChanged_55
/-! ===== ABOVE and FACES of a loaded type ===== -/
theorem isT_root : sN 0 = 0 := by decide
theorem up_step {τ : Nat → Nat → Int32} (wf : WFT τ) {v : Int32} {k : Nat} (hT : isT v) (g : gN τ k (sN v) = true) : 0 < k ∧ (τ 3 (sN v) = -1 ∨ (isT (τ 3 (sN v)) ∧ gN τ (k - 1) (sN (τ 3 (sN v))) = true)) := by
  cases k with
  | zero => simp [gN] at g
  | succ k =>
    refine ⟨by omega, ?_⟩
    obtain ⟨-, h2, -⟩ := gN_iff.mp g
    by_cases c : τ 3 (sN v) = -1
    · exact Or.inl c
    · exact Or.inr ⟨(wf.1 _ hT.1).1.resolve_left c, h2.resolve_left c⟩
theorem abB_lt {τ : Nat → Nat → Int32} (wf : WFT τ) {t w : Nat} (ht : t < 12) (h : abB τ t w = true) : w < 12 := by
  replace h := abB_iff.mp h
  obtain ⟨n, h⟩ := h
  induction n generalizing t with
  | zero => simp [abN] at h
  | succ n ih =>
    rw [abN, Bool.or_eq_true, Bool.and_eq_true] at h
    rcases h with h | ⟨h1, h2⟩
    · have : w = t := by simpa using h
      omega
    · have c : ¬ τ 3 t = -1 := by simpa using h1
      exact ih ((wf.1 t ht).1.resolve_left c).1 h2
theorem fcB_lt {τ : Nat → Nat → Int32} (wf : WFT τ) {t w : Nat} (ht : t < 12) (hw : w < 32) (h : fcB τ t w = true) : w < 12 := by
  replace h := fcB_iff.mp h
  obtain ⟨n, h⟩ := h
  induction n generalizing t with
  | zero => simp [fcN] at h
  | succ n ih =>
    rw [fcN, Bool.or_eq_true, Bool.or_eq_true, Bool.and_eq_true] at h
    rcases h with (h | ⟨h1, h2⟩) | h
    · rcases Nat.lt_or_ge w 12 with z | z
      · exact z
      · rw [(wf.1 t ht).2.2.2 w z hw] at h; exact absurd h (by decide)
    · have c : ¬ τ 3 t = -1 := by simpa using h1
      exact ih ((wf.1 t ht).1.resolve_left c).1 h2
    · obtain ⟨u, hu, q⟩ := exB_iff.mp h
      rw [Bool.and_eq_true] at q
      exact ih hu q.2
theorem ab_face {τ : Nat → Nat → Int32} {t v u : Nat} (h : abB τ t v = true) (f : bt (τ 4 v) u = true) : fcB τ t u = true := by
  replace h := abB_iff.mp h
  obtain ⟨n, h⟩ := h
  induction n generalizing t with
  | zero => simp [abN] at h
  | succ n ih =>
    rw [abN, Bool.or_eq_true, Bool.and_eq_true] at h
    rw [fcB_eq]
    rcases h with h | ⟨h1, h2⟩
    · have : v = t := by simpa using h
      subst this
      rw [f]; rfl
    · rw [ih h2, h1]; simp
theorem fc_face {τ : Nat → Nat → Int32} {t v u : Nat} (hv : v < 12) (h : fcB τ t v = true) (f : bt (τ 4 v) u = true) : fcB τ t u = true := by
  replace h := fcB_iff.mp h
  obtain ⟨n, h⟩ := h
  have fv : fcB τ v u = true := by rw [fcB_eq, f]; rfl
  induction n generalizing t with
  | zero => simp [fcN] at h
  | succ n ih =>
    rw [fcN, Bool.or_eq_true, Bool.or_eq_true, Bool.and_eq_true] at h
    rw [fcB_eq, Bool.or_eq_true, Bool.or_eq_true, Bool.and_eq_true]
    rcases h with (h | ⟨h1, h2⟩) | h
    · exact Or.inr (exB_iff.mpr ⟨v, hv, by rw [h, fv]; rfl⟩)
    · exact Or.inl (Or.inr ⟨h1, ih h2⟩)
    · obtain ⟨w, hw, q⟩ := exB_iff.mp h
      rw [Bool.and_eq_true] at q
      exact Or.inr (exB_iff.mpr ⟨w, hw, by rw [q.1, ih q.2]; rfl⟩)
theorem ab_trans {τ : Nat → Nat → Int32} {t v : Nat} (h : abB τ t v = true) (c : ¬ τ 3 v = -1) : abB τ t (sN (τ 3 v)) = true := by
  replace h := abB_iff.mp h
  obtain ⟨n, h⟩ := h
  induction n generalizing t with
  | zero => simp [abN] at h
  | succ n ih =>
    rw [abN, Bool.or_eq_true, Bool.and_eq_true] at h
    rw [abB_eq, Bool.or_eq_true, Bool.and_eq_true]
    rcases h with h | ⟨h1, h2⟩
    · have : v = t := by simpa using h
      subst this
      exact Or.inr ⟨by simpa using c, by rw [abB_eq]; simp⟩
    · exact Or.inr ⟨h1, ih h2⟩
theorem ab_good {τ : Nat → Nat → Int32} {t v : Nat} (g : Gd τ t) (h : abB τ t v = true) : Gd τ v := by
  replace h := abB_iff.mp h
  obtain ⟨n, h⟩ := h
  induction n generalizing t with
  | zero => simp [abN] at h
  | succ n ih =>
    rw [abN, Bool.or_eq_true, Bool.and_eq_true] at h
    rcases h with h | ⟨h1, h2⟩
    · have : v = t := by simpa using h
      subst this
      exact g
    · exact ih (g.sup (by simpa using h1)) h2
theorem face_if {τ : Nat → Nat → Int32} {t u : Nat} (g : Gd τ t) (hu : u < 12) (f : bt (τ 4 t) u = true) : bt (τ 1 u) 1 = true := by
  cases e : bt (τ 1 u) 1 with
  | true => rfl
  | false =>
    have hw := g.right
    unfold wrB at hw
    rw [Bool.or_eq_false_iff] at hw
    have : exB (fun u => bt (τ 4 t) u && !(bt (τ 1 u) 1)) 12 = true := exB_iff.mpr ⟨u, hu, by rw [f, e]; rfl⟩
    rw [this] at hw
    exact absurd hw.2 (by decide)
theorem fc_good {τ : Nat → Nat → Int32} {t v : Nat} (hv : v < 12) (g : Gd τ t) (h : fcB τ t v = true) : Gd τ v ∧ bt (τ 1 v) 1 = true := by
  replace h := fcB_iff.mp h
  obtain ⟨n, h⟩ := h
  induction n generalizing t with
  | zero => simp [fcN] at h
  | succ n ih =>
    rw [fcN, Bool.or_eq_true, Bool.or_eq_true, Bool.and_eq_true] at h
    rcases h with (h | ⟨h1, h2⟩) | h
    · exact ⟨g.face hv h, face_if g hv h⟩
    · exact ih (g.sup (by simpa using h1)) h2
    · obtain ⟨w, hw, q⟩ := exB_iff.mp h
      rw [Bool.and_eq_true] at q
      exact ih (g.face hw q.1) q.2
theorem if_sup {τ : Nat → Nat → Int32} {v : Nat} (g : Gd τ v) (i : bt (τ 1 v) 1 = true) : τ 3 v = 0 := by
  have hw := g.right
  unfold wrB at hw
  rw [Bool.or_eq_false_iff, Bool.or_eq_false_iff] at hw
  have := hw.1.2
  rw [i] at this
  simpa using this
theorem fcN_root {τ : Nat → Nat → Int32} (wf : WFT τ) (n u : Nat) : fcN τ n 0 u = false := by
  cases n with
  | zero => rfl
  | succ n =>
    have h4 : τ 4 0 = 0 := wf.2.2.2.2.1
    have h3 : τ 3 0 = -1 := wf.2.2.2.1
    rw [fcN, h4, h3, b_0]
    simp only [decide_true, Bool.not_true, Bool.false_and, Bool.or_false, Bool.false_or]
    cases e : exB (fun u_1 => bt 0 u_1 && fcN τ n u_1 u) 12 with
    | false => rfl
    | true =>
      obtain ⟨w, -, q⟩ := exB_iff.mp e
      rw [b_0] at q
      exact absurd q (by simp)
/-- a set that holds the faces of the above and is closed has all faces -/
theorem fc_closed {τ : Nat → Nat → Int32} (wf : WFT τ) {t : Nat} (ht : t < 12) (S : Nat → Prop) (ha : ∀ v u, u < 12 → abB τ t v = true → bt (τ 4 v) u = true → S u) (hb : ∀ v u, v < 12 → u < 12 → S v → bt (τ 4 v) u = true → S u) (hc : ∀ v, v < 12 → S v → τ 3 v = 0) :
    ∀ u, u < 12 → fcB τ t u = true → S u := by
  have key : ∀ n v u, u < 12 → v < 12 → (abB τ t v = true ∨ S v) → fcN τ n v u = true → S u := by
    intro n
    induction n with
    | zero => intro v u _ _ _ h; simp [fcN] at h
    | succ n ih =>
      intro v u hu hv hq h
      rw [fcN, Bool.or_eq_true, Bool.or_eq_true, Bool.and_eq_true] at h
      rcases h with (h | ⟨h1, h2⟩) | h
      · rcases hq with q | q
        · exact ha v u hu q h
        · exact hb v u hv hu q h
      · have c : ¬ τ 3 v = -1 := by simpa using h1
        rcases hq with q | q
        · exact ih _ u hu ((wf.1 v hv).1.resolve_left c).1 (Or.inl (ab_trans q c)) h2
        · rw [hc v hv q, isT_root, fcN_root wf] at h2
          exact absurd h2 (by decide)
      · obtain ⟨w, hw, q2⟩ := exB_iff.mp h
        rw [Bool.and_eq_true] at q2
        refine ih w u hu hw (Or.inr ?_) q2.2
        rcases hq with q | q
        · exact ha v w hw q q2.1
        · exact hb v w hv hw q q2.1
  intro u hu h
  replace h := fcB_iff.mp h
  obtain ⟨n, h⟩ := h
  exact key n t u hu ht (Or.inl (by rw [abB_eq]; simp)) h
noncomputable def aboI (τ : Nat → Nat → Int32) (t : Nat) : Int32 := orF (abB τ t) (fun u => u) 12
noncomputable def facI (τ : Nat → Nat → Int32) (t : Nat) : Int32 := orF (fcB τ t) (fun u => u) 12
theorem or12_bt {p : Nat → Bool} {w : Nat} (hw : w < 32) : bt (orF p (fun u => u) 12) w = true ↔ w < 12 ∧ p w = true := by
  rw [orF_bt _ _ hw 12 (fun m hm => by omega)]
  constructor
  · rintro ⟨m, h1, h2, h3⟩; subst h3; exact ⟨h1, h2⟩
  · rintro ⟨h1, h2⟩; exact ⟨w, h1, h2, rfl⟩
def m12 (v : Int32) : Prop := ∀ i, 12 ≤ i → i < 32 → bt v i = false
theorem m12_0 : m12 0 := fun i _ _ => b_0 i
theorem m12_or {a b : Int32} (h1 : m12 a) (h2 : m12 b) : m12 (a ||| b) := fun i q1 q2 => by rw [b_or, h1 i q1 q2, h2 i q1 q2]; rfl
theorem fc_meas {a c d : Int32} (h : m12 d) (hc : ¬ c = 0) : 2 * cN (a ||| (d &&& (a ^^^ (-1)))) + (if (d &&& (a ^^^ (-1))) = 0 then 0 else 1) < 2 * cN a + (if c = 0 then 0 else 1) := by
  rw [if_neg hc]
  by_cases e : (d &&& (a ^^^ (-1))) = 0
  · rw [if_pos e, e, or_0]; omega
  · rw [if_neg e]
    obtain ⟨i, hi, hb⟩ := b_ne0 e
    rw [b_and, b_xor, b_m1 i hi, Bool.and_eq_true] at hb
    have hi2 : i < 12 := by
      rcases Nat.lt_or_ge i 12 with z | z
      · exact z
      · rw [h i z hi] at hb; exact absurd hb.1 (by decide)
    have ha : bt a i = false := by cases q : bt a i with | false => rfl | true => rw [q] at hb; exact absurd hb.2 (by decide)
    have h1 := cN_or hi2 ha
    have h2 : cN (a ||| (d &&& (a ^^^ (-1)))) ≤ cN (a ||| bm i) := cN_mono (fun t ht q => by
      rw [b_or, b_bm (by omega) (by omega), Bool.or_eq_true] at q
      rw [b_or, Bool.or_eq_true]
      rcases q with q | q
      · exact Or.inl q
      · have et : t = i := by simpa using q
        subst et
        exact Or.inr (by rw [b_and, b_xor, b_m1 t hi, hb.1, ha]; rfl))
    omega

noncomputable def p_X5_aboveOf_5 (x : Nat → Nat → Int32) (w n : Nat) (t : Nat) : Nat → Int32 → Int32 → Int32
  | 0, _, _ => 0
  | k + 1, v4, v3 => if v4 < (0 : Int32) then (v3) else (p_X5_aboveOf_5 x w n t k (x 3 ((12 * w) + (sN v4))) (v3 ||| ((1 : Int32) <<< ((nI (sN v4)) &&& 31))))
noncomputable def p_X5_aboveOf (x : Nat → Nat → Int32) (w n : Nat) (t : Nat) : Int32 := p_X5_aboveOf_5 x w n t 14 (nI t) (0 : Int32)
theorem pl_X5_aboveOf (x : Nat → Nat → Int32) (w n t : Nat) (wf : WFT (vwX x w)) : ∀ k v4 v3, (v4 = -1 ∨ (isT v4 ∧ gN (vwX x w) (k - 1) (sN v4) = true)) → 0 < k → ∀ i, i < 32 → (bt (p_X5_aboveOf_5 x w n t k v4 v3) i = true ↔ bt v3 i = true ∨ (¬ v4 = -1 ∧ abB (vwX x w) (sN v4) i = true)) := by
  intro k
  induction k with
  | zero => intro v4 v3 _ h; omega
  | succ k ih =>
    intro v4 v3 hv _ i hi
    rw [p_X5_aboveOf_5]
    by_cases c : v4 < 0
    · rw [if_pos c]
      have em : v4 = -1 := by
        rcases hv with e | e
        · exact e
        · rw [e.1.2] at c; exact absurd c (nI_pos (by have := e.1.1; omega))
      simp [em]
    · rw [if_neg c]
      have nm : ¬ v4 = -1 := fun e => c (by rw [e]; decide)
      obtain ⟨hT, hg⟩ := hv.resolve_left nm
      have hu := up_step wf hT hg
      refine (ih (vwX x w 3 (sN v4)) (v3 ||| bm (sN v4)) hu.2 hu.1 i hi).trans ?_
      rw [abB_eq (vwX x w) (sN v4) i, b_or, b_bm (by have := hT.1; omega) hi]
      by_cases c3 : vwX x w 3 (sN v4) = -1 <;> simp [c3, nm, or_assoc]
theorem pe_X5_aboveOf (x : Nat → Nat → Int32) (w n : Nat) (t : Nat) (hw : w < 2) (wx : WX x w n) (hnt : t < 12) (gt : Gd (vwX x w) t) : p_X5_aboveOf x w n t = aboI (vwX x w) t := by
  apply b_ext
  intro i hi
  rw [p_X5_aboveOf, Bool.eq_iff_iff, pl_X5_aboveOf x w n t wx.1 14 (nI t) 0 (Or.inr ⟨isT_nI hnt, by rw [sN_nI (by omega)]; exact gN_le (by omega) (gN12 wx.1 hnt gt)⟩) (by omega) i hi, b_0]
  unfold aboI
  rw [or12_bt hi, sN_nI (by omega)]
  have hne : ¬ nI t = -1 := fun z => by have := congrArg Int32.toInt z; rw [nI_toInt (by omega)] at this; simp at this
  constructor
  · rintro (q | ⟨-, q⟩)
    · exact absurd q (by decide)
    · exact ⟨abB_lt wx.1 hnt q, q⟩
  · rintro ⟨-, q⟩; exact Or.inr ⟨hne, q⟩
set_option maxHeartbeats 4000000 in
set_option maxRecDepth 100000 in
theorem c_X5_aboveOf (l : Launch) (D : va_G) (cI cZ cB cR : ClassId) (a : Nat → Nat) (x : Nat → Nat → Int32) (r1 r2 : Nat → Int32) (w n : Nat) (t : Nat) (hw : w < 2) (wx : WX x w n) (hnt : t < 12) (gt : Gd (vwX x w) t) : RO l yX5_aboveOf wsX5_aboveOf ({ frames := 0, cells := 0, slots := 0, locals := 0 } : Room) D cI cZ cB cR (wX cI cZ a x r1 r2) [.ref (a 0), .int (nI w), .int (nI t)] (aboI (vwX x w) t) := by
  have hE : p_X5_aboveOf x w n t = aboI (vwX x w) t := pe_X5_aboveOf x w n t hw wx hnt gt
  refine Met.ofW (cc := cX5_aboveOf) (maxL := 5) (ret := (some .int)) (by decide) rfl ?_
  intro p e s m args below meth c s₁ B hml hv
  obtain ⟨hargs, hP, hEV⟩ := hv
  have hx := B.exec
  have hb := B.bytes
  have hr := B.returns
  have hts := atoms_spec (ws := wsX5_aboveOf) B.pre
  have hown : s.vm.findClass RX5 = some m.cls := findClass_of_methodNamed B.named
  have hlocks := B.notSynchronized
  have hK := hEV.1
  have hl := lv_entry ([.ref (a 0), .int (nI w), .int (nI t)]) (n := 5) (Nat.le_of_ble_eq_true rfl)
  rw [show entryFrame m args 5 = entryFrame m ([.ref (a 0), .int (nI w), .int (nI t)] : List Value).toArray 5 from by rw [hargs], lg_entry_eq]
  generalize (lg_sl ([.ref (a 0), .int (nI w), .int (nI t)]) ++ List.replicate (5 - (lg_sl ([.ref (a 0), .int (nI w), .int (nI t)])).length) Slot.unset).toArray = ls at hl ⊢
  have hl : lv_has ls 5 [(0, .ref (a 0)), (1, .int (nI w)), (2, .int (nI t))] := hl
  rw [p_X5_aboveOf] at hE
  have hn30 := wx.2.2.1
  have key_5 : ∀ (k_5 : Nat) (v4 : Int32) (v3 : Int32) (ls : Array Slot), 0 < k_5 → v4 = -1 ∨ (isT v4 ∧ gN (vwX x w) (k_5 - 1) (sN v4) = true) → lv_has ls 5 [(4, .int v4), (3, .int v3), (0, .ref (a 0)), (1, .int (nI w))] → p_X5_aboveOf_5 x w n t k_5 v4 v3 = aboI (vwX x w) t → W p l e (headSpec wsX5_aboveOf ({ frames := 0, cells := 0, slots := 0, locals := 0 } : Room)).room s m args below meth c s.heap [] 0 0 (MQ below (vp_Si (fun r => r = aboI (vwX x w) t)) args s 0 0 (fun _ => False)) (F0 m 5 ls []) := by
    intro k_5
    induction k_5 with
    | zero => intro v4 v3 ls hm; exact absurd hm (Nat.not_lt_zero _)
    | succ k_5 ih_5 =>
      intro v4 v3 ls hm_5 hi_5_0 hl hE
      rw [p_X5_aboveOf_5] at hE
      refine lv_iload hx hb dX5_aboveOf_5 (lv_at hl 0 rfl) ?_
      refine lv_if_lt (tgt := 34) hx hb dX5_aboveOf_7 (by decide) (fun c_7 => ?_) (fun c_7 => ?_)
      · skip
        have hE := (if_pos c_7).symm.trans hE
        refine lv_iload_n hx hb dX5_aboveOf_34 rfl (lv_at hl 1 rfl) ?_
        exact W.iret hx hb hr (fun t9 ht9 _ => ⟨_, rfl, hE, ht9⟩) (fun _ h9 => by cases h9) dX5_aboveOf_35
      · skip
        have hE := (if_neg c_7).symm.trans hE
        have hq9 := hi_5_0.resolve_left (fun e9 => c_7 (by rw [e9]; decide))
        have hv9 := hq9.1
        have hv8 := hv9.1
        have hg9 : gN (vwX x w) k_5 (sN v4) = true := hq9.2
        refine lv_iload_n hx hb dX5_aboveOf_10 rfl (lv_at hl 1 rfl) ?_
        refine lv_iconst (v := (1 : Int32)) hx hb dX5_aboveOf_11 (by decide) ?_
        refine lv_iload hx hb dX5_aboveOf_12 (lv_at hl 0 rfl) ?_
        refine top_eq (hv9.2) ?_
        refine lv_ishl hx hb dX5_aboveOf_14 ?_
        refine lv_ior hx hb dX5_aboveOf_15 ?_
        refine lv_istore_n (lv' := [(3, .int (v3 ||| ((1 : Int32) <<< ((nI (sN v4)) &&& 31)))), (4, .int v4), (0, .ref (a 0)), (1, .int (nI w))]) hx hb dX5_aboveOf_16 rfl hl (by decide) rfl (fun ls hl => ?_)
        refine lv_aload_n hx hb dX5_aboveOf_17 rfl (lv_at hl 2 rfl) ?_
        refine va_get (D := D) (ci := 5) (v := .ref (a 4)) (C := RX5) (T := TX5) (N := 21) hx hb hts (fun w9 h9 => List.mem_cons_of_mem _ (inT_X5 w9 h9)) hown hK hP 0 rfl rfl 3 (by decide) (hts (.fieldLink RX5 20 "LinkPredictorModel" "above" "[I") (List.mem_cons_of_mem _ mw_3_69)) (fun _ h9 => h9) rfl dX5_aboveOf_18 ?_
        refine lv_bipush (v := (12 : Int32)) hx hb dX5_aboveOf_21 (by decide) ?_
        refine lv_iload_n hx hb dX5_aboveOf_23 rfl (lv_at hl 3 rfl) ?_
        refine lv_imul hx hb dX5_aboveOf_24 ?_
        refine top_eq (pk_mul 12 w) ?_
        refine lv_iload hx hb dX5_aboveOf_25 (lv_at hl 1 rfl) ?_
        refine top_eq (hv9.2) ?_
        refine lv_iadd hx hb dX5_aboveOf_27 ?_
        refine top_eq (nI_add (12 * w) (sN v4)) ?_
        refine ro_ald hx hb hEV hP 4 (j := ((12 * w) + (sN v4))) rfl (by omega) (by decide) dX5_aboveOf_28 ?_
        refine lv_istore (lv' := [(4, .int (x 3 ((12 * w) + (sN v4)))), (3, .int (v3 ||| ((1 : Int32) <<< ((nI (sN v4)) &&& 31)))), (0, .ref (a 0)), (1, .int (nI w))]) hx hb dX5_aboveOf_29 hl (by decide) rfl (fun ls hl => ?_)
        refine lv_goto (tgt := 5) hx hb dX5_aboveOf_31 (by decide) ?_
        exact ih_5 (x 3 ((12 * w) + (sN v4))) (v3 ||| ((1 : Int32) <<< ((nI (sN v4)) &&& 31))) ls (by first | omega | exact (up_step wx.1 hv9 hg9).1) (by first | exact (up_step wx.1 hv9 hg9).2 | exact Or.inr ⟨isT_nI hnt, by rw [sN_nI (by omega)]; exact gN_le (by omega) (gN12 wx.1 hnt gt)⟩) (lv_sub hl [0, 1, 2, 3] rfl) hE
  refine lv_iconst (v := (0 : Int32)) hx hb dX5_aboveOf_0 (by decide) ?_
  refine lv_istore_n (lv' := [(3, .int (0 : Int32)), (0, .ref (a 0)), (1, .int (nI w)), (2, .int (nI t))]) hx hb dX5_aboveOf_1 rfl hl (by decide) rfl (fun ls hl => ?_)
  refine lv_iload_n hx hb dX5_aboveOf_2 rfl (lv_at hl 3 rfl) ?_
  refine lv_istore (lv' := [(4, .int (nI t)), (3, .int (0 : Int32)), (0, .ref (a 0)), (1, .int (nI w)), (2, .int (nI t))]) hx hb dX5_aboveOf_3 hl (by decide) rfl (fun ls hl => ?_)
  exact key_5 14 (nI t) (0 : Int32) ls (by first | omega | exact (up_step wx.1 hv9 hg9).1) (by first | exact (up_step wx.1 hv9 hg9).2 | exact Or.inr ⟨isT_nI hnt, by rw [sN_nI (by omega)]; exact gN_le (by omega) (gN12 wx.1 hnt gt)⟩) (lv_sub hl [0, 1, 2, 3] rfl) hE
noncomputable def p_X5_facesOf_21 (x : Nat → Nat → Int32) (w n : Nat) (t : Nat) (K10 : Int32 → Int32 → Int32) : Nat → Nat → Int32 → Int32 → Int32 → Int32
  | 0, _, _, _, _ => 0
  | k + 1, n6, v5, v4, v3 => if 12 ≤ n6 then (K10 (v5 &&& (v3 ^^^ (-1 : Int32))) (v3 ||| (v5 &&& (v3 ^^^ (-1 : Int32))))) else (if (bt v4 n6) = true then (p_X5_facesOf_21 x w n t K10 k (n6 + 1) (v5 ||| (x 4 ((12 * w) + n6))) v4 v3) else (p_X5_facesOf_21 x w n t K10 k (n6 + 1) v5 v4 v3))
noncomputable def p_X5_facesOf_10 (x : Nat → Nat → Int32) (w n : Nat) (t : Nat) : Nat → Int32 → Int32 → Int32
  | 0, _, _ => 0
  | k + 1, v4, v3 => if v4 = (0 : Int32) then (v3) else (p_X5_facesOf_21 x w n t (fun v4 v3 => p_X5_facesOf_10 x w n t k v4 v3) 13 0 (0 : Int32) v4 v3)
noncomputable def p_X5_facesOf (x : Nat → Nat → Int32) (w n : Nat) (t : Nat) : Int32 := p_X5_facesOf_10 x w n t 26 (aboI (vwX x w) t) (0 : Int32)
theorem pl_X5_facesOf21 (x : Nat → Nat → Int32) (w n t : Nat) (K : Int32 → Int32 → Int32) (v3 v4 : Int32) : ∀ k i v5, 12 - i < k → i ≤ 12 → ∃ v, p_X5_facesOf_21 x w n t K k i v5 v4 v3 = K (v &&& (v3 ^^^ (-1))) (v3 ||| (v &&& (v3 ^^^ (-1)))) ∧ ∀ u, u < 32 → (bt v u = true ↔ bt v5 u = true ∨ ∃ y, i ≤ y ∧ y < 12 ∧ bt v4 y = true ∧ bt (vwX x w 4 y) u = true) := by
  intro k
  induction k with
  | zero => intro i v5 h1; omega
  | succ k ih =>
    intro i v5 hk hi
    rw [p_X5_facesOf_21]
    by_cases c : 12 ≤ i
    · rw [if_pos c]
      refine ⟨v5, rfl, fun u _ => ⟨Or.inl, ?_⟩⟩
      rintro (q | ⟨y, q1, q2, -⟩)
      · exact q
      · omega
    · rw [if_neg c]
      by_cases c1 : bt v4 i = true
      · rw [if_pos c1]
        obtain ⟨v, e, hv⟩ := ih (i + 1) (v5 ||| x 4 (12 * w + i)) (by omega) (by omega)
        refine ⟨v, e, fun u hu => ?_⟩
        rw [hv u hu, b_or, Bool.or_eq_true]
        constructor
        · rintro ((q | q) | ⟨y, q1, q2, q3⟩)
          · exact Or.inl q
          · exact Or.inr ⟨i, Nat.le_refl i, by omega, c1, q⟩
          · exact Or.inr ⟨y, by omega, q2, q3⟩
        · rintro (q | ⟨y, q1, q2, q3, q4⟩)
          · exact Or.inl (Or.inl q)
          · rcases Nat.lt_or_ge i y with z | z
            · exact Or.inr ⟨y, z, q2, q3, q4⟩
            · have e : y = i := by omega
              subst e
              exact Or.inl (Or.inr q4)
      · rw [if_neg c1]
        obtain ⟨v, e, hv⟩ := ih (i + 1) v5 (by omega) (by omega)
        refine ⟨v, e, fun u hu => ?_⟩
        rw [hv u hu]
        constructor
        · rintro (q | ⟨y, q1, q2, q3⟩)
          · exact Or.inl q
          · exact Or.inr ⟨y, by omega, q2, q3⟩
        · rintro (q | ⟨y, q1, q2, q3, q4⟩)
          · exact Or.inl q
          · rcases Nat.lt_or_ge i y with z | z
            · exact Or.inr ⟨y, z, q2, q3, q4⟩
            · have e : y = i := by omega
              subst e
              exact absurd q3 c1
theorem pl_X5_facesOf10 (x : Nat → Nat → Int32) (w n t : Nat) (wf : WFT (vwX x w)) (ht : t < 12) (gt : Gd (vwX x w) t) : ∀ k v4 v3, 2 * cN v3 + (if v4 = 0 then 0 else 1) < k → m12 v3 → (∀ u, u < 12 → bt v3 u = true → fcB (vwX x w) t u = true) → (∀ u, u < 12 → bt v4 u = true → abB (vwX x w) t u = true ∨ bt v3 u = true) → (∀ y, y < 12 → (abB (vwX x w) t y = true ∨ bt v3 y = true) → ¬ bt v4 y = true → ∀ u, u < 12 → bt (vwX x w 4 y) u = true → bt v3 u = true) → p_X5_facesOf_10 x w n t k v4 v3 = facI (vwX x w) t := by
  intro k
  induction k with
  | zero => intro v4 v3 h; omega
  | succ k ih =>
    intro v4 v3 hk h0 h1 h2 h3
    rw [p_X5_facesOf_10]
    by_cases c : v4 = 0
    · rw [if_pos c]
      apply b_ext
      intro u hu
      rw [Bool.eq_iff_iff]
      unfold facI
      rw [or12_bt hu]
      subst c
      constructor
      · intro q
        have hu2 : u < 12 := by
          rcases Nat.lt_or_ge u 12 with z | z
          · exact z
          · rw [h0 u z hu] at q; exact absurd q (by decide)
        exact ⟨hu2, h1 u hu2 q⟩
      · rintro ⟨hu2, q⟩
        refine fc_closed wf ht (fun u => bt v3 u = true) ?_ ?_ ?_ u hu2 q
        · intro v u hu a f; exact h3 v (abB_lt wf ht a) (Or.inl a) (by rw [b_0]; decide) u hu f
        · intro v u hv hu s f; exact h3 v hv (Or.inr s) (by rw [b_0]; decide) u hu f
        · intro v hv s
          obtain ⟨g, i⟩ := fc_good hv gt (h1 v hv s)
          exact if_sup g i
    · rw [if_neg c]
      obtain ⟨v, e, hv⟩ := pl_X5_facesOf21 x w n t (fun v4 v3 => p_X5_facesOf_10 x w n t k v4 v3) v3 v4 13 0 0 (by omega) (by omega)
      rw [e]
      have hm : m12 v := by
        intro i q1 q2
        cases z : bt v i with
        | false => rfl
        | true =>
          rcases (hv i q2).mp z with q | ⟨y, -, y2, -, y4⟩
          · rw [b_0] at q; exact absurd q (by decide)
          · rw [(wf.1 y y2).2.2.2 i q1 q2] at y4; exact absurd y4 (by decide)
      have hb : ∀ u, u < 12 → (bt (v &&& (v3 ^^^ (-1))) u = true ↔ bt v u = true ∧ ¬ bt v3 u = true) := fun u hu => by
        rw [b_and, b_xor, b_m1 u (by omega)]; cases bt v u <;> cases bt v3 u <;> simp
      have hf : ∀ u, u < 12 → bt v u = true → fcB (vwX x w) t u = true := fun u hu q => by
        rcases (hv u (by omega)).mp q with q | ⟨y, -, y2, y3, y4⟩
        · rw [b_0] at q; exact absurd q (by decide)
        · rcases h2 y y2 y3 with a | a
          · exact ab_face a y4
          · exact fc_face y2 (h1 y y2 a) y4
      refine ih _ _ ?_ ?_ ?_ ?_ ?_
      · have := fc_meas (a := v3) hm c; omega
      · exact m12_or h0 (fun i q1 q2 => by rw [b_and, hm i q1 q2]; rfl)
      · intro u hu q
        rw [b_or, Bool.or_eq_true] at q
        rcases q with q | q
        · exact h1 u hu q
        · exact hf u hu ((hb u hu).mp q).1
      · intro u hu q; exact Or.inr (by rw [b_or, q, Bool.or_true])
      · intro y hy q nq u hu f
        rw [b_or, Bool.or_eq_true]
        have q' : abB (vwX x w) t y = true ∨ bt v3 y = true := by
          rcases q with q | q
          · exact Or.inl q
          · rw [b_or, Bool.or_eq_true] at q
            exact Or.inr (q.resolve_right nq)
        by_cases z : bt v4 y = true
        · have hvu : bt v u = true := (hv u (by omega)).mpr (Or.inr ⟨y, Nat.zero_le y, hy, z, f⟩)
          by_cases z2 : bt v3 u = true
          · exact Or.inl z2
          · exact Or.inr ((hb u hu).mpr ⟨hvu, z2⟩)
        · exact Or.inl (h3 y hy q' z u hu f)
theorem pe_X5_facesOf (x : Nat → Nat → Int32) (w n : Nat) (t : Nat) (hw : w < 2) (wx : WX x w n) (hnt : t < 12) (gt : Gd (vwX x w) t) : p_X5_facesOf x w n t = facI (vwX x w) t := by
  rw [p_X5_facesOf]
  refine pl_X5_facesOf10 x w n t wx.1 hnt gt 26 _ 0 (by rw [cN_0]; split <;> omega) m12_0 (fun u _ q => by rw [b_0] at q; exact absurd q (by decide)) (fun u hu q => Or.inl ?_) (fun y hy q nq => ?_)
  · unfold aboI at q; exact ((or12_bt (by omega)).mp q).2
  · exfalso
    rcases q with q | q
    · exact nq (by unfold aboI; exact (or12_bt (by omega)).mpr ⟨hy, q⟩)
    · rw [b_0] at q; exact absurd q (by decide)
set_option maxHeartbeats 4000000 in
set_option maxRecDepth 100000 in
theorem c_X5_facesOf (l : Launch) (D : va_G) (cI cZ cB cR : ClassId) (a : Nat → Nat) (x : Nat → Nat → Int32) (r1 r2 : Nat → Int32) (w n : Nat) (t : Nat) (hw : w < 2) (wx : WX x w n) (hnt : t < 12) (gt : Gd (vwX x w) t) : RO l yX5_facesOf wsX5_facesOf ({ frames := 1, cells := 0, slots := 0, locals := 24 } : Room) D cI cZ cB cR (wX cI cZ a x r1 r2) [.ref (a 0), .int (nI w), .int (nI t)] (facI (vwX x w) t) := by
  have hE : p_X5_facesOf x w n t = facI (vwX x w) t := pe_X5_facesOf x w n t hw wx hnt gt
  refine Met.ofW (cc := cX5_facesOf) (maxL := 7) (ret := (some .int)) (by decide) rfl ?_
  intro p e s m args below meth c s₁ B hml hv
  obtain ⟨hargs, hP, hEV⟩ := hv
  have hx := B.exec
  have hb := B.bytes
  have hr := B.returns
  have hts := atoms_spec (ws := wsX5_facesOf) B.pre
  have hown : s.vm.findClass RX5 = some m.cls := findClass_of_methodNamed B.named
  have hlocks := B.notSynchronized
  have hK := hEV.1
  have hl := lv_entry ([.ref (a 0), .int (nI w), .int (nI t)]) (n := 7) (Nat.le_of_ble_eq_true rfl)
  rw [show entryFrame m args 7 = entryFrame m ([.ref (a 0), .int (nI w), .int (nI t)] : List Value).toArray 7 from by rw [hargs], lg_entry_eq]
  generalize (lg_sl ([.ref (a 0), .int (nI w), .int (nI t)]) ++ List.replicate (7 - (lg_sl ([.ref (a 0), .int (nI w), .int (nI t)])).length) Slot.unset).toArray = ls at hl ⊢
  have hl : lv_has ls 7 [(0, .ref (a 0)), (1, .int (nI w)), (2, .int (nI t))] := hl
  rw [p_X5_facesOf] at hE
  have hn30 := wx.2.2.1
  have key_10 : ∀ (k_10 : Nat) (v4 : Int32) (v3 : Int32) (ls : Array Slot), (2 * cN v3 + (if v4 = 0 then 0 else 1)) < k_10 → lv_has ls 7 [(4, .int v4), (3, .int v3), (0, .ref (a 0)), (1, .int (nI w))] → p_X5_facesOf_10 x w n t k_10 v4 v3 = facI (vwX x w) t → W p l e (headSpec wsX5_facesOf ({ frames := 1, cells := 0, slots := 0, locals := 24 } : Room)).room s m args below meth c s.heap [] 0 0 (MQ below (vp_Si (fun r => r = facI (vwX x w) t)) args s 0 0 (fun _ => False)) (F0 m 10 ls []) := by
    intro k_10
    induction k_10 with
    | zero => intro v4 v3 ls hm; exact absurd hm (Nat.not_lt_zero _)
    | succ k_10 ih_10 =>
      have key_21 : ∀ (k_21 : Nat) (n6 : Nat) (v5 : Int32) (v4 : Int32) (v3 : Int32) (ls : Array Slot), (12 - n6) < k_21 → n6 ≤ 12 → m12 v5 → ¬ v4 = 0 → (2 * cN v3 + (if v4 = 0 then 0 else 1)) < k_10 + 1 → lv_has ls 7 [(6, .int (nI n6)), (5, .int v5), (4, .int v4), (3, .int v3), (0, .ref (a 0)), (1, .int (nI w))] → p_X5_facesOf_21 x w n t (fun v4 v3 => p_X5_facesOf_10 x w n t k_10 v4 v3) k_21 n6 v5 v4 v3 = facI (vwX x w) t → W p l e (headSpec wsX5_facesOf ({ frames := 1, cells := 0, slots := 0, locals := 24 } : Room)).room s m args below meth c s.heap [] 0 0 (MQ below (vp_Si (fun r => r = facI (vwX x w) t)) args s 0 0 (fun _ => False)) (F0 m 21 ls []) := by
        intro k_21
        induction k_21 with
        | zero => intro n6 v5 v4 v3 ls hm; exact absurd hm (Nat.not_lt_zero _)
        | succ k_21 ih_21 =>
          intro n6 v5 v4 v3 ls hm_21 hi_21_0 hi_21_1 hi_21_2 hi_21_3 hl hE
          rw [p_X5_facesOf_21] at hE
          refine lv_iload hx hb dX5_facesOf_21 (lv_at hl 0 rfl) ?_
          refine lv_bipush (v := (12 : Int32)) hx hb dX5_facesOf_23 (by decide) ?_
          refine lv_icmp_ge (tgt := 61) hx hb dX5_facesOf_25 (by decide) (fun c_25 => ?_) (fun c_25 => ?_)
          · have c_25 : 12 ≤ n6 := (nI_leI (a := 12) (b := n6) (by omega) (by omega)).mp c_25
            have hE := (if_pos c_25).symm.trans hE
            refine lv_iload hx hb dX5_facesOf_61 (lv_at hl 1 rfl) ?_
            refine lv_iload_n hx hb dX5_facesOf_63 rfl (lv_at hl 3 rfl) ?_
            refine lv_iconst (v := (-1 : Int32)) hx hb dX5_facesOf_64 (by decide) ?_
            refine lv_ixor hx hb dX5_facesOf_65 ?_
            refine lv_iand hx hb dX5_facesOf_66 ?_
            refine lv_istore (lv' := [(5, .int (v5 &&& (v3 ^^^ (-1 : Int32)))), (6, .int (nI n6)), (4, .int v4), (3, .int v3), (0, .ref (a 0)), (1, .int (nI w))]) hx hb dX5_facesOf_67 hl (by decide) rfl (fun ls hl => ?_)
            refine lv_iload_n hx hb dX5_facesOf_69 rfl (lv_at hl 3 rfl) ?_
            refine lv_iload hx hb dX5_facesOf_70 (lv_at hl 0 rfl) ?_
            refine lv_ior hx hb dX5_facesOf_72 ?_
            refine lv_istore_n (lv' := [(3, .int (v3 ||| (v5 &&& (v3 ^^^ (-1 : Int32))))), (5, .int (v5 &&& (v3 ^^^ (-1 : Int32)))), (6, .int (nI n6)), (4, .int v4), (0, .ref (a 0)), (1, .int (nI w))]) hx hb dX5_facesOf_73 rfl hl (by decide) rfl (fun ls hl => ?_)
            refine lv_iload hx hb dX5_facesOf_74 (lv_at hl 1 rfl) ?_
            refine lv_istore (lv' := [(4, .int (v5 &&& (v3 ^^^ (-1 : Int32)))), (3, .int (v3 ||| (v5 &&& (v3 ^^^ (-1 : Int32))))), (5, .int (v5 &&& (v3 ^^^ (-1 : Int32)))), (6, .int (nI n6)), (0, .ref (a 0)), (1, .int (nI w))]) hx hb dX5_facesOf_76 hl (by decide) rfl (fun ls hl => ?_)
            refine lv_goto (tgt := 10) hx hb dX5_facesOf_78 (by decide) ?_
            exact ih_10 (v5 &&& (v3 ^^^ (-1 : Int32))) (v3 ||| (v5 &&& (v3 ^^^ (-1 : Int32)))) ls (by first | (rw [cN_0]; split <;> omega) | exact Nat.lt_of_lt_of_le (fc_meas hi_21_1 hi_21_2) (Nat.le_of_lt_succ hi_21_3))  (lv_sub hl [0, 1, 4, 5] rfl) hE
          · have c_25 : ¬ (12 ≤ n6) := fun q9 => c_25 ((nI_leI (a := 12) (b := n6) (by omega) (by omega)).mpr q9)
            have hE := (if_neg c_25).symm.trans hE
            refine lv_iload hx hb dX5_facesOf_28 (lv_at hl 2 rfl) ?_
            refine lv_iload hx hb dX5_facesOf_30 (lv_at hl 0 rfl) ?_
            refine ro_S [.int v4, .int (nI n6)] [] ⟨hx, hb, hml, hown, hts⟩ (c_X5_has l D cI cZ cB cR v4 n6 (by omega)) (va_cwS 2 hts (goodP (ps := [.methodLink RX5 94 yX5_has, .static yX5_has, .initialized RX5]) (all3 mw_3_201 mw_3_202 mw_1_6) mw_3_203) rfl rfl rfl (by decide +kernel) ⟨Nat.le_of_ble_eq_true rfl, Nat.le_of_ble_eq_true rfl⟩) hEV va_P0 rfl hl.1 rfl (Nat.le_of_ble_eq_true rfl) dX5_facesOf_32 ⟨Nat.zero_le _, Nat.zero_le _⟩ ?_
            refine lv_if_eq (tgt := 55) hx hb dX5_facesOf_35 (by decide) (fun c_35 => ?_) (fun c_35 => ?_)
            · have c_35 : ¬ ((bt v4 n6) = true) := b2i_f c_35
              have hE := (if_neg c_35).symm.trans hE
              refine lv_iinc (v := nI (n6 + 1)) (lv' := [(6, .int (nI (n6 + 1))), (5, .int v5), (4, .int v4), (3, .int v3), (0, .ref (a 0)), (1, .int (nI w))]) hx hb dX5_facesOf_55 hl (k := 0) rfl (nI_1 _) (by decide) rfl (fun ls hl => ?_)
              refine lv_goto (tgt := 21) hx hb dX5_facesOf_58 (by decide) ?_
              exact ih_21 (n6 + 1) v5 v4 v3 ls (by omega) (by first | omega | exact m12_0 | exact m12_or hi_21_1 ((wx.1.1 n6 (by omega)).2.2.2) | exact hi_21_1 | exact hi_21_2 | exact c_12 | exact hm_10) (by first | omega | exact m12_0 | exact m12_or hi_21_1 ((wx.1.1 n6 (by omega)).2.2.2) | exact hi_21_1 | exact hi_21_2 | exact c_12 | exact hm_10) (by first | omega | exact m12_0 | exact m12_or hi_21_1 ((wx.1.1 n6 (by omega)).2.2.2) | exact hi_21_1 | exact hi_21_2 | exact c_12 | exact hm_10) (by first | omega | exact m12_0 | exact m12_or hi_21_1 ((wx.1.1 n6 (by omega)).2.2.2) | exact hi_21_1 | exact hi_21_2 | exact c_12 | exact hm_10) (lv_sub hl [0, 1, 2, 3, 4, 5] rfl) hE
            · have c_35 : (bt v4 n6) = true := b2i_t c_35
              have hE := (if_pos c_35).symm.trans hE
              refine lv_iload hx hb dX5_facesOf_38 (lv_at hl 1 rfl) ?_
              refine lv_aload_n hx hb dX5_facesOf_40 rfl (lv_at hl 4 rfl) ?_
              refine va_get (D := D) (ci := 5) (v := .ref (a 5)) (C := RX5) (T := TX5) (N := 21) hx hb hts (fun w9 h9 => List.mem_cons_of_mem _ (inT_X5 w9 h9)) hown hK hP 0 rfl rfl 4 (by decide) (hts (.fieldLink RX5 23 "LinkPredictorModel" "faces" "[I") (List.mem_cons_of_mem _ mw_3_70)) (fun _ h9 => h9) rfl dX5_facesOf_41 ?_
              refine lv_bipush (v := (12 : Int32)) hx hb dX5_facesOf_44 (by decide) ?_
              refine lv_iload_n hx hb dX5_facesOf_46 rfl (lv_at hl 5 rfl) ?_
              refine lv_imul hx hb dX5_facesOf_47 ?_
              refine top_eq (pk_mul 12 w) ?_
              refine lv_iload hx hb dX5_facesOf_48 (lv_at hl 0 rfl) ?_
              refine lv_iadd hx hb dX5_facesOf_50 ?_
              refine top_eq (nI_add (12 * w) n6) ?_
              refine ro_ald hx hb hEV hP 5 (j := ((12 * w) + n6)) rfl (by omega) (by decide) dX5_facesOf_51 ?_
              refine lv_ior hx hb dX5_facesOf_52 ?_
              refine lv_istore (lv' := [(5, .int (v5 ||| (x 4 ((12 * w) + n6)))), (6, .int (nI n6)), (4, .int v4), (3, .int v3), (0, .ref (a 0)), (1, .int (nI w))]) hx hb dX5_facesOf_53 hl (by decide) rfl (fun ls hl => ?_)
              refine lv_iinc (v := nI (n6 + 1)) (lv' := [(6, .int (nI (n6 + 1))), (5, .int (v5 ||| (x 4 ((12 * w) + n6)))), (4, .int v4), (3, .int v3), (0, .ref (a 0)), (1, .int (nI w))]) hx hb dX5_facesOf_55 hl (k := 1) rfl (nI_1 _) (by decide) rfl (fun ls hl => ?_)
              refine lv_goto (tgt := 21) hx hb dX5_facesOf_58 (by decide) ?_
              exact ih_21 (n6 + 1) (v5 ||| (x 4 ((12 * w) + n6))) v4 v3 ls (by omega) (by first | omega | exact m12_0 | exact m12_or hi_21_1 ((wx.1.1 n6 (by omega)).2.2.2) | exact hi_21_1 | exact hi_21_2 | exact c_12 | exact hm_10) (by first | omega | exact m12_0 | exact m12_or hi_21_1 ((wx.1.1 n6 (by omega)).2.2.2) | exact hi_21_1 | exact hi_21_2 | exact c_12 | exact hm_10) (by first | omega | exact m12_0 | exact m12_or hi_21_1 ((wx.1.1 n6 (by omega)).2.2.2) | exact hi_21_1 | exact hi_21_2 | exact c_12 | exact hm_10) (by first | omega | exact m12_0 | exact m12_or hi_21_1 ((wx.1.1 n6 (by omega)).2.2.2) | exact hi_21_1 | exact hi_21_2 | exact c_12 | exact hm_10) (lv_sub hl [0, 1, 2, 3, 4, 5] rfl) hE
      intro v4 v3 ls hm_10  hl hE
      rw [p_X5_facesOf_10] at hE
      refine lv_iload hx hb dX5_facesOf_10 (lv_at hl 0 rfl) ?_
      refine lv_if_eq (tgt := 81) hx hb dX5_facesOf_12 (by decide) (fun c_12 => ?_) (fun c_12 => ?_)
      · skip
        have hE := (if_pos c_12).symm.trans hE
        refine lv_iload_n hx hb dX5_facesOf_81 rfl (lv_at hl 1 rfl) ?_
        exact W.iret hx hb hr (fun t9 ht9 _ => ⟨_, rfl, hE, ht9⟩) (fun _ h9 => by cases h9) dX5_facesOf_82
      · skip
        have hE := (if_neg c_12).symm.trans hE
        refine lv_iconst (v := (0 : Int32)) hx hb dX5_facesOf_15 (by decide) ?_
        refine lv_istore (lv' := [(5, .int (0 : Int32)), (4, .int v4), (3, .int v3), (0, .ref (a 0)), (1, .int (nI w))]) hx hb dX5_facesOf_16 hl (by decide) rfl (fun ls hl => ?_)
        refine lv_iconst (v := (0 : Int32)) hx hb dX5_facesOf_18 (by decide) ?_
        refine lv_istore (lv' := [(6, .int (0 : Int32)), (5, .int (0 : Int32)), (4, .int v4), (3, .int v3), (0, .ref (a 0)), (1, .int (nI w))]) hx hb dX5_facesOf_19 hl (by decide) rfl (fun ls hl => ?_)
        exact key_21 13 0 (0 : Int32) v4 v3 ls (by omega) (by first | omega | exact m12_0 | exact m12_or hi_21_1 ((wx.1.1 n6 (by omega)).2.2.2) | exact hi_21_1 | exact hi_21_2 | exact c_12 | exact hm_10) (by first | omega | exact m12_0 | exact m12_or hi_21_1 ((wx.1.1 n6 (by omega)).2.2.2) | exact hi_21_1 | exact hi_21_2 | exact c_12 | exact hm_10) (by first | omega | exact m12_0 | exact m12_or hi_21_1 ((wx.1.1 n6 (by omega)).2.2.2) | exact hi_21_1 | exact hi_21_2 | exact c_12 | exact hm_10) (by first | omega | exact m12_0 | exact m12_or hi_21_1 ((wx.1.1 n6 (by omega)).2.2.2) | exact hi_21_1 | exact hi_21_2 | exact c_12 | exact hm_10) (lv_sub hl [0, 1, 2, 3, 4, 5] rfl) hE
  refine lv_iconst (v := (0 : Int32)) hx hb dX5_facesOf_0 (by decide) ?_
  refine lv_istore_n (lv' := [(3, .int (0 : Int32)), (0, .ref (a 0)), (1, .int (nI w)), (2, .int (nI t))]) hx hb dX5_facesOf_1 rfl hl (by decide) rfl (fun ls hl => ?_)
  refine lv_aload_n hx hb dX5_facesOf_2 rfl (lv_at hl 1 rfl) ?_
  refine lv_iload_n hx hb dX5_facesOf_3 rfl (lv_at hl 2 rfl) ?_
  refine lv_iload_n hx hb dX5_facesOf_4 rfl (lv_at hl 3 rfl) ?_
  refine ro_V [.int (nI w), .int (nI t)] [] ⟨hx, hb, hml, hown, hts⟩ (c_X5_aboveOf l D cI cZ cB cR a x r1 r2 w n t (by omega) wx (by omega) gt) (cwV (C := RX5) 2 hts (goodP (ps := [.methodLink RX5 107 yX5_aboveOf, .instanceMethod yX5_aboveOf, .selects RX5 yX5_aboveOf yX5_aboveOf, .initialized RX5]) (all4 mw_4_0 mw_4_2 ms_38 mw_1_6) mw_4_3) rfl rfl rfl (by decide +kernel) ⟨Nat.le_of_ble_eq_true rfl, Nat.le_of_ble_eq_true rfl⟩) hEV hP 0 rfl rfl rfl hl.1 rfl (Nat.le_of_ble_eq_true rfl) dX5_facesOf_5 ⟨Nat.zero_le _, Nat.zero_le _⟩ ?_
  refine lv_istore (lv' := [(4, .int (aboI (vwX x w) t)), (3, .int (0 : Int32)), (0, .ref (a 0)), (1, .int (nI w)), (2, .int (nI t))]) hx hb dX5_facesOf_8 hl (by decide) rfl (fun ls hl => ?_)
  exact key_10 26 (aboI (vwX x w) t) (0 : Int32) ls (by first | (rw [cN_0]; split <;> omega) | exact Nat.lt_of_lt_of_le (fc_meas hi_21_1 hi_21_2) (Nat.le_of_lt_succ hi_21_3))  (lv_sub hl [0, 1, 2, 3] rfl) hE
noncomputable def p_X5_under (x : Nat → Nat → Int32) (w n : Nat) (t : Nat) (u : Nat) : Int32 := b2i (bt ((aboI (vwX x w) t) ||| (facI (vwX x w) t)) u)
theorem pe_X5_under (x : Nat → Nat → Int32) (w n : Nat) (t : Nat) (u : Nat) (hw : w < 2) (wx : WX x w n) (hnt : t < 12) (hnu : u < 12) (gt : Gd (vwX x w) t) : p_X5_under x w n t u = b2i (abB (vwX x w) t u || fcB (vwX x w) t u) := by
  rw [p_X5_under]
  refine congrArg b2i ?_
  rw [b_or]
  unfold aboI facI
  rw [Bool.eq_iff_iff, Bool.or_eq_true, Bool.or_eq_true, or12_bt (by omega), or12_bt (by omega)]
  simp [hnu]
set_option maxHeartbeats 4000000 in
set_option maxRecDepth 100000 in
theorem c_X5_under (l : Launch) (D : va_G) (cI cZ cB cR : ClassId) (a : Nat → Nat) (x : Nat → Nat → Int32) (r1 r2 : Nat → Int32) (w n : Nat) (t : Nat) (u : Nat) (hw : w < 2) (wx : WX x w n) (hnt : t < 12) (hnu : u < 12) (gt : Gd (vwX x w) t) : RO l yX5_under wsX5_under ({ frames := 2, cells := 0, slots := 0, locals := 50 } : Room) D cI cZ cB cR (wX cI cZ a x r1 r2) [.ref (a 0), .int (nI w), .int (nI t), .int (nI u)] (b2i (abB (vwX x w) t u || fcB (vwX x w) t u)) := by
  have hE : p_X5_under x w n t u = b2i (abB (vwX x w) t u || fcB (vwX x w) t u) := pe_X5_under x w n t u hw wx hnt hnu gt
  refine Met.ofW (cc := cX5_under) (maxL := 4) (ret := (some .boolean)) (by decide) rfl ?_
  intro p e s m args below meth c s₁ B hml hv
  obtain ⟨hargs, hP, hEV⟩ := hv
  have hx := B.exec
  have hb := B.bytes
  have hr := B.returns
  have hts := atoms_spec (ws := wsX5_under) B.pre
  have hown : s.vm.findClass RX5 = some m.cls := findClass_of_methodNamed B.named
  have hlocks := B.notSynchronized
  have hK := hEV.1
  have hl := lv_entry ([.ref (a 0), .int (nI w), .int (nI t), .int (nI u)]) (n := 4) (Nat.le_of_ble_eq_true rfl)
  rw [show entryFrame m args 4 = entryFrame m ([.ref (a 0), .int (nI w), .int (nI t), .int (nI u)] : List Value).toArray 4 from by rw [hargs], lg_entry_eq]
  generalize (lg_sl ([.ref (a 0), .int (nI w), .int (nI t), .int (nI u)]) ++ List.replicate (4 - (lg_sl ([.ref (a 0), .int (nI w), .int (nI t), .int (nI u)])).length) Slot.unset).toArray = ls at hl ⊢
  have hl : lv_has ls 4 [(0, .ref (a 0)), (1, .int (nI w)), (2, .int (nI t)), (3, .int (nI u))] := hl
  rw [p_X5_under] at hE
  have hn30 := wx.2.2.1
  refine lv_aload_n hx hb dX5_under_0 rfl (lv_at hl 0 rfl) ?_
  refine lv_iload_n hx hb dX5_under_1 rfl (lv_at hl 1 rfl) ?_
  refine lv_iload_n hx hb dX5_under_2 rfl (lv_at hl 2 rfl) ?_
  refine ro_V [.int (nI w), .int (nI t)] [] ⟨hx, hb, hml, hown, hts⟩ (c_X5_aboveOf l D cI cZ cB cR a x r1 r2 w n t (by omega) wx (by omega) gt) (cwV (C := RX5) 2 hts (goodP (ps := [.methodLink RX5 107 yX5_aboveOf, .instanceMethod yX5_aboveOf, .selects RX5 yX5_aboveOf yX5_aboveOf, .initialized RX5]) (all4 mw_4_0 mw_4_2 ms_38 mw_1_6) mw_4_3) rfl rfl rfl (by decide +kernel) ⟨Nat.le_of_ble_eq_true rfl, Nat.le_of_ble_eq_true rfl⟩) hEV hP 0 rfl rfl rfl hl.1 rfl (Nat.le_of_ble_eq_true rfl) dX5_under_3 ⟨Nat.zero_le _, Nat.zero_le _⟩ ?_
  refine lv_aload_n hx hb dX5_under_6 rfl (lv_at hl 0 rfl) ?_
  refine lv_iload_n hx hb dX5_under_7 rfl (lv_at hl 1 rfl) ?_
  refine lv_iload_n hx hb dX5_under_8 rfl (lv_at hl 2 rfl) ?_
  refine ro_V [.int (nI w), .int (nI t)] [.int (aboI (vwX x w) t)] ⟨hx, hb, hml, hown, hts⟩ (c_X5_facesOf l D cI cZ cB cR a x r1 r2 w n t (by omega) wx (by omega) gt) (cwV (C := RX5) 2 hts (goodP (ps := [.methodLink RX5 110 yX5_facesOf, .instanceMethod yX5_facesOf, .selects RX5 yX5_facesOf yX5_facesOf, .initialized RX5]) (all4 mw_3_236 mw_3_238 ms_37 mw_1_6) mw_3_239) rfl rfl rfl (by decide +kernel) ⟨Nat.le_of_ble_eq_true rfl, Nat.le_of_ble_eq_true rfl⟩) hEV hP 0 rfl rfl rfl hl.1 rfl (Nat.le_of_ble_eq_true rfl) dX5_under_9 ⟨Nat.zero_le _, Nat.zero_le _⟩ ?_
  refine lv_ior hx hb dX5_under_12 ?_
  refine lv_iload_n hx hb dX5_under_13 rfl (lv_at hl 3 rfl) ?_
  refine ro_S [.int ((aboI (vwX x w) t) ||| (facI (vwX x w) t)), .int (nI u)] [] ⟨hx, hb, hml, hown, hts⟩ (c_X5_has l D cI cZ cB cR ((aboI (vwX x w) t) ||| (facI (vwX x w) t)) u (by omega)) (va_cwS 2 hts (goodP (ps := [.methodLink RX5 94 yX5_has, .static yX5_has, .initialized RX5]) (all3 mw_3_201 mw_3_202 mw_1_6) mw_3_203) rfl rfl rfl (by decide +kernel) ⟨Nat.le_of_ble_eq_true rfl, Nat.le_of_ble_eq_true rfl⟩) hEV va_P0 rfl hl.1 rfl (Nat.le_of_ble_eq_true rfl) dX5_under_14 ⟨Nat.zero_le _, Nat.zero_le _⟩ ?_
  exact W.zret hx hb hr (b2i_nar _) (fun t9 ht9 _ => ⟨_, rfl, hE, ht9⟩) (fun _ h9 => by cases h9) dX5_under_17
noncomputable def p_X5_nestOf (x : Nat → Nat → Int32) (w n : Nat) (t : Nat) : Int32 := if (x 0 ((12 * w) + (sN (x 5 (12 * w + t))))) = (0 : Int32) then (nI t) else (if (x 2 ((12 * w) + (sN (x 5 (12 * w + t))))) = (x 2 ((12 * w) + t)) then (if (x 5 ((12 * w) + (sN (x 5 (12 * w + t))))) = (nI (sN (x 5 (12 * w + t)))) then (nI (sN (x 5 (12 * w + t)))) else (nI t)) else (nI t))
theorem pe_X5_nestOf (x : Nat → Nat → Int32) (w n : Nat) (t : Nat) (hw : w < 2) (wx : WX x w n) (hnt : t < 12)  : p_X5_nestOf x w n t = nI (nsN (vwX x w) t) := by
  have hT : isT (x 5 (12 * w + t)) := (wx.1.1 t hnt).2.1
  rw [p_X5_nestOf]
  unfold nsN thB vwX
  by_cases c1 : x 0 (12 * w + sN (x 5 (12 * w + t))) = 0
  · rw [if_pos c1]; simp [c1]
  · have d1 : (!decide (x 0 (12 * w + sN (x 5 (12 * w + t))) = 0)) = true := by simp [c1]
    rw [if_neg c1, if_pos d1]
    by_cases c2 : x 2 (12 * w + sN (x 5 (12 * w + t))) = x 2 (12 * w + t)
    · rw [if_pos c2, if_pos (decide_eq_true c2)]
      by_cases c3 : x 5 (12 * w + sN (x 5 (12 * w + t))) = x 5 (12 * w + t)
      · rw [if_pos (c3.trans hT.2), if_pos c3]
      · rw [if_neg (fun e => c3 (e.trans hT.2.symm)), if_neg c3]
    · have d2 : ¬ (decide (x 2 (12 * w + sN (x 5 (12 * w + t))) = x 2 (12 * w + t)) = true) := fun e => c2 (of_decide_eq_true e)
      rw [if_neg c2, if_neg d2]
set_option maxHeartbeats 4000000 in
set_option maxRecDepth 100000 in
theorem c_X5_nestOf (l : Launch) (D : va_G) (cI cZ cB cR : ClassId) (a : Nat → Nat) (x : Nat → Nat → Int32) (r1 r2 : Nat → Int32) (w n : Nat) (t : Nat) (hw : w < 2) (wx : WX x w n) (hnt : t < 12)  : RO l yX5_nestOf wsX5_nestOf ({ frames := 0, cells := 0, slots := 0, locals := 0 } : Room) D cI cZ cB cR (wX cI cZ a x r1 r2) [.ref (a 0), .int (nI w), .int (nI t)] (nI (nsN (vwX x w) t)) := by
  have hE : p_X5_nestOf x w n t = nI (nsN (vwX x w) t) := pe_X5_nestOf x w n t hw wx hnt
  refine Met.ofW (cc := cX5_nestOf) (maxL := 5) (ret := (some .int)) (by decide) rfl ?_
  intro p e s m args below meth c s₁ B hml hv
  obtain ⟨hargs, hP, hEV⟩ := hv
  have hx := B.exec
  have hb := B.bytes
  have hr := B.returns
  have hts := atoms_spec (ws := wsX5_nestOf) B.pre
  have hown : s.vm.findClass RX5 = some m.cls := findClass_of_methodNamed B.named
  have hlocks := B.notSynchronized
  have hK := hEV.1
  have hl := lv_entry ([.ref (a 0), .int (nI w), .int (nI t)]) (n := 5) (Nat.le_of_ble_eq_true rfl)
  rw [show entryFrame m args 5 = entryFrame m ([.ref (a 0), .int (nI w), .int (nI t)] : List Value).toArray 5 from by rw [hargs], lg_entry_eq]
  generalize (lg_sl ([.ref (a 0), .int (nI w), .int (nI t)]) ++ List.replicate (5 - (lg_sl ([.ref (a 0), .int (nI w), .int (nI t)])).length) Slot.unset).toArray = ls at hl ⊢
  have hl : lv_has ls 5 [(0, .ref (a 0)), (1, .int (nI w)), (2, .int (nI t))] := hl
  rw [p_X5_nestOf] at hE
  have hn30 := wx.2.2.1
  have hT9 : isT (x 5 (12 * w + t)) := (wx.1.1 t hnt).2.1
  have hT8 := hT9.1
  refine lv_aload_n hx hb dX5_nestOf_0 rfl (lv_at hl 0 rfl) ?_
  refine va_get (D := D) (ci := 5) (v := .ref (a 6)) (C := RX5) (T := TX5) (N := 21) hx hb hts (fun w9 h9 => List.mem_cons_of_mem _ (inT_X5 w9 h9)) hown hK hP 0 rfl rfl 5 (by decide) (hts (.fieldLink RX5 26 "LinkPredictorModel" "host" "[I") (List.mem_cons_of_mem _ mw_3_71)) (fun _ h9 => h9) rfl dX5_nestOf_1 ?_
  refine lv_bipush (v := (12 : Int32)) hx hb dX5_nestOf_4 (by decide) ?_
  refine lv_iload_n hx hb dX5_nestOf_6 rfl (lv_at hl 1 rfl) ?_
  refine lv_imul hx hb dX5_nestOf_7 ?_
  refine top_eq (pk_mul 12 w) ?_
  refine lv_iload_n hx hb dX5_nestOf_8 rfl (lv_at hl 2 rfl) ?_
  refine lv_iadd hx hb dX5_nestOf_9 ?_
  refine top_eq (nI_add (12 * w) t) ?_
  refine ro_ald hx hb hEV hP 6 (j := ((12 * w) + t)) rfl (by omega) (by decide) dX5_nestOf_10 ?_
  refine top_eq (hT9.2) ?_
  refine lv_istore_n (lv' := [(3, .int (nI (sN (x 5 (12 * w + t))))), (0, .ref (a 0)), (1, .int (nI w)), (2, .int (nI t))]) hx hb dX5_nestOf_11 rfl hl (by decide) rfl (fun ls hl => ?_)
  refine lv_bipush (v := (12 : Int32)) hx hb dX5_nestOf_12 (by decide) ?_
  refine lv_iload_n hx hb dX5_nestOf_14 rfl (lv_at hl 2 rfl) ?_
  refine lv_imul hx hb dX5_nestOf_15 ?_
  refine top_eq (pk_mul 12 w) ?_
  refine lv_iload_n hx hb dX5_nestOf_16 rfl (lv_at hl 0 rfl) ?_
  refine lv_iadd hx hb dX5_nestOf_17 ?_
  refine top_eq (nI_add (12 * w) (sN (x 5 (12 * w + t)))) ?_
  refine lv_istore (lv' := [(4, .int (nI ((12 * w) + (sN (x 5 (12 * w + t)))))), (3, .int (nI (sN (x 5 (12 * w + t))))), (0, .ref (a 0)), (1, .int (nI w)), (2, .int (nI t))]) hx hb dX5_nestOf_18 hl (by decide) rfl (fun ls hl => ?_)
  refine lv_aload_n hx hb dX5_nestOf_20 rfl (lv_at hl 2 rfl) ?_
  refine va_get (D := D) (ci := 5) (v := .ref (a 1)) (C := RX5) (T := TX5) (N := 21) hx hb hts (fun w9 h9 => List.mem_cons_of_mem _ (inT_X5 w9 h9)) hown hK hP 0 rfl rfl 0 (by decide) (hts (.fieldLink RX5 7 "LinkPredictorModel" "there" "[Z") (List.mem_cons_of_mem _ mw_3_66)) (fun _ h9 => h9) rfl dX5_nestOf_21 ?_
  refine lv_iload hx hb dX5_nestOf_24 (lv_at hl 0 rfl) ?_
  refine ro_zld hx hb hEV hP 1 (j := ((12 * w) + (sN (x 5 (12 * w + t))))) rfl (by omega) (by decide) dX5_nestOf_26 ?_
  refine lv_if_eq (tgt := 66) hx hb dX5_nestOf_27 (by decide) (fun c_27 => ?_) (fun c_27 => ?_)
  · skip
    have hE := (if_pos c_27).symm.trans hE
    refine lv_iload_n hx hb dX5_nestOf_66 rfl (lv_at hl 4 rfl) ?_
    exact W.iret hx hb hr (fun t9 ht9 _ => ⟨_, rfl, hE, ht9⟩) (fun _ h9 => by cases h9) dX5_nestOf_67
  · skip
    have hE := (if_neg c_27).symm.trans hE
    refine lv_aload_n hx hb dX5_nestOf_30 rfl (lv_at hl 2 rfl) ?_
    refine va_get (D := D) (ci := 5) (v := .ref (a 3)) (C := RX5) (T := TX5) (N := 21) hx hb hts (fun w9 h9 => List.mem_cons_of_mem _ (inT_X5 w9 h9)) hown hK hP 0 rfl rfl 2 (by decide) (hts (.fieldLink RX5 17 "LinkPredictorModel" "pack" "[I") (List.mem_cons_of_mem _ mw_3_68)) (fun _ h9 => h9) rfl dX5_nestOf_31 ?_
    refine lv_iload hx hb dX5_nestOf_34 (lv_at hl 0 rfl) ?_
    refine ro_ald hx hb hEV hP 3 (j := ((12 * w) + (sN (x 5 (12 * w + t))))) rfl (by omega) (by decide) dX5_nestOf_36 ?_
    refine lv_aload_n hx hb dX5_nestOf_37 rfl (lv_at hl 2 rfl) ?_
    refine va_get (D := D) (ci := 5) (v := .ref (a 3)) (C := RX5) (T := TX5) (N := 21) hx hb hts (fun w9 h9 => List.mem_cons_of_mem _ (inT_X5 w9 h9)) hown hK hP 0 rfl rfl 2 (by decide) (hts (.fieldLink RX5 17 "LinkPredictorModel" "pack" "[I") (List.mem_cons_of_mem _ mw_3_68)) (fun _ h9 => h9) rfl dX5_nestOf_38 ?_
    refine lv_bipush (v := (12 : Int32)) hx hb dX5_nestOf_41 (by decide) ?_
    refine lv_iload_n hx hb dX5_nestOf_43 rfl (lv_at hl 3 rfl) ?_
    refine lv_imul hx hb dX5_nestOf_44 ?_
    refine top_eq (pk_mul 12 w) ?_
    refine lv_iload_n hx hb dX5_nestOf_45 rfl (lv_at hl 4 rfl) ?_
    refine lv_iadd hx hb dX5_nestOf_46 ?_
    refine top_eq (nI_add (12 * w) t) ?_
    refine ro_ald hx hb hEV hP 3 (j := ((12 * w) + t)) rfl (by omega) (by decide) dX5_nestOf_47 ?_
    refine lv_icmp_ne (tgt := 66) hx hb dX5_nestOf_48 (by decide) (fun c_48 => ?_) (fun c_48 => ?_)
    · skip
      have hE := (if_neg c_48).symm.trans hE
      refine lv_iload_n hx hb dX5_nestOf_66 rfl (lv_at hl 4 rfl) ?_
      exact W.iret hx hb hr (fun t9 ht9 _ => ⟨_, rfl, hE, ht9⟩) (fun _ h9 => by cases h9) dX5_nestOf_67
    · skip
      have hE := (if_pos c_48).symm.trans hE
      refine lv_aload_n hx hb dX5_nestOf_51 rfl (lv_at hl 2 rfl) ?_
      refine va_get (D := D) (ci := 5) (v := .ref (a 6)) (C := RX5) (T := TX5) (N := 21) hx hb hts (fun w9 h9 => List.mem_cons_of_mem _ (inT_X5 w9 h9)) hown hK hP 0 rfl rfl 5 (by decide) (hts (.fieldLink RX5 26 "LinkPredictorModel" "host" "[I") (List.mem_cons_of_mem _ mw_3_71)) (fun _ h9 => h9) rfl dX5_nestOf_52 ?_
      refine lv_iload hx hb dX5_nestOf_55 (lv_at hl 0 rfl) ?_
      refine ro_ald hx hb hEV hP 6 (j := ((12 * w) + (sN (x 5 (12 * w + t))))) rfl (by omega) (by decide) dX5_nestOf_57 ?_
      refine lv_iload_n hx hb dX5_nestOf_58 rfl (lv_at hl 1 rfl) ?_
      refine lv_icmp_ne (tgt := 66) hx hb dX5_nestOf_59 (by decide) (fun c_59 => ?_) (fun c_59 => ?_)
      · skip
        have hE := (if_neg c_59).symm.trans hE
        refine lv_iload_n hx hb dX5_nestOf_66 rfl (lv_at hl 4 rfl) ?_
        exact W.iret hx hb hr (fun t9 ht9 _ => ⟨_, rfl, hE, ht9⟩) (fun _ h9 => by cases h9) dX5_nestOf_67
      · skip
        have hE := (if_pos c_59).symm.trans hE
        refine lv_iload_n hx hb dX5_nestOf_62 rfl (lv_at hl 1 rfl) ?_
        refine lv_goto (tgt := 67) hx hb dX5_nestOf_63 (by decide) ?_
        exact W.iret hx hb hr (fun t9 ht9 _ => ⟨_, rfl, hE, ht9⟩) (fun _ h9 => by cases h9) dX5_nestOf_67
