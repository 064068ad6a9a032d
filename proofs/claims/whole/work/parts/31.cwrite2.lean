/-! ===== parts of a world ===== -/
theorem va_P_at {D : va_G} {w : va_W} {H : Heap} {q : Nat × va_E} (h : va_P D vwCl w H) (hq : q ∈ w) : va_at D vwCl q H := by
  obtain ⟨i, hi⟩ := List.getElem?_of_mem hq
  exact h i q hi
theorem va_P_mem {D : va_G} {w w' : va_W} {H : Heap} (h : va_P D vwCl w H) (hs : ∀ q, q ∈ w' → q ∈ w) : va_P D vwCl w' H := fun k q hk => va_P_at h (hs q (List.mem_of_getElem? hk))
theorem va_D_eq {A : Nat → Prop} {w : va_W} {p q : Nat × va_E} (h : va_D A w) (hp : p ∈ w) (hq : q ∈ w) (e : p.1 = q.1) : p = q := by
  obtain ⟨i, hi⟩ := List.getElem?_of_mem hp
  obtain ⟨j, hj⟩ := List.getElem?_of_mem hq
  have := h.1 i j p q hi hj e
  subst this
  rw [hi] at hj
  exact Option.some.inj hj
theorem va_D_disj {A : Nat → Prop} {u v : va_W} {p q : Nat × va_E} (h : va_D A (u ++ v)) (hp : p ∈ u) (hq : q ∈ v) : p.1 ≠ q.1 := by
  intro e
  obtain ⟨i, hi⟩ := List.getElem?_of_mem hp
  obtain ⟨j, hj⟩ := List.getElem?_of_mem hq
  have hil : i < u.length := (List.getElem?_eq_some_iff.mp hi).1
  have := h.1 i (u.length + j) p q (by rw [List.getElem?_append_left hil]; exact hi) (by rw [List.getElem?_append_right (by omega), Nat.add_sub_cancel_left]; exact hj) e
  omega
/-- a call has written the cells w2; the rest stays -/
theorem va_repl {A : Nat → Prop} {D : va_G} {w w2 w2' w' : va_W} {H H1 : Heap} (hP : va_P D vwCl w H) (hD : va_D A w) (hsub : ∀ q, q ∈ w2 → q ∈ w) (hP1 : va_P D vwCl w2' H1) (hk : ∀ q : Nat, q < H.size → ¬ va_A w2 H.size q → H1[q]? = H[q]?) (hw' : ∀ q, q ∈ w' → q ∈ w2' ∨ (q ∈ w ∧ ¬ q ∈ w2)) : va_P D vwCl w' H1 := by
  intro k q hq
  rcases hw' q (List.mem_of_getElem? hq) with h | ⟨h1, h2⟩
  · exact va_P_at hP1 h
  · have ha := va_P_at hP h1
    refine ha.kept (hk q.1 ha.lt ?_)
    rintro (⟨j, e, hj⟩ | h)
    · have hm := List.mem_of_getElem? hj
      have := va_D_eq hD h1 (hsub _ hm) rfl
      rw [this] at h2
      exact h2 hm
    · have := ha.lt; omega
theorem va_P_l {D : va_G} {u v : va_W} {H : Heap} (h : va_P D vwCl (u ++ v) H) : va_P D vwCl u H := va_P_mem h (fun q hq => List.mem_append_left _ hq)
theorem va_P_r {D : va_G} {u v : va_W} {H : Heap} (h : va_P D vwCl (u ++ v) H) : va_P D vwCl v H := va_P_mem h (fun q hq => List.mem_append_right _ hq)
theorem va_D_l {A : Nat → Prop} {u v : va_W} (h : va_D A (u ++ v)) : va_D A u := by
  refine ⟨fun i j p q hp hq e => ?_, fun k q hk => ?_⟩
  · have hil : i < u.length := (List.getElem?_eq_some_iff.mp hp).1
    have hjl : j < u.length := (List.getElem?_eq_some_iff.mp hq).1
    exact h.1 i j p q (by rw [List.getElem?_append_left hil]; exact hp) (by rw [List.getElem?_append_left hjl]; exact hq) e
  · have hil : k < u.length := (List.getElem?_eq_some_iff.mp hk).1
    exact h.2 k q (by rw [List.getElem?_append_left hil]; exact hk)
theorem va_D_r {A : Nat → Prop} {u v : va_W} (h : va_D A (u ++ v)) : va_D A v := by
  have hx : ∀ (i : Nat) (q : Nat × va_E), v[i]? = some q → (u ++ v)[u.length + i]? = some q := fun i q hq => by
    rw [List.getElem?_append_right (by omega), Nat.add_sub_cancel_left]; exact hq
  refine ⟨fun i j p q hp hq e => ?_, fun k q hk => h.2 _ q (hx k q hk)⟩
  have := h.1 _ _ p q (hx i p hp) (hx j q hq) e
  omega
section CPY
variable {p : Program} {l : Launch} {e : Env} {R : Room} {s : State} {m : MethodId} {args : Array Value} {below : List Frame} {meth : Method} {c : Code} {H : Heap} {locs : List Loc} {cells slots : Nat} {Q : State → Prop}
  {cc : ByteArray} {pc : Nat} {ls : Array Slot} {rest : List Value} {D : va_G} {cI cZ cB cR : ClassId} {w w2 : va_W} {a a0 : Nat} {A : Nat → Prop} {H0 : Heap}
theorem mu_copy (hx : p.tables.exec = Jvm.exec) (hb : c.code = cc) (hml : c.maxLocals = ls.size) {own : String} {index : Nat} (hown : s.vm.findClass own = some m.cls) (hlink : (Cond.methodLink own index arraycopyName).before args s = true) (hnat : (Cond.native arraycopyName).before args s = true) (hstat : (Cond.static arraycopyName).before args s = true) (hini : (Cond.initialized "java/lang/System").before args s = true)
    (hEV : EV D cI cZ cB cR s) (hP : va_P D vwCl w H) (hD : va_D A w) (hS : va_S A H0 H locs) (q0 q1 : Nat) {N : Nat} {f g : Nat → Int32} (ha0 : w[q0]? = some (a0, .inl (cI, N, .inl f))) (ha1 : w[q1]? = some (a, .inl (cI, N, .inl g))) (hN : N < 2 ^ 31) (hset : w.set q1 (a, .inl (cI, N, .inl (va_cpy f g 0 0 N))) = w2)
    (hframes : 1 ≤ R.frames) (hlocals : (rest.map fun v => v.category).sum + (nativeFrameWords "java/lang/System" "arraycopy" 5 + 11) ≤ R.locals) (hdg : decode cc pc = .ok (.invokestatic index, 3))
    (kk : ∀ (H1 : Heap) (locs1 : List Loc), va_P D vwCl w2 H1 → va_D A w2 → va_S A H0 H1 locs1 → W p l e R s m args below meth c H1 locs1 cells slots Q (F0 m (pc + 3) ls rest)) : W p l e R s m args below meth c H locs cells slots Q (F0 m pc ls (.int (nI N) :: .int 0 :: .ref a :: .int 0 :: .ref a0 :: rest)) := by
  have z0 : (0 : Int32).toNatClampNeg = 0 := by decide
  refine va_copyi hx hb hml hown hlink hnat hstat hini hEV.1 hP hD hS q0 q1 0 0 ha0 ha1 rfl rfl rfl (by decide) (by decide) (nI_pos hN) (by rw [z0, nI_clamp hN]; omega) (by rw [z0, nI_clamp hN]; omega) (fun _ _ => rfl) hframes hlocals hdg (fun H1 locs1 hP hD hS => ?_)
  rw [z0, nI_clamp hN, hset] at hP hD
  exact kk H1 locs1 hP hD hS
end CPY
/-- one of several tables changed -/
def upS (s : Nat → Nat → Nat → Int32) (k : Nat) (f : Nat → Nat → Int32) : Nat → Nat → Nat → Int32 := fun q => if q = k then f else s q

def hbF (k h : Nat → Nat → Int32) : Nat → Nat → Int32 := stR (stR (stR (stR (stR (st2 h 8 0 (k 8 0)) 0 (va_cpy (k 0) (h 0) 0 0 12)) 1 (va_cpy (k 1) (h 1) 0 0 12)) 2 (va_cpy (k 2) (h 2) 0 0 12)) 3 (va_cpy (k 3) (h 3) 0 0 12)) 4 (va_cpy (k 4) (h 4) 0 0 12)
noncomputable def p_X1_becomeAs (k : Nat → Nat → Int32) (h : (Nat → Nat → Int32)) : (Nat → Nat → Int32) := p_X1_settle (vwH (stR (stR (stR (stR (stR (st2 h 8 0 (k 8 0)) 0 (va_cpy (k 0) ((st2 h 8 0 (k 8 0)) 0) 0 0 12)) 1 (va_cpy (k 1) ((stR (st2 h 8 0 (k 8 0)) 0 (va_cpy (k 0) ((st2 h 8 0 (k 8 0)) 0) 0 0 12)) 1) 0 0 12)) 2 (va_cpy (k 2) ((stR (stR (st2 h 8 0 (k 8 0)) 0 (va_cpy (k 0) ((st2 h 8 0 (k 8 0)) 0) 0 0 12)) 1 (va_cpy (k 1) ((stR (st2 h 8 0 (k 8 0)) 0 (va_cpy (k 0) ((st2 h 8 0 (k 8 0)) 0) 0 0 12)) 1) 0 0 12)) 2) 0 0 12)) 3 (va_cpy (k 3) ((stR (stR (stR (st2 h 8 0 (k 8 0)) 0 (va_cpy (k 0) ((st2 h 8 0 (k 8 0)) 0) 0 0 12)) 1 (va_cpy (k 1) ((stR (st2 h 8 0 (k 8 0)) 0 (va_cpy (k 0) ((st2 h 8 0 (k 8 0)) 0) 0 0 12)) 1) 0 0 12)) 2 (va_cpy (k 2) ((stR (stR (st2 h 8 0 (k 8 0)) 0 (va_cpy (k 0) ((st2 h 8 0 (k 8 0)) 0) 0 0 12)) 1 (va_cpy (k 1) ((stR (st2 h 8 0 (k 8 0)) 0 (va_cpy (k 0) ((st2 h 8 0 (k 8 0)) 0) 0 0 12)) 1) 0 0 12)) 2) 0 0 12)) 3) 0 0 12)) 4 (va_cpy (k 4) ((stR (stR (stR (stR (st2 h 8 0 (k 8 0)) 0 (va_cpy (k 0) ((st2 h 8 0 (k 8 0)) 0) 0 0 12)) 1 (va_cpy (k 1) ((stR (st2 h 8 0 (k 8 0)) 0 (va_cpy (k 0) ((st2 h 8 0 (k 8 0)) 0) 0 0 12)) 1) 0 0 12)) 2 (va_cpy (k 2) ((stR (stR (st2 h 8 0 (k 8 0)) 0 (va_cpy (k 0) ((st2 h 8 0 (k 8 0)) 0) 0 0 12)) 1 (va_cpy (k 1) ((stR (st2 h 8 0 (k 8 0)) 0 (va_cpy (k 0) ((st2 h 8 0 (k 8 0)) 0) 0 0 12)) 1) 0 0 12)) 2) 0 0 12)) 3 (va_cpy (k 3) ((stR (stR (stR (st2 h 8 0 (k 8 0)) 0 (va_cpy (k 0) ((st2 h 8 0 (k 8 0)) 0) 0 0 12)) 1 (va_cpy (k 1) ((stR (st2 h 8 0 (k 8 0)) 0 (va_cpy (k 0) ((st2 h 8 0 (k 8 0)) 0) 0 0 12)) 1) 0 0 12)) 2 (va_cpy (k 2) ((stR (stR (st2 h 8 0 (k 8 0)) 0 (va_cpy (k 0) ((st2 h 8 0 (k 8 0)) 0) 0 0 12)) 1 (va_cpy (k 1) ((stR (st2 h 8 0 (k 8 0)) 0 (va_cpy (k 0) ((st2 h 8 0 (k 8 0)) 0) 0 0 12)) 1) 0 0 12)) 2) 0 0 12)) 3) 0 0 12)) 4) 0 0 12))) (stR (stR (stR (stR (stR (st2 h 8 0 (k 8 0)) 0 (va_cpy (k 0) ((st2 h 8 0 (k 8 0)) 0) 0 0 12)) 1 (va_cpy (k 1) ((stR (st2 h 8 0 (k 8 0)) 0 (va_cpy (k 0) ((st2 h 8 0 (k 8 0)) 0) 0 0 12)) 1) 0 0 12)) 2 (va_cpy (k 2) ((stR (stR (st2 h 8 0 (k 8 0)) 0 (va_cpy (k 0) ((st2 h 8 0 (k 8 0)) 0) 0 0 12)) 1 (va_cpy (k 1) ((stR (st2 h 8 0 (k 8 0)) 0 (va_cpy (k 0) ((st2 h 8 0 (k 8 0)) 0) 0 0 12)) 1) 0 0 12)) 2) 0 0 12)) 3 (va_cpy (k 3) ((stR (stR (stR (st2 h 8 0 (k 8 0)) 0 (va_cpy (k 0) ((st2 h 8 0 (k 8 0)) 0) 0 0 12)) 1 (va_cpy (k 1) ((stR (st2 h 8 0 (k 8 0)) 0 (va_cpy (k 0) ((st2 h 8 0 (k 8 0)) 0) 0 0 12)) 1) 0 0 12)) 2 (va_cpy (k 2) ((stR (stR (st2 h 8 0 (k 8 0)) 0 (va_cpy (k 0) ((st2 h 8 0 (k 8 0)) 0) 0 0 12)) 1 (va_cpy (k 1) ((stR (st2 h 8 0 (k 8 0)) 0 (va_cpy (k 0) ((st2 h 8 0 (k 8 0)) 0) 0 0 12)) 1) 0 0 12)) 2) 0 0 12)) 3) 0 0 12)) 4 (va_cpy (k 4) ((stR (stR (stR (stR (st2 h 8 0 (k 8 0)) 0 (va_cpy (k 0) ((st2 h 8 0 (k 8 0)) 0) 0 0 12)) 1 (va_cpy (k 1) ((stR (st2 h 8 0 (k 8 0)) 0 (va_cpy (k 0) ((st2 h 8 0 (k 8 0)) 0) 0 0 12)) 1) 0 0 12)) 2 (va_cpy (k 2) ((stR (stR (st2 h 8 0 (k 8 0)) 0 (va_cpy (k 0) ((st2 h 8 0 (k 8 0)) 0) 0 0 12)) 1 (va_cpy (k 1) ((stR (st2 h 8 0 (k 8 0)) 0 (va_cpy (k 0) ((st2 h 8 0 (k 8 0)) 0) 0 0 12)) 1) 0 0 12)) 2) 0 0 12)) 3 (va_cpy (k 3) ((stR (stR (stR (st2 h 8 0 (k 8 0)) 0 (va_cpy (k 0) ((st2 h 8 0 (k 8 0)) 0) 0 0 12)) 1 (va_cpy (k 1) ((stR (st2 h 8 0 (k 8 0)) 0 (va_cpy (k 0) ((st2 h 8 0 (k 8 0)) 0) 0 0 12)) 1) 0 0 12)) 2 (va_cpy (k 2) ((stR (stR (st2 h 8 0 (k 8 0)) 0 (va_cpy (k 0) ((st2 h 8 0 (k 8 0)) 0) 0 0 12)) 1 (va_cpy (k 1) ((stR (st2 h 8 0 (k 8 0)) 0 (va_cpy (k 0) ((st2 h 8 0 (k 8 0)) 0) 0 0 12)) 1) 0 0 12)) 2) 0 0 12)) 3) 0 0 12)) 4) 0 0 12))
set_option maxHeartbeats 4000000 in
set_option maxRecDepth 100000 in
theorem c_X1_becomeAs (l : Launch) (D : va_G) (cI cZ cB cR : ClassId) (a o : Nat → Nat) (h k : Nat → Nat → Int32) (wf : WFT (vwH (hbF k h))) : MUv l yX1_becomeAs wsX1_becomeAs ({ frames := 38, cells := 0, slots := 0, locals := 1024 } : Room) D cI cZ cB cR (wH cI a h ++ wH cI o k) [.ref (a 0), .ref (o 0)] (fun (_ : Unit) => wH cI a ((p_X1_becomeAs k h)) ++ wH cI o k) (fun _ => True) := by
  generalize hE : p_X1_becomeAs k h = tgt
  intro sz
  refine Met.ofW (cc := cX1_becomeAs) (maxL := 2) (ret := none) (by decide) rfl ?_
  intro p e s m args below meth c s₁ B hml hv
  obtain ⟨hargs, hsz, hP, hEV, hD0⟩ := hv
  have hx := B.exec
  have hb := B.bytes
  have hr := B.returns
  have hts := atoms_spec (ws := wsX1_becomeAs) B.pre
  have hown : s.vm.findClass RX1 = some m.cls := findClass_of_methodNamed B.named
  have hlocks := B.notSynchronized
  have hK := hEV.1
  have hl := lv_entry ([.ref (a 0), .ref (o 0)]) (n := 2) (Nat.le_of_ble_eq_true rfl)
  rw [show entryFrame m args 2 = entryFrame m ([.ref (a 0), .ref (o 0)] : List Value).toArray 2 from by rw [hargs], lg_entry_eq]
  generalize (lg_sl ([.ref (a 0), .ref (o 0)]) ++ List.replicate (2 - (lg_sl ([.ref (a 0), .ref (o 0)])).length) Slot.unset).toArray = ls at hl ⊢
  have hl : lv_has ls 2 [(0, .ref (a 0)), (1, .ref (o 0))] := hl
  subst hsz
  have hD := hD0.self (sz := s.heap.size)
  generalize hAe : va_A (wH cI a h ++ wH cI o k) s.heap.size = A at hD ⊢
  have hA : ∀ q : Nat, s.heap.size ≤ q → A q := fun q h9 => by rw [← hAe]; exact Or.inr h9
  have hS : va_S A s.heap s.heap [] := va_S.rf
  rw [p_X1_becomeAs] at hE
  refine lv_aload_n hx hb dX1_becomeAs_0 rfl (lv_at hl 0 rfl) ?_
  refine lv_aload_n hx hb dX1_becomeAs_1 rfl (lv_at hl 1 rfl) ?_
  refine va_get (D := D) (ci := 1) (v := .int (k 8 0)) (C := RX1) (T := TX1) (N := 10) hx hb hts (fun w9 h9 => List.mem_cons_of_mem _ (inT_X1 w9 h9)) hown hK hP 9 rfl rfl 0 (by decide) (hts (.fieldLink RX1 40 "LinkPredictor$Hierarchy" "there" "I") (List.mem_cons_of_mem _ mw_1_71)) (fun _ h9 => h9) rfl dX1_becomeAs_2 ?_
  refine va_put (D := D) (ci := 1) (v := .int (k 8 0)) (ty := .int) (C := RX1) (T := TX1) (N := 10) hx hb hts (fun w9 h9 => List.mem_cons_of_mem _ (inT_X1 w9 h9)) tyX1 tyX1_ok nmX1 hown hK hP hD hS 0 rfl rfl 0 (by decide) (hts (.fieldLink RX1 40 "LinkPredictor$Hierarchy" "there" "I") (List.mem_cons_of_mem _ mw_1_71)) (fun _ h9 => h9) rfl (by decide +kernel) rfl rfl (Nat.le_of_ble_eq_true rfl) dX1_becomeAs_5 (fun H locs hP hD hS => ?_)
  have hP : va_P D vwCl (wH cI a (st2 h 8 0 (k 8 0)) ++ wH cI o k) _ := hP
  have hD : va_D A (wH cI a (st2 h 8 0 (k 8 0)) ++ wH cI o k) := hD
  refine lv_aload_n hx hb dX1_becomeAs_8 rfl (lv_at hl 1 rfl) ?_
  refine va_get (D := D) (ci := 1) (v := .ref (o 1)) (C := RX1) (T := TX1) (N := 10) hx hb hts (fun w9 h9 => List.mem_cons_of_mem _ (inT_X1 w9 h9)) hown hK hP 9 rfl rfl 1 (by decide) (hts (.fieldLink RX1 9 "LinkPredictor$Hierarchy" "flags" "[I") (List.mem_cons_of_mem _ mw_1_72)) (fun _ h9 => h9) rfl dX1_becomeAs_9 ?_
  refine lv_iconst (v := (0 : Int32)) hx hb dX1_becomeAs_12 (by decide) ?_
  refine lv_aload_n hx hb dX1_becomeAs_13 rfl (lv_at hl 0 rfl) ?_
  refine va_get (D := D) (ci := 1) (v := .ref (a 1)) (C := RX1) (T := TX1) (N := 10) hx hb hts (fun w9 h9 => List.mem_cons_of_mem _ (inT_X1 w9 h9)) hown hK hP 0 rfl rfl 1 (by decide) (hts (.fieldLink RX1 9 "LinkPredictor$Hierarchy" "flags" "[I") (List.mem_cons_of_mem _ mw_1_72)) (fun _ h9 => h9) rfl dX1_becomeAs_14 ?_
  refine lv_iconst (v := (0 : Int32)) hx hb dX1_becomeAs_17 (by decide) ?_
  refine lv_bipush (v := (12 : Int32)) hx hb dX1_becomeAs_18 (by decide) ?_
  refine mu_copy hx hb (hml.trans hl.1.symm) hown (hts (.methodLink RX1 51 arraycopyName) (List.mem_cons_of_mem _ mw_2_27)) (hts (.native arraycopyName) (List.mem_cons_of_mem _ mw_2_29)) (hts (.static arraycopyName) (List.mem_cons_of_mem _ mw_2_28)) (hts (.initialized "java/lang/System") (List.mem_cons_of_mem _ mw_1_7)) hEV hP hD hS 10 1 (N := 12) (w2 := wH cI a (stR (st2 h 8 0 (k 8 0)) 0 (va_cpy (k 0) ((st2 h 8 0 (k 8 0)) 0) 0 0 12)) ++ wH cI o k) rfl rfl (by decide) rfl (Nat.le_of_ble_eq_true rfl) (Nat.le_of_ble_eq_true rfl) dX1_becomeAs_20 (fun H locs hP hD hS => ?_)
  refine lv_aload_n hx hb dX1_becomeAs_23 rfl (lv_at hl 1 rfl) ?_
  refine va_get (D := D) (ci := 1) (v := .ref (o 2)) (C := RX1) (T := TX1) (N := 10) hx hb hts (fun w9 h9 => List.mem_cons_of_mem _ (inT_X1 w9 h9)) hown hK hP 9 rfl rfl 2 (by decide) (hts (.fieldLink RX1 15 "LinkPredictor$Hierarchy" "packs" "[I") (List.mem_cons_of_mem _ mw_1_73)) (fun _ h9 => h9) rfl dX1_becomeAs_24 ?_
  refine lv_iconst (v := (0 : Int32)) hx hb dX1_becomeAs_27 (by decide) ?_
  refine lv_aload_n hx hb dX1_becomeAs_28 rfl (lv_at hl 0 rfl) ?_
  refine va_get (D := D) (ci := 1) (v := .ref (a 2)) (C := RX1) (T := TX1) (N := 10) hx hb hts (fun w9 h9 => List.mem_cons_of_mem _ (inT_X1 w9 h9)) hown hK hP 0 rfl rfl 2 (by decide) (hts (.fieldLink RX1 15 "LinkPredictor$Hierarchy" "packs" "[I") (List.mem_cons_of_mem _ mw_1_73)) (fun _ h9 => h9) rfl dX1_becomeAs_29 ?_
  refine lv_iconst (v := (0 : Int32)) hx hb dX1_becomeAs_32 (by decide) ?_
  refine lv_bipush (v := (12 : Int32)) hx hb dX1_becomeAs_33 (by decide) ?_
  refine mu_copy hx hb (hml.trans hl.1.symm) hown (hts (.methodLink RX1 51 arraycopyName) (List.mem_cons_of_mem _ mw_2_27)) (hts (.native arraycopyName) (List.mem_cons_of_mem _ mw_2_29)) (hts (.static arraycopyName) (List.mem_cons_of_mem _ mw_2_28)) (hts (.initialized "java/lang/System") (List.mem_cons_of_mem _ mw_1_7)) hEV hP hD hS 11 2 (N := 12) (w2 := wH cI a (stR (stR (st2 h 8 0 (k 8 0)) 0 (va_cpy (k 0) ((st2 h 8 0 (k 8 0)) 0) 0 0 12)) 1 (va_cpy (k 1) ((stR (st2 h 8 0 (k 8 0)) 0 (va_cpy (k 0) ((st2 h 8 0 (k 8 0)) 0) 0 0 12)) 1) 0 0 12)) ++ wH cI o k) rfl rfl (by decide) rfl (Nat.le_of_ble_eq_true rfl) (Nat.le_of_ble_eq_true rfl) dX1_becomeAs_35 (fun H locs hP hD hS => ?_)
  refine lv_aload_n hx hb dX1_becomeAs_38 rfl (lv_at hl 1 rfl) ?_
  refine va_get (D := D) (ci := 1) (v := .ref (o 3)) (C := RX1) (T := TX1) (N := 10) hx hb hts (fun w9 h9 => List.mem_cons_of_mem _ (inT_X1 w9 h9)) hown hK hP 9 rfl rfl 3 (by decide) (hts (.fieldLink RX1 18 "LinkPredictor$Hierarchy" "supers" "[I") (List.mem_cons_of_mem _ mw_1_74)) (fun _ h9 => h9) rfl dX1_becomeAs_39 ?_
  refine lv_iconst (v := (0 : Int32)) hx hb dX1_becomeAs_42 (by decide) ?_
  refine lv_aload_n hx hb dX1_becomeAs_43 rfl (lv_at hl 0 rfl) ?_
  refine va_get (D := D) (ci := 1) (v := .ref (a 3)) (C := RX1) (T := TX1) (N := 10) hx hb hts (fun w9 h9 => List.mem_cons_of_mem _ (inT_X1 w9 h9)) hown hK hP 0 rfl rfl 3 (by decide) (hts (.fieldLink RX1 18 "LinkPredictor$Hierarchy" "supers" "[I") (List.mem_cons_of_mem _ mw_1_74)) (fun _ h9 => h9) rfl dX1_becomeAs_44 ?_
  refine lv_iconst (v := (0 : Int32)) hx hb dX1_becomeAs_47 (by decide) ?_
  refine lv_bipush (v := (12 : Int32)) hx hb dX1_becomeAs_48 (by decide) ?_
  refine mu_copy hx hb (hml.trans hl.1.symm) hown (hts (.methodLink RX1 51 arraycopyName) (List.mem_cons_of_mem _ mw_2_27)) (hts (.native arraycopyName) (List.mem_cons_of_mem _ mw_2_29)) (hts (.static arraycopyName) (List.mem_cons_of_mem _ mw_2_28)) (hts (.initialized "java/lang/System") (List.mem_cons_of_mem _ mw_1_7)) hEV hP hD hS 12 3 (N := 12) (w2 := wH cI a (stR (stR (stR (st2 h 8 0 (k 8 0)) 0 (va_cpy (k 0) ((st2 h 8 0 (k 8 0)) 0) 0 0 12)) 1 (va_cpy (k 1) ((stR (st2 h 8 0 (k 8 0)) 0 (va_cpy (k 0) ((st2 h 8 0 (k 8 0)) 0) 0 0 12)) 1) 0 0 12)) 2 (va_cpy (k 2) ((stR (stR (st2 h 8 0 (k 8 0)) 0 (va_cpy (k 0) ((st2 h 8 0 (k 8 0)) 0) 0 0 12)) 1 (va_cpy (k 1) ((stR (st2 h 8 0 (k 8 0)) 0 (va_cpy (k 0) ((st2 h 8 0 (k 8 0)) 0) 0 0 12)) 1) 0 0 12)) 2) 0 0 12)) ++ wH cI o k) rfl rfl (by decide) rfl (Nat.le_of_ble_eq_true rfl) (Nat.le_of_ble_eq_true rfl) dX1_becomeAs_50 (fun H locs hP hD hS => ?_)
  refine lv_aload_n hx hb dX1_becomeAs_53 rfl (lv_at hl 1 rfl) ?_
  refine va_get (D := D) (ci := 1) (v := .ref (o 4)) (C := RX1) (T := TX1) (N := 10) hx hb hts (fun w9 h9 => List.mem_cons_of_mem _ (inT_X1 w9 h9)) hown hK hP 9 rfl rfl 4 (by decide) (hts (.fieldLink RX1 21 "LinkPredictor$Hierarchy" "directFaces" "[I") (List.mem_cons_of_mem _ mw_1_75)) (fun _ h9 => h9) rfl dX1_becomeAs_54 ?_
  refine lv_iconst (v := (0 : Int32)) hx hb dX1_becomeAs_57 (by decide) ?_
  refine lv_aload_n hx hb dX1_becomeAs_58 rfl (lv_at hl 0 rfl) ?_
  refine va_get (D := D) (ci := 1) (v := .ref (a 4)) (C := RX1) (T := TX1) (N := 10) hx hb hts (fun w9 h9 => List.mem_cons_of_mem _ (inT_X1 w9 h9)) hown hK hP 0 rfl rfl 4 (by decide) (hts (.fieldLink RX1 21 "LinkPredictor$Hierarchy" "directFaces" "[I") (List.mem_cons_of_mem _ mw_1_75)) (fun _ h9 => h9) rfl dX1_becomeAs_59 ?_
  refine lv_iconst (v := (0 : Int32)) hx hb dX1_becomeAs_62 (by decide) ?_
  refine lv_bipush (v := (12 : Int32)) hx hb dX1_becomeAs_63 (by decide) ?_
  refine mu_copy hx hb (hml.trans hl.1.symm) hown (hts (.methodLink RX1 51 arraycopyName) (List.mem_cons_of_mem _ mw_2_27)) (hts (.native arraycopyName) (List.mem_cons_of_mem _ mw_2_29)) (hts (.static arraycopyName) (List.mem_cons_of_mem _ mw_2_28)) (hts (.initialized "java/lang/System") (List.mem_cons_of_mem _ mw_1_7)) hEV hP hD hS 13 4 (N := 12) (w2 := wH cI a (stR (stR (stR (stR (st2 h 8 0 (k 8 0)) 0 (va_cpy (k 0) ((st2 h 8 0 (k 8 0)) 0) 0 0 12)) 1 (va_cpy (k 1) ((stR (st2 h 8 0 (k 8 0)) 0 (va_cpy (k 0) ((st2 h 8 0 (k 8 0)) 0) 0 0 12)) 1) 0 0 12)) 2 (va_cpy (k 2) ((stR (stR (st2 h 8 0 (k 8 0)) 0 (va_cpy (k 0) ((st2 h 8 0 (k 8 0)) 0) 0 0 12)) 1 (va_cpy (k 1) ((stR (st2 h 8 0 (k 8 0)) 0 (va_cpy (k 0) ((st2 h 8 0 (k 8 0)) 0) 0 0 12)) 1) 0 0 12)) 2) 0 0 12)) 3 (va_cpy (k 3) ((stR (stR (stR (st2 h 8 0 (k 8 0)) 0 (va_cpy (k 0) ((st2 h 8 0 (k 8 0)) 0) 0 0 12)) 1 (va_cpy (k 1) ((stR (st2 h 8 0 (k 8 0)) 0 (va_cpy (k 0) ((st2 h 8 0 (k 8 0)) 0) 0 0 12)) 1) 0 0 12)) 2 (va_cpy (k 2) ((stR (stR (st2 h 8 0 (k 8 0)) 0 (va_cpy (k 0) ((st2 h 8 0 (k 8 0)) 0) 0 0 12)) 1 (va_cpy (k 1) ((stR (st2 h 8 0 (k 8 0)) 0 (va_cpy (k 0) ((st2 h 8 0 (k 8 0)) 0) 0 0 12)) 1) 0 0 12)) 2) 0 0 12)) 3) 0 0 12)) ++ wH cI o k) rfl rfl (by decide) rfl (Nat.le_of_ble_eq_true rfl) (Nat.le_of_ble_eq_true rfl) dX1_becomeAs_65 (fun H locs hP hD hS => ?_)
  refine lv_aload_n hx hb dX1_becomeAs_68 rfl (lv_at hl 1 rfl) ?_
  refine va_get (D := D) (ci := 1) (v := .ref (o 5)) (C := RX1) (T := TX1) (N := 10) hx hb hts (fun w9 h9 => List.mem_cons_of_mem _ (inT_X1 w9 h9)) hown hK hP 9 rfl rfl 5 (by decide) (hts (.fieldLink RX1 24 "LinkPredictor$Hierarchy" "hosts" "[I") (List.mem_cons_of_mem _ mw_1_76)) (fun _ h9 => h9) rfl dX1_becomeAs_69 ?_
  refine lv_iconst (v := (0 : Int32)) hx hb dX1_becomeAs_72 (by decide) ?_
  refine lv_aload_n hx hb dX1_becomeAs_73 rfl (lv_at hl 0 rfl) ?_
  refine va_get (D := D) (ci := 1) (v := .ref (a 5)) (C := RX1) (T := TX1) (N := 10) hx hb hts (fun w9 h9 => List.mem_cons_of_mem _ (inT_X1 w9 h9)) hown hK hP 0 rfl rfl 5 (by decide) (hts (.fieldLink RX1 24 "LinkPredictor$Hierarchy" "hosts" "[I") (List.mem_cons_of_mem _ mw_1_76)) (fun _ h9 => h9) rfl dX1_becomeAs_74 ?_
  refine lv_iconst (v := (0 : Int32)) hx hb dX1_becomeAs_77 (by decide) ?_
  refine lv_bipush (v := (12 : Int32)) hx hb dX1_becomeAs_78 (by decide) ?_
  refine mu_copy hx hb (hml.trans hl.1.symm) hown (hts (.methodLink RX1 51 arraycopyName) (List.mem_cons_of_mem _ mw_2_27)) (hts (.native arraycopyName) (List.mem_cons_of_mem _ mw_2_29)) (hts (.static arraycopyName) (List.mem_cons_of_mem _ mw_2_28)) (hts (.initialized "java/lang/System") (List.mem_cons_of_mem _ mw_1_7)) hEV hP hD hS 14 5 (N := 12) (w2 := wH cI a (stR (stR (stR (stR (stR (st2 h 8 0 (k 8 0)) 0 (va_cpy (k 0) ((st2 h 8 0 (k 8 0)) 0) 0 0 12)) 1 (va_cpy (k 1) ((stR (st2 h 8 0 (k 8 0)) 0 (va_cpy (k 0) ((st2 h 8 0 (k 8 0)) 0) 0 0 12)) 1) 0 0 12)) 2 (va_cpy (k 2) ((stR (stR (st2 h 8 0 (k 8 0)) 0 (va_cpy (k 0) ((st2 h 8 0 (k 8 0)) 0) 0 0 12)) 1 (va_cpy (k 1) ((stR (st2 h 8 0 (k 8 0)) 0 (va_cpy (k 0) ((st2 h 8 0 (k 8 0)) 0) 0 0 12)) 1) 0 0 12)) 2) 0 0 12)) 3 (va_cpy (k 3) ((stR (stR (stR (st2 h 8 0 (k 8 0)) 0 (va_cpy (k 0) ((st2 h 8 0 (k 8 0)) 0) 0 0 12)) 1 (va_cpy (k 1) ((stR (st2 h 8 0 (k 8 0)) 0 (va_cpy (k 0) ((st2 h 8 0 (k 8 0)) 0) 0 0 12)) 1) 0 0 12)) 2 (va_cpy (k 2) ((stR (stR (st2 h 8 0 (k 8 0)) 0 (va_cpy (k 0) ((st2 h 8 0 (k 8 0)) 0) 0 0 12)) 1 (va_cpy (k 1) ((stR (st2 h 8 0 (k 8 0)) 0 (va_cpy (k 0) ((st2 h 8 0 (k 8 0)) 0) 0 0 12)) 1) 0 0 12)) 2) 0 0 12)) 3) 0 0 12)) 4 (va_cpy (k 4) ((stR (stR (stR (stR (st2 h 8 0 (k 8 0)) 0 (va_cpy (k 0) ((st2 h 8 0 (k 8 0)) 0) 0 0 12)) 1 (va_cpy (k 1) ((stR (st2 h 8 0 (k 8 0)) 0 (va_cpy (k 0) ((st2 h 8 0 (k 8 0)) 0) 0 0 12)) 1) 0 0 12)) 2 (va_cpy (k 2) ((stR (stR (st2 h 8 0 (k 8 0)) 0 (va_cpy (k 0) ((st2 h 8 0 (k 8 0)) 0) 0 0 12)) 1 (va_cpy (k 1) ((stR (st2 h 8 0 (k 8 0)) 0 (va_cpy (k 0) ((st2 h 8 0 (k 8 0)) 0) 0 0 12)) 1) 0 0 12)) 2) 0 0 12)) 3 (va_cpy (k 3) ((stR (stR (stR (st2 h 8 0 (k 8 0)) 0 (va_cpy (k 0) ((st2 h 8 0 (k 8 0)) 0) 0 0 12)) 1 (va_cpy (k 1) ((stR (st2 h 8 0 (k 8 0)) 0 (va_cpy (k 0) ((st2 h 8 0 (k 8 0)) 0) 0 0 12)) 1) 0 0 12)) 2 (va_cpy (k 2) ((stR (stR (st2 h 8 0 (k 8 0)) 0 (va_cpy (k 0) ((st2 h 8 0 (k 8 0)) 0) 0 0 12)) 1 (va_cpy (k 1) ((stR (st2 h 8 0 (k 8 0)) 0 (va_cpy (k 0) ((st2 h 8 0 (k 8 0)) 0) 0 0 12)) 1) 0 0 12)) 2) 0 0 12)) 3) 0 0 12)) 4) 0 0 12)) ++ wH cI o k) rfl rfl (by decide) rfl (Nat.le_of_ble_eq_true rfl) (Nat.le_of_ble_eq_true rfl) dX1_becomeAs_80 (fun H locs hP hD hS => ?_)
  refine lv_aload_n hx hb dX1_becomeAs_83 rfl (lv_at hl 0 rfl) ?_
  refine mu_Vv [] [] ⟨hx, hb, hml, hown, hts⟩ (c_X1_settle l D cI cZ cB cR a (stR (stR (stR (stR (stR (st2 h 8 0 (k 8 0)) 0 (va_cpy (k 0) ((st2 h 8 0 (k 8 0)) 0) 0 0 12)) 1 (va_cpy (k 1) ((stR (st2 h 8 0 (k 8 0)) 0 (va_cpy (k 0) ((st2 h 8 0 (k 8 0)) 0) 0 0 12)) 1) 0 0 12)) 2 (va_cpy (k 2) ((stR (stR (st2 h 8 0 (k 8 0)) 0 (va_cpy (k 0) ((st2 h 8 0 (k 8 0)) 0) 0 0 12)) 1 (va_cpy (k 1) ((stR (st2 h 8 0 (k 8 0)) 0 (va_cpy (k 0) ((st2 h 8 0 (k 8 0)) 0) 0 0 12)) 1) 0 0 12)) 2) 0 0 12)) 3 (va_cpy (k 3) ((stR (stR (stR (st2 h 8 0 (k 8 0)) 0 (va_cpy (k 0) ((st2 h 8 0 (k 8 0)) 0) 0 0 12)) 1 (va_cpy (k 1) ((stR (st2 h 8 0 (k 8 0)) 0 (va_cpy (k 0) ((st2 h 8 0 (k 8 0)) 0) 0 0 12)) 1) 0 0 12)) 2 (va_cpy (k 2) ((stR (stR (st2 h 8 0 (k 8 0)) 0 (va_cpy (k 0) ((st2 h 8 0 (k 8 0)) 0) 0 0 12)) 1 (va_cpy (k 1) ((stR (st2 h 8 0 (k 8 0)) 0 (va_cpy (k 0) ((st2 h 8 0 (k 8 0)) 0) 0 0 12)) 1) 0 0 12)) 2) 0 0 12)) 3) 0 0 12)) 4 (va_cpy (k 4) ((stR (stR (stR (stR (st2 h 8 0 (k 8 0)) 0 (va_cpy (k 0) ((st2 h 8 0 (k 8 0)) 0) 0 0 12)) 1 (va_cpy (k 1) ((stR (st2 h 8 0 (k 8 0)) 0 (va_cpy (k 0) ((st2 h 8 0 (k 8 0)) 0) 0 0 12)) 1) 0 0 12)) 2 (va_cpy (k 2) ((stR (stR (st2 h 8 0 (k 8 0)) 0 (va_cpy (k 0) ((st2 h 8 0 (k 8 0)) 0) 0 0 12)) 1 (va_cpy (k 1) ((stR (st2 h 8 0 (k 8 0)) 0 (va_cpy (k 0) ((st2 h 8 0 (k 8 0)) 0) 0 0 12)) 1) 0 0 12)) 2) 0 0 12)) 3 (va_cpy (k 3) ((stR (stR (stR (st2 h 8 0 (k 8 0)) 0 (va_cpy (k 0) ((st2 h 8 0 (k 8 0)) 0) 0 0 12)) 1 (va_cpy (k 1) ((stR (st2 h 8 0 (k 8 0)) 0 (va_cpy (k 0) ((st2 h 8 0 (k 8 0)) 0) 0 0 12)) 1) 0 0 12)) 2 (va_cpy (k 2) ((stR (stR (st2 h 8 0 (k 8 0)) 0 (va_cpy (k 0) ((st2 h 8 0 (k 8 0)) 0) 0 0 12)) 1 (va_cpy (k 1) ((stR (st2 h 8 0 (k 8 0)) 0 (va_cpy (k 0) ((st2 h 8 0 (k 8 0)) 0) 0 0 12)) 1) 0 0 12)) 2) 0 0 12)) 3) 0 0 12)) 4) 0 0 12)) (vwH (stR (stR (stR (stR (stR (st2 h 8 0 (k 8 0)) 0 (va_cpy (k 0) ((st2 h 8 0 (k 8 0)) 0) 0 0 12)) 1 (va_cpy (k 1) ((stR (st2 h 8 0 (k 8 0)) 0 (va_cpy (k 0) ((st2 h 8 0 (k 8 0)) 0) 0 0 12)) 1) 0 0 12)) 2 (va_cpy (k 2) ((stR (stR (st2 h 8 0 (k 8 0)) 0 (va_cpy (k 0) ((st2 h 8 0 (k 8 0)) 0) 0 0 12)) 1 (va_cpy (k 1) ((stR (st2 h 8 0 (k 8 0)) 0 (va_cpy (k 0) ((st2 h 8 0 (k 8 0)) 0) 0 0 12)) 1) 0 0 12)) 2) 0 0 12)) 3 (va_cpy (k 3) ((stR (stR (stR (st2 h 8 0 (k 8 0)) 0 (va_cpy (k 0) ((st2 h 8 0 (k 8 0)) 0) 0 0 12)) 1 (va_cpy (k 1) ((stR (st2 h 8 0 (k 8 0)) 0 (va_cpy (k 0) ((st2 h 8 0 (k 8 0)) 0) 0 0 12)) 1) 0 0 12)) 2 (va_cpy (k 2) ((stR (stR (st2 h 8 0 (k 8 0)) 0 (va_cpy (k 0) ((st2 h 8 0 (k 8 0)) 0) 0 0 12)) 1 (va_cpy (k 1) ((stR (st2 h 8 0 (k 8 0)) 0 (va_cpy (k 0) ((st2 h 8 0 (k 8 0)) 0) 0 0 12)) 1) 0 0 12)) 2) 0 0 12)) 3) 0 0 12)) 4 (va_cpy (k 4) ((stR (stR (stR (stR (st2 h 8 0 (k 8 0)) 0 (va_cpy (k 0) ((st2 h 8 0 (k 8 0)) 0) 0 0 12)) 1 (va_cpy (k 1) ((stR (st2 h 8 0 (k 8 0)) 0 (va_cpy (k 0) ((st2 h 8 0 (k 8 0)) 0) 0 0 12)) 1) 0 0 12)) 2 (va_cpy (k 2) ((stR (stR (st2 h 8 0 (k 8 0)) 0 (va_cpy (k 0) ((st2 h 8 0 (k 8 0)) 0) 0 0 12)) 1 (va_cpy (k 1) ((stR (st2 h 8 0 (k 8 0)) 0 (va_cpy (k 0) ((st2 h 8 0 (k 8 0)) 0) 0 0 12)) 1) 0 0 12)) 2) 0 0 12)) 3 (va_cpy (k 3) ((stR (stR (stR (st2 h 8 0 (k 8 0)) 0 (va_cpy (k 0) ((st2 h 8 0 (k 8 0)) 0) 0 0 12)) 1 (va_cpy (k 1) ((stR (st2 h 8 0 (k 8 0)) 0 (va_cpy (k 0) ((st2 h 8 0 (k 8 0)) 0) 0 0 12)) 1) 0 0 12)) 2 (va_cpy (k 2) ((stR (stR (st2 h 8 0 (k 8 0)) 0 (va_cpy (k 0) ((st2 h 8 0 (k 8 0)) 0) 0 0 12)) 1 (va_cpy (k 1) ((stR (st2 h 8 0 (k 8 0)) 0 (va_cpy (k 0) ((st2 h 8 0 (k 8 0)) 0) 0 0 12)) 1) 0 0 12)) 2) 0 0 12)) 3) 0 0 12)) 4) 0 0 12))) rfl wf) (cwV (C := RX1) 0 hts (goodP (ps := [.methodLink RX1 44 yX1_settle, .instanceMethod yX1_settle, .selects RX1 yX1_settle yX1_settle, .initialized RX1]) (all4 mw_1_34 mw_1_36 ms_0 mw_1_3) mw_1_37) rfl rfl rfl (by decide +kernel) ⟨Nat.le_of_ble_eq_true rfl, Nat.le_of_ble_eq_true rfl⟩) hEV (va_P_l hP) (va_D_l hD) hS hA 0 rfl rfl rfl hl.1 rfl (Nat.le_of_ble_eq_true rfl) dX1_becomeAs_84 ⟨Nat.zero_le _, Nat.zero_le _⟩ (fun u9 H1 locs hw hP1 hk1 hS => ?_)
  have hP : va_P D vwCl (wH cI a (p_X1_settle (vwH (stR (stR (stR (stR (stR (st2 h 8 0 (k 8 0)) 0 (va_cpy (k 0) ((st2 h 8 0 (k 8 0)) 0) 0 0 12)) 1 (va_cpy (k 1) ((stR (st2 h 8 0 (k 8 0)) 0 (va_cpy (k 0) ((st2 h 8 0 (k 8 0)) 0) 0 0 12)) 1) 0 0 12)) 2 (va_cpy (k 2) ((stR (stR (st2 h 8 0 (k 8 0)) 0 (va_cpy (k 0) ((st2 h 8 0 (k 8 0)) 0) 0 0 12)) 1 (va_cpy (k 1) ((stR (st2 h 8 0 (k 8 0)) 0 (va_cpy (k 0) ((st2 h 8 0 (k 8 0)) 0) 0 0 12)) 1) 0 0 12)) 2) 0 0 12)) 3 (va_cpy (k 3) ((stR (stR (stR (st2 h 8 0 (k 8 0)) 0 (va_cpy (k 0) ((st2 h 8 0 (k 8 0)) 0) 0 0 12)) 1 (va_cpy (k 1) ((stR (st2 h 8 0 (k 8 0)) 0 (va_cpy (k 0) ((st2 h 8 0 (k 8 0)) 0) 0 0 12)) 1) 0 0 12)) 2 (va_cpy (k 2) ((stR (stR (st2 h 8 0 (k 8 0)) 0 (va_cpy (k 0) ((st2 h 8 0 (k 8 0)) 0) 0 0 12)) 1 (va_cpy (k 1) ((stR (st2 h 8 0 (k 8 0)) 0 (va_cpy (k 0) ((st2 h 8 0 (k 8 0)) 0) 0 0 12)) 1) 0 0 12)) 2) 0 0 12)) 3) 0 0 12)) 4 (va_cpy (k 4) ((stR (stR (stR (stR (st2 h 8 0 (k 8 0)) 0 (va_cpy (k 0) ((st2 h 8 0 (k 8 0)) 0) 0 0 12)) 1 (va_cpy (k 1) ((stR (st2 h 8 0 (k 8 0)) 0 (va_cpy (k 0) ((st2 h 8 0 (k 8 0)) 0) 0 0 12)) 1) 0 0 12)) 2 (va_cpy (k 2) ((stR (stR (st2 h 8 0 (k 8 0)) 0 (va_cpy (k 0) ((st2 h 8 0 (k 8 0)) 0) 0 0 12)) 1 (va_cpy (k 1) ((stR (st2 h 8 0 (k 8 0)) 0 (va_cpy (k 0) ((st2 h 8 0 (k 8 0)) 0) 0 0 12)) 1) 0 0 12)) 2) 0 0 12)) 3 (va_cpy (k 3) ((stR (stR (stR (st2 h 8 0 (k 8 0)) 0 (va_cpy (k 0) ((st2 h 8 0 (k 8 0)) 0) 0 0 12)) 1 (va_cpy (k 1) ((stR (st2 h 8 0 (k 8 0)) 0 (va_cpy (k 0) ((st2 h 8 0 (k 8 0)) 0) 0 0 12)) 1) 0 0 12)) 2 (va_cpy (k 2) ((stR (stR (st2 h 8 0 (k 8 0)) 0 (va_cpy (k 0) ((st2 h 8 0 (k 8 0)) 0) 0 0 12)) 1 (va_cpy (k 1) ((stR (st2 h 8 0 (k 8 0)) 0 (va_cpy (k 0) ((st2 h 8 0 (k 8 0)) 0) 0 0 12)) 1) 0 0 12)) 2) 0 0 12)) 3) 0 0 12)) 4) 0 0 12))) (stR (stR (stR (stR (stR (st2 h 8 0 (k 8 0)) 0 (va_cpy (k 0) ((st2 h 8 0 (k 8 0)) 0) 0 0 12)) 1 (va_cpy (k 1) ((stR (st2 h 8 0 (k 8 0)) 0 (va_cpy (k 0) ((st2 h 8 0 (k 8 0)) 0) 0 0 12)) 1) 0 0 12)) 2 (va_cpy (k 2) ((stR (stR (st2 h 8 0 (k 8 0)) 0 (va_cpy (k 0) ((st2 h 8 0 (k 8 0)) 0) 0 0 12)) 1 (va_cpy (k 1) ((stR (st2 h 8 0 (k 8 0)) 0 (va_cpy (k 0) ((st2 h 8 0 (k 8 0)) 0) 0 0 12)) 1) 0 0 12)) 2) 0 0 12)) 3 (va_cpy (k 3) ((stR (stR (stR (st2 h 8 0 (k 8 0)) 0 (va_cpy (k 0) ((st2 h 8 0 (k 8 0)) 0) 0 0 12)) 1 (va_cpy (k 1) ((stR (st2 h 8 0 (k 8 0)) 0 (va_cpy (k 0) ((st2 h 8 0 (k 8 0)) 0) 0 0 12)) 1) 0 0 12)) 2 (va_cpy (k 2) ((stR (stR (st2 h 8 0 (k 8 0)) 0 (va_cpy (k 0) ((st2 h 8 0 (k 8 0)) 0) 0 0 12)) 1 (va_cpy (k 1) ((stR (st2 h 8 0 (k 8 0)) 0 (va_cpy (k 0) ((st2 h 8 0 (k 8 0)) 0) 0 0 12)) 1) 0 0 12)) 2) 0 0 12)) 3) 0 0 12)) 4 (va_cpy (k 4) ((stR (stR (stR (stR (st2 h 8 0 (k 8 0)) 0 (va_cpy (k 0) ((st2 h 8 0 (k 8 0)) 0) 0 0 12)) 1 (va_cpy (k 1) ((stR (st2 h 8 0 (k 8 0)) 0 (va_cpy (k 0) ((st2 h 8 0 (k 8 0)) 0) 0 0 12)) 1) 0 0 12)) 2 (va_cpy (k 2) ((stR (stR (st2 h 8 0 (k 8 0)) 0 (va_cpy (k 0) ((st2 h 8 0 (k 8 0)) 0) 0 0 12)) 1 (va_cpy (k 1) ((stR (st2 h 8 0 (k 8 0)) 0 (va_cpy (k 0) ((st2 h 8 0 (k 8 0)) 0) 0 0 12)) 1) 0 0 12)) 2) 0 0 12)) 3 (va_cpy (k 3) ((stR (stR (stR (st2 h 8 0 (k 8 0)) 0 (va_cpy (k 0) ((st2 h 8 0 (k 8 0)) 0) 0 0 12)) 1 (va_cpy (k 1) ((stR (st2 h 8 0 (k 8 0)) 0 (va_cpy (k 0) ((st2 h 8 0 (k 8 0)) 0) 0 0 12)) 1) 0 0 12)) 2 (va_cpy (k 2) ((stR (stR (st2 h 8 0 (k 8 0)) 0 (va_cpy (k 0) ((st2 h 8 0 (k 8 0)) 0) 0 0 12)) 1 (va_cpy (k 1) ((stR (st2 h 8 0 (k 8 0)) 0 (va_cpy (k 0) ((st2 h 8 0 (k 8 0)) 0) 0 0 12)) 1) 0 0 12)) 2) 0 0 12)) 3) 0 0 12)) 4) 0 0 12))) ++ wH cI o k) H1 := va_swap (w1 := []) (w2 := wH cI a (stR (stR (stR (stR (stR (st2 h 8 0 (k 8 0)) 0 (va_cpy (k 0) ((st2 h 8 0 (k 8 0)) 0) 0 0 12)) 1 (va_cpy (k 1) ((stR (st2 h 8 0 (k 8 0)) 0 (va_cpy (k 0) ((st2 h 8 0 (k 8 0)) 0) 0 0 12)) 1) 0 0 12)) 2 (va_cpy (k 2) ((stR (stR (st2 h 8 0 (k 8 0)) 0 (va_cpy (k 0) ((st2 h 8 0 (k 8 0)) 0) 0 0 12)) 1 (va_cpy (k 1) ((stR (st2 h 8 0 (k 8 0)) 0 (va_cpy (k 0) ((st2 h 8 0 (k 8 0)) 0) 0 0 12)) 1) 0 0 12)) 2) 0 0 12)) 3 (va_cpy (k 3) ((stR (stR (stR (st2 h 8 0 (k 8 0)) 0 (va_cpy (k 0) ((st2 h 8 0 (k 8 0)) 0) 0 0 12)) 1 (va_cpy (k 1) ((stR (st2 h 8 0 (k 8 0)) 0 (va_cpy (k 0) ((st2 h 8 0 (k 8 0)) 0) 0 0 12)) 1) 0 0 12)) 2 (va_cpy (k 2) ((stR (stR (st2 h 8 0 (k 8 0)) 0 (va_cpy (k 0) ((st2 h 8 0 (k 8 0)) 0) 0 0 12)) 1 (va_cpy (k 1) ((stR (st2 h 8 0 (k 8 0)) 0 (va_cpy (k 0) ((st2 h 8 0 (k 8 0)) 0) 0 0 12)) 1) 0 0 12)) 2) 0 0 12)) 3) 0 0 12)) 4 (va_cpy (k 4) ((stR (stR (stR (stR (st2 h 8 0 (k 8 0)) 0 (va_cpy (k 0) ((st2 h 8 0 (k 8 0)) 0) 0 0 12)) 1 (va_cpy (k 1) ((stR (st2 h 8 0 (k 8 0)) 0 (va_cpy (k 0) ((st2 h 8 0 (k 8 0)) 0) 0 0 12)) 1) 0 0 12)) 2 (va_cpy (k 2) ((stR (stR (st2 h 8 0 (k 8 0)) 0 (va_cpy (k 0) ((st2 h 8 0 (k 8 0)) 0) 0 0 12)) 1 (va_cpy (k 1) ((stR (st2 h 8 0 (k 8 0)) 0 (va_cpy (k 0) ((st2 h 8 0 (k 8 0)) 0) 0 0 12)) 1) 0 0 12)) 2) 0 0 12)) 3 (va_cpy (k 3) ((stR (stR (stR (st2 h 8 0 (k 8 0)) 0 (va_cpy (k 0) ((st2 h 8 0 (k 8 0)) 0) 0 0 12)) 1 (va_cpy (k 1) ((stR (st2 h 8 0 (k 8 0)) 0 (va_cpy (k 0) ((st2 h 8 0 (k 8 0)) 0) 0 0 12)) 1) 0 0 12)) 2 (va_cpy (k 2) ((stR (stR (st2 h 8 0 (k 8 0)) 0 (va_cpy (k 0) ((st2 h 8 0 (k 8 0)) 0) 0 0 12)) 1 (va_cpy (k 1) ((stR (st2 h 8 0 (k 8 0)) 0 (va_cpy (k 0) ((st2 h 8 0 (k 8 0)) 0) 0 0 12)) 1) 0 0 12)) 2) 0 0 12)) 3) 0 0 12)) 4) 0 0 12))) (w3 := wH cI o k) hP hD hP1 hk1
  have hD : va_D A (wH cI a (p_X1_settle (vwH (stR (stR (stR (stR (stR (st2 h 8 0 (k 8 0)) 0 (va_cpy (k 0) ((st2 h 8 0 (k 8 0)) 0) 0 0 12)) 1 (va_cpy (k 1) ((stR (st2 h 8 0 (k 8 0)) 0 (va_cpy (k 0) ((st2 h 8 0 (k 8 0)) 0) 0 0 12)) 1) 0 0 12)) 2 (va_cpy (k 2) ((stR (stR (st2 h 8 0 (k 8 0)) 0 (va_cpy (k 0) ((st2 h 8 0 (k 8 0)) 0) 0 0 12)) 1 (va_cpy (k 1) ((stR (st2 h 8 0 (k 8 0)) 0 (va_cpy (k 0) ((st2 h 8 0 (k 8 0)) 0) 0 0 12)) 1) 0 0 12)) 2) 0 0 12)) 3 (va_cpy (k 3) ((stR (stR (stR (st2 h 8 0 (k 8 0)) 0 (va_cpy (k 0) ((st2 h 8 0 (k 8 0)) 0) 0 0 12)) 1 (va_cpy (k 1) ((stR (st2 h 8 0 (k 8 0)) 0 (va_cpy (k 0) ((st2 h 8 0 (k 8 0)) 0) 0 0 12)) 1) 0 0 12)) 2 (va_cpy (k 2) ((stR (stR (st2 h 8 0 (k 8 0)) 0 (va_cpy (k 0) ((st2 h 8 0 (k 8 0)) 0) 0 0 12)) 1 (va_cpy (k 1) ((stR (st2 h 8 0 (k 8 0)) 0 (va_cpy (k 0) ((st2 h 8 0 (k 8 0)) 0) 0 0 12)) 1) 0 0 12)) 2) 0 0 12)) 3) 0 0 12)) 4 (va_cpy (k 4) ((stR (stR (stR (stR (st2 h 8 0 (k 8 0)) 0 (va_cpy (k 0) ((st2 h 8 0 (k 8 0)) 0) 0 0 12)) 1 (va_cpy (k 1) ((stR (st2 h 8 0 (k 8 0)) 0 (va_cpy (k 0) ((st2 h 8 0 (k 8 0)) 0) 0 0 12)) 1) 0 0 12)) 2 (va_cpy (k 2) ((stR (stR (st2 h 8 0 (k 8 0)) 0 (va_cpy (k 0) ((st2 h 8 0 (k 8 0)) 0) 0 0 12)) 1 (va_cpy (k 1) ((stR (st2 h 8 0 (k 8 0)) 0 (va_cpy (k 0) ((st2 h 8 0 (k 8 0)) 0) 0 0 12)) 1) 0 0 12)) 2) 0 0 12)) 3 (va_cpy (k 3) ((stR (stR (stR (st2 h 8 0 (k 8 0)) 0 (va_cpy (k 0) ((st2 h 8 0 (k 8 0)) 0) 0 0 12)) 1 (va_cpy (k 1) ((stR (st2 h 8 0 (k 8 0)) 0 (va_cpy (k 0) ((st2 h 8 0 (k 8 0)) 0) 0 0 12)) 1) 0 0 12)) 2 (va_cpy (k 2) ((stR (stR (st2 h 8 0 (k 8 0)) 0 (va_cpy (k 0) ((st2 h 8 0 (k 8 0)) 0) 0 0 12)) 1 (va_cpy (k 1) ((stR (st2 h 8 0 (k 8 0)) 0 (va_cpy (k 0) ((st2 h 8 0 (k 8 0)) 0) 0 0 12)) 1) 0 0 12)) 2) 0 0 12)) 3) 0 0 12)) 4) 0 0 12))) (stR (stR (stR (stR (stR (st2 h 8 0 (k 8 0)) 0 (va_cpy (k 0) ((st2 h 8 0 (k 8 0)) 0) 0 0 12)) 1 (va_cpy (k 1) ((stR (st2 h 8 0 (k 8 0)) 0 (va_cpy (k 0) ((st2 h 8 0 (k 8 0)) 0) 0 0 12)) 1) 0 0 12)) 2 (va_cpy (k 2) ((stR (stR (st2 h 8 0 (k 8 0)) 0 (va_cpy (k 0) ((st2 h 8 0 (k 8 0)) 0) 0 0 12)) 1 (va_cpy (k 1) ((stR (st2 h 8 0 (k 8 0)) 0 (va_cpy (k 0) ((st2 h 8 0 (k 8 0)) 0) 0 0 12)) 1) 0 0 12)) 2) 0 0 12)) 3 (va_cpy (k 3) ((stR (stR (stR (st2 h 8 0 (k 8 0)) 0 (va_cpy (k 0) ((st2 h 8 0 (k 8 0)) 0) 0 0 12)) 1 (va_cpy (k 1) ((stR (st2 h 8 0 (k 8 0)) 0 (va_cpy (k 0) ((st2 h 8 0 (k 8 0)) 0) 0 0 12)) 1) 0 0 12)) 2 (va_cpy (k 2) ((stR (stR (st2 h 8 0 (k 8 0)) 0 (va_cpy (k 0) ((st2 h 8 0 (k 8 0)) 0) 0 0 12)) 1 (va_cpy (k 1) ((stR (st2 h 8 0 (k 8 0)) 0 (va_cpy (k 0) ((st2 h 8 0 (k 8 0)) 0) 0 0 12)) 1) 0 0 12)) 2) 0 0 12)) 3) 0 0 12)) 4 (va_cpy (k 4) ((stR (stR (stR (stR (st2 h 8 0 (k 8 0)) 0 (va_cpy (k 0) ((st2 h 8 0 (k 8 0)) 0) 0 0 12)) 1 (va_cpy (k 1) ((stR (st2 h 8 0 (k 8 0)) 0 (va_cpy (k 0) ((st2 h 8 0 (k 8 0)) 0) 0 0 12)) 1) 0 0 12)) 2 (va_cpy (k 2) ((stR (stR (st2 h 8 0 (k 8 0)) 0 (va_cpy (k 0) ((st2 h 8 0 (k 8 0)) 0) 0 0 12)) 1 (va_cpy (k 1) ((stR (st2 h 8 0 (k 8 0)) 0 (va_cpy (k 0) ((st2 h 8 0 (k 8 0)) 0) 0 0 12)) 1) 0 0 12)) 2) 0 0 12)) 3 (va_cpy (k 3) ((stR (stR (stR (st2 h 8 0 (k 8 0)) 0 (va_cpy (k 0) ((st2 h 8 0 (k 8 0)) 0) 0 0 12)) 1 (va_cpy (k 1) ((stR (st2 h 8 0 (k 8 0)) 0 (va_cpy (k 0) ((st2 h 8 0 (k 8 0)) 0) 0 0 12)) 1) 0 0 12)) 2 (va_cpy (k 2) ((stR (stR (st2 h 8 0 (k 8 0)) 0 (va_cpy (k 0) ((st2 h 8 0 (k 8 0)) 0) 0 0 12)) 1 (va_cpy (k 1) ((stR (st2 h 8 0 (k 8 0)) 0 (va_cpy (k 0) ((st2 h 8 0 (k 8 0)) 0) 0 0 12)) 1) 0 0 12)) 2) 0 0 12)) 3) 0 0 12)) 4) 0 0 12))) ++ wH cI o k) := hD.adr rfl
  generalize H1 = H at hP hS ⊢
  exact W.vret hx hb hr (fun t9 ht9 _ => ⟨⟨(), rfl, trivial, by show va_P D vwCl _ t9.heap; rw [ht9, ← hE]; exact hP⟩, hS.F ht9⟩) hS.2.2 dX1_becomeAs_87
def p_X2_becomeAs (k : Nat → Nat → Int32) (g : (Nat → Nat → Int32)) : (Nat → Nat → Int32) := stR (stR (stR (stR (st2 (st2 g 4 0 (k 4 0)) 4 1 (k 4 1)) 0 (va_cpy (k 0) ((st2 (st2 g 4 0 (k 4 0)) 4 1 (k 4 1)) 0) 0 0 30)) 1 (va_cpy (k 1) ((stR (st2 (st2 g 4 0 (k 4 0)) 4 1 (k 4 1)) 0 (va_cpy (k 0) ((st2 (st2 g 4 0 (k 4 0)) 4 1 (k 4 1)) 0) 0 0 30)) 1) 0 0 30)) 2 (va_cpy (k 2) ((stR (stR (st2 (st2 g 4 0 (k 4 0)) 4 1 (k 4 1)) 0 (va_cpy (k 0) ((st2 (st2 g 4 0 (k 4 0)) 4 1 (k 4 1)) 0) 0 0 30)) 1 (va_cpy (k 1) ((stR (st2 (st2 g 4 0 (k 4 0)) 4 1 (k 4 1)) 0 (va_cpy (k 0) ((st2 (st2 g 4 0 (k 4 0)) 4 1 (k 4 1)) 0) 0 0 30)) 1) 0 0 30)) 2) 0 0 30)) 3 (va_cpy (k 3) ((stR (stR (stR (st2 (st2 g 4 0 (k 4 0)) 4 1 (k 4 1)) 0 (va_cpy (k 0) ((st2 (st2 g 4 0 (k 4 0)) 4 1 (k 4 1)) 0) 0 0 30)) 1 (va_cpy (k 1) ((stR (st2 (st2 g 4 0 (k 4 0)) 4 1 (k 4 1)) 0 (va_cpy (k 0) ((st2 (st2 g 4 0 (k 4 0)) 4 1 (k 4 1)) 0) 0 0 30)) 1) 0 0 30)) 2 (va_cpy (k 2) ((stR (stR (st2 (st2 g 4 0 (k 4 0)) 4 1 (k 4 1)) 0 (va_cpy (k 0) ((st2 (st2 g 4 0 (k 4 0)) 4 1 (k 4 1)) 0) 0 0 30)) 1 (va_cpy (k 1) ((stR (st2 (st2 g 4 0 (k 4 0)) 4 1 (k 4 1)) 0 (va_cpy (k 0) ((st2 (st2 g 4 0 (k 4 0)) 4 1 (k 4 1)) 0) 0 0 30)) 1) 0 0 30)) 2) 0 0 30)) 3) 0 0 30)
set_option maxHeartbeats 4000000 in
set_option maxRecDepth 100000 in
theorem c_X2_becomeAs (l : Launch) (D : va_G) (cI cZ cB cR : ClassId) (a o : Nat → Nat) (g k : Nat → Nat → Int32) : MUv l yX2_becomeAs wsX2_becomeAs ({ frames := 1, cells := 0, slots := 0, locals := 100 } : Room) D cI cZ cB cR (wM cI a g ++ wM cI o k) [.ref (a 0), .ref (o 0)] (fun (_ : Unit) => wM cI a ((p_X2_becomeAs k g)) ++ wM cI o k) (fun _ => True) := by
  generalize hE : p_X2_becomeAs k g = tgt
  intro sz
  refine Met.ofW (cc := cX2_becomeAs) (maxL := 2) (ret := none) (by decide) rfl ?_
  intro p e s m args below meth c s₁ B hml hv
  obtain ⟨hargs, hsz, hP, hEV, hD0⟩ := hv
  have hx := B.exec
  have hb := B.bytes
  have hr := B.returns
  have hts := atoms_spec (ws := wsX2_becomeAs) B.pre
  have hown : s.vm.findClass RX2 = some m.cls := findClass_of_methodNamed B.named
  have hlocks := B.notSynchronized
  have hK := hEV.1
  have hl := lv_entry ([.ref (a 0), .ref (o 0)]) (n := 2) (Nat.le_of_ble_eq_true rfl)
  rw [show entryFrame m args 2 = entryFrame m ([.ref (a 0), .ref (o 0)] : List Value).toArray 2 from by rw [hargs], lg_entry_eq]
  generalize (lg_sl ([.ref (a 0), .ref (o 0)]) ++ List.replicate (2 - (lg_sl ([.ref (a 0), .ref (o 0)])).length) Slot.unset).toArray = ls at hl ⊢
  have hl : lv_has ls 2 [(0, .ref (a 0)), (1, .ref (o 0))] := hl
  subst hsz
  have hD := hD0.self (sz := s.heap.size)
  generalize hAe : va_A (wM cI a g ++ wM cI o k) s.heap.size = A at hD ⊢
  have hA : ∀ q : Nat, s.heap.size ≤ q → A q := fun q h9 => by rw [← hAe]; exact Or.inr h9
  have hS : va_S A s.heap s.heap [] := va_S.rf
  rw [p_X2_becomeAs] at hE
  refine lv_aload_n hx hb dX2_becomeAs_0 rfl (lv_at hl 0 rfl) ?_
  refine lv_aload_n hx hb dX2_becomeAs_1 rfl (lv_at hl 1 rfl) ?_
  refine va_get (D := D) (ci := 2) (v := .int (k 4 0)) (C := RX2) (T := TX2) (N := 6) hx hb hts (fun w9 h9 => List.mem_cons_of_mem _ (inT_X2 w9 h9)) hown hK hP 5 rfl rfl 0 (by decide) (hts (.fieldLink RX2 24 "LinkPredictor$Members" "size" "I") (List.mem_cons_of_mem _ mw_1_109)) (fun _ h9 => h9) rfl dX2_becomeAs_2 ?_
  refine va_put (D := D) (ci := 2) (v := .int (k 4 0)) (ty := .int) (C := RX2) (T := TX2) (N := 6) hx hb hts (fun w9 h9 => List.mem_cons_of_mem _ (inT_X2 w9 h9)) tyX2 tyX2_ok nmX2 hown hK hP hD hS 0 rfl rfl 0 (by decide) (hts (.fieldLink RX2 24 "LinkPredictor$Members" "size" "I") (List.mem_cons_of_mem _ mw_1_109)) (fun _ h9 => h9) rfl (by decide +kernel) rfl rfl (Nat.le_of_ble_eq_true rfl) dX2_becomeAs_5 (fun H locs hP hD hS => ?_)
  have hP : va_P D vwCl (wM cI a (st2 g 4 0 (k 4 0)) ++ wM cI o k) _ := hP
  have hD : va_D A (wM cI a (st2 g 4 0 (k 4 0)) ++ wM cI o k) := hD
  refine lv_aload_n hx hb dX2_becomeAs_8 rfl (lv_at hl 0 rfl) ?_
  refine lv_aload_n hx hb dX2_becomeAs_9 rfl (lv_at hl 1 rfl) ?_
  refine va_get (D := D) (ci := 2) (v := .int (k 4 1)) (C := RX2) (T := TX2) (N := 6) hx hb hts (fun w9 h9 => List.mem_cons_of_mem _ (inT_X2 w9 h9)) hown hK hP 5 rfl rfl 1 (by decide) (hts (.fieldLink RX2 36 "LinkPredictor$Members" "gone" "I") (List.mem_cons_of_mem _ mw_1_110)) (fun _ h9 => h9) rfl dX2_becomeAs_10 ?_
  refine va_put (D := D) (ci := 2) (v := .int (k 4 1)) (ty := .int) (C := RX2) (T := TX2) (N := 6) hx hb hts (fun w9 h9 => List.mem_cons_of_mem _ (inT_X2 w9 h9)) tyX2 tyX2_ok nmX2 hown hK hP hD hS 0 rfl rfl 1 (by decide) (hts (.fieldLink RX2 36 "LinkPredictor$Members" "gone" "I") (List.mem_cons_of_mem _ mw_1_110)) (fun _ h9 => h9) rfl (by decide +kernel) rfl rfl (Nat.le_of_ble_eq_true rfl) dX2_becomeAs_13 (fun H locs hP hD hS => ?_)
  have hP : va_P D vwCl (wM cI a (st2 (st2 g 4 0 (k 4 0)) 4 1 (k 4 1)) ++ wM cI o k) _ := hP
  have hD : va_D A (wM cI a (st2 (st2 g 4 0 (k 4 0)) 4 1 (k 4 1)) ++ wM cI o k) := hD
  refine lv_aload_n hx hb dX2_becomeAs_16 rfl (lv_at hl 1 rfl) ?_
  refine va_get (D := D) (ci := 2) (v := .ref (o 1)) (C := RX2) (T := TX2) (N := 6) hx hb hts (fun w9 h9 => List.mem_cons_of_mem _ (inT_X2 w9 h9)) hown hK hP 5 rfl rfl 2 (by decide) (hts (.fieldLink RX2 9 "LinkPredictor$Members" "owners" "[I") (List.mem_cons_of_mem _ mw_1_111)) (fun _ h9 => h9) rfl dX2_becomeAs_17 ?_
  refine lv_iconst (v := (0 : Int32)) hx hb dX2_becomeAs_20 (by decide) ?_
  refine lv_aload_n hx hb dX2_becomeAs_21 rfl (lv_at hl 0 rfl) ?_
  refine va_get (D := D) (ci := 2) (v := .ref (a 1)) (C := RX2) (T := TX2) (N := 6) hx hb hts (fun w9 h9 => List.mem_cons_of_mem _ (inT_X2 w9 h9)) hown hK hP 0 rfl rfl 2 (by decide) (hts (.fieldLink RX2 9 "LinkPredictor$Members" "owners" "[I") (List.mem_cons_of_mem _ mw_1_111)) (fun _ h9 => h9) rfl dX2_becomeAs_22 ?_
  refine lv_iconst (v := (0 : Int32)) hx hb dX2_becomeAs_25 (by decide) ?_
  refine lv_bipush (v := (30 : Int32)) hx hb dX2_becomeAs_26 (by decide) ?_
  refine mu_copy hx hb (hml.trans hl.1.symm) hown (hts (.methodLink RX2 43 arraycopyName) (List.mem_cons_of_mem _ mw_2_34)) (hts (.native arraycopyName) (List.mem_cons_of_mem _ mw_2_29)) (hts (.static arraycopyName) (List.mem_cons_of_mem _ mw_2_28)) (hts (.initialized "java/lang/System") (List.mem_cons_of_mem _ mw_1_7)) hEV hP hD hS 6 1 (N := 30) (w2 := wM cI a (stR (st2 (st2 g 4 0 (k 4 0)) 4 1 (k 4 1)) 0 (va_cpy (k 0) ((st2 (st2 g 4 0 (k 4 0)) 4 1 (k 4 1)) 0) 0 0 30)) ++ wM cI o k) rfl rfl (by decide) rfl (Nat.le_of_ble_eq_true rfl) (Nat.le_of_ble_eq_true rfl) dX2_becomeAs_28 (fun H locs hP hD hS => ?_)
  refine lv_aload_n hx hb dX2_becomeAs_31 rfl (lv_at hl 1 rfl) ?_
  refine va_get (D := D) (ci := 2) (v := .ref (o 2)) (C := RX2) (T := TX2) (N := 6) hx hb hts (fun w9 h9 => List.mem_cons_of_mem _ (inT_X2 w9 h9)) hown hK hP 5 rfl rfl 3 (by decide) (hts (.fieldLink RX2 15 "LinkPredictor$Members" "keys" "[I") (List.mem_cons_of_mem _ mw_1_112)) (fun _ h9 => h9) rfl dX2_becomeAs_32 ?_
  refine lv_iconst (v := (0 : Int32)) hx hb dX2_becomeAs_35 (by decide) ?_
  refine lv_aload_n hx hb dX2_becomeAs_36 rfl (lv_at hl 0 rfl) ?_
  refine va_get (D := D) (ci := 2) (v := .ref (a 2)) (C := RX2) (T := TX2) (N := 6) hx hb hts (fun w9 h9 => List.mem_cons_of_mem _ (inT_X2 w9 h9)) hown hK hP 0 rfl rfl 3 (by decide) (hts (.fieldLink RX2 15 "LinkPredictor$Members" "keys" "[I") (List.mem_cons_of_mem _ mw_1_112)) (fun _ h9 => h9) rfl dX2_becomeAs_37 ?_
  refine lv_iconst (v := (0 : Int32)) hx hb dX2_becomeAs_40 (by decide) ?_
  refine lv_bipush (v := (30 : Int32)) hx hb dX2_becomeAs_41 (by decide) ?_
  refine mu_copy hx hb (hml.trans hl.1.symm) hown (hts (.methodLink RX2 43 arraycopyName) (List.mem_cons_of_mem _ mw_2_34)) (hts (.native arraycopyName) (List.mem_cons_of_mem _ mw_2_29)) (hts (.static arraycopyName) (List.mem_cons_of_mem _ mw_2_28)) (hts (.initialized "java/lang/System") (List.mem_cons_of_mem _ mw_1_7)) hEV hP hD hS 7 2 (N := 30) (w2 := wM cI a (stR (stR (st2 (st2 g 4 0 (k 4 0)) 4 1 (k 4 1)) 0 (va_cpy (k 0) ((st2 (st2 g 4 0 (k 4 0)) 4 1 (k 4 1)) 0) 0 0 30)) 1 (va_cpy (k 1) ((stR (st2 (st2 g 4 0 (k 4 0)) 4 1 (k 4 1)) 0 (va_cpy (k 0) ((st2 (st2 g 4 0 (k 4 0)) 4 1 (k 4 1)) 0) 0 0 30)) 1) 0 0 30)) ++ wM cI o k) rfl rfl (by decide) rfl (Nat.le_of_ble_eq_true rfl) (Nat.le_of_ble_eq_true rfl) dX2_becomeAs_43 (fun H locs hP hD hS => ?_)
  refine lv_aload_n hx hb dX2_becomeAs_46 rfl (lv_at hl 1 rfl) ?_
  refine va_get (D := D) (ci := 2) (v := .ref (o 3)) (C := RX2) (T := TX2) (N := 6) hx hb hts (fun w9 h9 => List.mem_cons_of_mem _ (inT_X2 w9 h9)) hown hK hP 5 rfl rfl 4 (by decide) (hts (.fieldLink RX2 18 "LinkPredictor$Members" "accesses" "[I") (List.mem_cons_of_mem _ mw_1_113)) (fun _ h9 => h9) rfl dX2_becomeAs_47 ?_
  refine lv_iconst (v := (0 : Int32)) hx hb dX2_becomeAs_50 (by decide) ?_
  refine lv_aload_n hx hb dX2_becomeAs_51 rfl (lv_at hl 0 rfl) ?_
  refine va_get (D := D) (ci := 2) (v := .ref (a 3)) (C := RX2) (T := TX2) (N := 6) hx hb hts (fun w9 h9 => List.mem_cons_of_mem _ (inT_X2 w9 h9)) hown hK hP 0 rfl rfl 4 (by decide) (hts (.fieldLink RX2 18 "LinkPredictor$Members" "accesses" "[I") (List.mem_cons_of_mem _ mw_1_113)) (fun _ h9 => h9) rfl dX2_becomeAs_52 ?_
  refine lv_iconst (v := (0 : Int32)) hx hb dX2_becomeAs_55 (by decide) ?_
  refine lv_bipush (v := (30 : Int32)) hx hb dX2_becomeAs_56 (by decide) ?_
  refine mu_copy hx hb (hml.trans hl.1.symm) hown (hts (.methodLink RX2 43 arraycopyName) (List.mem_cons_of_mem _ mw_2_34)) (hts (.native arraycopyName) (List.mem_cons_of_mem _ mw_2_29)) (hts (.static arraycopyName) (List.mem_cons_of_mem _ mw_2_28)) (hts (.initialized "java/lang/System") (List.mem_cons_of_mem _ mw_1_7)) hEV hP hD hS 8 3 (N := 30) (w2 := wM cI a (stR (stR (stR (st2 (st2 g 4 0 (k 4 0)) 4 1 (k 4 1)) 0 (va_cpy (k 0) ((st2 (st2 g 4 0 (k 4 0)) 4 1 (k 4 1)) 0) 0 0 30)) 1 (va_cpy (k 1) ((stR (st2 (st2 g 4 0 (k 4 0)) 4 1 (k 4 1)) 0 (va_cpy (k 0) ((st2 (st2 g 4 0 (k 4 0)) 4 1 (k 4 1)) 0) 0 0 30)) 1) 0 0 30)) 2 (va_cpy (k 2) ((stR (stR (st2 (st2 g 4 0 (k 4 0)) 4 1 (k 4 1)) 0 (va_cpy (k 0) ((st2 (st2 g 4 0 (k 4 0)) 4 1 (k 4 1)) 0) 0 0 30)) 1 (va_cpy (k 1) ((stR (st2 (st2 g 4 0 (k 4 0)) 4 1 (k 4 1)) 0 (va_cpy (k 0) ((st2 (st2 g 4 0 (k 4 0)) 4 1 (k 4 1)) 0) 0 0 30)) 1) 0 0 30)) 2) 0 0 30)) ++ wM cI o k) rfl rfl (by decide) rfl (Nat.le_of_ble_eq_true rfl) (Nat.le_of_ble_eq_true rfl) dX2_becomeAs_58 (fun H locs hP hD hS => ?_)
  refine lv_aload_n hx hb dX2_becomeAs_61 rfl (lv_at hl 1 rfl) ?_
  refine va_get (D := D) (ci := 2) (v := .ref (o 4)) (C := RX2) (T := TX2) (N := 6) hx hb hts (fun w9 h9 => List.mem_cons_of_mem _ (inT_X2 w9 h9)) hown hK hP 5 rfl rfl 5 (by decide) (hts (.fieldLink RX2 21 "LinkPredictor$Members" "flags" "[I") (List.mem_cons_of_mem _ mw_1_114)) (fun _ h9 => h9) rfl dX2_becomeAs_62 ?_
  refine lv_iconst (v := (0 : Int32)) hx hb dX2_becomeAs_65 (by decide) ?_
  refine lv_aload_n hx hb dX2_becomeAs_66 rfl (lv_at hl 0 rfl) ?_
  refine va_get (D := D) (ci := 2) (v := .ref (a 4)) (C := RX2) (T := TX2) (N := 6) hx hb hts (fun w9 h9 => List.mem_cons_of_mem _ (inT_X2 w9 h9)) hown hK hP 0 rfl rfl 5 (by decide) (hts (.fieldLink RX2 21 "LinkPredictor$Members" "flags" "[I") (List.mem_cons_of_mem _ mw_1_114)) (fun _ h9 => h9) rfl dX2_becomeAs_67 ?_
  refine lv_iconst (v := (0 : Int32)) hx hb dX2_becomeAs_70 (by decide) ?_
  refine lv_bipush (v := (30 : Int32)) hx hb dX2_becomeAs_71 (by decide) ?_
  refine mu_copy hx hb (hml.trans hl.1.symm) hown (hts (.methodLink RX2 43 arraycopyName) (List.mem_cons_of_mem _ mw_2_34)) (hts (.native arraycopyName) (List.mem_cons_of_mem _ mw_2_29)) (hts (.static arraycopyName) (List.mem_cons_of_mem _ mw_2_28)) (hts (.initialized "java/lang/System") (List.mem_cons_of_mem _ mw_1_7)) hEV hP hD hS 9 4 (N := 30) (w2 := wM cI a (stR (stR (stR (stR (st2 (st2 g 4 0 (k 4 0)) 4 1 (k 4 1)) 0 (va_cpy (k 0) ((st2 (st2 g 4 0 (k 4 0)) 4 1 (k 4 1)) 0) 0 0 30)) 1 (va_cpy (k 1) ((stR (st2 (st2 g 4 0 (k 4 0)) 4 1 (k 4 1)) 0 (va_cpy (k 0) ((st2 (st2 g 4 0 (k 4 0)) 4 1 (k 4 1)) 0) 0 0 30)) 1) 0 0 30)) 2 (va_cpy (k 2) ((stR (stR (st2 (st2 g 4 0 (k 4 0)) 4 1 (k 4 1)) 0 (va_cpy (k 0) ((st2 (st2 g 4 0 (k 4 0)) 4 1 (k 4 1)) 0) 0 0 30)) 1 (va_cpy (k 1) ((stR (st2 (st2 g 4 0 (k 4 0)) 4 1 (k 4 1)) 0 (va_cpy (k 0) ((st2 (st2 g 4 0 (k 4 0)) 4 1 (k 4 1)) 0) 0 0 30)) 1) 0 0 30)) 2) 0 0 30)) 3 (va_cpy (k 3) ((stR (stR (stR (st2 (st2 g 4 0 (k 4 0)) 4 1 (k 4 1)) 0 (va_cpy (k 0) ((st2 (st2 g 4 0 (k 4 0)) 4 1 (k 4 1)) 0) 0 0 30)) 1 (va_cpy (k 1) ((stR (st2 (st2 g 4 0 (k 4 0)) 4 1 (k 4 1)) 0 (va_cpy (k 0) ((st2 (st2 g 4 0 (k 4 0)) 4 1 (k 4 1)) 0) 0 0 30)) 1) 0 0 30)) 2 (va_cpy (k 2) ((stR (stR (st2 (st2 g 4 0 (k 4 0)) 4 1 (k 4 1)) 0 (va_cpy (k 0) ((st2 (st2 g 4 0 (k 4 0)) 4 1 (k 4 1)) 0) 0 0 30)) 1 (va_cpy (k 1) ((stR (st2 (st2 g 4 0 (k 4 0)) 4 1 (k 4 1)) 0 (va_cpy (k 0) ((st2 (st2 g 4 0 (k 4 0)) 4 1 (k 4 1)) 0) 0 0 30)) 1) 0 0 30)) 2) 0 0 30)) 3) 0 0 30)) ++ wM cI o k) rfl rfl (by decide) rfl (Nat.le_of_ble_eq_true rfl) (Nat.le_of_ble_eq_true rfl) dX2_becomeAs_73 (fun H locs hP hD hS => ?_)
  exact W.vret hx hb hr (fun t9 ht9 _ => ⟨⟨(), rfl, trivial, by show va_P D vwCl _ t9.heap; rw [ht9, ← hE]; exact hP⟩, hS.F ht9⟩) hS.2.2 dX2_becomeAs_76
section BW3
variable {D : va_G} {A : Nat → Prop} {cI : ClassId} {b : Nat} {aH aM : Nat → Nat} {h g : Nat → Nat → Int32} {se : Int32}
theorem wB_DH (hD : va_D A (wB cI b aH aM h g se)) : va_D A (wH cI aH h) := hD.sub [1, 2, 3, 4, 5, 6, 7, 8, 9] (by decide) rfl
theorem wB_DM (hD : va_D A (wB cI b aH aM h g se)) : va_D A (wM cI aM g) := hD.sub [10, 11, 12, 13, 14] (by decide) rfl
end BW3
noncomputable def p_X0_discardType_8 (τ γ : Nat → Nat → Int32) (n : Nat) (x : Nat) (vs0 : Int32) (σ : (Nat → Nat → Nat → Int32)) : Int32 × (Nat → Nat → Nat → Int32) := if vs0 = (0 : Int32) then (((0 : Int32), σ)) else (((1 : Int32), upS σ 1 (p_X2_discardAllOf n (nI x) (σ 1))))
noncomputable def p_X0_discardType (τ γ : Nat → Nat → Int32) (n : Nat) (x : Nat) (σ : (Nat → Nat → Nat → Int32)) : Int32 × (Nat → Nat → Nat → Int32) := p_X0_discardType_8 τ γ n x ((p_X1_takeAway τ x (σ 0)).1) (upS σ 0 ((p_X1_takeAway τ x (σ 0)).2))
set_option maxHeartbeats 4000000 in
set_option maxRecDepth 100000 in
theorem c_X0_discardType (l : Launch) (D : va_G) (cI cZ cB cR : ClassId) (b : Nat) (aH aM : Nat → Nat) (τ γ : Nat → Nat → Int32) (n : Nat) (σ : Nat → Nat → Nat → Int32) (se : Int32) (x : Nat) (okh : OKH (σ 0) τ) (okm : OKM (σ 1) γ n) (wft : WFT (vwH (htF x (σ 0)))) (hnx : x < 12) : MUi l yX0_discardType wsX0_discardType ({ frames := 39, cells := 0, slots := 0, locals := 1045 } : Room) D cI cZ cB cR (wB cI b aH aM (σ 0) (σ 1) se) [.ref b, .int (nI x)] (fun (_ : Unit) => wB cI b aH aM (((p_X0_discardType τ γ n x σ).2) 0) (((p_X0_discardType τ γ n x σ).2) 1) se) (fun r _ => r = (p_X0_discardType τ γ n x σ).1) := by
  generalize hE : p_X0_discardType τ γ n x σ = tgt
  intro sz
  refine Met.ofW (cc := cX0_discardType) (maxL := 2) (ret := (some .boolean)) (by decide) rfl ?_
  intro p e s m args below meth c s₁ B hml hv
  obtain ⟨hargs, hsz, hP, hEV, hD0⟩ := hv
  have hx := B.exec
  have hb := B.bytes
  have hr := B.returns
  have hts := atoms_spec (ws := wsX0_discardType) B.pre
  have hown : s.vm.findClass RX0 = some m.cls := findClass_of_methodNamed B.named
  have hlocks := B.notSynchronized
  have hK := hEV.1
  have hl := lv_entry ([.ref b, .int (nI x)]) (n := 2) (Nat.le_of_ble_eq_true rfl)
  rw [show entryFrame m args 2 = entryFrame m ([.ref b, .int (nI x)] : List Value).toArray 2 from by rw [hargs], lg_entry_eq]
  generalize (lg_sl ([.ref b, .int (nI x)]) ++ List.replicate (2 - (lg_sl ([.ref b, .int (nI x)])).length) Slot.unset).toArray = ls at hl ⊢
  have hl : lv_has ls 2 [(0, .ref b), (1, .int (nI x))] := hl
  subst hsz
  have hD := hD0.self (sz := s.heap.size)
  generalize hAe : va_A (wB cI b aH aM (σ 0) (σ 1) se) s.heap.size = A at hD ⊢
  have hA : ∀ q : Nat, s.heap.size ≤ q → A q := fun q h9 => by rw [← hAe]; exact Or.inr h9
  have hS : va_S A s.heap s.heap [] := va_S.rf
  rw [p_X0_discardType] at hE
  have hn30 := okm.2.1
  have key_8 : ∀ (vs0 : Int32) (σ : (Nat → Nat → Nat → Int32)) (ls : Array Slot) (H : Heap) (locs : List Loc) (hP : va_P D vwCl (wB cI b aH aM (σ 0) (σ 1) se) H) (hD : va_D A (wB cI b aH aM (σ 0) (σ 1) se)) (hS : va_S A s.heap H locs), OKM (σ 1) γ n → lv_has ls 2 [(0, .ref b), (1, .int (nI x))] → p_X0_discardType_8 τ γ n x vs0 σ = tgt → W p l e (headSpec wsX0_discardType ({ frames := 39, cells := 0, slots := 0, locals := 1045 } : Room)).room s m args below meth c H locs 0 0 (MQ below (va_Qi (fun r (_ : Unit) => r = tgt.1) (fun _ t => va_P D vwCl (wB cI b aH aM (tgt.2 0) (tgt.2 1) se) t.heap) A) args s 0 0 A) (F0 m 8 ls [.int vs0]) := by
    intro vs0 σ ls H locs hP hD hS hi_8_0 hl hE
    rw [p_X0_discardType_8] at hE
    have okm := hi_8_0
    refine lv_if_ne (tgt := 13) hx hb dX0_discardType_8 (by decide) (fun c_8 => ?_) (fun c_8 => ?_)
    · skip
      have hE := (if_neg c_8).symm.trans hE
      refine lv_aload_n hx hb dX0_discardType_13 rfl (lv_at hl 0 rfl) ?_
      refine va_get (D := D) (ci := 0) (v := .ref (aM 0)) (C := RX0) (T := TX0) (N := 3) hx hb hts (fun w9 h9 => List.mem_cons_of_mem _ (inT_X0 w9 h9)) hown hK hP 0 rfl rfl 1 (by decide) (hts (.fieldLink RX0 21 "LinkPredictor$Build" "members" "LLinkPredictor$Members;") (List.mem_cons_of_mem _ mw_1_130)) (fun _ h9 => h9) rfl dX0_discardType_14 ?_
      refine lv_iload_n hx hb dX0_discardType_17 rfl (lv_at hl 1 rfl) ?_
      refine mu_Vv [.int (nI x)] [] ⟨hx, hb, hml, hown, hts⟩ (c_X2_discardAllOf l D cI cZ cB cR aM (σ 1) n (nI x) okm.1 okm.2.1) (cwV (C := RX2) 1 hts (goodP (ps := [.methodLink RX0 29 yX2_discardAllOf, .instanceMethod yX2_discardAllOf, .selects RX2 yX2_discardAllOf yX2_discardAllOf, .initialized RX2]) (all4 mw_1_208 mw_1_209 mw_1_210 mw_1_4) mw_1_211) rfl rfl rfl (by decide +kernel) ⟨Nat.le_of_ble_eq_true rfl, Nat.le_of_ble_eq_true rfl⟩) hEV (wB_M hP) (wB_DM hD) hS hA 0 rfl rfl rfl hl.1 rfl (Nat.le_of_ble_eq_true rfl) dX0_discardType_18 ⟨Nat.zero_le _, Nat.zero_le _⟩ (fun u9 H1 locs hw hP1 hk1 hS => ?_)
      have hP : va_P D vwCl (wB cI b aH aM ((upS σ 1 (p_X2_discardAllOf n (nI x) (σ 1))) 0) ((upS σ 1 (p_X2_discardAllOf n (nI x) (σ 1))) 1) se) H1 := va_swap (w1 := (b, .inr (0, [.ref (aH 0), .ref (aM 0), .int se])) :: wH cI aH (σ 0)) (w2 := wM cI aM (σ 1)) (w3 := []) (w2' := _) hP hD hP1 hk1
      have hD : va_D A (wB cI b aH aM ((upS σ 1 (p_X2_discardAllOf n (nI x) (σ 1))) 0) ((upS σ 1 (p_X2_discardAllOf n (nI x) (σ 1))) 1) se) := hD.adr rfl
      generalize H1 = H at hP hS ⊢
      refine lv_iconst (v := (1 : Int32)) hx hb dX0_discardType_21 (by decide) ?_
      exact W.zret hx hb hr rfl (fun t9 ht9 _ => ⟨⟨_, (), rfl, congrArg Prod.fst hE, by show va_P D vwCl _ t9.heap; rw [ht9, ← congrArg Prod.snd hE]; exact hP⟩, hS.F ht9⟩) hS.2.2 dX0_discardType_22
    · skip
      have hE := (if_pos c_8).symm.trans hE
      refine lv_iconst (v := (0 : Int32)) hx hb dX0_discardType_11 (by decide) ?_
      exact W.zret hx hb hr rfl (fun t9 ht9 _ => ⟨⟨_, (), rfl, congrArg Prod.fst hE, by show va_P D vwCl _ t9.heap; rw [ht9, ← congrArg Prod.snd hE]; exact hP⟩, hS.F ht9⟩) hS.2.2 dX0_discardType_12
  refine lv_aload_n hx hb dX0_discardType_0 rfl (lv_at hl 0 rfl) ?_
  refine va_get (D := D) (ci := 0) (v := .ref (aH 0)) (C := RX0) (T := TX0) (N := 3) hx hb hts (fun w9 h9 => List.mem_cons_of_mem _ (inT_X0 w9 h9)) hown hK hP 0 rfl rfl 0 (by decide) (hts (.fieldLink RX0 12 "LinkPredictor$Build" "types" "LLinkPredictor$Hierarchy;") (List.mem_cons_of_mem _ mw_1_128)) (fun _ h9 => h9) rfl dX0_discardType_1 ?_
  refine lv_iload_n hx hb dX0_discardType_4 rfl (lv_at hl 1 rfl) ?_
  refine mu_V [.int (nI x)] [] ⟨hx, hb, hml, hown, hts⟩ (c_X1_takeAway l D cI cZ cB cR aH (σ 0) τ x okh.b wft (by omega)) (cwV (C := RX1) 1 hts (goodP (ps := [.methodLink RX0 25 yX1_takeAway, .instanceMethod yX1_takeAway, .selects RX1 yX1_takeAway yX1_takeAway, .initialized RX1]) (all4 mw_1_204 mw_1_205 mw_1_206 mw_1_3) mw_1_207) rfl rfl rfl (by decide +kernel) ⟨Nat.le_of_ble_eq_true rfl, Nat.le_of_ble_eq_true rfl⟩) hEV (wB_H hP) (wB_DH hD) hS hA 0 rfl rfl rfl hl.1 rfl (Nat.le_of_ble_eq_true rfl) dX0_discardType_5 ⟨Nat.zero_le _, Nat.zero_le _⟩ (fun r9 u9 H1 locs hw hP1 hk1 hS => ?_)
  subst hw
  have hP : va_P D vwCl (wB cI b aH aM ((upS σ 0 ((p_X1_takeAway τ x (σ 0)).2)) 0) ((upS σ 0 ((p_X1_takeAway τ x (σ 0)).2)) 1) se) H1 := va_swap (w1 := [(b, .inr (0, [.ref (aH 0), .ref (aM 0), .int se]))]) (w2 := wH cI aH (σ 0)) (w3 := wM cI aM (σ 1)) hP hD hP1 hk1
  have hD : va_D A (wB cI b aH aM ((upS σ 0 ((p_X1_takeAway τ x (σ 0)).2)) 0) ((upS σ 0 ((p_X1_takeAway τ x (σ 0)).2)) 1) se) := hD.adr rfl
  generalize H1 = H at hP hS ⊢
  exact key_8 ((p_X1_takeAway τ x (σ 0)).1) (upS σ 0 ((p_X1_takeAway τ x (σ 0)).2)) ls _ _ hP hD hS (by exact okm) (lv_sub hl [0, 1] rfl) hE
noncomputable def p_X0_addMember (τ γ : Nat → Nat → Int32) (n : Nat) (x : Nat) (y : Bool) (z u v : Int32) (σ : (Nat → Nat → Nat → Int32)) : Int32 × (Nat → Nat → Nat → Int32) := if (thB τ x) = true then (if (fdI γ n x (kyF y z)) = (-2 : Int32) then (((p_X2_append γ n (nI x) y z u v (σ 1)).1, upS σ 1 ((p_X2_append γ n (nI x) y z u v (σ 1)).2))) else (((-1 : Int32), σ))) else (((-1 : Int32), σ))
set_option maxHeartbeats 4000000 in
set_option maxRecDepth 100000 in
theorem c_X0_addMember (l : Launch) (D : va_G) (cI cZ cB cR : ClassId) (b : Nat) (aH aM : Nat → Nat) (τ γ : Nat → Nat → Int32) (n : Nat) (σ : Nat → Nat → Nat → Int32) (se : Int32) (x : Nat) (y : Bool) (z u v : Int32) (okh : OKH (σ 0) τ) (okm : OKM (σ 1) γ n) (hnx : x < 12) : MUi l yX0_addMember wsX0_addMember ({ frames := 2, cells := 0, slots := 0, locals := 47 } : Room) D cI cZ cB cR (wB cI b aH aM (σ 0) (σ 1) se) [.ref b, .int (nI x), .int (b2i y), .int z, .int u, .int v] (fun (_ : Unit) => wB cI b aH aM (((p_X0_addMember τ γ n x y z u v σ).2) 0) (((p_X0_addMember τ γ n x y z u v σ).2) 1) se) (fun r _ => r = (p_X0_addMember τ γ n x y z u v σ).1) := by
  generalize hE : p_X0_addMember τ γ n x y z u v σ = tgt
  intro sz
  refine Met.ofW (cc := cX0_addMember) (maxL := 6) (ret := (some .int)) (by decide) rfl ?_
  intro p e s m args below meth c s₁ B hml hv
  obtain ⟨hargs, hsz, hP, hEV, hD0⟩ := hv
  have hx := B.exec
  have hb := B.bytes
  have hr := B.returns
  have hts := atoms_spec (ws := wsX0_addMember) B.pre
  have hown : s.vm.findClass RX0 = some m.cls := findClass_of_methodNamed B.named
  have hlocks := B.notSynchronized
  have hK := hEV.1
  have hl := lv_entry ([.ref b, .int (nI x), .int (b2i y), .int z, .int u, .int v]) (n := 6) (Nat.le_of_ble_eq_true rfl)
  rw [show entryFrame m args 6 = entryFrame m ([.ref b, .int (nI x), .int (b2i y), .int z, .int u, .int v] : List Value).toArray 6 from by rw [hargs], lg_entry_eq]
  generalize (lg_sl ([.ref b, .int (nI x), .int (b2i y), .int z, .int u, .int v]) ++ List.replicate (6 - (lg_sl ([.ref b, .int (nI x), .int (b2i y), .int z, .int u, .int v])).length) Slot.unset).toArray = ls at hl ⊢
  have hl : lv_has ls 6 [(0, .ref b), (1, .int (nI x)), (2, .int (b2i y)), (3, .int z), (4, .int u), (5, .int v)] := hl
  subst hsz
  have hD := hD0.self (sz := s.heap.size)
  generalize hAe : va_A (wB cI b aH aM (σ 0) (σ 1) se) s.heap.size = A at hD ⊢
  have hA : ∀ q : Nat, s.heap.size ≤ q → A q := fun q h9 => by rw [← hAe]; exact Or.inr h9
  have hS : va_S A s.heap s.heap [] := va_S.rf
  rw [p_X0_addMember] at hE
  have hn30 := okm.2.1
  refine lv_aload_n hx hb dX0_addMember_0 rfl (lv_at hl 0 rfl) ?_
  refine va_get (D := D) (ci := 0) (v := .ref (aH 0)) (C := RX0) (T := TX0) (N := 3) hx hb hts (fun w9 h9 => List.mem_cons_of_mem _ (inT_X0 w9 h9)) hown hK hP 0 rfl rfl 0 (by decide) (hts (.fieldLink RX0 12 "LinkPredictor$Build" "types" "LLinkPredictor$Hierarchy;") (List.mem_cons_of_mem _ mw_1_128)) (fun _ h9 => h9) rfl dX0_addMember_1 ?_
  refine lv_iload_n hx hb dX0_addMember_4 rfl (lv_at hl 1 rfl) ?_
  refine ro_V [.int (nI x)] [] ⟨hx, hb, hml, hown, hts⟩ (c_X1_isThere l D cI cZ cB cR aH (σ 0) τ x okh.b (by omega)) (cwV (C := RX1) 1 hts (goodP (ps := [.methodLink RX0 33 yX1_isThere, .instanceMethod yX1_isThere, .selects RX1 yX1_isThere yX1_isThere, .initialized RX1]) (all4 mw_1_221 mw_1_43 mw_1_44 mw_1_3) mw_1_45) rfl rfl rfl (by decide +kernel) ⟨Nat.le_of_ble_eq_true rfl, Nat.le_of_ble_eq_true rfl⟩) hEV (wB_H hP) 0 rfl rfl rfl hl.1 rfl (Nat.le_of_ble_eq_true rfl) dX0_addMember_5 ⟨Nat.zero_le _, Nat.zero_le _⟩ ?_
  refine lv_if_eq (tgt := 26) hx hb dX0_addMember_8 (by decide) (fun c_8 => ?_) (fun c_8 => ?_)
  · have c_8 : ¬ ((thB τ x) = true) := b2i_f c_8
    have hE := (if_neg c_8).symm.trans hE
    refine lv_iconst (v := (-1 : Int32)) hx hb dX0_addMember_26 (by decide) ?_
    exact W.iret hx hb hr (fun t9 ht9 _ => ⟨⟨_, (), rfl, congrArg Prod.fst hE, by show va_P D vwCl _ t9.heap; rw [ht9, ← congrArg Prod.snd hE]; exact hP⟩, hS.F ht9⟩) hS.2.2 dX0_addMember_27
  · have c_8 : (thB τ x) = true := b2i_t c_8
    have hE := (if_pos c_8).symm.trans hE
    refine lv_aload_n hx hb dX0_addMember_11 rfl (lv_at hl 0 rfl) ?_
    refine va_get (D := D) (ci := 0) (v := .ref (aM 0)) (C := RX0) (T := TX0) (N := 3) hx hb hts (fun w9 h9 => List.mem_cons_of_mem _ (inT_X0 w9 h9)) hown hK hP 0 rfl rfl 1 (by decide) (hts (.fieldLink RX0 21 "LinkPredictor$Build" "members" "LLinkPredictor$Members;") (List.mem_cons_of_mem _ mw_1_130)) (fun _ h9 => h9) rfl dX0_addMember_12 ?_
    refine lv_iload_n hx hb dX0_addMember_15 rfl (lv_at hl 1 rfl) ?_
    refine lv_iload_n hx hb dX0_addMember_16 rfl (lv_at hl 2 rfl) ?_
    refine lv_iload_n hx hb dX0_addMember_17 rfl (lv_at hl 3 rfl) ?_
    refine ro_V [.int (nI x), .int (b2i y), .int z] [] ⟨hx, hb, hml, hown, hts⟩ (c_X2_find l D cI cZ cB cR aM (σ 1) γ n x y z okm (by omega)) (cwV (C := RX2) 3 hts (goodP (ps := [.methodLink RX0 36 yX2_find, .instanceMethod yX2_find, .selects RX2 yX2_find yX2_find, .initialized RX2]) (all4 mw_1_222 mw_1_223 mw_1_224 mw_1_4) mw_1_225) rfl rfl rfl (by decide +kernel) ⟨Nat.le_of_ble_eq_true rfl, Nat.le_of_ble_eq_true rfl⟩) hEV (wB_M hP) 0 rfl rfl rfl hl.1 rfl (Nat.le_of_ble_eq_true rfl) dX0_addMember_18 ⟨Nat.zero_le _, Nat.zero_le _⟩ ?_
    refine lv_bipush (v := (-2 : Int32)) hx hb dX0_addMember_21 (by decide) ?_
    refine lv_icmp_eq (tgt := 28) hx hb dX0_addMember_23 (by decide) (fun c_23 => ?_) (fun c_23 => ?_)
    · skip
      have hE := (if_pos c_23).symm.trans hE
      refine lv_aload_n hx hb dX0_addMember_28 rfl (lv_at hl 0 rfl) ?_
      refine va_get (D := D) (ci := 0) (v := .ref (aM 0)) (C := RX0) (T := TX0) (N := 3) hx hb hts (fun w9 h9 => List.mem_cons_of_mem _ (inT_X0 w9 h9)) hown hK hP 0 rfl rfl 1 (by decide) (hts (.fieldLink RX0 21 "LinkPredictor$Build" "members" "LLinkPredictor$Members;") (List.mem_cons_of_mem _ mw_1_130)) (fun _ h9 => h9) rfl dX0_addMember_29 ?_
      refine lv_iload_n hx hb dX0_addMember_32 rfl (lv_at hl 1 rfl) ?_
      refine lv_iload_n hx hb dX0_addMember_33 rfl (lv_at hl 2 rfl) ?_
      refine lv_iload_n hx hb dX0_addMember_34 rfl (lv_at hl 3 rfl) ?_
      refine lv_iload hx hb dX0_addMember_35 (lv_at hl 4 rfl) ?_
      refine lv_iload hx hb dX0_addMember_37 (lv_at hl 5 rfl) ?_
      refine mu_V [.int (nI x), .int (b2i y), .int z, .int u, .int v] [] ⟨hx, hb, hml, hown, hts⟩ (c_X2_append l D cI cZ cB cR aM (σ 1) γ n (nI x) y z u v okm) (cwV (C := RX2) 5 hts (goodP (ps := [.methodLink RX0 40 yX2_append, .instanceMethod yX2_append, .selects RX2 yX2_append yX2_append, .initialized RX2]) (all4 mw_1_230 mw_1_231 mw_1_232 mw_1_4) mw_1_233) rfl rfl rfl (by decide +kernel) ⟨Nat.le_of_ble_eq_true rfl, Nat.le_of_ble_eq_true rfl⟩) hEV (wB_M hP) (wB_DM hD) hS hA 0 rfl rfl rfl hl.1 rfl (Nat.le_of_ble_eq_true rfl) dX0_addMember_39 ⟨Nat.zero_le _, Nat.zero_le _⟩ (fun r9 u9 H1 locs hw hP1 hk1 hS => ?_)
      subst hw
      have hP : va_P D vwCl (wB cI b aH aM ((upS σ 1 ((p_X2_append γ n (nI x) y z u v (σ 1)).2)) 0) ((upS σ 1 ((p_X2_append γ n (nI x) y z u v (σ 1)).2)) 1) se) H1 := va_swap (w1 := (b, .inr (0, [.ref (aH 0), .ref (aM 0), .int se])) :: wH cI aH (σ 0)) (w2 := wM cI aM (σ 1)) (w3 := []) (w2' := _) hP hD hP1 hk1
      have hD : va_D A (wB cI b aH aM ((upS σ 1 ((p_X2_append γ n (nI x) y z u v (σ 1)).2)) 0) ((upS σ 1 ((p_X2_append γ n (nI x) y z u v (σ 1)).2)) 1) se) := hD.adr rfl
      generalize H1 = H at hP hS ⊢
      exact W.iret hx hb hr (fun t9 ht9 _ => ⟨⟨_, (), rfl, congrArg Prod.fst hE, by show va_P D vwCl _ t9.heap; rw [ht9, ← congrArg Prod.snd hE]; exact hP⟩, hS.F ht9⟩) hS.2.2 dX0_addMember_42
    · skip
      have hE := (if_neg c_23).symm.trans hE
      refine lv_iconst (v := (-1 : Int32)) hx hb dX0_addMember_26 (by decide) ?_
      exact W.iret hx hb hr (fun t9 ht9 _ => ⟨⟨_, (), rfl, congrArg Prod.fst hE, by show va_P D vwCl _ t9.heap; rw [ht9, ← congrArg Prod.snd hE]; exact hP⟩, hS.F ht9⟩) hS.2.2 dX0_addMember_27
