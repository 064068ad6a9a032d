/-! ===== the ground: booleans, environment, read-only contracts, call rows ===== -/
def b2i (b : Bool) : Int32 := if b then 1 else 0
theorem b2i_f {b : Bool} (h : b2i b = 0) : ¬ (b = true) := fun e => by rw [e] at h; exact absurd h (by decide)
theorem b2i_t {b : Bool} (h : ¬ b2i b = 0) : b = true := by cases b with | true => rfl | false => exact absurd rfl h
theorem b2i_nar (b : Bool) : narrow .boolean (.int (b2i b)) = .int (b2i b) := by cases b <;> rfl
theorem b2i_dec {c : Prop} {i : Decidable c} : b2i (decide c) = if c then 1 else 0 := by by_cases h : c <;> simp [b2i, h]
def nwl : List Cond := [.fieldLinkNest RX4 38 "LinkPredictor$Build" "types" "LLinkPredictor$Hierarchy;" "LinkPredictor", .fieldLinkNest RX4 58 "LinkPredictor$Build" "members" "LLinkPredictor$Members;" "LinkPredictor", .fieldLinkNest RX0 71 "LinkPredictor$Reference" "kind" "I" "LinkPredictor", .fieldLinkNest RX0 51 "LinkPredictor$Reference" "holder" "I" "LinkPredictor", .fieldLinkNest RX0 64 "LinkPredictor$Reference" "way" "I" "LinkPredictor", .fieldLinkNest RX0 99 "LinkPredictor$Reference" "sign" "I" "LinkPredictor", .methodLinkNest RX4 11 yX0_init "LinkPredictor", .methodLinkNest RX1 36 yX4_bit "LinkPredictor", .methodLinkNest RX1 57 yX4_contains "LinkPredictor", .methodLinkNest RX1 61 yX4_isGood "LinkPredictor", .methodLinkNest RX0 20 yX2_init "LinkPredictor", .methodLinkNest RX4 22 yX3_init "LinkPredictor", .methodLinkNest RX2 39 yX4_bit "LinkPredictor", .methodLinkNest RX2 49 yX4_contains "LinkPredictor", .methodLinkNest RX2 64 yX4_isWithin "LinkPredictor", .methodLinkNest RX0 61 yX4_isGood "LinkPredictor", .methodLinkNest RX0 115 yX4_contains "LinkPredictor", .methodLinkNest RX0 118 yX4_bit "LinkPredictor"]
def NW (U : State) : Prop := ∀ w ∈ nwl, va_Nw w U
theorem NW.warm {s U : State} (hW : s.WarmedH U.vm) (h : NW s) : NW U := List.forall_mem_cons.mpr ⟨va_Nw.warmF hW (h _ (List.mem_of_getElem? (i := 0) rfl)), List.forall_mem_cons.mpr ⟨va_Nw.warmF hW (h _ (List.mem_of_getElem? (i := 1) rfl)), List.forall_mem_cons.mpr ⟨va_Nw.warmF hW (h _ (List.mem_of_getElem? (i := 2) rfl)), List.forall_mem_cons.mpr ⟨va_Nw.warmF hW (h _ (List.mem_of_getElem? (i := 3) rfl)), List.forall_mem_cons.mpr ⟨va_Nw.warmF hW (h _ (List.mem_of_getElem? (i := 4) rfl)), List.forall_mem_cons.mpr ⟨va_Nw.warmF hW (h _ (List.mem_of_getElem? (i := 5) rfl)), List.forall_mem_cons.mpr ⟨va_Nw.warmM hW (h _ (List.mem_of_getElem? (i := 6) rfl)), List.forall_mem_cons.mpr ⟨va_Nw.warmM hW (h _ (List.mem_of_getElem? (i := 7) rfl)), List.forall_mem_cons.mpr ⟨va_Nw.warmM hW (h _ (List.mem_of_getElem? (i := 8) rfl)), List.forall_mem_cons.mpr ⟨va_Nw.warmM hW (h _ (List.mem_of_getElem? (i := 9) rfl)), List.forall_mem_cons.mpr ⟨va_Nw.warmM hW (h _ (List.mem_of_getElem? (i := 10) rfl)), List.forall_mem_cons.mpr ⟨va_Nw.warmM hW (h _ (List.mem_of_getElem? (i := 11) rfl)), List.forall_mem_cons.mpr ⟨va_Nw.warmM hW (h _ (List.mem_of_getElem? (i := 12) rfl)), List.forall_mem_cons.mpr ⟨va_Nw.warmM hW (h _ (List.mem_of_getElem? (i := 13) rfl)), List.forall_mem_cons.mpr ⟨va_Nw.warmM hW (h _ (List.mem_of_getElem? (i := 14) rfl)), List.forall_mem_cons.mpr ⟨va_Nw.warmM hW (h _ (List.mem_of_getElem? (i := 15) rfl)), List.forall_mem_cons.mpr ⟨va_Nw.warmM hW (h _ (List.mem_of_getElem? (i := 16) rfl)), List.forall_mem_cons.mpr ⟨va_Nw.warmM hW (h _ (List.mem_of_getElem? (i := 17) rfl)), fun _ h => absurd h List.not_mem_nil⟩⟩⟩⟩⟩⟩⟩⟩⟩⟩⟩⟩⟩⟩⟩⟩⟩⟩
theorem NW.same {s U : State} (hv : s.vm = U.vm) (h : NW s) : NW U := List.forall_mem_cons.mpr ⟨va_Nw.same rfl hv (h _ (List.mem_of_getElem? (i := 0) rfl)), List.forall_mem_cons.mpr ⟨va_Nw.same rfl hv (h _ (List.mem_of_getElem? (i := 1) rfl)), List.forall_mem_cons.mpr ⟨va_Nw.same rfl hv (h _ (List.mem_of_getElem? (i := 2) rfl)), List.forall_mem_cons.mpr ⟨va_Nw.same rfl hv (h _ (List.mem_of_getElem? (i := 3) rfl)), List.forall_mem_cons.mpr ⟨va_Nw.same rfl hv (h _ (List.mem_of_getElem? (i := 4) rfl)), List.forall_mem_cons.mpr ⟨va_Nw.same rfl hv (h _ (List.mem_of_getElem? (i := 5) rfl)), List.forall_mem_cons.mpr ⟨va_Nw.same rfl hv (h _ (List.mem_of_getElem? (i := 6) rfl)), List.forall_mem_cons.mpr ⟨va_Nw.same rfl hv (h _ (List.mem_of_getElem? (i := 7) rfl)), List.forall_mem_cons.mpr ⟨va_Nw.same rfl hv (h _ (List.mem_of_getElem? (i := 8) rfl)), List.forall_mem_cons.mpr ⟨va_Nw.same rfl hv (h _ (List.mem_of_getElem? (i := 9) rfl)), List.forall_mem_cons.mpr ⟨va_Nw.same rfl hv (h _ (List.mem_of_getElem? (i := 10) rfl)), List.forall_mem_cons.mpr ⟨va_Nw.same rfl hv (h _ (List.mem_of_getElem? (i := 11) rfl)), List.forall_mem_cons.mpr ⟨va_Nw.same rfl hv (h _ (List.mem_of_getElem? (i := 12) rfl)), List.forall_mem_cons.mpr ⟨va_Nw.same rfl hv (h _ (List.mem_of_getElem? (i := 13) rfl)), List.forall_mem_cons.mpr ⟨va_Nw.same rfl hv (h _ (List.mem_of_getElem? (i := 14) rfl)), List.forall_mem_cons.mpr ⟨va_Nw.same rfl hv (h _ (List.mem_of_getElem? (i := 15) rfl)), List.forall_mem_cons.mpr ⟨va_Nw.same rfl hv (h _ (List.mem_of_getElem? (i := 16) rfl)), List.forall_mem_cons.mpr ⟨va_Nw.same rfl hv (h _ (List.mem_of_getElem? (i := 17) rfl)), fun _ h => absurd h List.not_mem_nil⟩⟩⟩⟩⟩⟩⟩⟩⟩⟩⟩⟩⟩⟩⟩⟩⟩⟩
/-- the environment: what the tables say of the classes and arrays, and of the nest mates -/
def tysA (cI cZ cB cR : ClassId) : List (ClassId × FieldType) := [(cI, .int), (cZ, .boolean), (cB, .object RX0), (cR, .object RX3)]
def EV (D : va_G) (cI cZ cB cR : ClassId) (U : State) : Prop := va_K D vwCl (tysA cI cZ cB cR) U ∧ NW U
theorem EV.warm {D : va_G} {cI cZ cB cR : ClassId} {s U : State} (hW : s.WarmedH U.vm) (h : EV D cI cZ cB cR s) : EV D cI cZ cB cR U := ⟨va_K.moved hW.alike h.1, h.2.warm hW⟩
theorem EV.calling {D : va_G} {cI cZ cB cR : ClassId} {U : State} {g : JFrame} {mk : MethodId} {a : Array Value} (h : EV D cI cZ cB cR U) : EV D cI cZ cB cR (U.calling g mk a) := ⟨va_K.moved (u := U) (U := U.calling g mk a) (Vm.Alike.refl U.vm) h.1, NW.same (s := U) (U := U.calling g mk a) rfl h.2⟩
/-- the start of a contract that only reads the cells w -/
def PcR (D : va_G) (cI cZ cB cR : ClassId) (w : va_W) (av : List Value) : Array Value → State → Prop := va_Pc av (fun U => va_P D vwCl w U.heap ∧ EV D cI cZ cB cR U)
theorem PcR_blind {D : va_G} {cI cZ cB cR : ClassId} {w : va_W} {av : List Value} : FrameBlind (PcR D cI cZ cB cR w av) := fun _ _ _ _ q => ⟨q.1, q.2.1, q.2.2.calling⟩
/-- a read-only method: nothing changes, the answer is v -/
abbrev RO (l : Launch) (y : MethodName) (ws : List Cond) (rm : Room) (D : va_G) (cI cZ cB cR : ClassId) (w : va_W) (av : List Value) (v : Int32) : Prop := Met l y ws rm (PcR D cI cZ cB cR w av) (vp_Si (fun r => r = v)) 0 0 (fun _ => False)
section ROC
variable {p : Program} {l : Launch} {e : Env} {R : Room} {s : State} {m : MethodId} {args : Array Value} {below : List Frame} {meth : Method} {c : Code} {H : Heap} {locs : List Loc} {cells slots : Nat} {Q : State → Prop}
  {Ts ws : List Cond} {cc bytes : ByteArray} {nL maxL index n : Nat} {own C host : String} {y : MethodName} {ret : Option FieldType} {rm : Room}
  {b : Addr} {pc : Nat} {ls : Array Slot} {st : List Value} {D : va_G} {cI cZ cB cR : ClassId} {w : va_W} {v : Int32} {T : u_T} {N ci : Nat} {fs : List Value}
theorem ro_V (As rest : List Value) (S : CallFix p m c cc nL s args Ts own) (hM : RO l y ws rm D cI cZ cB cR w (.ref b :: As) v) (cw : CallW R s args own C index y bytes maxL ret ws rm 0 0 n) (hEV : EV D cI cZ cB cR s) (hP : va_P D vwCl w H) (q0 : Nat) (he : w[q0]? = some (b, .inr (ci, fs))) (hc : vwCl[ci]? = some (C, T, N))
    (hn : As.length = n) (hls : ls.size = nL) (hst : st = As.reverse ++ .ref b :: rest) (hroom : (rest.map fun v => v.category).sum ≤ 8) (hdg : decode cc pc = .ok (.invokevirtual index, 3)) (hcap : cells ≤ R.cells ∧ slots ≤ R.slots)
    (kk : W p l e R s m args below meth c H locs cells slots Q (F0 m (pc + 3) ls (.int v :: rest))) : W p l e R s m args below meth c H locs cells slots Q (F0 m pc ls st) := by
  refine vp_callSi (va_Run.run (va_runV (As := As) (rest := rest) S hM cw ⟨PcR_blind, va_recv hEV.1 hP (ci := ci) (q0 := q0) hc he, fun U hU hW => ⟨rfl, by rw [hU]; exact hP, hEV.warm hW⟩⟩ rfl hn hls hst (lv_room hroom) hdg hcap)) (fun r hr => ?_)
  rw [hr]
  exact kk
theorem ro_S (As rest : List Value) (S : CallFix p m c cc nL s args Ts own) (hM : RO l y ws rm D cI cZ cB cR w As v) (cw : CallB R s args own index y bytes maxL ret ws rm 0 0 n ∧ (Cond.static y).before args s = true) (hEV : EV D cI cZ cB cR s) (hP : va_P D vwCl w H)
    (hn : As.length = n) (hls : ls.size = nL) (hst : st = As.reverse ++ rest) (hroom : (rest.map fun v => v.category).sum ≤ 8) (hdg : decode cc pc = .ok (.invokestatic index, 3)) (hcap : cells ≤ R.cells ∧ slots ≤ R.slots)
    (kk : W p l e R s m args below meth c H locs cells slots Q (F0 m (pc + 3) ls (.int v :: rest))) : W p l e R s m args below meth c H locs cells slots Q (F0 m pc ls st) := by
  refine vp_callSi (va_Run.run (va_runS (As := As) (rest := rest) S hM cw ⟨PcR_blind, fun U hU hW => ⟨rfl, by rw [hU]; exact hP, hEV.warm hW⟩⟩ rfl hn hls hst (lv_room hroom) hdg hcap)) (fun r hr => ?_)
  rw [hr]
  exact kk
theorem ro_SN (As rest : List Value) (S : CallFix p m c cc nL s args Ts own) (hM : RO l y ws rm D cI cZ cB cR w As v) (cw : va_CN R s args own index y host bytes maxL ret ws rm 0 0 n) (hstat : (Cond.static y).before args s = true) (hEV : EV D cI cZ cB cR s) (hP : va_P D vwCl w H)
    (hn : As.length = n) (hls : ls.size = nL) (hst : st = As.reverse ++ rest) (hroom : (rest.map fun v => v.category).sum ≤ 8) (hdg : decode cc pc = .ok (.invokestatic index, 3)) (hcap : cells ≤ R.cells ∧ slots ≤ R.slots)
    (kk : W p l e R s m args below meth c H locs cells slots Q (F0 m (pc + 3) ls (.int v :: rest))) : W p l e R s m args below meth c H locs cells slots Q (F0 m pc ls st) := by
  refine vp_callSi (va_Run.run (va_runSN (As := As) (rest := rest) S hM ⟨cw, hstat, trivial⟩ ⟨PcR_blind, fun U hU hW => ⟨rfl, by rw [hU]; exact hP, hEV.warm hW⟩⟩ rfl hn hls hst (lv_room hroom) hdg hcap)) (fun r hr => ?_)
  rw [hr]
  exact kk
end ROC
theorem va_P0 {D : va_G} {H : Heap} : va_P D vwCl [] H := fun _ _ h => by simp at h
section ALD
variable {p : Program} {l : Launch} {e : Env} {R : Room} {s : State} {m : MethodId} {args : Array Value} {below : List Frame} {meth : Method} {c : Code} {H : Heap} {locs : List Loc} {cells slots : Nat} {Q : State → Prop}
  {cc : ByteArray} {pc : Nat} {ls : Array Slot} {rest : List Value} {D : va_G} {cI cZ cB cR : ClassId} {w : va_W} {a : Nat}
/-- int[] read at a place that is a number -/
theorem ro_ald (hx : p.tables.exec = Jvm.exec) (hb : c.code = cc) (hEV : EV D cI cZ cB cR s) (hP : va_P D vwCl w H) (q0 : Nat) {n j : Nat} {f : Nat → Int32} (ha : w[q0]? = some (a, .inl (cI, n, .inl f))) (hj : j < n) (hn : n < 2 ^ 31) (hdg : decode cc pc = .ok (.iaload, 1))
    (kk : W p l e R s m args below meth c H locs cells slots Q (F0 m (pc + 1) ls (.int (f j) :: rest))) : W p l e R s m args below meth c H locs cells slots Q (F0 m pc ls (.int (nI j) :: .ref a :: rest)) := by
  refine va_iald hx hb hEV.1 hP q0 0 ha rfl (vp_in_nI hj hn) hdg ?_
  rw [nI_clamp (by omega)]
  exact kk
/-- int[] read at any place -/
theorem ro_aldI (hx : p.tables.exec = Jvm.exec) (hb : c.code = cc) (hEV : EV D cI cZ cB cR s) (hP : va_P D vwCl w H) (q0 : Nat) {n : Nat} {i : Int32} {f : Nat → Int32} (ha : w[q0]? = some (a, .inl (cI, n, .inl f))) (hi : vp_in i n) (hdg : decode cc pc = .ok (.iaload, 1))
    (kk : W p l e R s m args below meth c H locs cells slots Q (F0 m (pc + 1) ls (.int (f i.toNatClampNeg) :: rest))) : W p l e R s m args below meth c H locs cells slots Q (F0 m pc ls (.int i :: .ref a :: rest)) :=
  va_iald hx hb hEV.1 hP q0 0 ha rfl hi hdg kk
/-- boolean[] read at a place that is a number -/
theorem ro_zld (hx : p.tables.exec = Jvm.exec) (hb : c.code = cc) (hEV : EV D cI cZ cB cR s) (hP : va_P D vwCl w H) (q0 : Nat) {n j : Nat} {f : Nat → Int32} (ha : w[q0]? = some (a, .inl (cZ, n, .inl f))) (hj : j < n) (hn : n < 2 ^ 31) (hdg : decode cc pc = .ok (.baload, 1))
    (kk : W p l e R s m args below meth c H locs cells slots Q (F0 m (pc + 1) ls (.int (f j) :: rest))) : W p l e R s m args below meth c H locs cells slots Q (F0 m pc ls (.int (nI j) :: .ref a :: rest)) := by
  refine va_zald hx hb hEV.1 hP q0 1 ha rfl (vp_in_nI hj hn) hdg ?_
  rw [nI_clamp (by omega)]
  exact kk
/-- a value on top under another name -/
theorem top_eq {x y : Int32} (h : x = y) (k : W p l e R s m args below meth c H locs cells slots Q (F0 m pc ls (.int y :: rest))) : W p l e R s m args below meth c H locs cells slots Q (F0 m pc ls (.int x :: rest)) := by rw [h]; exact k
end ALD
/-! ===== the worlds ===== -/
/-- Hierarchy at a: h 0 flags, 1 packs, 2 supers, 3 directFaces, 4 hosts, 5 verdicts, 6 aboves, 7 allFaces; h 8 0 there, h 8 1 settled -/
def wH (cI : ClassId) (a : Nat → Nat) (h : Nat → Nat → Int32) : va_W := [(a 0, .inr (1, [.int (h 8 0), .ref (a 1), .ref (a 2), .ref (a 3), .ref (a 4), .ref (a 5), .ref (a 6), .int (h 8 1), .ref (a 7), .ref (a 8)])), (a 1, .inl (cI, 12, .inl (h 0))), (a 2, .inl (cI, 12, .inl (h 1))), (a 3, .inl (cI, 12, .inl (h 2))), (a 4, .inl (cI, 12, .inl (h 3))), (a 5, .inl (cI, 12, .inl (h 4))), (a 6, .inl (cI, 12, .inl (h 5))), (a 7, .inl (cI, 12, .inl (h 6))), (a 8, .inl (cI, 12, .inl (h 7)))]
/-- Members at a: g 0 owners, 1 keys, 2 accesses, 3 flags; g 4 0 size, g 4 1 gone -/
def wM (cI : ClassId) (a : Nat → Nat) (g : Nat → Nat → Int32) : va_W := [(a 0, .inr (2, [.int (g 4 0), .int (g 4 1), .ref (a 1), .ref (a 2), .ref (a 3), .ref (a 4)])), (a 1, .inl (cI, 30, .inl (g 0))), (a 2, .inl (cI, 30, .inl (g 1))), (a 3, .inl (cI, 30, .inl (g 2))), (a 4, .inl (cI, 30, .inl (g 3)))]
/-- Build at b -/
def wB (cI : ClassId) (b : Nat) (aH aM : Nat → Nat) (h g : Nat → Nat → Int32) (se : Int32) : va_W := (b, .inr (0, [.ref (aH 0), .ref (aM 0), .int se])) :: (wH cI aH h ++ wM cI aM g)
/-- Reference at r: f 0 kind, 1 holder, 2 way, 3 sign -/
def wR (r : Nat) (φ : Nat → Nat) : va_W := [(r, .inr (3, [.int (nI (φ 0)), .int (nI (φ 1)), .int (nI (φ 2)), .int (nI (φ 3))]))]
/-- the reference at a: x 0 there, x 1 flags, x 2 pack, x 3 above, x 4 faces, x 5 host, x 6 method, x 7 gone, x 8 many, x 9 owner, x 10 sign, x 11 access, x 12 marks, x 13 kind, x 14 holder, x 15 way, x 16 asked, x 17 row, x 18 stage; x 19 0 references, x 19 1 written -/
def wX (cI cZ : ClassId) (a : Nat → Nat) (x : Nat → Nat → Int32) (r1 r2 : Nat → Int32) : va_W := [(a 0, .inr (5, [.ref (a 1), .ref (a 2), .ref (a 3), .ref (a 4), .ref (a 5), .ref (a 6), .ref (a 7), .ref (a 8), .ref (a 9), .ref (a 10), .ref (a 11), .ref (a 12), .ref (a 13), .ref (a 14), .ref (a 15), .ref (a 16), .ref (a 17), .int (x 19 0), .int (x 19 1), .ref (a 18), .ref (a 19)])), (a 1, .inl (cZ, 24, .inl (x 0))), (a 2, .inl (cI, 24, .inl (x 1))), (a 3, .inl (cI, 24, .inl (x 2))), (a 4, .inl (cI, 24, .inl (x 3))), (a 5, .inl (cI, 24, .inl (x 4))), (a 6, .inl (cI, 24, .inl (x 5))), (a 7, .inl (cZ, 60, .inl (x 6))), (a 8, .inl (cZ, 60, .inl (x 7))), (a 9, .inl (cI, 2, .inl (x 8))), (a 10, .inl (cI, 60, .inl (x 9))), (a 11, .inl (cI, 60, .inl (x 10))), (a 12, .inl (cI, 60, .inl (x 11))), (a 13, .inl (cI, 60, .inl (x 12))), (a 14, .inl (cI, 16, .inl (x 13))), (a 15, .inl (cI, 16, .inl (x 14))), (a 16, .inl (cI, 16, .inl (x 15))), (a 17, .inl (cI, 16, .inl (x 16))), (a 18, .inl (cI, 40, .inl (r1))), (a 19, .inl (cI, 14, .inl (r2)))]
/-- a state with one place changed -/
def st2 (h : Nat → Nat → Int32) (k j : Nat) (v : Int32) : Nat → Nat → Int32 := fun q => if q = k then upd (h k) j v else h q
theorem st2_k {h : Nat → Nat → Int32} {k j : Nat} {v : Int32} : st2 h k j v k = upd (h k) j v := by simp [st2]
theorem st2_n {h : Nat → Nat → Int32} {k j q : Nat} {v : Int32} (hq : q ≠ k) : st2 h k j v q = h q := by simp [st2, hq]
