def R_law : String := "LinkPredictorLaw"
def lw_P (b : Addr) (xs : List Int32) (args : Array Value) (s : State) : Prop := args = #[.ref b] ∧ s.IntsAt b xs ∧ xs.length ≤ 384 ∧ (Jvm.Cond.and given_1 narrow_1).before args s = true
def lw_Q (_ : Array Value) (s : State) (o : Outcome) (t : State) : Prop := o = .returned (some (.int 1)) ∧ Framed s o t [] 600000 7302250
def lw_Z (below : List Frame) (a : Array Value) (s : State) : State → Prop := fun t => ∃ o, t.status = .running ∧ Ended t below o ∧ lw_Q a s o t
/-- the law's own end, with 1 on the stack, nothing written that was there before, its room as the claim has it -/
theorem lw_ret {p : Program} {l : Launch} {e : Env} {s : State} {m : MethodId} {below : List Frame} {meth : Method} {c : Code} {b : Nat} (hx : p.tables.exec = Jvm.exec) (hb : c.code = code) (hr : meth.sig.returnType = ret) (hlocks : meth.locks = false) {pc : Nat} {H : Heap} {ls : Array Slot} (hdg : decode code pc = .ok (.ireturn, 1)) : W p l e room_1 s m #[Value.ref b] below meth c H [] 600000 7302250 (lw_Z below #[Value.ref b] s) (F0 m pc ls [.int 1]) := by
  intro T hT X
  obtain ⟨fs, hret, hrun, hended, hW, hframe⟩ := X.leave (v := some (.int 1)) (hlocks := hlocks) (fun h => by rw [hr] at h; cases h)
  have hmeth' : T.vm.method? m = some meth := X.method'
  refine ⟨T.setFrames fs, ?_, .returned (some (.int 1)), hrun, hended, rfl, ⟨_, rfl⟩, hW, hframe⟩
  jvm_step X.here [X.here.top, hx, hb, hdg, hmeth', hr, ret, narrow_b1]
  (try refine ⟨rfl, ?_⟩); (try refine ⟨rfl, ?_⟩)
  first | (intro acts; rw [hret _ acts rfl rfl rfl]) | rw [hret _ _ rfl rfl rfl]
  exact Steps.refl _
/-- what holds at the law's entry: the machine, the code, the tables' words (any of lw_tbl by 'hts w (by decide +kernel)'), the script of L ints xs at the cell b, what the Statement gives of the start (any of its parts by flat_of_before) -/
def lw_At (p : Program) (s : State) (m : MethodId) (meth : Method) (c : Code) (b L : Nat) (xs : Nat → Int32) : Prop :=
  p.tables.exec = Jvm.exec ∧ c.code = code ∧ meth.sig.returnType = ret ∧ c.maxLocals = 4 ∧ s.vm.findClass R_law = some m.cls ∧ (∀ w ∈ lw_tbl, w.before #[Value.ref b] s = true) ∧ va_X b L xs s s.heap ∧ b < s.heap.size ∧ meth.locks = false ∧ (Jvm.Cond.and given_1 narrow_1).before #[Value.ref b] s = true
/-! ===== the law's own rows ===== -/
theorem wL_fst {cI cB cR : ClassId} {ad : Nat → Nat} {S S' : LSt} : (wL cI cB cR ad S').map Prod.fst = (wL cI cB cR ad S).map Prod.fst := rfl
theorem wX_fst {cI cZ : ClassId} {a : Nat → Nat} {x x' : Nat → Nat → Int32} {r1 r2 r1' r2' : Nat → Int32} : (wX cI cZ a x' r1' r2').map Prod.fst = (wX cI cZ a x r1 r2).map Prod.fst := rfl
section LAWROWS
variable {p : Program} {l : Launch} {e : Env} {R : Room} {s : State} {m : MethodId} {below : List Frame} {meth : Method} {c : Code} {H : Heap} {locs : List Loc} {cells slots : Nat} {Q : State → Prop} {b L : Nat} {xs : Nat → Int32} {A : Nat → Prop} {pc : Nat} {ls : Array Slot} {rest : List Value} {D : va_G} {cI cZ cB cR : ClassId}
/-- the int at place i + k of the script -/
theorem lr_ld (C0 : lw_At p s m meth c b L xs) (hL : L ≤ 384) (hS : va_S A s.heap H locs) (hbA : ¬ A b) {i k : Nat} {n : Int} {a1 a2 : Nat} (hl : lv_has ls 4 [(3, .int (nI i)), (2, .ref a2), (1, .ref a1), (0, .ref b)]) (hi : i + k < L) (d0 : decode cL_law pc = .ok (.aload_n 0, 1)) (d1 : decode cL_law (pc + 1) = .ok (.iload_n 3, 1)) (d2 : decode cL_law (pc + 2) = .ok (.iconst n, 1)) (hk : Int32.ofInt n = nI k) (d3 : decode cL_law (pc + 3) = .ok (.iadd, 1)) (d4 : decode cL_law (pc + 4) = .ok (.iaload, 1))
    (kk : W p l e R s m #[Value.ref b] below meth c H locs cells slots Q (F0 m (pc + 5) ls (.int (xs (i + k)) :: rest))) : W p l e R s m #[Value.ref b] below meth c H locs cells slots Q (F0 m pc ls rest) := by
  obtain ⟨hx, hb, hr, hml, hown, hts, hX, hbl, hlocks, hgv⟩ := C0
  refine lv_aload_n hx hb d0 rfl (lv_at hl 3 rfl) ?_
  refine lv_iload_n hx hb d1 rfl (lv_at hl 0 rfl) ?_
  refine lv_iconst (v := nI k) hx hb d2 hk ?_
  refine lv_iadd hx hb d3 ?_
  refine top_eq (nI_add i k) ?_
  refine va_sld hx hb hX hbl hbA hS (vp_in_nI hi (by omega)) d4 ?_
  rw [nI_clamp (by omega)]
  exact kk
/-- an int as a boolean: is it other than 0 -/
theorem lr_ne (hx : p.tables.exec = Jvm.exec) (hb : c.code = cL_law) {v : Int32} {t1 t2 : Nat} (d0 : decode cL_law pc = .ok (.ifCond .eq 7, 3)) (h0 : (pc : Int) + 7 = (t1 : Int)) (d1 : decode cL_law (pc + 3) = .ok (.iconst 1, 1)) (d2 : decode cL_law (pc + 3 + 1) = .ok (.goto 4, 3)) (h2 : ((pc + 3 + 1 : Nat) : Int) + 4 = (t2 : Int)) (d3 : decode cL_law t1 = .ok (.iconst 0, 1)) (ht : t1 + 1 = t2)
    (kk : W p l e R s m #[Value.ref b] below meth c H locs cells slots Q (F0 m t2 ls (.int (b2i (!decide (v = 0))) :: rest))) : W p l e R s m #[Value.ref b] below meth c H locs cells slots Q (F0 m pc ls (.int v :: rest)) := by
  refine lv_if_eq (tgt := t1) hx hb d0 h0 (fun c9 => ?_) (fun c9 => ?_)
  · refine lv_iconst (v := 0) hx hb d3 (by decide) ?_
    have e9 : b2i (!decide (v = 0)) = 0 := by simp [c9, b2i]
    rw [e9] at kk
    rw [ht]
    exact kk
  · refine lv_iconst (v := 1) hx hb d1 (by decide) ?_
    have e9 : b2i (!decide (v = 0)) = 1 := by simp [c9, b2i]
    rw [e9] at kk
    exact lv_goto (tgt := t2) hx hb d2 h2 kk
section CALLS
variable {ws : List Cond} {bytes : ByteArray} {maxL index n : Nat} {y : MethodName} {ret9 : Option FieldType} {rm : Room} {st : List Value} {σ : Type} {ad a : Nat → Nat} {S : LSt} {x : Nat → Nat → Int32} {r1 r2 : Nat → Int32} {U V : va_W}
/-- a call of the class -/
theorem lr_L (As rest : List Value) {w' : σ → va_W} {post : Int32 → σ → Prop} (C0 : lw_At p s m meth c b L xs) (hEV : EV D cI cZ cB cR s) (hM : MUi l y ws rm D cI cZ cB cR (wL cI cB cR ad S) (.ref (ad 0) :: As) w' post) (hw' : ∀ u, (w' u).map Prod.fst = (wL cI cB cR ad S).map Prod.fst) (cw : CallW R s #[Value.ref b] R_law RX4 index y bytes maxL ret9 ws rm 0 0 n) (hP : va_P D vwCl (wL cI cB cR ad S ++ V) H) (hD : va_D A (wL cI cB cR ad S ++ V)) (hS : va_S A s.heap H locs) (hA : ∀ q, s.heap.size ≤ q → A q)
    (hn : As.length = n) (hls : ls.size = 4) (hst : st = As.reverse ++ .ref (ad 0) :: rest) (hroom : (rest.map fun v => v.category).sum ≤ 8) (hdg : decode cL_law pc = .ok (.invokevirtual index, 3)) (hcap : cells ≤ R.cells ∧ slots ≤ R.slots)
    (kk : ∀ (r : Int32) (u : σ) (H1 : Heap) (locs1 : List Loc), post r u → va_P D vwCl (w' u ++ V) H1 → va_D A (w' u ++ V) → va_S A s.heap H1 locs1 → W p l e R s m #[Value.ref b] below meth c H1 locs1 cells slots Q (F0 m (pc + 3) ls (.int r :: rest))) : W p l e R s m #[Value.ref b] below meth c H locs cells slots Q (F0 m pc ls st) := by
  obtain ⟨hx, hb, hr, hml, hown, hts, hX, hbl, hlocks, hgv⟩ := C0
  refine mu_V (ci := 4) As rest ⟨hx, hb, hml, hown, hts⟩ hM cw hEV (va_P_l hP) (va_D_l hD) hS hA 0 rfl rfl hn hls hst hroom hdg hcap (fun r u H1 locs1 hw hP1 hk hS1 => ?_)
  have hP2 := va_swap (w1 := []) (w3 := V) hP hD hP1 hk
  have hD2 : va_D A (w' u ++ V) := hD.adr (by rw [List.map_append, List.map_append, hw' u])
  exact kk r u H1 locs1 hw hP2 hD2 hS1
/-- a call of the class that only reads -/
theorem lr_LR (As rest : List Value) {v : Int32} (C0 : lw_At p s m meth c b L xs) (hEV : EV D cI cZ cB cR s) (hM : RO l y ws rm D cI cZ cB cR (wL cI cB cR ad S) (.ref (ad 0) :: As) v) (cw : CallW R s #[Value.ref b] R_law RX4 index y bytes maxL ret9 ws rm 0 0 n) (hP : va_P D vwCl (wL cI cB cR ad S ++ V) H)
    (hn : As.length = n) (hls : ls.size = 4) (hst : st = As.reverse ++ .ref (ad 0) :: rest) (hroom : (rest.map fun v => v.category).sum ≤ 8) (hdg : decode cL_law pc = .ok (.invokevirtual index, 3)) (hcap : cells ≤ R.cells ∧ slots ≤ R.slots)
    (kk : W p l e R s m #[Value.ref b] below meth c H locs cells slots Q (F0 m (pc + 3) ls (.int v :: rest))) : W p l e R s m #[Value.ref b] below meth c H locs cells slots Q (F0 m pc ls st) := by
  obtain ⟨hx, hb, hr, hml, hown, hts, hX, hbl, hlocks, hgv⟩ := C0
  exact ro_V (ci := 4) As rest ⟨hx, hb, hml, hown, hts⟩ hM cw hEV (va_P_l hP) 0 rfl rfl hn hls hst hroom hdg hcap kk
/-- a call of the reference -/
theorem lr_X (As rest : List Value) {w' : σ → va_W} {post : Int32 → σ → Prop} (C0 : lw_At p s m meth c b L xs) (hEV : EV D cI cZ cB cR s) (hM : MUi l y ws rm D cI cZ cB cR (wX cI cZ a x r1 r2) (.ref (a 0) :: As) w' post) (hw' : ∀ u, (w' u).map Prod.fst = (wX cI cZ a x r1 r2).map Prod.fst) (cw : CallW R s #[Value.ref b] R_law RX5 index y bytes maxL ret9 ws rm 0 0 n) (hP : va_P D vwCl (U ++ wX cI cZ a x r1 r2) H) (hD : va_D A (U ++ wX cI cZ a x r1 r2)) (hS : va_S A s.heap H locs) (hA : ∀ q, s.heap.size ≤ q → A q)
    (hn : As.length = n) (hls : ls.size = 4) (hst : st = As.reverse ++ .ref (a 0) :: rest) (hroom : (rest.map fun v => v.category).sum ≤ 8) (hdg : decode cL_law pc = .ok (.invokevirtual index, 3)) (hcap : cells ≤ R.cells ∧ slots ≤ R.slots)
    (kk : ∀ (r : Int32) (u : σ) (H1 : Heap) (locs1 : List Loc), post r u → va_P D vwCl (U ++ w' u) H1 → va_D A (U ++ w' u) → va_S A s.heap H1 locs1 → W p l e R s m #[Value.ref b] below meth c H1 locs1 cells slots Q (F0 m (pc + 3) ls (.int r :: rest))) : W p l e R s m #[Value.ref b] below meth c H locs cells slots Q (F0 m pc ls st) := by
  obtain ⟨hx, hb, hr, hml, hown, hts, hX, hbl, hlocks, hgv⟩ := C0
  refine mu_V (ci := 5) As rest ⟨hx, hb, hml, hown, hts⟩ hM cw hEV (va_P_r hP) (va_D_r hD) hS hA 0 rfl rfl hn hls hst hroom hdg hcap (fun r u H1 locs1 hw hP1 hk hS1 => ?_)
  have hP2 : va_P D vwCl (U ++ w' u) H1 := by
    have h9 := va_swap (w1 := U) (w2 := wX cI cZ a x r1 r2) (w3 := []) (w2' := w' u) (by rw [List.append_nil]; exact hP) (by rw [List.append_nil]; exact hD) hP1 hk
    rw [List.append_nil] at h9
    exact h9
  have hD2 : va_D A (U ++ w' u) := hD.adr (by rw [List.map_append, List.map_append, hw' u])
  exact kk r u H1 locs1 hw hP2 hD2 hS1
end CALLS
end LAWROWS
/-- what an arm of the law leaves to the loop -/
def LKk (p : Program) (l : Launch) (e : Env) (s : State) (m : MethodId) (below : List Frame) (meth : Method) (c : Code) (b : Nat) (D : va_G) (cI cZ cB cR : ClassId) (ad a : Nat → Nat) (A : Nat → Prop) (i : Nat) (Q : State → Prop) : Prop := ∀ (S : LSt) (x : Nat → Nat → Int32) (nf : Nat → Nat) (R w : Nat) (r1 r2 : Nat → Int32) (H : Heap) (locs : List Loc) (ls : Array Slot), INV S x nf R w → va_P D vwCl (wL cI cB cR ad S ++ wX cI cZ a x r1 r2) H → va_D A (wL cI cB cR ad S ++ wX cI cZ a x r1 r2) → va_S A s.heap H locs → lv_has ls 4 [(3, .int (nI i)), (2, .ref (a 0)), (1, .ref (ad 0)), (0, .ref b)] → W p l e room_1 s m #[Value.ref b] below meth c H locs 69 1201 Q (F0 m 723 ls [])
