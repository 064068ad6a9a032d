/-! ===== constructors: contracts and rows ===== -/
/-- a constructor: of the new cell w it makes the cells w' u (mc cells of ms slots are new) -/
def MUc (l : Launch) (y : MethodName) (ws : List Cond) (rm : Room) (D : va_G) (cI cZ cB cR : ClassId) (w : va_W) (av : List Value) {σ : Type} (w' : σ → va_W) (post : σ → Prop) (mc ms : Nat) : Prop := ∀ sz : Nat, Met l y ws rm (PcW D cI cZ cB cR w av sz) (va_Qv post (fun u t => va_P D vwCl (w' u) t.heap ∧ va_D (va_A w sz) (w' u)) (va_A w sz)) mc ms (va_A w sz)
/-- behind a constructor's call: the caller's other cells, and the new ones -/
theorem va_joinE {A0 : Nat → Prop} {D : va_G} {w w1 : va_W} {q : Nat × va_E} {H H1 : Heap} (hP : va_P D vwCl (w ++ [q]) H) (hD : va_D A0 (w ++ [q])) (hF : ∀ a, va_A [q] H.size a → A0 a) (hk : ∀ a : Nat, a < H.size → ¬ va_A [q] H.size a → H1[a]? = H[a]?) (hP1 : va_P D vwCl w1 H1) (hD1 : va_D (va_A [q] H.size) w1) : va_P D vwCl (w ++ w1) H1 ∧ va_D A0 (w ++ w1) := by
  have hw := va_P_l hP
  have hlt : ∀ (k : Nat) (x : Nat × va_E), w[k]? = some x → x.1 < H.size := fun k x hx => (hw k x hx).lt
  have hne : ∀ (k : Nat) (x : Nat × va_E), w[k]? = some x → ¬ va_A [q] H.size x.1 := by
    rintro k x hx (⟨j, e, hj⟩ | h)
    · exact va_D_disj hD (List.mem_of_getElem? hx) (List.mem_of_getElem? hj) rfl
    · have := hlt k x hx
      omega
  refine ⟨fun k x hx => ?_, va_D.app (va_D_l hD) (hD1.weaken (fun k x _ h => hF _ h)) (fun i j x y h1 h2 e => ?_)⟩
  · rcases List.mem_append.mp (List.mem_of_getElem? hx) with h | h
    · obtain ⟨i, hi⟩ := List.getElem?_of_mem h
      exact (hw i x hi).kept (hk x.1 (hlt i x hi) (hne i x hi))
    · obtain ⟨i, hi⟩ := List.getElem?_of_mem h
      exact hP1 i x hi
  · exact hne i x h1 (by rw [e]; exact hD1.2 j y h2)
theorem va_A_one {A0 : Nat → Prop} {w : va_W} {q : Nat × va_E} {H0 H : Heap} {locs : List Loc} (hD : va_D A0 (w ++ [q])) (hS : va_S A0 H0 H locs) (hA : ∀ a, H0.size ≤ a → A0 a) : ∀ a, va_A [q] H.size a → A0 a := va_into (va_D_r hD) hS hA
section MCC
variable {p : Program} {l : Launch} {e : Env} {R : Room} {s : State} {m : MethodId} {args : Array Value} {below : List Frame} {meth : Method} {c : Code} {H : Heap} {locs : List Loc} {cells slots : Nat} {Q : State → Prop}
  {Ts ws : List Cond} {cc bytes : ByteArray} {nL maxL index n mc ms : Nat} {own C host : String} {y : MethodName} {rm : Room}
  {b : Addr} {e0 : va_E} {pc : Nat} {ls : Array Slot} {st : List Value} {D : va_G} {cI cZ cB cR : ClassId} {w : va_W} {σ : Type} {w' : σ → va_W} {post : σ → Prop} {A0 : Nat → Prop} {H0 : Heap}
theorem mc_I (As rest : List Value) (S : CallFix p m c cc nL s args Ts own) (hM : MUc l y ws rm D cI cZ cB cR [(b, e0)] (.ref b :: As) w' post mc ms) (cw : CallB R s args own index y bytes maxL none ws rm mc ms n ∧ y.name = "<init>" ∧ (Cond.instanceMethod y).before args s = true) (hEV : EV D cI cZ cB cR s) (hP : va_P D vwCl (w ++ [(b, e0)]) H) (hD : va_D A0 (w ++ [(b, e0)])) (hS : va_S A0 H0 H locs) (hA : ∀ q, H0.size ≤ q → A0 q)
    (hn : As.length = n) (hls : ls.size = nL) (hst : st = As.reverse ++ .ref b :: rest) (hroom : (rest.map fun v => v.category).sum ≤ 8) (hdg : decode cc pc = .ok (.invokespecial index, 3)) (hcap : cells + mc ≤ R.cells ∧ slots + ms ≤ R.slots)
    (kk : ∀ (u : σ) (H1 : Heap) (locs1 : List Loc), post u → va_P D vwCl (w ++ w' u) H1 → va_D A0 (w ++ w' u) → va_S A0 H0 H1 locs1 → W p l e R s m args below meth c H1 locs1 (cells + mc) (slots + ms) Q (F0 m (pc + 3) ls rest)) : W p l e R s m args below meth c H locs cells slots Q (F0 m pc ls st) := by
  have hF := va_A_one hD hS hA
  refine va_callv (va_runI (As := As) (rest := rest) S (hM H.size) cw ⟨PcW_blind, fun U hU hW => ⟨rfl, by rw [hU], by rw [hU]; exact va_P_r hP, hEV.warm hW, (va_D_r hD).weaken (fun _ _ _ _ => trivial)⟩⟩ rfl hn hls hst (lv_room hroom) hdg hcap) hS (fun q _ h => hF q h) hF (fun u t H1 locs1 ht hvm hw hB hz1 hk1 hS1 => ?_)
  rw [ht] at hB
  obtain ⟨hP2, hD2⟩ := va_joinE hP hD hF hk1 hB.1 hB.2
  exact kk u H1 locs1 hw hP2 hD2 hS1
theorem mc_IN (As rest : List Value) (S : CallFix p m c cc nL s args Ts own) (hM : MUc l y ws rm D cI cZ cB cR [(b, e0)] (.ref b :: As) w' post mc ms) (cw : va_CN R s args own index y host bytes maxL none ws rm mc ms n ∧ y.name = "<init>" ∧ (Cond.instanceMethod y).before args s = true) (hEV : EV D cI cZ cB cR s) (hP : va_P D vwCl (w ++ [(b, e0)]) H) (hD : va_D A0 (w ++ [(b, e0)])) (hS : va_S A0 H0 H locs) (hA : ∀ q, H0.size ≤ q → A0 q)
    (hn : As.length = n) (hls : ls.size = nL) (hst : st = As.reverse ++ .ref b :: rest) (hroom : (rest.map fun v => v.category).sum ≤ 8) (hdg : decode cc pc = .ok (.invokespecial index, 3)) (hcap : cells + mc ≤ R.cells ∧ slots + ms ≤ R.slots)
    (kk : ∀ (u : σ) (H1 : Heap) (locs1 : List Loc), post u → va_P D vwCl (w ++ w' u) H1 → va_D A0 (w ++ w' u) → va_S A0 H0 H1 locs1 → W p l e R s m args below meth c H1 locs1 (cells + mc) (slots + ms) Q (F0 m (pc + 3) ls rest)) : W p l e R s m args below meth c H locs cells slots Q (F0 m pc ls st) := by
  have hF := va_A_one hD hS hA
  refine va_callv (va_runIN (As := As) (rest := rest) S (hM H.size) cw ⟨PcW_blind, fun U hU hW => ⟨rfl, by rw [hU], by rw [hU]; exact va_P_r hP, hEV.warm hW, (va_D_r hD).weaken (fun _ _ _ _ => trivial)⟩⟩ rfl hn hls hst (lv_room hroom) hdg hcap) hS (fun q _ h => hF q h) hF (fun u t H1 locs1 ht hvm hw hB hz1 hk1 hS1 => ?_)
  rw [ht] at hB
  obtain ⟨hP2, hD2⟩ := va_joinE hP hD hF hk1 hB.1 hB.2
  exact kk u H1 locs1 hw hP2 hD2 hS1
theorem mc_newI {rest : List Value} (hx : p.tables.exec = Jvm.exec) (hb : c.code = cc) (harr : (Cond.arrayClass .int).before args s = true) (hEV : EV D cI cZ cB cR s) (hP : va_P D vwCl w H) (hD : va_D A0 w) (hS : va_S A0 H0 H locs) (hA : ∀ q, H0.size ≤ q → A0 q) {v : Int32} {N : Nat} (hn : ¬ v < 0) (hN : v.toNatClampNeg = N) (hbytes : N * componentBytes .int ≤ 536870912) (hcells : cells + 1 ≤ R.cells) (hslots : slots + N ≤ R.slots) (hdg : decode cc pc = .ok (.newarray .int, 2))
    (kk : ∀ (q : Nat) (H1 : Heap), va_P D vwCl (w ++ [(q, .inl (cI, N, .inl (fun _ => 0)))]) H1 → va_D A0 (w ++ [(q, .inl (cI, N, .inl (fun _ => 0)))]) → va_S A0 H0 H1 locs → W p l e R s m args below meth c H1 locs (cells + 1) (slots + N) Q (F0 m (pc + 2) ls (.ref q :: rest))) : W p l e R s m args below meth c H locs cells slots Q (F0 m pc ls (.int v :: rest)) := by
  refine va_newa (atype := .int) (ty := .int) (a0 := (N, .inl (fun _ => 0))) hx hb harr rfl hEV.1 hP hD hS hA (fun cA => rfl) hn hN hbytes hcells hslots hdg (fun q cA H1 hK hP hD hS => ?_)
  have h1 : s.vm.findClass ("[" ++ FieldType.int.toString) = some cA := (hK.2 4 (cA, .int) rfl).2
  have h2 : s.vm.findClass ("[" ++ FieldType.int.toString) = some cI := (hK.2 0 (cI, .int) rfl).2
  have e9 : cA = cI := Option.some.inj (h1.symm.trans h2)
  rw [e9] at hP hD
  exact kk q H1 hP hD hS
theorem mc_newZ {rest : List Value} (hx : p.tables.exec = Jvm.exec) (hb : c.code = cc) (harr : (Cond.arrayClass .boolean).before args s = true) (hEV : EV D cI cZ cB cR s) (hP : va_P D vwCl w H) (hD : va_D A0 w) (hS : va_S A0 H0 H locs) (hA : ∀ q, H0.size ≤ q → A0 q) {v : Int32} {N : Nat} (hn : ¬ v < 0) (hN : v.toNatClampNeg = N) (hbytes : N * componentBytes .boolean ≤ 536870912) (hcells : cells + 1 ≤ R.cells) (hslots : slots + N ≤ R.slots) (hdg : decode cc pc = .ok (.newarray .boolean, 2))
    (kk : ∀ (q : Nat) (H1 : Heap), va_P D vwCl (w ++ [(q, .inl (cZ, N, .inl (fun _ => 0)))]) H1 → va_D A0 (w ++ [(q, .inl (cZ, N, .inl (fun _ => 0)))]) → va_S A0 H0 H1 locs → W p l e R s m args below meth c H1 locs (cells + 1) (slots + N) Q (F0 m (pc + 2) ls (.ref q :: rest))) : W p l e R s m args below meth c H locs cells slots Q (F0 m pc ls (.int v :: rest)) := by
  refine va_newa (atype := .boolean) (ty := .boolean) (a0 := (N, .inl (fun _ => 0))) hx hb harr rfl hEV.1 hP hD hS hA (fun cA => rfl) hn hN hbytes hcells hslots hdg (fun q cA H1 hK hP hD hS => ?_)
  have h1 : s.vm.findClass ("[" ++ FieldType.boolean.toString) = some cA := (hK.2 4 (cA, .boolean) rfl).2
  have h2 : s.vm.findClass ("[" ++ FieldType.boolean.toString) = some cZ := (hK.2 1 (cZ, .boolean) rfl).2
  have e9 : cA = cZ := Option.some.inj (h1.symm.trans h2)
  rw [e9] at hP hD
  exact kk q H1 hP hD hS
theorem mc_newO {rest : List Value} (hx : p.tables.exec = Jvm.exec) (hb : c.code = cc) {O : String} {cA0 : ClassId} (hown : s.vm.findClass own = some m.cls) (hcl : (Cond.classLink own index O).before args s = true) (hover : va_AO O s) (hEV : EV D cI cZ cB cR s) (k0 : Nat) (h0 : (tysA cI cZ cB cR)[k0]? = some (cA0, .object O)) (hP : va_P D vwCl w H) (hD : va_D A0 w) (hS : va_S A0 H0 H locs) (hA : ∀ q, H0.size ≤ q → A0 q) {v : Int32} {N : Nat} (hn : ¬ v < 0) (hN : v.toNatClampNeg = N) (hbytes : N * 4 ≤ 536870912) (hcells : cells + 1 ≤ R.cells) (hslots : slots + N ≤ R.slots) (hdg : decode cc pc = .ok (.anewarray index, 3))
    (kk : ∀ (q : Nat) (H1 : Heap), va_P D vwCl (w ++ [(q, .inl (cA0, N, .inr (.inr (.inr (.inr (fun _ => none))))))]) H1 → va_D A0 (w ++ [(q, .inl (cA0, N, .inr (.inr (.inr (.inr (fun _ => none))))))]) → va_S A0 H0 H1 locs → W p l e R s m args below meth c H1 locs (cells + 1) (slots + N) Q (F0 m (pc + 3) ls (.ref q :: rest))) : W p l e R s m args below meth c H locs cells slots Q (F0 m pc ls (.int v :: rest)) := by
  refine va_newq hx hb hown hcl hover hEV.1 hP hD hS hA hn hN hbytes hcells hslots hdg (fun q cA H1 hK hP hD hS => ?_)
  obtain ⟨_, _, _, _, _, h1⟩ := (hK.2 4 (cA, .object O) rfl).2
  obtain ⟨_, _, _, _, _, h2⟩ := (hEV.1.2 k0 _ h0).2
  have e9 : cA = cA0 := Option.some.inj (h1.symm.trans h2)
  rw [e9] at hP hD
  exact kk q H1 hP hD hS
end MCC
/-- an array's cell under another function that is the same on its places -/
theorem arrV_cong {cA : ClassId} {n : Nat} {f g : Nat → Value} (h : ∀ j, j < n → f j = g j) : arrV cA n f = arrV cA n g := by
  unfold arrV
  have e : (Array.ofFn (n := n) fun j => f j.val) = Array.ofFn (n := n) fun j => g j.val := congrArg _ (funext fun j => h j.val j.isLt)
  rw [e]
theorem va_P_cell {D : va_G} {w : va_W} {H : Heap} {k a n : Nat} {cA : ClassId} {f g : Nat → Option Nat} (hP : va_P D vwCl w H) (he : w[k]? = some (a, .inl (cA, n, .inr (.inr (.inr (.inr f)))))) (h : ∀ j, j < n → f j = g j) : va_P D vwCl (w.set k (a, .inl (cA, n, .inr (.inr (.inr (.inr g)))))) H := by
  intro i q hq
  by_cases c : i = k
  · subst c
    have hl : i < w.length := (List.getElem?_eq_some_iff.mp he).1
    rw [List.getElem?_set_self hl] at hq
    cases hq
    have h0 : H[a]? = some (vp_cell cA (n, .inr (.inr (.inr (.inr f))))) := hP i _ he
    show H[a]? = some (vp_cell cA (n, .inr (.inr (.inr (.inr g)))))
    rw [h0]
    rw [vp_cell_q, vp_cell_q]
    exact congrArg some (arrV_cong (fun j hj => by rw [h j hj]))
  · rw [List.getElem?_set_ne (Ne.symm c)] at hq
    exact hP i q hq
