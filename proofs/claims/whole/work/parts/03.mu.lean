/-! ===== methods that write: contracts and rows ===== -/
def PcW (D : va_G) (cI cZ cB cR : ClassId) (w : va_W) (av : List Value) (sz : Nat) : Array Value → State → Prop := va_Pc av (fun U => U.heap.size = sz ∧ va_P D vwCl w U.heap ∧ EV D cI cZ cB cR U ∧ va_D (fun _ => True) w)
theorem PcW_blind {D : va_G} {cI cZ cB cR : ClassId} {w : va_W} {av : List Value} {sz : Nat} : FrameBlind (PcW D cI cZ cB cR w av sz) := fun _ _ _ _ q => ⟨q.1, q.2.1, q.2.2.1, q.2.2.2.1.calling, q.2.2.2.2⟩
/-- a method that writes the cells w alone: behind it they are w' u, and the answer r, with 'post r u' -/
def MUi (l : Launch) (y : MethodName) (ws : List Cond) (rm : Room) (D : va_G) (cI cZ cB cR : ClassId) (w : va_W) (av : List Value) {σ : Type} (w' : σ → va_W) (post : Int32 → σ → Prop) : Prop := ∀ sz : Nat, Met l y ws rm (PcW D cI cZ cB cR w av sz) (va_Qi post (fun u t => va_P D vwCl (w' u) t.heap) (va_A w sz)) 0 0 (va_A w sz)
def MUv (l : Launch) (y : MethodName) (ws : List Cond) (rm : Room) (D : va_G) (cI cZ cB cR : ClassId) (w : va_W) (av : List Value) {σ : Type} (w' : σ → va_W) (post : σ → Prop) : Prop := ∀ sz : Nat, Met l y ws rm (PcW D cI cZ cB cR w av sz) (va_Qv post (fun u t => va_P D vwCl (w' u) t.heap) (va_A w sz)) 0 0 (va_A w sz)
theorem va_D.adr {A : Nat → Prop} {w w' : va_W} (h : va_D A w) (e : w'.map Prod.fst = w.map Prod.fst) : va_D A w' := by
  have hk : ∀ (k : Nat) (q : Nat × va_E), w'[k]? = some q → ∃ q', w[k]? = some q' ∧ q'.1 = q.1 := by
    intro k q hq
    have h1 : (w'.map Prod.fst)[k]? = some q.1 := by rw [List.getElem?_map, hq]; rfl
    rw [e, List.getElem?_map] at h1
    cases hw : w[k]? with
    | none => rw [hw] at h1; simp at h1
    | some q' => rw [hw] at h1; exact ⟨q', rfl, by simpa using h1⟩
  refine ⟨fun i j p q hp hq hpq => ?_, fun k q hq => ?_⟩
  · obtain ⟨p', h1, h2⟩ := hk i p hp
    obtain ⟨q', h3, h4⟩ := hk j q hq
    exact h.1 i j p' q' h1 h3 (by rw [h2, h4, hpq])
  · obtain ⟨q', h1, h2⟩ := hk k q hq
    rw [← h2]
    exact h.2 k q' h1
theorem va_into {A : Nat → Prop} {w : va_W} {H0 H : Heap} {locs : List Loc} (hD : va_D A w) (hS : va_S A H0 H locs) (hA : ∀ q, H0.size ≤ q → A q) : ∀ q, va_A w H.size q → A q := by
  rintro q (⟨k, e, h⟩ | h)
  · exact hD.2 k (q, e) h
  · exact hA q (Nat.le_trans hS.1 h)
/-- the cells of a part have been written, the others stay -/
theorem va_swap {A : Nat → Prop} {D : va_G} {w1 w2 w3 w2' : va_W} {H H1 : Heap} (hP : va_P D vwCl (w1 ++ (w2 ++ w3)) H) (hD : va_D A (w1 ++ (w2 ++ w3))) (hP1 : va_P D vwCl w2' H1) (hk : ∀ q : Nat, q < H.size → ¬ va_A w2 H.size q → H1[q]? = H[q]?) : va_P D vwCl (w1 ++ (w2' ++ w3)) H1 := by
  have keep : ∀ (i : Nat) (q : Nat × va_E), (w1 ++ (w2 ++ w3))[i]? = some q → (∀ j : Nat, j < w2.length → i ≠ w1.length + j) → va_at D vwCl q H1 := by
    intro i q hq hi
    have hl := (hP i q hq).lt
    refine (hP i q hq).kept (hk q.1 hl ?_)
    rintro (⟨j, e, hj⟩ | h)
    · have hjl : j < w2.length := (List.getElem?_eq_some_iff.mp hj).1
      have h2 : (w1 ++ (w2 ++ w3))[w1.length + j]? = some (q.1, e) := by
        rw [List.getElem?_append_right (by omega), Nat.add_sub_cancel_left, List.getElem?_append_left hjl]; exact hj
      exact hi j hjl (hD.1 i (w1.length + j) q (q.1, e) hq h2 rfl)
    · omega
  intro k q hq
  rcases List.mem_append.mp (List.mem_of_getElem? hq) with h | h
  · obtain ⟨i, hi⟩ := List.getElem?_of_mem h
    have hil : i < w1.length := (List.getElem?_eq_some_iff.mp hi).1
    exact keep i q (by rw [List.getElem?_append_left hil]; exact hi) (fun j _ => by omega)
  · rcases List.mem_append.mp h with h | h
    · obtain ⟨i, hi⟩ := List.getElem?_of_mem h
      exact hP1 i q hi
    · obtain ⟨i, hi⟩ := List.getElem?_of_mem h
      refine keep (w1.length + (w2.length + i)) q ?_ (fun j hj => by omega)
      rw [List.getElem?_append_right (by omega), Nat.add_sub_cancel_left, List.getElem?_append_right (by omega), Nat.add_sub_cancel_left]
      exact hi
section MUC
variable {p : Program} {l : Launch} {e : Env} {R : Room} {s : State} {m : MethodId} {args : Array Value} {below : List Frame} {meth : Method} {c : Code} {H : Heap} {locs : List Loc} {cells slots : Nat} {Q : State → Prop}
  {Ts ws : List Cond} {cc bytes : ByteArray} {nL maxL index n : Nat} {own C host : String} {y : MethodName} {ret : Option FieldType} {rm : Room}
  {b : Addr} {pc : Nat} {ls : Array Slot} {st : List Value} {D : va_G} {cI cZ cB cR : ClassId} {w : va_W} {T : u_T} {N ci : Nat} {fs : List Value} {σ : Type} {w' : σ → va_W} {A0 : Nat → Prop} {H0 : Heap}
theorem mu_V (As rest : List Value) {post : Int32 → σ → Prop} (S : CallFix p m c cc nL s args Ts own) (hM : MUi l y ws rm D cI cZ cB cR w (.ref b :: As) w' post) (cw : CallW R s args own C index y bytes maxL ret ws rm 0 0 n) (hEV : EV D cI cZ cB cR s) (hP : va_P D vwCl w H) (hD : va_D A0 w) (hS : va_S A0 H0 H locs) (hA : ∀ q, H0.size ≤ q → A0 q) (q0 : Nat) (he : w[q0]? = some (b, .inr (ci, fs))) (hc : vwCl[ci]? = some (C, T, N))
    (hn : As.length = n) (hls : ls.size = nL) (hst : st = As.reverse ++ .ref b :: rest) (hroom : (rest.map fun v => v.category).sum ≤ 8) (hdg : decode cc pc = .ok (.invokevirtual index, 3)) (hcap : cells ≤ R.cells ∧ slots ≤ R.slots)
    (kk : ∀ (r : Int32) (u : σ) (H1 : Heap) (locs1 : List Loc), post r u → va_P D vwCl (w' u) H1 → (∀ q : Nat, q < H.size → ¬ va_A w H.size q → H1[q]? = H[q]?) → va_S A0 H0 H1 locs1 → W p l e R s m args below meth c H1 locs1 cells slots Q (F0 m (pc + 3) ls (.int r :: rest))) : W p l e R s m args below meth c H locs cells slots Q (F0 m pc ls st) := by
  have hF := va_into hD hS hA
  refine va_calli (va_runV (As := As) (rest := rest) S (hM H.size) cw ⟨PcW_blind, va_recv hEV.1 hP (ci := ci) (q0 := q0) hc he, fun U hU hW => ⟨rfl, by rw [hU], by rw [hU]; exact hP, hEV.warm hW, hD.weaken (fun _ _ _ _ => trivial)⟩⟩ rfl hn hls hst (lv_room hroom) hdg hcap) hS (fun q _ h => hF q h) hF (fun r u t H1 locs1 ht hvm hw hB hz1 hk1 hS1 => ?_)
  rw [ht] at hB
  exact kk r u H1 locs1 hw hB hk1 hS1
theorem mu_Vv (As rest : List Value) {post : σ → Prop} (S : CallFix p m c cc nL s args Ts own) (hM : MUv l y ws rm D cI cZ cB cR w (.ref b :: As) w' post) (cw : CallW R s args own C index y bytes maxL ret ws rm 0 0 n) (hEV : EV D cI cZ cB cR s) (hP : va_P D vwCl w H) (hD : va_D A0 w) (hS : va_S A0 H0 H locs) (hA : ∀ q, H0.size ≤ q → A0 q) (q0 : Nat) (he : w[q0]? = some (b, .inr (ci, fs))) (hc : vwCl[ci]? = some (C, T, N))
    (hn : As.length = n) (hls : ls.size = nL) (hst : st = As.reverse ++ .ref b :: rest) (hroom : (rest.map fun v => v.category).sum ≤ 8) (hdg : decode cc pc = .ok (.invokevirtual index, 3)) (hcap : cells ≤ R.cells ∧ slots ≤ R.slots)
    (kk : ∀ (u : σ) (H1 : Heap) (locs1 : List Loc), post u → va_P D vwCl (w' u) H1 → (∀ q : Nat, q < H.size → ¬ va_A w H.size q → H1[q]? = H[q]?) → va_S A0 H0 H1 locs1 → W p l e R s m args below meth c H1 locs1 cells slots Q (F0 m (pc + 3) ls rest)) : W p l e R s m args below meth c H locs cells slots Q (F0 m pc ls st) := by
  have hF := va_into hD hS hA
  refine va_callv (va_runV (As := As) (rest := rest) S (hM H.size) cw ⟨PcW_blind, va_recv hEV.1 hP (ci := ci) (q0 := q0) hc he, fun U hU hW => ⟨rfl, by rw [hU], by rw [hU]; exact hP, hEV.warm hW, hD.weaken (fun _ _ _ _ => trivial)⟩⟩ rfl hn hls hst (lv_room hroom) hdg hcap) hS (fun q _ h => hF q h) hF (fun u t H1 locs1 ht hvm hw hB hz1 hk1 hS1 => ?_)
  rw [ht] at hB
  exact kk u H1 locs1 hw hB hk1 hS1
end MUC
section AST
variable {p : Program} {l : Launch} {e : Env} {R : Room} {s : State} {m : MethodId} {args : Array Value} {below : List Frame} {meth : Method} {c : Code} {H : Heap} {locs : List Loc} {cells slots : Nat} {Q : State → Prop}
  {cc : ByteArray} {pc : Nat} {ls : Array Slot} {rest : List Value} {D : va_G} {cI cZ cB cR : ClassId} {w w2 : va_W} {a : Nat} {A : Nat → Prop} {H0 : Heap}
theorem mu_ast (hx : p.tables.exec = Jvm.exec) (hb : c.code = cc) (hEV : EV D cI cZ cB cR s) (hP : va_P D vwCl w H) (hD : va_D A w) (hS : va_S A H0 H locs) (q0 : Nat) {n j : Nat} {v : Int32} {f : Nat → Int32} (ha : w[q0]? = some (a, .inl (cI, n, .inl f))) (hj : j < n) (hn : n < 2 ^ 31) (hset : w.set q0 (a, .inl (cI, n, .inl (upd f j v))) = w2) (hdg : decode cc pc = .ok (.iastore, 1))
    (kk : ∀ (H1 : Heap) (locs1 : List Loc), va_P D vwCl w2 H1 → va_D A w2 → va_S A H0 H1 locs1 → W p l e R s m args below meth c H1 locs1 cells slots Q (F0 m (pc + 1) ls rest)) : W p l e R s m args below meth c H locs cells slots Q (F0 m pc ls (.int v :: .int (nI j) :: .ref a :: rest)) := by
  refine va_iast hx hb hEV.1 hP hD hS q0 0 ha rfl (vp_in_nI hj hn) hdg (fun H1 locs1 hP hD hS => ?_)
  rw [nI_clamp (by omega), hset] at hP hD
  exact kk H1 locs1 hP hD hS
theorem mu_zst (hx : p.tables.exec = Jvm.exec) (hb : c.code = cc) (hEV : EV D cI cZ cB cR s) (hP : va_P D vwCl w H) (hD : va_D A w) (hS : va_S A H0 H locs) (q0 : Nat) {n j : Nat} {v : Bool} {f : Nat → Int32} (ha : w[q0]? = some (a, .inl (cZ, n, .inl f))) (hj : j < n) (hn : n < 2 ^ 31) (hset : w.set q0 (a, .inl (cZ, n, .inl (upd f j (b2i v)))) = w2) (hdg : decode cc pc = .ok (.bastore, 1))
    (kk : ∀ (H1 : Heap) (locs1 : List Loc), va_P D vwCl w2 H1 → va_D A w2 → va_S A H0 H1 locs1 → W p l e R s m args below meth c H1 locs1 cells slots Q (F0 m (pc + 1) ls rest)) : W p l e R s m args below meth c H locs cells slots Q (F0 m pc ls (.int (b2i v) :: .int (nI j) :: .ref a :: rest)) := by
  refine va_zast hx hb hEV.1 hP hD hS q0 1 ha rfl (vp_in_nI hj hn) hdg (fun H1 locs1 hP hD hS => ?_)
  have e : vp_nar .boolean (b2i v) = b2i v := by cases v <;> rfl
  rw [nI_clamp (by omega), e, hset] at hP hD
  exact kk H1 locs1 hP hD hS
end AST
