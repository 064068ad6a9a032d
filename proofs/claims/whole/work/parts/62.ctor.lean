def TI : Nat → Nat → Nat → Int32 := fun q => match q with | 0 => hI | 2 => hI | _ => fun _ _ => 0
def SI : LSt := (TI, fun _ => 0, fun _ _ => 0, 0, 0)
/-- LinkPredictor while its references are made -/
def wLb (cI cB cR : ClassId) (a0 q1 q2 b0 b1 : Nat) (v0 v1 : (Nat → Nat) × (Nat → Nat)) (fB f : Nat → Option Nat) (X : va_W) : va_W := [(a0, .inr (4, [.ref q1, .ref q2, .int 0, .int 0])), (q1, .inl (cB, 2, .inr (.inr (.inr (.inr fB))))), (q2, .inl (cR, 16, .inr (.inr (.inr (.inr f)))))] ++ (wB cI b0 v0.1 v0.2 hI (fun _ _ => 0) 0 ++ (wB cI b1 v1.1 v1.2 hI (fun _ _ => 0) 0 ++ X))
def rF (rs : Nat → Nat) (i : Nat) : Nat → Option Nat := fun k => if k < i then some (rs k) else none
def wQ (rs : Nat → Nat) (i : Nat) : va_W := (List.range i).map (fun k => (rs k, .inr (3, [.int 0, .int 0, .int 0, .int 0])))
theorem rF_up (rs : Nat → Nat) (i q : Nat) : va_up (rF rs i) i (some q) = rF (va_up rs i q) (i + 1) := by
  funext k
  unfold va_up rF
  by_cases c : k = i
  · subst c; simp
  · by_cases d : k < i
    · simp [c, d, Nat.lt_succ_of_lt d]
    · have d2 : ¬ k < i + 1 := by omega
      simp [c, d, d2]
theorem wQ_up (rs : Nat → Nat) (i q : Nat) : wQ rs i ++ [(q, .inr (3, [.int 0, .int 0, .int 0, .int 0]))] = wQ (va_up rs i q) (i + 1) := by
  unfold wQ
  rw [List.range_succ, List.map_append]
  have e1 : (List.range i).map (fun k => ((rs k, .inr (3, [.int 0, .int 0, .int 0, .int 0])) : Nat × va_E)) = (List.range i).map (fun k => (va_up rs i q k, .inr (3, [.int 0, .int 0, .int 0, .int 0]))) := List.map_congr_left (fun k hk => by
    have hk2 : k < i := List.mem_range.mp hk
    rw [va_up_ne rs q (by omega)])
  rw [e1]
  show _ = _ ++ [((va_up rs i q i, .inr (3, [.int 0, .int 0, .int 0, .int 0])) : Nat × va_E)]
  rw [va_up_self]
theorem wLb_app {cI cB cR : ClassId} {a0 q1 q2 b0 b1 : Nat} {v0 v1 : (Nat → Nat) × (Nat → Nat)} {fB f : Nat → Option Nat} {X Y : va_W} : wLb cI cB cR a0 q1 q2 b0 b1 v0 v1 fB f X ++ Y = wLb cI cB cR a0 q1 q2 b0 b1 v0 v1 fB f (X ++ Y) := by
  unfold wLb
  simp only [List.append_assoc]
theorem wLb_adr {cI cB cR : ClassId} {a0 q1 q2 b0 b1 : Nat} {v0 v1 : (Nat → Nat) × (Nat → Nat)} {fB f gB g : Nat → Option Nat} {X : va_W} : (wLb cI cB cR a0 q1 q2 b0 b1 v0 v1 fB f X).map Prod.fst = (wLb cI cB cR a0 q1 q2 b0 b1 v0 v1 gB g X).map Prod.fst := by
  simp only [wLb, List.map_append, List.map_cons, List.map_nil]
theorem wH_cong {cI : ClassId} {a b : Nat → Nat} {h : Nat → Nat → Int32} (e : ∀ k, k < 9 → a k = b k) : wH cI a h = wH cI b h := by
  unfold wH
  rw [e 0 (by omega), e 1 (by omega), e 2 (by omega), e 3 (by omega), e 4 (by omega), e 5 (by omega), e 6 (by omega), e 7 (by omega), e 8 (by omega)]
theorem wM_cong {cI : ClassId} {a b : Nat → Nat} {g : Nat → Nat → Int32} (e : ∀ k, k < 5 → a k = b k) : wM cI a g = wM cI b g := by
  unfold wM
  rw [e 0 (by omega), e 1 (by omega), e 2 (by omega), e 3 (by omega), e 4 (by omega)]
theorem wB_cong {cI : ClassId} {b b' : Nat} {aH aM bH bM : Nat → Nat} {h g : Nat → Nat → Int32} {se : Int32} (e0 : b = b') (e1 : ∀ k, k < 9 → aH k = bH k) (e2 : ∀ k, k < 5 → aM k = bM k) : wB cI b aH aM h g se = wB cI b' bH bM h g se := by
  unfold wB
  rw [wH_cong e1, wM_cong e2, e0, e1 0 (by omega), e2 0 (by omega)]
def adF (a0 q1 q2 b0 b1 : Nat) (v0 v1 : (Nat → Nat) × (Nat → Nat)) (rs : Nat → Nat) : Nat → Nat := fun k => if k < 3 then (if k = 0 then a0 else if k = 1 then q1 else q2) else if k < 18 then (if k = 3 then b0 else if k < 13 then v0.1 (k - 4) else v0.2 (k - 13)) else if k < 33 then (if k = 18 then b1 else if k < 28 then v1.1 (k - 19) else v1.2 (k - 28)) else rs (k - 33)
def AdOk (ad : Nat → Nat) (a0 q1 q2 b0 b1 : Nat) (v0 v1 : (Nat → Nat) × (Nat → Nat)) (rs : Nat → Nat) : Prop := (ad 0 = a0 ∧ ad 1 = q1 ∧ ad 2 = q2) ∧ (ad 3 = b0 ∧ (∀ k, k < 9 → ad (4 + k) = v0.1 k) ∧ ∀ k, k < 5 → ad (13 + k) = v0.2 k) ∧ (ad 18 = b1 ∧ (∀ k, k < 9 → ad (19 + k) = v1.1 k) ∧ ∀ k, k < 5 → ad (28 + k) = v1.2 k) ∧ ∀ k, ad (33 + k) = rs k
theorem adF_ok (a0 q1 q2 b0 b1 : Nat) (v0 v1 : (Nat → Nat) × (Nat → Nat)) (rs : Nat → Nat) : AdOk (adF a0 q1 q2 b0 b1 v0 v1 rs) a0 q1 q2 b0 b1 v0 v1 rs := by
  refine ⟨⟨rfl, rfl, rfl⟩, ⟨rfl, fun k hk => ?_, fun k hk => ?_⟩, ⟨rfl, fun k hk => ?_, fun k hk => ?_⟩, fun k => ?_⟩
  · unfold adF; rw [if_neg (by omega), if_pos (by omega), if_neg (by omega), if_pos (by omega), Nat.add_sub_cancel_left]
  · unfold adF; rw [if_neg (by omega), if_pos (by omega), if_neg (by omega), if_neg (by omega), Nat.add_sub_cancel_left]
  · unfold adF; rw [if_neg (by omega), if_neg (by omega), if_pos (by omega), if_neg (by omega), if_pos (by omega), Nat.add_sub_cancel_left]
  · unfold adF; rw [if_neg (by omega), if_neg (by omega), if_pos (by omega), if_neg (by omega), if_neg (by omega), Nat.add_sub_cancel_left]
  · unfold adF; rw [if_neg (by omega), if_neg (by omega), if_neg (by omega), Nat.add_sub_cancel_left]
theorem wL_eq {cI cB cR : ClassId} {ad : Nat → Nat} {a0 q1 q2 b0 b1 : Nat} {v0 v1 : (Nat → Nat) × (Nat → Nat)} {rs : Nat → Nat} (k : AdOk ad a0 q1 q2 b0 b1 v0 v1 rs) : wL cI cB cR ad SI = wLb cI cB cR a0 q1 q2 b0 b1 v0 v1 (fun i => some (ad (3 + 15 * i))) (fun i => some (ad (33 + i))) (wQ rs 16) := by
  obtain ⟨⟨k0, k1, k2⟩, ⟨k3, k4, k5⟩, ⟨k6, k7, k8⟩, k9⟩ := k
  have e1 : wRs ad SI.2.2.1 = wQ rs 16 := by
    unfold wRs wQ
    exact List.map_congr_left (fun k _ => by rw [k9 k]; rfl)
  have e2 : wBw cI ad SI 0 = wB cI b0 v0.1 v0.2 hI (fun _ _ => 0) 0 := wB_cong (aH := aHw ad 0) (aM := aMw ad 0) k3 k4 k5
  have e3 : wBw cI ad SI 1 = wB cI b1 v1.1 v1.2 hI (fun _ _ => 0) 0 := wB_cong (aH := aHw ad 1) (aM := aMw ad 1) k6 k7 k8
  have e4 : wLh cB cR ad SI.2.2.2.1 SI.2.2.2.2 = [(a0, .inr (4, [.ref q1, .ref q2, .int 0, .int 0])), (q1, .inl (cB, 2, .inr (.inr (.inr (.inr (fun i => some (ad (3 + 15 * i)))))))), (q2, .inl (cR, 16, .inr (.inr (.inr (.inr (fun i => some (ad (33 + i))))))))] := by
    unfold wLh
    rw [k0, k1, k2]
    rfl
  unfold wL wLb
  rw [e1, e2, e3, e4]
theorem last_at {w : va_W} {q : Nat × va_E} : (w ++ [q])[w.length]? = some q := by simp
def PcO (D : va_G) (cI cZ cB cR : ClassId) (w : va_W) (av : List Value) (sz : Nat) : Array Value → State → Prop := va_Pc av (fun U => U.heap.size = sz ∧ va_P D vwCl w U.heap ∧ EV D cI cZ cB cR U ∧ va_D (fun _ => True) w ∧ va_AO RX0 U ∧ va_AO RX3 U)
theorem PcO_blind {D : va_G} {cI cZ cB cR : ClassId} {w : va_W} {av : List Value} {sz : Nat} : FrameBlind (PcO D cI cZ cB cR w av sz) := fun a U g mk q => ⟨q.1, q.2.1, q.2.2.1, q.2.2.2.1.calling, q.2.2.2.2.1, va_AO.moved (u := U) (U := U.calling g mk a) (Vm.Alike.refl U.vm) q.2.2.2.2.2.1, va_AO.moved (u := U) (U := U.calling g mk a) (Vm.Alike.refl U.vm) q.2.2.2.2.2.2⟩
set_option maxHeartbeats 4000000 in
set_option maxRecDepth 100000 in
theorem x4_loop {p : Program} {l : Launch} {e : Env} {R : Room} {s : State} {m : MethodId} {args : Array Value} {below : List Frame} {meth : Method} {c : Code} {Q : State → Prop} {D : va_G} {cI cZ cB cR : ClassId} {A : Nat → Prop} {a0 q1 q2 b0 b1 : Nat} {v0 v1 : (Nat → Nat) × (Nat → Nat)} {fB : Nat → Option Nat} (hx : p.tables.exec = Jvm.exec) (hb : c.code = cX4_init) (hml : c.maxLocals = 2) (hts : ∀ w ∈ wsX4_init, w.before args s = true) (hown : s.vm.findClass RX4 = some m.cls) (hEV : EV D cI cZ cB cR s) (hA : ∀ q : Nat, s.heap.size ≤ q → A q) (hRc : 48 ≤ R.cells) (hRs : 552 ≤ R.slots) (hRf : 2 ≤ R.frames) (hRl : 32 ≤ R.locals)
    (kk : ∀ (rs : Nat → Nat) (ls : Array Slot) (H : Heap) (locs : List Loc), va_P D vwCl (wLb cI cB cR a0 q1 q2 b0 b1 v0 v1 fB (rF rs 16) (wQ rs 16)) H → va_D A (wLb cI cB cR a0 q1 q2 b0 b1 v0 v1 fB (rF rs 16) (wQ rs 16)) → va_S A s.heap H locs → lv_has ls 2 [(1, .int (nI 16)), (0, .ref a0)] → W p l e R s m args below meth c H locs 48 552 Q (F0 m 68 ls [])) :
    ∀ (k i : Nat) (rs : Nat → Nat) (ls : Array Slot) (H : Heap) (locs : List Loc), 16 - i < k → i ≤ 16 → va_P D vwCl (wLb cI cB cR a0 q1 q2 b0 b1 v0 v1 fB (rF rs i) (wQ rs i)) H → va_D A (wLb cI cB cR a0 q1 q2 b0 b1 v0 v1 fB (rF rs i) (wQ rs i)) → va_S A s.heap H locs → lv_has ls 2 [(1, .int (nI i)), (0, .ref a0)] → W p l e R s m args below meth c H locs (32 + i) (488 + 4 * i) Q (F0 m 43 ls []) := by
  have hK := hEV.1
  intro k
  induction k with
  | zero => intro i rs ls H locs h; exact absurd h (Nat.not_lt_zero _)
  | succ k ih =>
    intro i rs ls H locs hm hi hP hD hS hl
    refine lv_iload_n hx hb dX4_init_43 rfl (lv_at hl 0 rfl) ?_
    refine lv_bipush (v := (16 : Int32)) hx hb dX4_init_44 (by decide) ?_
    refine lv_icmp_ge (tgt := 68) hx hb dX4_init_46 (by decide) (fun c_46 => ?_) (fun c_46 => ?_)
    · have c_46 : 16 ≤ i := (nI_leI (a := 16) (b := i) (by omega) (by omega)).mp c_46
      have e16 : i = 16 := by omega
      subst e16
      exact kk rs ls H locs hP hD hS hl
    · have c_46 : ¬ (16 ≤ i) := fun q9 => c_46 ((nI_leI (a := 16) (b := i) (by omega) (by omega)).mpr q9)
      refine lv_aload_n hx hb dX4_init_49 rfl (lv_at hl 1 rfl) ?_
      refine va_get (D := D) (ci := 4) (v := .ref q2) (C := RX4) (T := TX4) (N := 4) hx hb hts (fun w9 h9 => List.mem_cons_of_mem _ (inT_X4 w9 h9)) hown hK hP 0 rfl rfl 1 (by decide) (hts (.fieldLink RX4 18 "LinkPredictor" "references" "[LLinkPredictor$Reference;") (List.mem_cons_of_mem _ mw_1_165)) (fun _ h9 => h9) rfl dX4_init_50 ?_
      refine lv_iload_n hx hb dX4_init_53 rfl (lv_at hl 0 rfl) ?_
      refine va_new (ci := 3) (fs := [.int 0, .int 0, .int 0, .int 0]) (C := RX3) (T := TX3) (N := 4) hx hb hts (fun w9 h9 => List.mem_cons_of_mem _ (inT_X3 w9 h9)) tyX3 tyX3_ok hown (hts (.classLink RX4 16 RX3) (List.mem_cons_of_mem _ mw_1_140)) (hts (.instantiable RX3 4) (List.mem_cons_of_mem _ mw_1_142)) (hts (.initialized RX3) (List.mem_cons_of_mem _ mw_1_5)) hK hP hD hS hA rfl (fun j hj => by rcases (show j = 0 ∨ j = 1 ∨ j = 2 ∨ j = 3 by omega) with rfl | rfl | rfl | rfl <;> rfl) (by omega) (by omega) dX4_init_54 (fun q3 H hP hD hS => ?_)
      refine lv_dup hx hb dX4_init_57 rfl ?_
      refine mc_IN [] [.ref q3, .int (nI i), .ref q2] ⟨hx, hb, hml, hown, hts⟩ (c_X3_init l D cI cZ cB cR q3) ⟨va_cnB (host := "LinkPredictor") 0 hts (goodC mw_1_145) rfl rfl rfl (hEV.2 (.methodLinkNest RX4 22 yX3_init "LinkPredictor") (by decide +kernel)) (hts (.initialized RX3) (List.mem_cons_of_mem _ mw_1_5)) (by decide +kernel) ⟨hRf, hRl⟩, rfl, hts (.instanceMethod yX3_init) (List.mem_cons_of_mem _ mw_1_144)⟩ hEV hP hD hS hA rfl hl.1 rfl (Nat.le_of_ble_eq_true rfl) dX4_init_58 ⟨by omega, by omega⟩ (fun u3 H locs e3 hP hD hS => ?_)
      have hP : va_P D vwCl (wLb cI cB cR a0 q1 q2 b0 b1 v0 v1 fB (rF rs i) (wQ rs i) ++ [(q3, .inr (3, [.int 0, .int 0, .int 0, .int 0]))]) _ := hP
      have hD : va_D A (wLb cI cB cR a0 q1 q2 b0 b1 v0 v1 fB (rF rs i) (wQ rs i) ++ [(q3, .inr (3, [.int 0, .int 0, .int 0, .int 0]))]) := hD
      refine va_astq (r := (RX3, TX3, 4)) hx hb hK hP hD hS 2 3 _ 3 rfl rfl last_at rfl (vp_in_nI (n := i) (by omega) (by decide)) dX4_init_61 (fun H locs hP hD hS => ?_)
      rw [nI_clamp (by omega)] at hP hD
      have hP : va_P D vwCl (wLb cI cB cR a0 q1 q2 b0 b1 v0 v1 fB (va_up (rF rs i) i (some q3)) (wQ rs i) ++ [(q3, .inr (3, [.int 0, .int 0, .int 0, .int 0]))]) _ := hP
      have hD : va_D A (wLb cI cB cR a0 q1 q2 b0 b1 v0 v1 fB (va_up (rF rs i) i (some q3)) (wQ rs i) ++ [(q3, .inr (3, [.int 0, .int 0, .int 0, .int 0]))]) := hD
      rw [rF_up, wLb_app, wQ_up] at hP hD
      refine lv_iinc (v := nI (i + 1)) (lv' := [(1, .int (nI (i + 1))), (0, .ref a0)]) hx hb dX4_init_62 hl (k := 0) rfl (nI_1 _) (by decide) rfl (fun ls hl => ?_)
      refine lv_goto (tgt := 43) hx hb dX4_init_65 (by decide) ?_
      refine W.widen (k := 32 + (i + 1)) (n := 488 + 4 * (i + 1)) (by omega) (by omega) ?_
      exact ih (i + 1) (va_up rs i q3) ls _ _ (by omega) (by omega) hP hD hS hl
set_option maxHeartbeats 4000000 in
set_option maxRecDepth 100000 in
theorem c_X4_init (l : Launch) (D : va_G) (cI cZ cB cR : ClassId) (a0 : Nat) (wf : WFT (vwH h00)) (sz : Nat) : Met l yX4_init wsX4_init ({ frames := 40, cells := 48, slots := 552, locals := 1064 } : Room) (PcO D cI cZ cB cR [(a0, .inr (4, [.null, .null, .int 0, .int 0]))] [.ref a0] sz) (va_Qv (fun (u : Nat → Nat) => u 0 = a0) (fun u t => va_P D vwCl (wL cI cB cR u SI) t.heap ∧ va_D (va_A [(a0, .inr (4, [.null, .null, .int 0, .int 0]))] sz) (wL cI cB cR u SI)) (va_A [(a0, .inr (4, [.null, .null, .int 0, .int 0]))] sz)) 48 552 (va_A [(a0, .inr (4, [.null, .null, .int 0, .int 0]))] sz) := by
  refine Met.ofW (cc := cX4_init) (maxL := 2) (ret := none) (by decide) rfl ?_
  intro p e s m args below meth c s₁ B hml hv
  obtain ⟨hargs, hsz, hP, hEV, hD0, hO0, hO3⟩ := hv
  have hx := B.exec
  have hb := B.bytes
  have hr := B.returns
  have hts := atoms_spec (ws := wsX4_init) B.pre
  have hown : s.vm.findClass RX4 = some m.cls := findClass_of_methodNamed B.named
  have hlocks := B.notSynchronized
  have hin : meth.name = "<init>" := (name_of_methodNamed B.named B.method).1
  have hK := hEV.1
  have hl := lv_entry ([.ref a0]) (n := 2) (Nat.le_of_ble_eq_true rfl)
  rw [show entryFrame m args 2 = entryFrame m ([.ref a0] : List Value).toArray 2 from by rw [hargs], lg_entry_eq]
  generalize (lg_sl ([.ref a0]) ++ List.replicate (2 - (lg_sl ([.ref a0])).length) Slot.unset).toArray = ls at hl ⊢
  have hl : lv_has ls 2 [(0, .ref a0)] := hl
  subst hsz
  have hD := hD0.self (sz := s.heap.size)
  generalize hAe : va_A [(a0, .inr (4, [.null, .null, .int 0, .int 0]))] s.heap.size = A at hD ⊢
  have hA : ∀ q : Nat, s.heap.size ≤ q → A q := fun q h9 => by rw [← hAe]; exact Or.inr h9
  have hS : va_S A s.heap s.heap [] := va_S.rf
  have hP : va_P D vwCl [(a0, .inr (4, [.null, .null, .int 0, .int 0]))] s.heap := hP
  refine lv_aload_n hx hb dX4_init_0 rfl (lv_at hl 0 rfl) ?_
  refine W.objInit hx hb hown (hts (.methodLink RX4 3 Lib.objectInit) (List.mem_cons_of_mem _ mw_1_15)) (hts (.instanceMethod Lib.objectInit) (List.mem_cons_of_mem _ mw_1_16)) (hts (.code Lib.objectInit ⟨#[0xb1]⟩ 1 none) (List.mem_cons_of_mem _ mw_1_17)) rfl (by rw [hml]; exact hl.1) rfl dX4_init_1 (Nat.le_of_ble_eq_true rfl) (Nat.le_of_ble_eq_true rfl) ?_
  refine W.eq (g2 := F0 m 4 ls []) rfl ?_
  refine lv_aload_n hx hb dX4_init_4 rfl (lv_at hl 0 rfl) ?_
  refine lv_iconst (v := (2 : Int32)) hx hb dX4_init_5 (by decide) ?_
  refine mc_newO hx hb hown (hts (.classLink RX4 9 RX0) (List.mem_cons_of_mem _ mw_1_18)) hO0 hEV 2 rfl hP hD hS hA (by decide) rfl (Nat.le_of_ble_eq_true rfl) (Nat.le_of_ble_eq_true rfl) (Nat.le_of_ble_eq_true rfl) dX4_init_6 (fun q1 H hP hD hS => ?_)
  refine W.widen (k := 1) (n := 2) (Nat.le_of_ble_eq_true rfl) (Nat.le_of_ble_eq_true rfl) ?_
  have hP : va_P D vwCl ([(a0, .inr (4, [.null, .null, .int 0, .int 0])), (q1, .inl (cB, 2, .inr (.inr (.inr (.inr (fun _ => none))))))]) _ := hP
  have hD : va_D A ([(a0, .inr (4, [.null, .null, .int 0, .int 0])), (q1, .inl (cB, 2, .inr (.inr (.inr (.inr (fun _ => none))))))]) := hD
  refine lv_dup hx hb dX4_init_9 rfl ?_
  refine lv_iconst (v := nI 0) hx hb dX4_init_10 (by decide) ?_
  refine va_new (ci := 0) (fs := [.null, .null, .int 0]) (C := RX0) (T := TX0) (N := 3) hx hb hts (fun w9 h9 => List.mem_cons_of_mem _ (inT_X0 w9 h9)) tyX0 tyX0_ok hown (hts (.classLink RX4 9 RX0) (List.mem_cons_of_mem _ mw_1_18)) (hts (.instantiable RX0 3) (List.mem_cons_of_mem _ mw_1_20)) (hts (.initialized RX0) (List.mem_cons_of_mem _ mw_1_2)) hK hP hD hS hA rfl (fun j hj => by rcases (show j = 0 ∨ j = 1 ∨ j = 2 by omega) with rfl | rfl | rfl <;> rfl) (Nat.le_of_ble_eq_true rfl) (Nat.le_of_ble_eq_true rfl) dX4_init_11 (fun b0 H hP hD hS => ?_)
  refine W.widen (k := 2) (n := 5) (Nat.le_of_ble_eq_true rfl) (Nat.le_of_ble_eq_true rfl) ?_
  refine lv_dup hx hb dX4_init_14 rfl ?_
  refine mc_IN (w := [(a0, .inr (4, [.null, .null, .int 0, .int 0])), (q1, .inl (cB, 2, .inr (.inr (.inr (.inr (fun _ => none))))))]) [] [.ref b0, .int (nI 0), .ref q1, .ref q1, .ref a0] ⟨hx, hb, hml, hown, hts⟩ (c_X0_init l D cI cZ cB cR b0 wf) ⟨va_cnB (host := "LinkPredictor") 0 hts (goodC mw_1_23) rfl rfl rfl (hEV.2 (.methodLinkNest RX4 11 yX0_init "LinkPredictor") (by decide +kernel)) (hts (.initialized RX0) (List.mem_cons_of_mem _ mw_1_2)) (by decide +kernel) ⟨Nat.le_of_ble_eq_true rfl, Nat.le_of_ble_eq_true rfl⟩, rfl, hts (.instanceMethod yX0_init) (List.mem_cons_of_mem _ mw_1_22)⟩ hEV hP hD hS hA rfl hl.1 rfl (Nat.le_of_ble_eq_true rfl) dX4_init_15 ⟨Nat.le_of_ble_eq_true rfl, Nat.le_of_ble_eq_true rfl⟩ (fun v0 H locs e9 hP hD hS => ?_)
  refine W.widen (k := 16) (n := 237) (Nat.le_of_ble_eq_true rfl) (Nat.le_of_ble_eq_true rfl) ?_
  have hP : va_P D vwCl ([(a0, .inr (4, [.null, .null, .int 0, .int 0])), (q1, .inl (cB, 2, .inr (.inr (.inr (.inr (fun _ => none))))))] ++ wB cI b0 v0.1 v0.2 hI (fun _ _ => 0) 0) _ := hP
  have hD : va_D A ([(a0, .inr (4, [.null, .null, .int 0, .int 0])), (q1, .inl (cB, 2, .inr (.inr (.inr (.inr (fun _ => none))))))] ++ wB cI b0 v0.1 v0.2 hI (fun _ _ => 0) 0) := hD
  refine va_astq (r := (RX0, TX0, 3)) hx hb hK hP hD hS 1 2 2 0 rfl rfl rfl rfl (vp_in_nI (n := 0) (by omega) (by decide)) dX4_init_18 (fun H locs hP hD hS => ?_)
  rw [nI_clamp (by omega)] at hP hD
  have hP : va_P D vwCl ([(a0, .inr (4, [.null, .null, .int 0, .int 0])), (q1, .inl (cB, 2, .inr (.inr (.inr (.inr (va_up (fun _ => none) 0 (some b0)))))))] ++ wB cI b0 v0.1 v0.2 hI (fun _ _ => 0) 0) _ := hP
  have hD : va_D A ([(a0, .inr (4, [.null, .null, .int 0, .int 0])), (q1, .inl (cB, 2, .inr (.inr (.inr (.inr (va_up (fun _ => none) 0 (some b0)))))))] ++ wB cI b0 v0.1 v0.2 hI (fun _ _ => 0) 0) := hD
  refine lv_dup hx hb dX4_init_19 rfl ?_
  refine lv_iconst (v := nI 1) hx hb dX4_init_20 (by decide) ?_
  refine va_new (ci := 0) (fs := [.null, .null, .int 0]) (C := RX0) (T := TX0) (N := 3) hx hb hts (fun w9 h9 => List.mem_cons_of_mem _ (inT_X0 w9 h9)) tyX0 tyX0_ok hown (hts (.classLink RX4 9 RX0) (List.mem_cons_of_mem _ mw_1_18)) (hts (.instantiable RX0 3) (List.mem_cons_of_mem _ mw_1_20)) (hts (.initialized RX0) (List.mem_cons_of_mem _ mw_1_2)) hK hP hD hS hA rfl (fun j hj => by rcases (show j = 0 ∨ j = 1 ∨ j = 2 by omega) with rfl | rfl | rfl <;> rfl) (Nat.le_of_ble_eq_true rfl) (Nat.le_of_ble_eq_true rfl) dX4_init_21 (fun b1 H hP hD hS => ?_)
  refine W.widen (k := 17) (n := 240) (Nat.le_of_ble_eq_true rfl) (Nat.le_of_ble_eq_true rfl) ?_
  refine lv_dup hx hb dX4_init_24 rfl ?_
  refine mc_IN (w := [(a0, .inr (4, [.null, .null, .int 0, .int 0])), (q1, .inl (cB, 2, .inr (.inr (.inr (.inr (va_up (fun _ => none) 0 (some b0)))))))] ++ wB cI b0 v0.1 v0.2 hI (fun _ _ => 0) 0) [] [.ref b1, .int (nI 1), .ref q1, .ref q1, .ref a0] ⟨hx, hb, hml, hown, hts⟩ (c_X0_init l D cI cZ cB cR b1 wf) ⟨va_cnB (host := "LinkPredictor") 0 hts (goodC mw_1_23) rfl rfl rfl (hEV.2 (.methodLinkNest RX4 11 yX0_init "LinkPredictor") (by decide +kernel)) (hts (.initialized RX0) (List.mem_cons_of_mem _ mw_1_2)) (by decide +kernel) ⟨Nat.le_of_ble_eq_true rfl, Nat.le_of_ble_eq_true rfl⟩, rfl, hts (.instanceMethod yX0_init) (List.mem_cons_of_mem _ mw_1_22)⟩ hEV hP hD hS hA rfl hl.1 rfl (Nat.le_of_ble_eq_true rfl) dX4_init_25 ⟨Nat.le_of_ble_eq_true rfl, Nat.le_of_ble_eq_true rfl⟩ (fun v1 H locs e9 hP hD hS => ?_)
  refine W.widen (k := 31) (n := 472) (Nat.le_of_ble_eq_true rfl) (Nat.le_of_ble_eq_true rfl) ?_
  have hP : va_P D vwCl ([(a0, .inr (4, [.null, .null, .int 0, .int 0])), (q1, .inl (cB, 2, .inr (.inr (.inr (.inr (va_up (fun _ => none) 0 (some b0)))))))] ++ wB cI b0 v0.1 v0.2 hI (fun _ _ => 0) 0 ++ wB cI b1 v1.1 v1.2 hI (fun _ _ => 0) 0) _ := hP
  have hD : va_D A ([(a0, .inr (4, [.null, .null, .int 0, .int 0])), (q1, .inl (cB, 2, .inr (.inr (.inr (.inr (va_up (fun _ => none) 0 (some b0)))))))] ++ wB cI b0 v0.1 v0.2 hI (fun _ _ => 0) 0 ++ wB cI b1 v1.1 v1.2 hI (fun _ _ => 0) 0) := hD
  refine va_astq (r := (RX0, TX0, 3)) hx hb hK hP hD hS 1 2 17 0 rfl rfl rfl rfl (vp_in_nI (n := 1) (by omega) (by decide)) dX4_init_28 (fun H locs hP hD hS => ?_)
  rw [nI_clamp (by omega)] at hP hD
  have hP : va_P D vwCl ([(a0, .inr (4, [.null, .null, .int 0, .int 0])), (q1, .inl (cB, 2, .inr (.inr (.inr (.inr (va_up (va_up (fun _ => none) 0 (some b0)) 1 (some b1)))))))] ++ wB cI b0 v0.1 v0.2 hI (fun _ _ => 0) 0 ++ wB cI b1 v1.1 v1.2 hI (fun _ _ => 0) 0) _ := hP
  have hD : va_D A ([(a0, .inr (4, [.null, .null, .int 0, .int 0])), (q1, .inl (cB, 2, .inr (.inr (.inr (.inr (va_up (va_up (fun _ => none) 0 (some b0)) 1 (some b1)))))))] ++ wB cI b0 v0.1 v0.2 hI (fun _ _ => 0) 0 ++ wB cI b1 v1.1 v1.2 hI (fun _ _ => 0) 0) := hD
  refine va_putF (D := D) (ci := 4) (v := .ref q1) (ty := .array (.object "LinkPredictor$Build")) (C := RX4) (T := TX4) (N := 4) hx hb hts (fun w9 h9 => List.mem_cons_of_mem _ (inT_X4 w9 h9)) tyX4 tyX4_ok nmX4 hown hK hP hD hS 0 rfl rfl 0 (by decide) (hts (.fieldLink RX4 12 "LinkPredictor" "builds" "[LLinkPredictor$Build;") (List.mem_cons_of_mem _ mw_1_164)) (fun _ h9 => h9) rfl hin rfl (by decide +kernel) rfl rfl (Nat.le_of_ble_eq_true rfl) dX4_init_29 (fun H locs hP hD hS => ?_)
  have hP : va_P D vwCl ([(a0, .inr (4, [.ref q1, .null, .int 0, .int 0])), (q1, .inl (cB, 2, .inr (.inr (.inr (.inr (va_up (va_up (fun _ => none) 0 (some b0)) 1 (some b1)))))))] ++ wB cI b0 v0.1 v0.2 hI (fun _ _ => 0) 0 ++ wB cI b1 v1.1 v1.2 hI (fun _ _ => 0) 0) _ := hP
  have hD : va_D A ([(a0, .inr (4, [.ref q1, .null, .int 0, .int 0])), (q1, .inl (cB, 2, .inr (.inr (.inr (.inr (va_up (va_up (fun _ => none) 0 (some b0)) 1 (some b1)))))))] ++ wB cI b0 v0.1 v0.2 hI (fun _ _ => 0) 0 ++ wB cI b1 v1.1 v1.2 hI (fun _ _ => 0) 0) := hD
  refine lv_aload_n hx hb dX4_init_32 rfl (lv_at hl 0 rfl) ?_
  refine lv_bipush (v := (16 : Int32)) hx hb dX4_init_33 (by decide) ?_
  refine mc_newO hx hb hown (hts (.classLink RX4 16 RX3) (List.mem_cons_of_mem _ mw_1_140)) hO3 hEV 3 rfl hP hD hS hA (by decide) rfl (Nat.le_of_ble_eq_true rfl) (Nat.le_of_ble_eq_true rfl) (Nat.le_of_ble_eq_true rfl) dX4_init_35 (fun q2 H hP hD hS => ?_)
  refine W.widen (k := 32) (n := 488) (Nat.le_of_ble_eq_true rfl) (Nat.le_of_ble_eq_true rfl) ?_
  refine va_putF (D := D) (ci := 4) (v := .ref q2) (ty := .array (.object "LinkPredictor$Reference")) (C := RX4) (T := TX4) (N := 4) hx hb hts (fun w9 h9 => List.mem_cons_of_mem _ (inT_X4 w9 h9)) tyX4 tyX4_ok nmX4 hown hK hP hD hS 0 rfl rfl 1 (by decide) (hts (.fieldLink RX4 18 "LinkPredictor" "references" "[LLinkPredictor$Reference;") (List.mem_cons_of_mem _ mw_1_165)) (fun _ h9 => h9) rfl hin rfl (by decide +kernel) rfl rfl (Nat.le_of_ble_eq_true rfl) dX4_init_38 (fun H locs hP hD hS => ?_)
  have hP : va_P D vwCl ([(a0, .inr (4, [.ref q1, .ref q2, .int 0, .int 0])), (q1, .inl (cB, 2, .inr (.inr (.inr (.inr (va_up (va_up (fun _ => none) 0 (some b0)) 1 (some b1)))))))] ++ wB cI b0 v0.1 v0.2 hI (fun _ _ => 0) 0 ++ wB cI b1 v1.1 v1.2 hI (fun _ _ => 0) 0 ++ [(q2, .inl (cR, 16, .inr (.inr (.inr (.inr (fun _ => none))))))]) _ := hP
  have hD : va_D A ([(a0, .inr (4, [.ref q1, .ref q2, .int 0, .int 0])), (q1, .inl (cB, 2, .inr (.inr (.inr (.inr (va_up (va_up (fun _ => none) 0 (some b0)) 1 (some b1)))))))] ++ wB cI b0 v0.1 v0.2 hI (fun _ _ => 0) 0 ++ wB cI b1 v1.1 v1.2 hI (fun _ _ => 0) 0 ++ [(q2, .inl (cR, 16, .inr (.inr (.inr (.inr (fun _ => none))))))]) := hD
  have hP := hP.sub (ws' := wLb cI cB cR a0 q1 q2 b0 b1 v0 v1 (va_up (va_up (fun _ => none) 0 (some b0)) 1 (some b1)) (rF (fun _ => 0) 0) (wQ (fun _ => 0) 0)) [0, 1, 32, 2, 3, 4, 5, 6, 7, 8, 9, 10, 11, 12, 13, 14, 15, 16, 17, 18, 19, 20, 21, 22, 23, 24, 25, 26, 27, 28, 29, 30, 31] rfl
  have hD := hD.sub (ws' := wLb cI cB cR a0 q1 q2 b0 b1 v0 v1 (va_up (va_up (fun _ => none) 0 (some b0)) 1 (some b1)) (rF (fun _ => 0) 0) (wQ (fun _ => 0) 0)) [0, 1, 32, 2, 3, 4, 5, 6, 7, 8, 9, 10, 11, 12, 13, 14, 15, 16, 17, 18, 19, 20, 21, 22, 23, 24, 25, 26, 27, 28, 29, 30, 31] (by decide) rfl
  refine lv_iconst (v := nI 0) hx hb dX4_init_41 (by decide) ?_
  refine lv_istore_n (lv' := [(1, .int (nI 0)), (0, .ref a0)]) hx hb dX4_init_42 rfl hl (by decide) rfl (fun ls hl => ?_)
  refine x4_loop hx hb hml hts hown hEV hA (Nat.le_of_ble_eq_true rfl) (Nat.le_of_ble_eq_true rfl) (Nat.le_of_ble_eq_true rfl) (Nat.le_of_ble_eq_true rfl) (fun rs ls H locs hP hD hS hl => ?_) 17 0 (fun _ => 0) ls _ _ (by omega) (by omega) hP hD hS hl
  refine lv_aload_n hx hb dX4_init_68 rfl (lv_at hl 1 rfl) ?_
  refine lv_iconst (v := (0 : Int32)) hx hb dX4_init_69 (by decide) ?_
  refine va_put (D := D) (ci := 4) (v := .int 0) (ty := .int) (C := RX4) (T := TX4) (N := 4) hx hb hts (fun w9 h9 => List.mem_cons_of_mem _ (inT_X4 w9 h9)) tyX4 tyX4_ok nmX4 hown hK hP hD hS 0 rfl rfl 2 (by decide) (hts (.fieldLink RX4 23 "LinkPredictor" "referenceCount" "I") (List.mem_cons_of_mem _ mw_1_166)) (fun _ h9 => h9) rfl (by decide +kernel) rfl rfl (Nat.le_of_ble_eq_true rfl) dX4_init_70 (fun H locs hP hD hS => ?_)
  have hP : va_P D vwCl (wLb cI cB cR a0 q1 q2 b0 b1 v0 v1 (va_up (va_up (fun _ => none) 0 (some b0)) 1 (some b1)) (rF rs 16) (wQ rs 16)) _ := hP
  have hD : va_D A (wLb cI cB cR a0 q1 q2 b0 b1 v0 v1 (va_up (va_up (fun _ => none) 0 (some b0)) 1 (some b1)) (rF rs 16) (wQ rs 16)) := hD
  refine lv_aload_n hx hb dX4_init_73 rfl (lv_at hl 1 rfl) ?_
  refine lv_iconst (v := (0 : Int32)) hx hb dX4_init_74 (by decide) ?_
  refine va_put (D := D) (ci := 4) (v := .int 0) (ty := .int) (C := RX4) (T := TX4) (N := 4) hx hb hts (fun w9 h9 => List.mem_cons_of_mem _ (inT_X4 w9 h9)) tyX4 tyX4_ok nmX4 hown hK hP hD hS 0 rfl rfl 3 (by decide) (hts (.fieldLink RX4 27 "LinkPredictor" "written" "I") (List.mem_cons_of_mem _ mw_1_167)) (fun _ h9 => h9) rfl (by decide +kernel) rfl rfl (Nat.le_of_ble_eq_true rfl) dX4_init_75 (fun H locs hP hD hS => ?_)
  have hP : va_P D vwCl (wLb cI cB cR a0 q1 q2 b0 b1 v0 v1 (va_up (va_up (fun _ => none) 0 (some b0)) 1 (some b1)) (rF rs 16) (wQ rs 16)) _ := hP
  have hD : va_D A (wLb cI cB cR a0 q1 q2 b0 b1 v0 v1 (va_up (va_up (fun _ => none) 0 (some b0)) 1 (some b1)) (rF rs 16) (wQ rs 16)) := hD
  obtain ⟨ad, hok⟩ : ∃ ad : Nat → Nat, AdOk ad a0 q1 q2 b0 b1 v0 v1 rs := ⟨_, adF_ok a0 q1 q2 b0 b1 v0 v1 rs⟩
  have hP : va_P D vwCl (wLb cI cB cR a0 q1 q2 b0 b1 v0 v1 (fun i => some (ad (3 + 15 * i))) (rF rs 16) (wQ rs 16)) H := va_P_cell (k := 1) (g := fun i => some (ad (3 + 15 * i))) hP rfl (fun j hj => (lt2 hj).elim (fun e => by subst e; exact congrArg some hok.2.1.1.symm) (fun e => by subst e; exact congrArg some hok.2.2.1.1.symm))
  have hP : va_P D vwCl (wLb cI cB cR a0 q1 q2 b0 b1 v0 v1 (fun i => some (ad (3 + 15 * i))) (fun i => some (ad (33 + i))) (wQ rs 16)) H := va_P_cell (k := 2) (g := fun i => some (ad (33 + i))) hP rfl (fun j hj => by rw [hok.2.2.2 j]; exact if_pos hj)
  have hD := hD.adr (wLb_adr (gB := fun i => some (ad (3 + 15 * i))) (g := fun i => some (ad (33 + i))) (X := wQ rs 16)).symm
  rw [← wL_eq hok] at hP hD
  exact W.vret hx hb hr (fun t9 ht9 _ => ⟨⟨ad, rfl, hok.1.1, by rw [ht9]; exact hP, hD⟩, hS.F ht9⟩) hS.2.2 dX4_init_78
