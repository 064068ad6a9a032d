set_option maxHeartbeats 4000000 in
set_option maxRecDepth 100000 in
theorem law_env {s : State} {args : Array Value} (hts : ∀ w ∈ lw_tbl, w.before args s = true) : ∃ (D : va_G) (cI cZ cB cR : ClassId), EV D cI cZ cB cR s ∧ va_AO RX0 s ∧ va_AO RX3 s := by
  have hNW : NW s := List.forall_mem_cons.mpr ⟨va_Nw.of rfl (hts _ nw_1_129), List.forall_mem_cons.mpr ⟨va_Nw.of rfl (hts _ nw_1_131), List.forall_mem_cons.mpr ⟨va_Nw.of rfl (hts _ nw_1_148), List.forall_mem_cons.mpr ⟨va_Nw.of rfl (hts _ nw_1_150), List.forall_mem_cons.mpr ⟨va_Nw.of rfl (hts _ nw_1_152), List.forall_mem_cons.mpr ⟨va_Nw.of rfl (hts _ nw_1_154), List.forall_mem_cons.mpr ⟨va_Nw.of rfl (hts _ nw_1_21), List.forall_mem_cons.mpr ⟨va_Nw.of rfl (hts _ nw_1_31), List.forall_mem_cons.mpr ⟨va_Nw.of rfl (hts _ nw_1_46), List.forall_mem_cons.mpr ⟨va_Nw.of rfl (hts _ nw_1_53), List.forall_mem_cons.mpr ⟨va_Nw.of rfl (hts _ nw_1_105), List.forall_mem_cons.mpr ⟨va_Nw.of rfl (hts _ nw_1_143), List.forall_mem_cons.mpr ⟨va_Nw.of rfl (hts _ nw_1_212), List.forall_mem_cons.mpr ⟨va_Nw.of rfl (hts _ nw_1_229), List.forall_mem_cons.mpr ⟨va_Nw.of rfl (hts _ nw_2_6), List.forall_mem_cons.mpr ⟨va_Nw.of rfl (hts _ nw_2_78), List.forall_mem_cons.mpr ⟨va_Nw.of rfl (hts _ nw_2_99), List.forall_mem_cons.mpr ⟨va_Nw.of rfl (hts _ nw_2_100), fun _ h9 => absurd h9 List.not_mem_nil⟩⟩⟩⟩⟩⟩⟩⟩⟩⟩⟩⟩⟩⟩⟩⟩⟩⟩
  obtain ⟨c0, iS0, hKn0⟩ := u_known (C := RX0) (T := TX0) (N := 3) (n := 3) hts (fun w9 h9 => TT_in (inT_X0 w9 h9)) (hts (.instantiable RX0 3) (TT_in mw_1_20))
  obtain ⟨c1, iS1, hKn1⟩ := u_known (C := RX1) (T := TX1) (N := 10) (n := 10) hts (fun w9 h9 => TT_in (inT_X1 w9 h9)) (hts (.instantiable RX1 10) (TT_in mw_1_26))
  obtain ⟨c2, iS2, hKn2⟩ := u_known (C := RX2) (T := TX2) (N := 6) (n := 6) hts (fun w9 h9 => TT_in (inT_X2 w9 h9)) (hts (.instantiable RX2 6) (TT_in mw_1_104))
  obtain ⟨c3, iS3, hKn3⟩ := u_known (C := RX3) (T := TX3) (N := 4) (n := 4) hts (fun w9 h9 => TT_in (inT_X3 w9 h9)) (hts (.instantiable RX3 4) (TT_in mw_1_142))
  obtain ⟨c4, iS4, hKn4⟩ := u_known (C := RX4) (T := TX4) (N := 4) (n := 4) hts (fun w9 h9 => TT_in (inT_X4 w9 h9)) (hts (.instantiable RX4 4) (TT_in mw_1_11))
  obtain ⟨c5, iS5, hKn5⟩ := u_known (C := RX5) (T := TX5) (N := 21) (n := 21) hts (fun w9 h9 => TT_in (inT_X5 w9 h9)) (hts (.instantiable RX5 21) (TT_in mw_3_61))
  have hO0 : va_AO RX0 s := va_AO.of (hts (.arrayOver (.object RX0)) nw_1_19)
  have hO3 : va_AO RX3 s := va_AO.of (hts (.arrayOver (.object RX3)) nw_1_141)
  obtain ⟨cI, kI, compI, i1, i2, i3⟩ := Cond.arrayClass_spec (hts (.arrayClass .int) (TT_in mw_1_102))
  obtain ⟨cZ, kZ, compZ, z1, z2, z3⟩ := Cond.arrayClass_spec (hts (.arrayClass .boolean) (TT_in mw_3_130))
  obtain ⟨compB, cB, kB, b1, b2, b3, b4, b5⟩ := Cond.arrayOver_spec hO0
  obtain ⟨compR, cR, kR, r1, r2, r3, r4, r5⟩ := Cond.arrayOver_spec hO3
  refine ⟨(fun k => if k = 0 then c0 else if k = 1 then c1 else if k = 2 then c2 else if k = 3 then c3 else if k = 4 then c4 else c5, fun k => if k = 0 then iS0 else if k = 1 then iS1 else if k = 2 then iS2 else if k = 3 then iS3 else if k = 4 then iS4 else iS5), cI, cZ, cB, cR, ⟨⟨fun k q hq => ?_, fun k q hq => ?_⟩, hNW⟩, hO0, hO3⟩
  · match k, hq with
    | 0, hq => cases hq; exact hKn0
    | 1, hq => cases hq; exact hKn1
    | 2, hq => cases hq; exact hKn2
    | 3, hq => cases hq; exact hKn3
    | 4, hq => cases hq; exact hKn4
    | 5, hq => cases hq; exact hKn5
    | k + 6, hq => simp [vwCl] at hq
  · match k, hq with
    | 0, hq => cases hq; exact ⟨fun n z => ⟨(fun k h => by cases h), kI, i2, compI, i3⟩, i1⟩
    | 1, hq => cases hq; exact ⟨fun n z => ⟨(fun k h => by cases h), kZ, z2, compZ, z3⟩, z1⟩
    | 2, hq => cases hq; exact ⟨fun n z => ⟨(fun k h => by cases h), kB, b3, compB, b4⟩, kB, compB, b3, b4, b1, b5⟩
    | 3, hq => cases hq; exact ⟨fun n z => ⟨(fun k h => by cases h), kR, r3, compR, r4⟩, kR, compR, r3, r4, r1, r5⟩
    | k + 4, hq => simp [tysA] at hq
set_option maxHeartbeats 4000000 in
set_option maxRecDepth 100000 in
/-- the law, from its entry -/
theorem whole_start {p : Program} {e : Env} {s : State} {m : MethodId} {below : List Frame} {meth : Method} {c : Code} (l : Launch) (hflags : l.flags = flags0) {b L : Nat} {xs : Nat → Int32} (hL : L ≤ 384) (C0 : lw_At p s m meth c b L xs) : W p l e room_1 s m #[Value.ref b] below meth c s.heap [] 0 0 (lw_Z below #[Value.ref b] s) (entryFrame m ([Value.ref b] : List Value).toArray 4) := by
  obtain ⟨hx, hb, hr, hml, hown, hts, hX, hbl, hlocks, hgv⟩ := id C0
  obtain ⟨D, cI, cZ, cB, cR, hEV, hO0, hO3⟩ := law_env hts
  have hK := hEV.1
  have hA : ∀ q : Nat, s.heap.size ≤ q → (fun q : Nat => s.heap.size ≤ q) q := fun _ h => h
  have hS : va_S (fun q : Nat => s.heap.size ≤ q) s.heap s.heap [] := va_S.rf
  have hP : va_P D vwCl [] s.heap := va_P0
  have hD : va_D (fun q : Nat => s.heap.size ≤ q) [] := ⟨fun i j p q h => by simp at h, fun k q h => by simp at h⟩
  have hl := lv_entry ([.ref b]) (n := 4) (Nat.le_of_ble_eq_true rfl)
  rw [lg_entry_eq]
  generalize (lg_sl ([.ref b]) ++ List.replicate (4 - (lg_sl ([.ref b])).length) Slot.unset).toArray = ls at hl ⊢
  have hl : lv_has ls 4 [(0, .ref b)] := hl
  refine va_new (ci := 4) (fs := [.null, .null, .int 0, .int 0]) (C := RX4) (T := TX4) (N := 4) hx hb hts (fun w9 h9 => TT_in (inT_X4 w9 h9)) tyX4 tyX4_ok hown (hts (.classLink R_law 7 RX4) (TT_in mw_1_10)) (hts (.instantiable RX4 4) (TT_in mw_1_11)) (hts (.initialized RX4) (TT_in mw_1_1)) hK hP hD hS hA rfl (fun j hj => by rcases (show j = 0 ∨ j = 1 ∨ j = 2 ∨ j = 3 by omega) with rfl | rfl | rfl | rfl <;> rfl) (Nat.le_of_ble_eq_true rfl) (Nat.le_of_ble_eq_true rfl) dL_law_0 (fun q0 H hP hD hS => ?_)
  have hP : va_P D vwCl [(q0, .inr (4, [.null, .null, .int 0, .int 0]))] H := hP
  have hD : va_D (fun q : Nat => s.heap.size ≤ q) [(q0, .inr (4, [.null, .null, .int 0, .int 0]))] := hD
  refine W.widen (k := 1) (n := 4) (Nat.le_of_ble_eq_true rfl) (Nat.le_of_ble_eq_true rfl) ?_
  refine lv_dup hx hb dL_law_3 rfl ?_
  have hF := va_into hD hS hA
  refine va_callv (va_runI (As := []) (rest := [.ref q0]) ⟨hx, hb, hml, hown, hts⟩ (c_X4_init l D cI cZ cB cR q0 st_wfh H.size) (cwI 0 hts (goodPL (ps := []) (fun _ h => absurd h List.not_mem_nil) mw_1_14) rfl rfl rfl (hts (.initialized RX4) (TT_in mw_1_1)) (hts (.methodLink R_law 9 yX4_init) (TT_in mw_1_12)) (hts (.instanceMethod yX4_init) (TT_in mw_1_13)) rfl (by decide +kernel) ⟨Nat.le_of_ble_eq_true rfl, Nat.le_of_ble_eq_true rfl⟩) ⟨PcO_blind, fun U hU hW => ⟨rfl, by rw [hU], by rw [hU]; exact hP, hEV.warm hW, hD.weaken (fun _ _ _ _ => trivial), va_AO.moved hW.alike hO0, va_AO.moved hW.alike hO3⟩⟩ rfl rfl hl.1 rfl (lv_room (Nat.le_of_ble_eq_true rfl)) dL_law_4 ⟨Nat.le_of_ble_eq_true rfl, Nat.le_of_ble_eq_true rfl⟩) hS (fun q _ h => hF q h) hF (fun ad t H1 locs ht hvm hw hB hz1 hk1 hS => ?_)
  rw [ht] at hB
  obtain ⟨hP, hD1⟩ := hB
  have hD : va_D (fun q : Nat => s.heap.size ≤ q) (wL cI cB cR ad SI) := hD1.weaken (fun k q _ h => hF _ h)
  refine W.widen (k := 49) (n := 556) (Nat.le_of_ble_eq_true rfl) (Nat.le_of_ble_eq_true rfl) ?_
  rw [← (show ad 0 = q0 from hw)]
  refine lv_astore_n (lv' := [(1, .ref (ad 0)), (0, .ref b)]) hx hb dL_law_7 rfl hl (by decide) rfl (fun ls hl => ?_)
  refine va_new (ci := 5) (fs := [.null, .null, .null, .null, .null, .null, .null, .null, .null, .null, .null, .null, .null, .null, .null, .null, .null, .int 0, .int 0, .null, .null]) (C := RX5) (T := TX5) (N := 21) hx hb hts (fun w9 h9 => TT_in (inT_X5 w9 h9)) tyX5 tyX5_ok hown (hts (.classLink R_law 10 RX5) (TT_in mw_3_60)) (hts (.instantiable RX5 21) (TT_in mw_3_61)) (hts (.initialized RX5) (TT_in mw_1_6)) hK hP hD hS hA rfl (fun j hj => by rcases (show j = 0 ∨ j = 1 ∨ j = 2 ∨ j = 3 ∨ j = 4 ∨ j = 5 ∨ j = 6 ∨ j = 7 ∨ j = 8 ∨ j = 9 ∨ j = 10 ∨ j = 11 ∨ j = 12 ∨ j = 13 ∨ j = 14 ∨ j = 15 ∨ j = 16 ∨ j = 17 ∨ j = 18 ∨ j = 19 ∨ j = 20 by omega) with rfl | rfl | rfl | rfl | rfl | rfl | rfl | rfl | rfl | rfl | rfl | rfl | rfl | rfl | rfl | rfl | rfl | rfl | rfl | rfl | rfl <;> rfl) (Nat.le_of_ble_eq_true rfl) (Nat.le_of_ble_eq_true rfl) dL_law_8 (fun q1 H hP hD hS => ?_)
  refine W.widen (k := 50) (n := 577) (Nat.le_of_ble_eq_true rfl) (Nat.le_of_ble_eq_true rfl) ?_
  refine lv_dup hx hb dL_law_11 rfl ?_
  refine mc_I [] [.ref q1] ⟨hx, hb, hml, hown, hts⟩ (c_X5_init l D cI cZ cB cR q1) (cwI 0 hts (goodPL (ps := []) (fun _ h => absurd h List.not_mem_nil) mw_3_64) rfl rfl rfl (hts (.initialized RX5) (TT_in mw_1_6)) (hts (.methodLink R_law 12 yX5_init) (TT_in mw_3_62)) (hts (.instanceMethod yX5_init) (TT_in mw_3_63)) rfl (by decide +kernel) ⟨Nat.le_of_ble_eq_true rfl, Nat.le_of_ble_eq_true rfl⟩) hEV hP hD hS hA rfl hl.1 rfl (Nat.le_of_ble_eq_true rfl) dL_law_12 ⟨Nat.le_of_ble_eq_true rfl, Nat.le_of_ble_eq_true rfl⟩ (fun a H locs hw2 hP hD hS => ?_)
  refine W.widen (k := 69) (n := 1201) (Nat.le_of_ble_eq_true rfl) (Nat.le_of_ble_eq_true rfl) ?_
  rw [← (show a 0 = q1 from hw2)]
  refine lv_astore_n (lv' := [(2, .ref (a 0)), (1, .ref (ad 0)), (0, .ref b)]) hx hb dL_law_15 rfl hl (by decide) rfl (fun ls hl => ?_)
  refine lv_iconst (v := nI 0) hx hb dL_law_16 (by decide) ?_
  refine lv_istore_n (lv' := [(3, .int (nI 0)), (2, .ref (a 0)), (1, .ref (ad 0)), (0, .ref b)]) hx hb dL_law_17 rfl hl (by decide) rfl (fun ls hl => ?_)
  exact law_loop hL C0 hEV (L + 1) 0 SI (xo 2) (fun _ => 0) 0 0 (fun _ => 0) (fun _ => 0) H locs ls (by omega) (Nat.zero_le L) st_inv hP hD hS hl
