theorem lw_small : ∀ L, L < 6 → ∀ i, i < 6 → Int32.ofNat L - 6 < nI i := by decide +kernel
theorem lw_le {L i : Nat} (hL : L ≤ 384) (hi : i ≤ L) (h : ¬ (Int32.ofNat L - 6 < nI i)) : i + 6 ≤ L := by
  by_cases c : 6 ≤ L
  · obtain ⟨d, rfl⟩ : ∃ d, L = d + 6 := ⟨L - 6, by omega⟩
    have e : Int32.ofNat (d + 6) - 6 = nI d := by
      have e1 : Int32.ofNat (d + 6) = nI d + 6 := (nI_add d 6).symm
      rw [e1]
      exact Int32.add_sub_cancel _ _
    rw [e] at h
    rcases Nat.lt_or_ge d i with z | z
    · exact absurd (nI_lt z (by omega)) h
    · omega
  · exact absurd (lw_small L (by omega) i (by omega)) h
theorem lw_sw {v : Int32} (h : ¬ (v.toInt < 0 ∨ 16 < v.toInt)) : ∃ n, n < 17 ∧ v = nI n := by
  refine ⟨v.toInt.toNat, by omega, Int32.toInt_inj.mp ?_⟩
  rw [nI_toInt (by omega)]
  omega
set_option maxHeartbeats 4000000 in
set_option maxRecDepth 100000 in
/-- the law's loop -/
theorem law_loop {p : Program} {l : Launch} {e : Env} {s : State} {m : MethodId} {below : List Frame} {meth : Method} {c : Code} {b L : Nat} {xs : Nat → Int32} {D : va_G} {cI cZ cB cR : ClassId} {ad a : Nat → Nat} (hL : L ≤ 384) (C0 : lw_At p s m meth c b L xs) (hEV : EV D cI cZ cB cR s) :
    ∀ (k i : Nat) (S : LSt) (x : Nat → Nat → Int32) (nf : Nat → Nat) (R w : Nat) (r1 r2 : Nat → Int32) (H : Heap) (locs : List Loc) (ls : Array Slot), L - i < k → i ≤ L → INV S x nf R w → va_P D vwCl (wL cI cB cR ad S ++ wX cI cZ a x r1 r2) H → va_D (fun q : Nat => s.heap.size ≤ q) (wL cI cB cR ad S ++ wX cI cZ a x r1 r2) → va_S (fun q : Nat => s.heap.size ≤ q) s.heap H locs → lv_has ls 4 [(3, .int (nI i)), (2, .ref (a 0)), (1, .ref (ad 0)), (0, .ref b)] → W p l e room_1 s m #[Value.ref b] below meth c H locs 69 1201 (lw_Z below #[Value.ref b] s) (F0 m 18 ls []) := by
  obtain ⟨hx, hb, hr, hml, hown, hts, hX, hbl, hlocks, hgv⟩ := id C0
  have hA : ∀ q : Nat, s.heap.size ≤ q → (fun q : Nat => s.heap.size ≤ q) q := fun _ h => h
  have hbA : ¬ (fun q : Nat => s.heap.size ≤ q) b := Nat.not_le.mpr hbl
  intro k
  induction k with
  | zero => intro i S x nf R w r1 r2 H locs ls h; exact absurd h (Nat.not_lt_zero _)
  | succ k ih =>
    intro i S x nf R w r1 r2 H locs ls hm hi q hP hD hS hl
    refine lv_iload_n hx hb dL_law_18 rfl (lv_at hl 0 rfl) ?_
    refine lv_aload_n hx hb dL_law_19 rfl (lv_at hl 3 rfl) ?_
    refine va_slen hx hb hX hbl hbA hS dL_law_20 ?_
    refine lv_bipush (v := (6 : Int32)) hx hb dL_law_21 (by decide) ?_
    refine lv_isub hx hb dL_law_23 ?_
    refine lv_icmp_gt (tgt := 729) hx hb dL_law_24 (by decide) (fun c9 => ?_) (fun c9 => ?_)
    · refine lv_iconst (v := 1) hx hb dL_law_729 (by decide) ?_
      refine va_forget (fun q hq => hS.2.2 q hq) ?_
      refine W.widen (k := 600000) (n := 7302250) (Nat.le_of_ble_eq_true rfl) (Nat.le_of_ble_eq_true rfl) ?_
      exact lw_ret hx hb hr hlocks dL_law_730
    · have h6 : i + 6 ≤ L := lw_le hL hi c9
      have kk : LKk p l e s m below meth c b D cI cZ cB cR ad a (fun q : Nat => s.heap.size ≤ q) i (lw_Z below #[Value.ref b] s) := by
        intro S x nf R w r1 r2 H locs ls q hP hD hS hl
        refine lv_iinc (v := nI (i + 6)) (lv' := [(3, .int (nI (i + 6))), (2, .ref (a 0)), (1, .ref (ad 0)), (0, .ref b)]) hx hb dL_law_723 hl (k := 0) rfl (by rw [show Int32.ofInt 6 = nI 6 from by decide]; exact nI_add i 6) (by decide) rfl (fun ls hl => ?_)
        refine lv_goto (tgt := 18) hx hb dL_law_726 (by decide) ?_
        exact ih (i + 6) S x nf R w r1 r2 H locs ls (by omega) h6 q hP hD hS hl
      refine lv_aload_n hx hb dL_law_27 rfl (lv_at hl 3 rfl) ?_
      refine lv_iload_n hx hb dL_law_28 rfl (lv_at hl 0 rfl) ?_
      refine va_sld hx hb hX hbl hbA hS (vp_in_nI (n := i) (by omega) (by omega)) dL_law_29 ?_
      refine lv_bipush (v := (31 : Int32)) hx hb dL_law_30 (by decide) ?_
      refine lv_iand hx hb dL_law_32 ?_
      generalize (xs (nI i).toNatClampNeg &&& 31) = v
      by_cases ho : v.toInt < 0 ∨ 16 < v.toInt
      · refine lv_tableOut (tgt := 723) hx hb dL_law_33 ho (by decide) ?_
        exact kk S x nf R w r1 r2 H locs ls q hP hD hS hl
      · obtain ⟨n, hn, hv⟩ := lw_sw ho
        rcases (show n = 0 ∨ n = 1 ∨ n = 2 ∨ n = 3 ∨ n = 4 ∨ n = 5 ∨ n = 6 ∨ n = 7 ∨ n = 8 ∨ n = 9 ∨ n = 10 ∨ n = 11 ∨ n = 12 ∨ n = 13 ∨ n = 14 ∨ n = 15 ∨ n = 16 by omega) with h9 | h9 | h9 | h9 | h9 | h9 | h9 | h9 | h9 | h9 | h9 | h9 | h9 | h9 | h9 | h9 | h9
        · subst h9
          refine lv_tableIn (off := 83) (tgt := 116) hx hb dL_law_33 (by rw [hv]; decide) (by rw [hv]; decide) (by rw [hv]; rfl) (by decide) ?_
          exact arm_type C0 hL hEV hA hbA q hP hD hS hl h6 kk
        · subst h9
          refine lv_tableIn (off := 146) (tgt := 179) hx hb dL_law_33 (by rw [hv]; decide) (by rw [hv]; decide) (by rw [hv]; rfl) (by decide) ?_
          exact arm_nest C0 hL hEV hA hbA q hP hD hS hl h6 kk
        · subst h9
          refine lv_tableIn (off := 179) (tgt := 212) hx hb dL_law_33 (by rw [hv]; decide) (by rw [hv]; decide) (by rw [hv]; rfl) (by decide) ?_
          exact arm_drop C0 hL hEV hA hbA q hP hD hS hl h6 kk
        · subst h9
          refine lv_tableIn (off := 202) (tgt := 235) hx hb dL_law_33 (by rw [hv]; decide) (by rw [hv]; decide) (by rw [hv]; rfl) (by decide) ?_
          exact arm_member C0 hL hEV hA hbA q hP hD hS hl h6 kk
        · subst h9
          refine lv_tableIn (off := 281) (tgt := 314) hx hb dL_law_33 (by rw [hv]; decide) (by rw [hv]; decide) (by rw [hv]; rfl) (by decide) ?_
          exact arm_remake C0 hL hEV hA hbA q hP hD hS hl h6 kk
        · subst h9
          refine lv_tableIn (off := 324) (tgt := 357) hx hb dL_law_33 (by rw [hv]; decide) (by rw [hv]; decide) (by rw [hv]; rfl) (by decide) ?_
          exact arm_remove C0 hL hEV hA hbA q hP hD hS hl h6 kk
        · subst h9
          refine lv_tableIn (off := 347) (tgt := 380) hx hb dL_law_33 (by rw [hv]; decide) (by rw [hv]; decide) (by rw [hv]; rfl) (by decide) ?_
          exact arm_branch C0 hL hEV hA hbA q hP hD hS hl h6 kk
        · subst h9
          refine lv_tableIn (off := 360) (tgt := 393) hx hb dL_law_33 (by rw [hv]; decide) (by rw [hv]; decide) (by rw [hv]; rfl) (by decide) ?_
          exact arm_write C0 hL hEV hA hbA q hP hD hS hl h6 kk
        · subst h9
          refine lv_tableIn (off := 383) (tgt := 416) hx hb dL_law_33 (by rw [hv]; decide) (by rw [hv]; decide) (by rw [hv]; rfl) (by decide) ?_
          exact arm_refer C0 hL hEV hA hbA q hP hD hS hl h6 kk
        · subst h9
          refine lv_tableIn (off := 436) (tgt := 469) hx hb dL_law_33 (by rw [hv]; decide) (by rw [hv]; decide) (by rw [hv]; rfl) (by decide) ?_
          exact arm_forget C0 hL hEV hA hbA q hP hD hS hl h6 kk
        · subst h9
          refine lv_tableIn (off := 449) (tgt := 482) hx hb dL_law_33 (by rw [hv]; decide) (by rw [hv]; decide) (by rw [hv]; rfl) (by decide) ?_
          exact arm_load C0 hL hEV hA hbA q hP hD hS hl h6 kk
        · subst h9
          refine lv_tableIn (off := 482) (tgt := 515) hx hb dL_law_33 (by rw [hv]; decide) (by rw [hv]; decide) (by rw [hv]; rfl) (by decide) ?_
          exact arm_resolve C0 hL hEV hA hbA q hP hD hS hl h6 kk
        · subst h9
          refine lv_tableIn (off := 515) (tgt := 548) hx hb dL_law_33 (by rw [hv]; decide) (by rw [hv]; decide) (by rw [hv]; rfl) (by decide) ?_
          exact arm_select C0 hL hEV hA hbA q hP hD hS hl h6 kk
        · subst h9
          refine lv_tableIn (off := 558) (tgt := 591) hx hb dL_law_33 (by rw [hv]; decide) (by rw [hv]; decide) (by rw [hv]; rfl) (by decide) ?_
          exact arm_compare C0 hL hEV hA hbA q hP hD hS hl h6 kk
        · subst h9
          refine lv_tableIn (off := 581) (tgt := 614) hx hb dL_law_33 (by rw [hv]; decide) (by rw [hv]; decide) (by rw [hv]; rfl) (by decide) ?_
          exact arm_receivers C0 hL hEV hA hbA q hP hD hS hl h6 kk
        · subst h9
          refine lv_tableIn (off := 614) (tgt := 647) hx hb dL_law_33 (by rw [hv]; decide) (by rw [hv]; decide) (by rw [hv]; rfl) (by decide) ?_
          exact arm_isUnder C0 hL hEV hA hbA q hP hD hS hl h6 kk
        · subst h9
          refine lv_tableIn (off := 657) (tgt := 690) hx hb dL_law_33 (by rw [hv]; decide) (by rw [hv]; decide) (by rw [hv]; rfl) (by decide) ?_
          exact arm_count C0 hL hEV hA hbA q hP hD hS hl h6 kk
