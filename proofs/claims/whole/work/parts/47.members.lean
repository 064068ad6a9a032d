/-! ===== what is written: hosts, members ===== -/
theorem lsT_id {S : LSt} {k : Nat} : lsT S k (S.1 k) = S := by
  have : upS S.1 k (S.1 k) = S.1 := by
    funext q
    unfold upS
    by_cases c : q = k
    · rw [if_pos c, c]
    · rw [if_neg c]
  unfold lsT
  rw [this]
/-- the tables of the class as the contracts want them -/
def tq (S : LSt) (x : Nat → Nat → Int32) : Nat → Nat → Nat → Int32 := fun v => mixT (S.1 (2 * v)) x v
theorem tq_th {S : LSt} {x : Nat → Nat → Int32} {w t : Nat} : thB (tq S x w) t = thB (vwX x w) t := rfl
theorem m_nest {S : LSt} {x : Nat → Nat → Int32} {nf : Nat → Nat} {R w : Nat} (q : INV S x nf R w) (γ : Nat → Nat → Nat → Int32) (t u : Int32) : (p_X4_nest (tq S x) γ nf R w t u S).1 = (p_X5_nest w (nf w) t u x).1 ∧ INV (p_X4_nest (tq S x) γ nf R w t u S).2 (p_X5_nest w (nf w) t u x).2 nf R w := by
  have hw := q.2.2.2.2.1
  have p := q.1 w hw
  unfold p_X4_nest p_X5_nest
  by_cases c0 : t = 0
  · rw [if_pos c0, if_neg (fun z => (ot_of z).1 c0)]; exact ⟨rfl, q⟩
  · rw [if_neg c0]
    by_cases c1 : wi t 12 = true
    · obtain ⟨hT, eT⟩ := wi_sN (b := 12) (by decide) c1
      rw [if_pos (c := ot t = true) (by unfold ot; simp [c0, c1]), c1, Bool.true_and]
      unfold p_X1_putHost
      rw [tq_th]
      by_cases c2 : wi u 12 = true
      · rw [if_pos c2, if_pos c2]
        by_cases c3 : thB (vwX x w) (sN t) = true
        · rw [if_pos c3, if_pos c3]
          refine ⟨rfl, ?_⟩
          have hu := wi_sN (b := 12) (by decide) c2
          have yk : ∀ k j, k ≠ 5 → st2 x 5 (12 * w + sN t) u k j = x k j := fun k j hk => by rw [st2_n hk]
          refine q.put (nf' := nf) ?_ (fun b hb hne => ⟨lsT_n (by omega), lsT_n (by omega), rfl⟩) (fun b hb hne k t' hk ht' => ?_) (fun b hb hne => yk 8 b (by omega)) (fun b hb hne k m hk hm => yk k _ (by omega)) rfl (fun k j hk => yk k j (by omega)) (BX.n (by omega) q.2.2.2.1)
          · show PB ((lsT S (2 * w) (st2 (S.1 (2 * w)) 4 (sN t) u)).1 (2 * w)) ((lsT S (2 * w) (st2 (S.1 (2 * w)) 4 (sN t) u)).1 (2 * w + 1)) (st2 x 5 (12 * w + sN t) u) w (nf w)
            rw [lsT_s, lsT_n (by omega)]
            obtain ⟨⟨σ, q1, q2, q3⟩, q4, q5, q6, q7, q8⟩ := p
            generalize S.1 (2 * w) = h at q1 q4 ⊢
            have e4 : ∀ t', st2 h 4 (sN t) u 4 t' = if t' = sN t then u else h 4 t' := fun t' => by rw [st2_ap]; simp
            have ek : ∀ k, k ≠ 4 → st2 h 4 (sN t) u k = h k := fun k hk => st2_n hk
            have se : SE (fun k => if k = 5 then st2 h 4 (sN t) u 4 else σ k) σ := fun k hk => if_neg hk
            have r5 : ∀ t', (fun k => if k = 5 then st2 h 4 (sN t) u 4 else σ k) 5 t' = st2 h 4 (sN t) u 4 t' := fun t' => rfl
            generalize (fun k => if k = 5 then st2 h 4 (sN t) u 4 else σ k) = σ' at se r5
            have hv : ∀ k, k ≠ 5 → vwX (st2 x 5 (12 * w + sN t) u) w k = vwX x w k := fun k hk => by funext t'; exact yk k _ hk
            have hv5 : ∀ t', t' < 12 → vwX (st2 x 5 (12 * w + sN t) u) w 5 t' = if t' = sN t then u else x 5 (12 * w + t') := fun t' _ => by
              show st2 x 5 (12 * w + sN t) u 5 (12 * w + t') = _
              rw [st2_ap]
              by_cases d : t' = sN t
              · rw [if_pos d, if_pos (by omega)]
              · rw [if_neg d, if_neg (by omega)]
            have hse : SE (vwX (st2 x 5 (12 * w + sN t) u) w) (vwX x w) := hv
            have hvm : vmX (st2 x 5 (12 * w + sN t) u) w = vmX x w := vm_same (fun k j hk => yk k j (by omega))
            have isT4 : ∀ t', t' < 12 → isT (st2 h 4 (sN t) u 4 t') := fun t' ht' => by
              rw [e4]
              by_cases d : t' = sN t
              · rw [if_pos d]; exact hu
              · rw [if_neg d, q1.b.ho ht']; exact (q2.1 t' ht').2.1
            refine ⟨⟨σ', ⟨fun t' ht' => ?_, fun t' ht' => ?_, ?_, fun t' ht' g' w' hw' => ?_, ?_⟩, ?_, fun k t' hk ht' => ?_⟩, fun t' ht' hq => ?_, ⟨?_, ?_, q5.2.2.1, fun m hm => ?_⟩, ?_, ?_, ?_⟩
            · obtain ⟨a1, a2, a3, a4, a5, a6⟩ := q1.b t' ht'
              rw [ek 0 (by omega), ek 1 (by omega), ek 2 (by omega), ek 3 (by omega), ek 8 (by omega), se 1 (by omega), se 2 (by omega), se 3 (by omega), se 4 (by omega), se_th se]
              exact ⟨a1, a2, a3, a4, (r5 t').symm, a6⟩
            · rw [ek 5 (by omega), ek 8 (by omega), se_LV se, se_gdB se]; exact q1.2.1 t' ht'
            · rw [ek 8 (by omega)]; exact q1.2.2.1
            · rw [ek 6 (by omega), ek 7 (by omega), se_abB se, se_fcB se]
              rw [se_Gd se] at g'
              exact q1.2.2.2.1 t' ht' g' w' hw'
            · rw [ek 8 (by omega)]; exact q1.2.2.2.2
            · exact ag_WFT q2 (fun k t' hk ht' => by rw [se k (by omega)]) (fun t' ht' => by rw [r5]; exact isT4 t' ht')
            · rw [se k (by omega), hv k (by omega)]; exact q3 k t' hk ht'
            · rw [e4]
              have z5 := hv5 t' ht'
              have z6 : vwX (st2 x 5 (12 * w + sN t) u) w 5 t' = st2 x 5 (12 * w + sN t) u 5 (12 * w + t') := rfl
              rw [← z6, z5]
              by_cases d : t' = sN t
              · rw [if_pos d, if_pos d]
              · rw [if_neg d, if_neg d]
                rw [se_th hse] at hq
                exact q4 t' ht' hq
            · refine ag_WFT q5.1 (fun k t' hk ht' => by rw [hv k (by omega)]) (fun t' ht' => ?_)
              rw [hv5 t' ht']
              by_cases d : t' = sN t
              · rw [if_pos d]; exact hu
              · rw [if_neg d]; exact (q5.1.1 t' ht').2.1
            · rw [yk 8 w (by omega)]; exact q5.2.1
            · rw [yk 9 _ (by omega), yk 10 _ (by omega), yk 6 _ (by omega), yk 11 _ (by omega)]; exact q5.2.2.2 m hm
            · rw [hvm]; exact q6
            · rw [hvm]; exact q7
            · rw [hvm]
              intro m hm hg
              rw [se_th hse]
              exact q8 m hm hg
          · show st2 x 5 (12 * w + sN t) u k (12 * b + t') = x k (12 * b + t')
            rw [st2_ap, if_neg (by omega)]
        · rw [if_neg c3, if_neg c3]
          refine ⟨rfl, ?_⟩
          show INV (lsT S (2 * w) (S.1 (2 * w))) x nf R w
          rw [lsT_id]; exact q
      · rw [if_neg c2]
        by_cases c3 : thB (vwX x w) (sN t) = true
        · rw [if_pos c3, if_neg c2]; exact ⟨rfl, q⟩
        · rw [if_neg c3]; exact ⟨rfl, q⟩
    · rw [if_neg (c := ot t = true) (fun z => c1 (ot_of z).2), if_neg (by simp [c1])]; exact ⟨rfl, q⟩
/-- members alone have been written -/
theorem PB.mem {h g g' x y : Nat → Nat → Int32} {w n n' : Nat} (p : PB h g x w n) (h1 : ∀ k t, k < 6 → t < 12 → y k (12 * w + t) = x k (12 * w + t)) (h8 : y 8 w = nI n') (hn : n' ≤ 30) (hm : ∀ m, m < n' → isT (y 9 (30 * w + m)) ∧ isS (y 10 (30 * w + m)) ∧ (y 6 (30 * w + m) = 0 ∨ y 6 (30 * w + m) = 1) ∧ isA (y 11 (30 * w + m))) (okm : OKM g' (vmX y w) n') (uq : UQ (vmX y w) n') (ot : OT (vwX x w) (vmX y w) n') : PB h g' y w n' := by
  obtain ⟨⟨σ, q1, q2, q3⟩, q4, q5, q6, q7, q8⟩ := p
  have ag : AG (vwX x w) (vwX y w) := fun k t hk ht => (h1 k t (by omega) ht).symm
  refine ⟨⟨σ, q1, q2, fun k t hk ht => (q3 k t hk ht).trans (ag k t hk ht)⟩, fun t ht q => ?_, ⟨?_, h8, hn, hm⟩, okm, uq, fun m hm' hg => ?_⟩
  · rw [← ag_th ag ht] at q
    rw [h1 5 t (by omega) ht]
    exact q4 t ht q
  · refine ag_WFT q5.1 ag (fun t ht => ?_)
    have : vwX y w 5 t = vwX x w 5 t := h1 5 t (by omega) ht
    rw [this]
    exact (q5.1.1 t ht).2.1
  · show thB (vwX y w) (sN (y 9 (30 * w + m))) = true
    rw [← ag_th ag (hm m hm').1.1]
    exact ot m hm' hg
theorem wi_A {v : Int32} (h : wi v 4 = true) : isA v := wi_sN (b := 4) (by decide) h
theorem m_remake {S : LSt} {x : Nat → Nat → Int32} {nf : Nat → Nat} {R w : Nat} (q : INV S x nf R w) (τ : Nat → Nat → Nat → Int32) (t u v : Int32) : (p_X4_remake τ (fun b => vmX x b) nf R w t u v S).1 = (p_X5_remake w (nf w) t u v x).1 ∧ INV (p_X4_remake τ (fun b => vmX x b) nf R w t u v S).2 (p_X5_remake w (nf w) t u v x).2 nf R w := by
  have hw := q.2.2.2.2.1
  have p := q.1 w hw
  have hn := p.2.2.1.2.2.1
  unfold p_X4_remake p_X5_remake p_X2_change
  by_cases c1 : wi u 4 = true
  · rw [if_pos c1]
    by_cases c2 : wi v 8 = true
    · rw [if_pos c2]
      show (if (wi t (nI (nf w)) && !(goB (vmX x w) (sN t))) = true then ((1 : Int32), st2 (st2 (S.1 (2 * w + 1)) 2 (sN t) u) 3 (sN t) v) else (0, S.1 (2 * w + 1))).1 = _ ∧ INV (lsT S (2 * w + 1) (if (wi t (nI (nf w)) && !(goB (vmX x w) (sN t))) = true then ((1 : Int32), st2 (st2 (S.1 (2 * w + 1)) 2 (sN t) u) 3 (sN t) v) else (0, S.1 (2 * w + 1))).2) _ nf R w
      by_cases c3 : (wi t (nI (nf w)) && !(goB (vmX x w) (sN t))) = true
      · rw [if_pos c3, if_pos c3, if_pos c1, if_pos c2]
        refine ⟨rfl, ?_⟩
        simp only [Bool.and_eq_true, Bool.not_eq_true'] at c3
        obtain ⟨hT, eT⟩ := wi_sN (by omega) c3.1
        generalize sN t = tt at hT c3 ⊢
        show INV (lsT S (2 * w + 1) (st2 (st2 (S.1 (2 * w + 1)) 2 tt u) 3 tt v)) (st2 (st2 x 11 (30 * w + tt) u) 12 (30 * w + tt) v) nf R w
        have ya : ∀ k j, k ≠ 11 → k ≠ 12 → st2 (st2 x 11 (30 * w + tt) u) 12 (30 * w + tt) v k j = x k j := fun k j h1 h2 => by rw [st2_n h2, st2_n h1]
        have yb : ∀ k j, j ≠ 30 * w + tt → st2 (st2 x 11 (30 * w + tt) u) 12 (30 * w + tt) v k j = x k j := fun k j h1 => by rw [st2_ap, if_neg (by omega), st2_ap, if_neg (by omega)]
        refine q.put (nf' := nf) ?_ (fun b hb hne => ⟨lsT_n (by omega), lsT_n (by omega), rfl⟩) (fun b hb hne k t' hk ht' => ya k _ (by omega) (by omega)) (fun b hb hne => ya 8 b (by omega) (by omega)) (fun b hb hne k m hk hm => yb k _ (by have := (q.1 b hb).2.2.1.2.2.1; omega)) rfl (fun k j hk => ya k j (by omega) (by omega)) (BX.n (by omega) (BX.n (by omega) q.2.2.2.1))
        rw [lsT_s, lsT_n (by omega)]
        have okm := p.2.2.2.1
        have v9 : ∀ m, vmX (st2 (st2 x 11 (30 * w + tt) u) 12 (30 * w + tt) v) w 0 m = vmX x w 0 m := fun m => ya 9 _ (by omega) (by omega)
        have v1 : ∀ m, vmX (st2 (st2 x 11 (30 * w + tt) u) 12 (30 * w + tt) v) w 1 m = vmX x w 1 m := fun m => by
          show kyF (!decide (st2 (st2 x 11 (30 * w + tt) u) 12 (30 * w + tt) v 6 (30 * w + m) = 0)) (st2 (st2 x 11 (30 * w + tt) u) 12 (30 * w + tt) v 10 (30 * w + m)) = _
          rw [ya 6 _ (by omega) (by omega), ya 10 _ (by omega) (by omega)]; rfl
        have v2 : ∀ m, vmX (st2 (st2 x 11 (30 * w + tt) u) 12 (30 * w + tt) v) w 2 m = if m = tt then u else vmX x w 2 m := fun m => by
          show st2 (st2 x 11 (30 * w + tt) u) 12 (30 * w + tt) v 11 (30 * w + m) = _
          rw [st2_n (by omega), st2_ap]
          by_cases d : m = tt
          · rw [if_pos d, if_pos (by omega)]
          · rw [if_neg d, if_neg (by omega)]; rfl
        have v3 : ∀ m, vmX (st2 (st2 x 11 (30 * w + tt) u) 12 (30 * w + tt) v) w 3 m = if m = tt then v else vmX x w 3 m := fun m => by
          show st2 (st2 x 11 (30 * w + tt) u) 12 (30 * w + tt) v 12 (30 * w + m) = _
          rw [st2_ap]
          by_cases d : m = tt
          · rw [if_pos d, if_pos (by omega)]
          · rw [if_neg d, if_neg (by omega), st2_n (by omega)]; rfl
        have vg : ∀ m, goB (vmX (st2 (st2 x 11 (30 * w + tt) u) 12 (30 * w + tt) v) w) m = goB (vmX x w) m := fun m => by
          show (!decide (st2 (st2 x 11 (30 * w + tt) u) 12 (30 * w + tt) v 7 (30 * w + m) = 0)) = _
          rw [ya 7 _ (by omega) (by omega)]; rfl
        generalize S.1 (2 * w + 1) = g at p okm ⊢
        refine p.mem (fun k t' hk ht' => ya k _ (by omega) (by omega)) (by rw [ya 8 w (by omega) (by omega)]; exact p.2.2.1.2.1) hn (fun m hm => ?_) ⟨?_, hn, fun m hm => ?_, fun m h1 h2 => ?_⟩ ?_ ?_
        · obtain ⟨a1, a2, a3, a4⟩ := p.2.2.1.2.2.2 m hm
          refine ⟨by rw [ya 9 _ (by omega) (by omega)]; exact a1, by rw [ya 10 _ (by omega) (by omega)]; exact a2, by rw [ya 6 _ (by omega) (by omega)]; exact a3, ?_⟩
          have := v2 m
          have e : vmX (st2 (st2 x 11 (30 * w + tt) u) 12 (30 * w + tt) v) w 2 m = st2 (st2 x 11 (30 * w + tt) u) 12 (30 * w + tt) v 11 (30 * w + m) := rfl
          rw [← e, this]
          by_cases d : m = tt
          · rw [if_pos d]; exact wi_A c1
          · rw [if_neg d]; exact a4
        · rw [st2_n (q := 4) (by omega), st2_n (q := 4) (by omega)]; exact okm.1
        · obtain ⟨a1, a2, a3, a4, a5⟩ := okm.2.2.1 m hm
          rw [v9, v1, v2, v3, vg, st2_n (q := 0) (by omega), st2_n (q := 0) (by omega), st2_n (q := 1) (by omega), st2_n (q := 1) (by omega), st2_n (q := 4) (by omega), st2_n (q := 4) (by omega), st2_n (q := 2) (by omega)]
          refine ⟨a1, a2, ?_, ?_, a5⟩
          · rw [st2_ap]
            by_cases d : m = tt
            · rw [if_pos d, if_pos ⟨rfl, d⟩]
            · rw [if_neg d, if_neg (fun z => d z.2)]; exact a3
          · rw [st2_ap]
            by_cases d : m = tt
            · rw [if_pos d, if_pos ⟨rfl, d⟩]
            · rw [if_neg d, if_neg (fun z => d z.2), st2_n (by omega)]; exact a4
        · rw [st2_n (q := 4) (by omega), st2_n (q := 4) (by omega)]; exact okm.2.2.2 m h1 h2
        · intro a b ha hb
          rw [vg, vg, v9, v9, v1, v1]
          exact p.2.2.2.2.1 a b ha hb
        · intro m hm
          rw [vg, v9]
          exact p.2.2.2.2.2 m hm
      · rw [if_neg c3, if_neg c3]
        refine ⟨rfl, ?_⟩
        show INV (lsT S (2 * w + 1) (S.1 (2 * w + 1))) x nf R w
        rw [lsT_id]; exact q
    · rw [if_neg c2]
      by_cases c3 : (wi t (nI (nf w)) && !(goB (vmX x w) (sN t))) = true
      · rw [if_pos c3, if_pos c1, if_neg c2]; exact ⟨rfl, q⟩
      · rw [if_neg c3]; exact ⟨rfl, q⟩
  · rw [if_neg c1]
    by_cases c3 : (wi t (nI (nf w)) && !(goB (vmX x w) (sN t))) = true
    · rw [if_pos c3, if_neg c1]; exact ⟨rfl, q⟩
    · rw [if_neg c3]; exact ⟨rfl, q⟩
theorem m_remove {S : LSt} {x : Nat → Nat → Int32} {nf : Nat → Nat} {R w : Nat} (q : INV S x nf R w) (τ : Nat → Nat → Nat → Int32) (t : Int32) : (p_X4_remove τ (fun b => vmX x b) nf R w t S).1 = (p_X5_remove w (nf w) t x).1 ∧ INV (p_X4_remove τ (fun b => vmX x b) nf R w t S).2 (p_X5_remove w (nf w) t x).2 nf R w := by
  have hw := q.2.2.2.2.1
  have p := q.1 w hw
  have hn := p.2.2.1.2.2.1
  unfold p_X4_remove p_X5_remove p_X2_discard
  show (if (wi t (nI (nf w)) && !(goB (vmX x w) (sN t))) = true then ((1 : Int32), st2 (S.1 (2 * w + 1)) 4 1 ((S.1 (2 * w + 1)) 4 1 ||| bm (sN t))) else (0, S.1 (2 * w + 1))).1 = _ ∧ INV (lsT S (2 * w + 1) (if (wi t (nI (nf w)) && !(goB (vmX x w) (sN t))) = true then ((1 : Int32), st2 (S.1 (2 * w + 1)) 4 1 ((S.1 (2 * w + 1)) 4 1 ||| bm (sN t))) else (0, S.1 (2 * w + 1))).2) _ nf R w
  by_cases c3 : (wi t (nI (nf w)) && !(goB (vmX x w) (sN t))) = true
  · rw [if_pos c3, if_pos c3]
    refine ⟨rfl, ?_⟩
    simp only [Bool.and_eq_true, Bool.not_eq_true'] at c3
    obtain ⟨hT, eT⟩ := wi_sN (by omega) c3.1
    generalize sN t = tt at hT c3 ⊢
    show INV (lsT S (2 * w + 1) (st2 (S.1 (2 * w + 1)) 4 1 ((S.1 (2 * w + 1)) 4 1 ||| bm tt))) (st2 x 7 (30 * w + tt) (b2i true)) nf R w
    have ya : ∀ k j, k ≠ 7 → st2 x 7 (30 * w + tt) (b2i true) k j = x k j := fun k j h1 => by rw [st2_n h1]
    have yb : ∀ k j, j ≠ 30 * w + tt → st2 x 7 (30 * w + tt) (b2i true) k j = x k j := fun k j h1 => by rw [st2_ap, if_neg (by omega)]
    refine q.put (nf' := nf) ?_ (fun b hb hne => ⟨lsT_n (by omega), lsT_n (by omega), rfl⟩) (fun b hb hne k t' hk ht' => ya k _ (by omega)) (fun b hb hne => ya 8 b (by omega)) (fun b hb hne k m hk hm => yb k _ (by have := (q.1 b hb).2.2.1.2.2.1; omega)) rfl (fun k j hk => ya k j (by omega)) (BX.b q.2.2.2.1)
    rw [lsT_s, lsT_n (by omega)]
    have okm := p.2.2.2.1
    have v0 : ∀ m, vmX (st2 x 7 (30 * w + tt) (b2i true)) w 0 m = vmX x w 0 m := fun m => ya 9 _ (by omega)
    have v1 : ∀ m, vmX (st2 x 7 (30 * w + tt) (b2i true)) w 1 m = vmX x w 1 m := fun m => by
      show kyF (!decide (st2 x 7 (30 * w + tt) (b2i true) 6 (30 * w + m) = 0)) (st2 x 7 (30 * w + tt) (b2i true) 10 (30 * w + m)) = _
      rw [ya 6 _ (by omega), ya 10 _ (by omega)]; rfl
    have v2 : ∀ m, vmX (st2 x 7 (30 * w + tt) (b2i true)) w 2 m = vmX x w 2 m := fun m => ya 11 _ (by omega)
    have v3 : ∀ m, vmX (st2 x 7 (30 * w + tt) (b2i true)) w 3 m = vmX x w 3 m := fun m => ya 12 _ (by omega)
    have vg : ∀ m, goB (vmX (st2 x 7 (30 * w + tt) (b2i true)) w) m = (decide (m = tt) || goB (vmX x w) m) := fun m => by
      show (!decide (st2 x 7 (30 * w + tt) (b2i true) 7 (30 * w + m) = 0)) = (decide (m = tt) || !decide (x 7 (30 * w + m) = 0))
      rw [st2_ap]
      by_cases d : m = tt
      · rw [if_pos (by omega), decide_eq_true d, Bool.true_or]; decide
      · rw [if_neg (by omega), decide_eq_false d, Bool.false_or]
    have vgf : ∀ m, goB (vmX (st2 x 7 (30 * w + tt) (b2i true)) w) m = false → goB (vmX x w) m = false := fun m z => by
      rw [vg] at z
      simp only [Bool.or_eq_false_iff] at z
      exact z.2
    generalize S.1 (2 * w + 1) = g at p okm ⊢
    refine p.mem (fun k t' hk ht' => ya k _ (by omega)) (by rw [ya 8 w (by omega)]; exact p.2.2.1.2.1) hn (fun m hm => ?_) ⟨?_, hn, fun m hm => ?_, fun m h1 h2 => ?_⟩ ?_ ?_
    · rw [ya 9 _ (by omega), ya 10 _ (by omega), ya 6 _ (by omega), ya 11 _ (by omega)]; exact p.2.2.1.2.2.2 m hm
    · rw [st2_ap, if_neg (by omega)]; exact okm.1
    · obtain ⟨a1, a2, a3, a4, a5⟩ := okm.2.2.1 m hm
      rw [v0, v1, v2, v3, vg, st2_n (q := 0) (by omega), st2_n (q := 1) (by omega), st2_n (q := 2) (by omega), st2_n (q := 3) (by omega), st2_ap, if_pos ⟨rfl, rfl⟩, b_or, b_bm (by omega) (by omega), a5]
      exact ⟨a1, a2, a3, a4, Bool.or_comm _ _⟩
    · rw [st2_ap, if_pos ⟨rfl, rfl⟩, b_or, b_bm (by omega) h2, okm.2.2.2 m h1 h2, decide_eq_false (by omega)]; rfl
    · intro a b ha hb ga gb
      rw [v0, v0, v1, v1]
      exact p.2.2.2.2.1 a b ha hb (vgf a ga) (vgf b gb)
    · intro m hm gm
      rw [v0]
      exact p.2.2.2.2.2 m hm (vgf m gm)
  · rw [if_neg c3, if_neg c3]
    refine ⟨rfl, ?_⟩
    show INV (lsT S (2 * w + 1) (S.1 (2 * w + 1))) x nf R w
    rw [lsT_id]; exact q
