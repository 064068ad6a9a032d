/-! ===== what is written: drop, member ===== -/
theorem da2 {n : Nat} (hn : n ≤ 30) (v : Int32) : ∀ k i g, n - i < k → i ≤ n → (∀ q, q ≠ 4 → p_X2_discardAllOf_2 n v k i g q = g q) ∧ p_X2_discardAllOf_2 n v k i g 4 0 = g 4 0 ∧ ∀ m, m < 32 → bt (p_X2_discardAllOf_2 n v k i g 4 1) m = (bt (g 4 1) m || (decide (i ≤ m) && decide (m < n) && decide (g 0 m = v))) := by
  intro k
  induction k with
  | zero => intro i g h; omega
  | succ k ih =>
    intro i g hk hi
    rw [p_X2_discardAllOf_2]
    by_cases c : n ≤ i
    · rw [if_pos c]
      refine ⟨fun q _ => rfl, rfl, fun m hm => ?_⟩
      have : (decide (i ≤ m) && decide (m < n)) = false := by
        by_cases d : i ≤ m
        · rw [decide_eq_false (p := m < n) (by omega), Bool.and_false]
        · rw [decide_eq_false d, Bool.false_and]
      rw [this, Bool.false_and, Bool.or_false]
    · rw [if_neg c]
      have mono : ∀ m, m ≠ i → (decide (i + 1 ≤ m) && decide (m < n)) = (decide (i ≤ m) && decide (m < n)) := fun m hne => by
        have : (i + 1 ≤ m) ↔ (i ≤ m) := by omega
        simp only [this]
      by_cases d : g 0 i = v
      · rw [if_pos d]
        obtain ⟨h1, h2, h3⟩ := ih (i + 1) (st2 g 4 1 (g 4 1 ||| bm i)) (by omega) (by omega)
        refine ⟨fun q hq => by rw [h1 q hq, st2_n hq], by rw [h2, st2_ap, if_neg (by omega)], fun m hm => ?_⟩
        rw [h3 m hm, st2_ap, if_pos ⟨rfl, rfl⟩, b_or, b_bm (by omega) hm, st2_n (q := 0) (by omega)]
        by_cases e : m = i
        · subst e
          rw [decide_eq_true (p := m = m) rfl, decide_eq_true (p := m ≤ m) (Nat.le_refl m), decide_eq_true (p := m < n) (by omega), decide_eq_true d]
          simp
        · rw [mono m e, decide_eq_false e, Bool.or_false]
      · rw [if_neg d]
        obtain ⟨h1, h2, h3⟩ := ih (i + 1) g (by omega) (by omega)
        refine ⟨h1, h2, fun m hm => ?_⟩
        rw [h3 m hm]
        by_cases e : m = i
        · subst e
          rw [decide_eq_false d, Bool.and_false, Bool.and_false]
        · rw [mono m e]
theorem dr33 {w n : Nat} {t : Int32} : ∀ k i y, n - i < k → i ≤ n → (p_X5_drop_33 w n t k (30 * w + i) y).1 = 1 ∧ (∀ q j, q ≠ 7 → (p_X5_drop_33 w n t k (30 * w + i) y).2 q j = y q j) ∧ ∀ j, (p_X5_drop_33 w n t k (30 * w + i) y).2 7 j = if 30 * w + i ≤ j ∧ j < 30 * w + n ∧ y 9 j = t then b2i true else y 7 j := by
  intro k
  induction k with
  | zero => intro i y h; omega
  | succ k ih =>
    intro i y hk hi
    rw [p_X5_drop_33]
    by_cases c : 30 * w + n ≤ 30 * w + i
    · rw [if_pos c]
      exact ⟨rfl, fun q j _ => rfl, fun j => by rw [if_neg (by omega)]⟩
    · rw [if_neg c]
      by_cases d : y 9 (30 * w + i) = t
      · rw [if_pos d]
        obtain ⟨h1, h2, h3⟩ := ih (i + 1) (st2 y 7 (30 * w + i) (b2i true)) (by omega) (by omega)
        refine ⟨h1, fun q j hq => by rw [← Nat.add_assoc] at h2; rw [h2 q j hq, st2_n hq], fun j => ?_⟩
        rw [← Nat.add_assoc] at h3
        rw [h3 j, st2_n (q := 9) (by omega), st2_ap]
        by_cases e : j = 30 * w + i
        · rw [if_neg (by omega), if_pos ⟨rfl, e⟩, if_pos ⟨by omega, by omega, by rw [e]; exact d⟩]
        · by_cases f : 30 * w + i ≤ j ∧ j < 30 * w + n ∧ y 9 j = t
          · rw [if_pos f, if_pos ⟨by omega, f.2⟩]
          · rw [if_neg f, if_neg (fun z => f ⟨by omega, z.2⟩), if_neg (fun z => e z.2)]
      · rw [if_neg d]
        obtain ⟨h1, h2, h3⟩ := ih (i + 1) y (by omega) (by omega)
        refine ⟨h1, fun q j hq => by rw [← Nat.add_assoc] at h2; rw [h2 q j hq], fun j => ?_⟩
        rw [← Nat.add_assoc] at h3
        rw [h3 j]
        by_cases e : j = 30 * w + i
        · rw [if_neg (by omega), if_neg (fun z => d (by rw [← e]; exact z.2.2))]
        · by_cases f : 30 * w + i ≤ j ∧ j < 30 * w + n ∧ y 9 j = t
          · rw [if_pos f, if_pos ⟨by omega, f.2⟩]
          · rw [if_neg f, if_neg (fun z => f ⟨by omega, z.2⟩)]
section DRP
variable {h g x : Nat → Nat → Int32} {w n : Nat}
theorem ht_ag (p : PB h g x w n) (bx : BX x) {tt : Nat} (ht0 : tt ≠ 0) (ht : tt < 12) {y : Nat → Nat → Int32} (h0 : ∀ t, t < 12 → y 0 (12 * w + t) = if t = tt then 0 else x 0 (12 * w + t)) (hk : ∀ k t, 0 < k → k < 6 → t < 12 → y k (12 * w + t) = x k (12 * w + t)) : AG (vwH (htF tt h)) (vwX y w) ∧ WFT (vwX y w) := by
  have h8 : htF tt h 8 0 = h 8 0 &&& (bm tt ^^^ (-1)) := by unfold htF; rw [st2_ap, if_pos ⟨rfl, rfl⟩]
  have hq : ∀ k, k ≠ 8 → htF tt h k = h k := fun k q => by unfold htF; rw [st2_n q]
  have wx := p.2.2.1
  constructor
  · intro k t hk5 q
    show _ = y k (12 * w + t)
    rcases k5 hk5 with e | e | e | e | e <;> subst e
    · show b2i (bt (htF tt h 8 0) t) = _
      rw [h8, h0 t q, b_and, b_xor, b_bm (by omega) (by omega), b_m1 t (by omega)]
      by_cases c : t = tt
      · rw [if_pos c, decide_eq_true c]; simp; rfl
      · rw [if_neg c, decide_eq_false c, ← p.th0 bx q]; simp
    · show htF tt h 0 t = _
      rw [hq 0 (by omega), hk 1 t (by omega) (by omega) q]; exact p.row (k := 0) (by omega) q
    · show htF tt h 1 t = _
      rw [hq 1 (by omega), hk 2 t (by omega) (by omega) q]; exact p.row (k := 1) (by omega) q
    · show htF tt h 2 t = _
      rw [hq 2 (by omega), hk 3 t (by omega) (by omega) q]; exact p.row (k := 2) (by omega) q
    · show htF tt h 3 t = _
      rw [hq 3 (by omega), hk 4 t (by omega) (by omega) q]; exact p.row (k := 3) (by omega) q
  · have vw : ∀ k t, 0 < k → k < 6 → t < 12 → vwX y w k t = vwX x w k t := fun k t h1 h2 h3 => hk k t h1 h2 h3
    refine ⟨fun t q => ?_, ?_, ?_, ?_, ?_, ?_⟩
    · rw [vw 3 t (by omega) (by omega) q, vw 4 t (by omega) (by omega) q, vw 5 t (by omega) (by omega) q]; exact wx.1.1 t q
    · show y 0 (12 * w + 0) = 1
      rw [h0 0 (by omega), if_neg (fun z => ht0 z.symm)]; exact wx.1.2.1
    · rw [vw 1 0 (by omega) (by omega) (by omega)]; exact wx.1.2.2.1
    · rw [vw 3 0 (by omega) (by omega) (by omega)]; exact wx.1.2.2.2.1
    · rw [vw 4 0 (by omega) (by omega) (by omega)]; exact wx.1.2.2.2.2.1
    · rw [vw 2 0 (by omega) (by omega) (by omega)]; exact wx.1.2.2.2.2.2
theorem ht_4 {tt : Nat} : htF tt h 4 = h 4 := by unfold htF; rw [st2_n (by omega)]
theorem drop_wf (p : PB h g x w n) (bx : BX x) {tt : Nat} (ht0 : tt ≠ 0) (ht : tt < 12) : WFT (vwH (htF tt h)) := by
  have r := ht_ag p bx ht0 ht (y := st2 x 0 (12 * w + tt) 0) (fun t q => by
    rw [st2_ap]
    by_cases c : t = tt
    · rw [if_pos c, if_pos ⟨rfl, by omega⟩]
    · rw [if_neg c, if_neg (by omega)]) (fun k t h1 h2 h3 => by rw [st2_n (by omega)])
  exact ag_WFT r.2 (fun k t hk q => (r.1 k t hk q).symm) (fun t q => by show isT (htF tt h 4 t); rw [ht_4]; exact p.hT q)
theorem drop_pb (p : PB h g x w n) (bx : BX x) {tt : Nat} (ht0 : tt ≠ 0) (ht : tt < 12) : PB (p_X1_settle (vwH (htF tt h)) (htF tt h)) (p_X2_discardAllOf n (nI tt) g) (p_X5_drop_33 w n (nI tt) 31 (30 * w) (st2 x 0 (12 * w + tt) (b2i false))).2 w n := by
  have wx := p.2.2.1
  have hn := wx.2.2.1
  have okm := p.2.2.2.1
  obtain ⟨d1, d2, d3⟩ := da2 hn (nI tt) 31 0 g (by omega) (by omega)
  obtain ⟨-, r2, r3⟩ := dr33 (w := w) (n := n) (t := nI tt) 31 0 (st2 x 0 (12 * w + tt) (b2i false)) (by omega) (by omega)
  rw [Nat.add_zero] at r2 r3
  have yk : ∀ k j, k ≠ 0 → k ≠ 7 → (p_X5_drop_33 w n (nI tt) 31 (30 * w) (st2 x 0 (12 * w + tt) (b2i false))).2 k j = x k j := fun k j h1 h2 => by rw [r2 k j h2, st2_n h1]
  have y0 : ∀ t, t < 12 → (p_X5_drop_33 w n (nI tt) 31 (30 * w) (st2 x 0 (12 * w + tt) (b2i false))).2 0 (12 * w + t) = if t = tt then 0 else x 0 (12 * w + t) := fun t q => by
    rw [r2 0 _ (by omega), st2_ap]
    by_cases c : t = tt
    · rw [if_pos c, if_pos ⟨rfl, by omega⟩]; rfl
    · rw [if_neg c, if_neg (by omega)]
  have y7 : ∀ m, m < n → (p_X5_drop_33 w n (nI tt) 31 (30 * w) (st2 x 0 (12 * w + tt) (b2i false))).2 7 (30 * w + m) = if x 9 (30 * w + m) = nI tt then b2i true else x 7 (30 * w + m) := fun m hm => by
    rw [r3, st2_n (q := 9) (by omega), st2_n (q := 7) (by omega)]
    by_cases c : x 9 (30 * w + m) = nI tt
    · rw [if_pos c, if_pos ⟨by omega, by omega, c⟩]
    · rw [if_neg c, if_neg (fun z => c z.2.2)]
  have e31 : p_X2_discardAllOf n (nI tt) g = p_X2_discardAllOf_2 n (nI tt) 31 0 g := rfl
  rw [e31]
  generalize p_X2_discardAllOf_2 n (nI tt) 31 0 g = g' at d1 d2 d3 ⊢
  generalize (p_X5_drop_33 w n (nI tt) 31 (30 * w) (st2 x 0 (12 * w + tt) (b2i false))).2 = y at yk y0 y7 ⊢
  obtain ⟨ag, wy⟩ := ht_ag p bx ht0 ht y0 (fun k t h1 h2 h3 => yk k _ (by omega) (by omega))
  have v0 : ∀ m, vmX y w 0 m = vmX x w 0 m := fun m => yk 9 _ (by omega) (by omega)
  have v1 : ∀ m, vmX y w 1 m = vmX x w 1 m := fun m => by
    show kyF (!decide (y 6 (30 * w + m) = 0)) (y 10 (30 * w + m)) = _
    rw [yk 6 _ (by omega) (by omega), yk 10 _ (by omega) (by omega)]; rfl
  have v2 : ∀ m, vmX y w 2 m = vmX x w 2 m := fun m => yk 11 _ (by omega) (by omega)
  have v3 : ∀ m, vmX y w 3 m = vmX x w 3 m := fun m => yk 12 _ (by omega) (by omega)
  have vg : ∀ m, m < n → goB (vmX y w) m = (goB (vmX x w) m || decide (vmX x w 0 m = nI tt)) := fun m hm => by
    show (!decide (y 7 (30 * w + m) = 0)) = (!decide (x 7 (30 * w + m) = 0) || decide (x 9 (30 * w + m) = nI tt))
    rw [y7 m hm]
    by_cases c : x 9 (30 * w + m) = nI tt
    · rw [if_pos c, decide_eq_true c, Bool.or_true]; decide
    · rw [if_neg c, decide_eq_false c, Bool.or_false]
  have vgf : ∀ m, m < n → goB (vmX y w) m = false → goB (vmX x w) m = false ∧ ¬ vmX x w 0 m = nI tt := fun m hm z => by
    rw [vg m hm] at z
    simp only [Bool.or_eq_false_iff, decide_eq_false_iff_not] at z
    exact z
  have hth : ∀ t, t < 12 → t ≠ tt → thB (vwX y w) t = thB (vwX x w) t := fun t q hne => by
    show (!decide (y 0 (12 * w + t) = 0)) = !decide (x 0 (12 * w + t) = 0)
    rw [y0 t q, if_neg hne]
  refine (PB.settled ag wy (fun t q => by rw [ht_4]; exact p.hT q) (fun t h1 h2 => ?_) (fun t q hq => ?_) ⟨wy, ?_, hn, fun m hm => ?_⟩ ⟨?_, hn, fun m hm => ?_, fun m h1 h2 => ?_⟩ ?_ ?_).2
  · have h8 : htF tt h 8 0 = h 8 0 &&& (bm tt ^^^ (-1)) := by unfold htF; rw [st2_ap, if_pos ⟨rfl, rfl⟩]
    rw [h8, b_and, p.hb h1 h2, Bool.false_and]
  · rw [ht_4, yk 5 _ (by omega) (by omega)]
    by_cases c : t = tt
    · have : thB (vwX y w) t = !decide (y 0 (12 * w + t) = 0) := rfl
      rw [this, y0 t q, if_pos c] at hq
      exact absurd hq (by decide)
    · rw [hth t q c] at hq
      exact p.2.1 t q hq
  · rw [yk 8 w (by omega) (by omega)]; exact wx.2.1
  · rw [yk 9 _ (by omega) (by omega), yk 10 _ (by omega) (by omega), yk 6 _ (by omega) (by omega), yk 11 _ (by omega) (by omega)]; exact wx.2.2.2 m hm
  · rw [d2]; exact okm.1
  · obtain ⟨a1, a2, a3, a4, a5⟩ := okm.2.2.1 m hm
    rw [v0, v1, v2, v3, vg m hm, d1 0 (by omega), d1 1 (by omega), d1 2 (by omega), d1 3 (by omega), d3 m (by omega), a5, a1]
    refine ⟨rfl, a2, a3, a4, ?_⟩
    rw [decide_eq_true (p := 0 ≤ m) (by omega), decide_eq_true hm]
    simp
  · rw [d3 m h2, okm.2.2.2 m h1 h2, decide_eq_false (p := m < n) (by omega)]; simp
  · intro a b ha hb ga gb
    rw [v0, v0, v1, v1]
    exact p.2.2.2.2.1 a b ha hb (vgf a ha ga).1 (vgf b hb gb).1
  · intro m hm gm
    obtain ⟨z1, z2⟩ := vgf m hm gm
    rw [v0, hth _ (wx.wm m hm).1 (fun e => z2 (by rw [← e]; exact (wx.wm m hm).2))]
    exact p.2.2.2.2.2 m hm z1
end DRP
theorem m_drop {S : LSt} {x : Nat → Nat → Int32} {nf : Nat → Nat} {R w : Nat} (q : INV S x nf R w) (γ : Nat → Nat → Nat → Int32) (t : Int32) : ((p_X4_drop (tq S x) γ nf R w t S).1 = (p_X5_drop w (nf w) t x).1 ∧ INV (p_X4_drop (tq S x) γ nf R w t S).2 (p_X5_drop w (nf w) t x).2 nf R w) ∧ (ot t = true → WFT (vwH (htF (sN t) (S.1 (2 * w))))) := by
  have hw := q.2.2.2.2.1
  have p := q.1 w hw
  have bx := q.2.2.2.1
  refine ⟨?_, fun c => ?_⟩
  · unfold p_X4_drop p_X5_drop
    by_cases c : ot t = true
    · obtain ⟨c0, c1⟩ := ot_of c
      obtain ⟨hT, eT⟩ := wi_sN (b := 12) (by decide) c1
      rw [if_pos c, if_neg c0, c1, Bool.true_and]
      by_cases c3 : thB (vwX x w) (sN t) = true
      · rw [if_pos c3]
        have ed : p_X0_discardType (tq S x w) (γ w) (nf w) (sN t) (bs2 S w) = (1, upS (upS (bs2 S w) 0 (p_X1_settle (vwH (htF (sN t) (S.1 (2 * w)))) (htF (sN t) (S.1 (2 * w))))) 1 (p_X2_discardAllOf (nf w) (nI (sN t)) (S.1 (2 * w + 1)))) := by
          unfold p_X0_discardType p_X1_takeAway p_X0_discardType_8
          rw [tq_th, if_pos c3]
          rfl
        rw [ed]
        have r := drop_pb p bx (nz_sN c0 eT) hT
        obtain ⟨s1, s2, s3⟩ := dr33 (w := w) (n := nf w) (t := nI (sN t)) 31 0 (st2 x 0 (12 * w + sN t) (b2i false)) (by have := p.2.2.1.2.2.1; omega) (by omega)
        rw [Nat.add_zero, ← eT] at s1 s2 s3
        rw [← eT] at r
        refine ⟨s1.symm, ?_⟩
        have yk : ∀ k j, k ≠ 0 → k ≠ 7 → (p_X5_drop_33 w (nf w) t 31 (30 * w) (st2 x 0 (12 * w + sN t) (b2i false))).2 k j = x k j := fun k j h1 h2 => by rw [s2 k j h2, st2_n h1]
        have bx' : BX (st2 x 0 (12 * w + sN t) (b2i false)) := BX.b bx
        refine q.put (nf' := nf) ?_ (fun b hb hne => ⟨?_, ?_, rfl⟩) (fun b hb hne k t' hk ht' => ?_) (fun b hb hne => yk 8 b (by omega) (by omega)) (fun b hb hne k m hk hm => ?_) rfl (fun k j hk => yk k j (by omega) (by omega)) ?_
        · have e1 : (lsT (lsT S (2 * w) (p_X1_settle (vwH (htF (sN t) (S.1 (2 * w)))) (htF (sN t) (S.1 (2 * w))))) (2 * w + 1) (p_X2_discardAllOf (nf w) t (S.1 (2 * w + 1)))).1 (2 * w) = p_X1_settle (vwH (htF (sN t) (S.1 (2 * w)))) (htF (sN t) (S.1 (2 * w))) := by rw [lsT_n (by omega), lsT_s]
          have e2 : (lsT (lsT S (2 * w) (p_X1_settle (vwH (htF (sN t) (S.1 (2 * w)))) (htF (sN t) (S.1 (2 * w))))) (2 * w + 1) (p_X2_discardAllOf (nf w) t (S.1 (2 * w + 1)))).1 (2 * w + 1) = p_X2_discardAllOf (nf w) t (S.1 (2 * w + 1)) := lsT_s
          rw [← eT]
          show PB ((lsT (lsT S (2 * w) (p_X1_settle (vwH (htF (sN t) (S.1 (2 * w)))) (htF (sN t) (S.1 (2 * w))))) (2 * w + 1) (p_X2_discardAllOf (nf w) t (S.1 (2 * w + 1)))).1 (2 * w)) ((lsT (lsT S (2 * w) (p_X1_settle (vwH (htF (sN t) (S.1 (2 * w)))) (htF (sN t) (S.1 (2 * w))))) (2 * w + 1) (p_X2_discardAllOf (nf w) t (S.1 (2 * w + 1)))).1 (2 * w + 1)) _ w (nf w)
          rw [e1, e2]
          exact r
        · show (lsT (lsT S _ _) _ _).1 (2 * b) = _
          rw [lsT_n (by omega), lsT_n (by omega)]
        · show (lsT (lsT S _ _) _ _).1 (2 * b + 1) = _
          rw [lsT_n (by omega), lsT_n (by omega)]
        · by_cases d : k = 0
          · subst d
            rw [s2 0 _ (by omega), st2_ap, if_neg (by omega)]
          · exact yk k _ d (by omega)
        · by_cases d : k = 7
          · subst d
            have := (q.1 b hb).2.2.1.2.2.1
            have h30 := p.2.2.1.2.2.1
            rw [s3, if_neg (by omega), st2_n (by omega)]
          · exact yk k _ (by omega) d
        · intro k j hk
          by_cases d : k = 7
          · subst d
            rw [s3]
            by_cases e : 30 * w ≤ j ∧ j < 30 * w + nf w ∧ st2 x 0 (12 * w + sN t) (b2i false) 9 j = t
            · rw [if_pos e]; exact Or.inr rfl
            · rw [if_neg e]; exact bx' 7 j (by omega)
          · rw [s2 k j d]; exact bx' k j hk
      · rw [if_neg c3]
        have ed : p_X0_discardType (tq S x w) (γ w) (nf w) (sN t) (bs2 S w) = (0, upS (bs2 S w) 0 (S.1 (2 * w))) := by
          unfold p_X0_discardType p_X1_takeAway p_X0_discardType_8
          rw [tq_th, if_neg c3]
          rfl
        rw [ed]
        refine ⟨rfl, ?_⟩
        show INV (lsT (lsT S (2 * w) (S.1 (2 * w))) (2 * w + 1) (S.1 (2 * w + 1))) x nf R w
        rw [lsT_id, lsT_id]; exact q
    · rw [if_neg c]
      by_cases c0 : t = 0
      · rw [if_pos c0]; exact ⟨rfl, q⟩
      · have c1 : ¬ wi t 12 = true := fun z => c (by unfold ot; simp [c0, z])
        rw [if_neg c0, if_neg (by simp [c1])]; exact ⟨rfl, q⟩
  · obtain ⟨c0, c1⟩ := ot_of c
    obtain ⟨hT, eT⟩ := wi_sN (b := 12) (by decide) c1
    exact drop_wf p bx (nz_sN c0 eT) hT
