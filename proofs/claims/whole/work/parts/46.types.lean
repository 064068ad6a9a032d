/-! ===== what is written: types ===== -/
theorem b2i_of {v : Int32} (h : v = 0 ∨ v = 1) : b2i (!decide (v = 0)) = v := by
  rcases h with e | e <;> rw [e] <;> decide
theorem lsT_s {S : LSt} {k : Nat} {f : Nat → Nat → Int32} : (lsT S k f).1 k = f := by show upS S.1 k f k = f; unfold upS; rw [if_pos rfl]
theorem lsT_n {S : LSt} {k q : Nat} {f : Nat → Nat → Int32} (h : ¬ q = k) : (lsT S k f).1 q = S.1 q := by show upS S.1 k f q = S.1 q; unfold upS; rw [if_neg h]
theorem upS_at {s : Nat → Nat → Nat → Int32} {k q : Nat} {f : Nat → Nat → Int32} : upS s k f q = if q = k then f else s q := rfl
/-- build w has been written; the other one stays -/
theorem INV.put {S S' : LSt} {x y : Nat → Nat → Int32} {nf nf' : Nat → Nat} {R w : Nat} (q : INV S x nf R w) (hw : PB (S'.1 (2 * w)) (S'.1 (2 * w + 1)) y w (nf' w)) (ho : ∀ v, v < 2 → v ≠ w → S'.1 (2 * v) = S.1 (2 * v) ∧ S'.1 (2 * v + 1) = S.1 (2 * v + 1) ∧ nf' v = nf v) (h1 : ∀ v, v < 2 → v ≠ w → ∀ k t, k < 6 → t < 12 → y k (12 * v + t) = x k (12 * v + t)) (h2 : ∀ v, v < 2 → v ≠ w → y 8 v = x 8 v) (h3 : ∀ v, v < 2 → v ≠ w → ∀ k m, (k = 6 ∨ k = 7 ∨ k = 9 ∨ k = 10 ∨ k = 11 ∨ k = 12) → m < nf v → y k (30 * v + m) = x k (30 * v + m)) (h4 : S'.2.2 = S.2.2) (h5 : ∀ k j, 13 ≤ k → y k j = x k j) (h6 : BX y) : INV S' y nf' R w := by
  obtain ⟨q1, q2, q3, q4, q5, q6, q7⟩ := q
  refine ⟨fun v hv => ?_, ?_, ?_, h6, q5, ?_, ?_⟩
  · by_cases c : v = w
    · rw [c]; exact hw
    · obtain ⟨e1, e2, e3⟩ := ho v hv c
      rw [e1, e2, e3]
      exact (q1 v hv).frame (h1 v hv c) (h2 v hv c) (h3 v hv c)
  · rw [h4]; exact q2
  · rw [h4]
    refine ⟨q3.1, ?_, fun i hi => ?_⟩
    · rw [h5 19 0 (by omega)]; exact q3.2.1
    · rw [h5 13 i (by omega), h5 14 i (by omega), h5 15 i (by omega), h5 16 i (by omega)]
      exact q3.2.2 i hi
  · rw [h4]; exact q6
  · rw [h5 19 1 (by omega)]; exact q7
theorem vm_same {x y : Nat → Nat → Int32} {w : Nat} (e : ∀ k j, (k = 6 ∨ k = 7 ∨ k = 9 ∨ k = 10 ∨ k = 11 ∨ k = 12) → y k j = x k j) : vmX y w = vmX x w := by
  funext k m
  exact vm_at (fun k hk => e k _ hk) k
section TYP
variable {h g x : Nat → Nat → Int32} {w n : Nat}
/-- the hierarchy is settled anew over the rows h0 -/
theorem PB.settled {h0 y : Nat → Nat → Int32} (ag : AG (vwH h0) (vwX y w)) (wy : WFT (vwX y w)) (hT : ∀ t, t < 12 → isT (h0 4 t)) (hb : ∀ t, 12 ≤ t → t < 32 → bt (h0 8 0) t = false) (hh : ∀ t, t < 12 → thB (vwX y w) t = true → h0 4 t = y 5 (12 * w + t)) (wx : WX y w n) (okm : OKM g (vmX y w) n) (uq : UQ (vmX y w) n) (ot : OT (vwX y w) (vmX y w) n) : WFT (vwH h0) ∧ PB (p_X1_settle (vwH h0) h0) g y w n := by
  have ag' : AG (vwX y w) (vwH h0) := fun k t hk ht => (ag k t hk ht).symm
  have wf : WFT (vwH h0) := ag_WFT wy ag' hT
  have ok := settle_ok wf rfl hb
  refine ⟨wf, ⟨vwH h0, ok, wf, ag⟩, fun t ht q => ?_, wx, okm, uq, ot⟩
  rw [ok.b.ho ht]
  exact hh t ht q
theorem PB.th0 (p : PB h g x w n) (bx : BX x) {t : Nat} (ht : t < 12) : b2i (bt (h 8 0) t) = x 0 (12 * w + t) := by
  obtain ⟨⟨σ, q1, q2, q3⟩, -⟩ := p
  have e : thB σ t = !decide (x 0 (12 * w + t) = 0) := ag_th q3 ht
  rw [q1.b.th ht, e, b2i_of (bx 0 _ (by omega))]
theorem PB.row (p : PB h g x w n) {k t : Nat} (hk : k < 4) (ht : t < 12) : h k t = x (k + 1) (12 * w + t) := by
  obtain ⟨⟨σ, q1, q2, q3⟩, -⟩ := p
  have e : σ (k + 1) t = x (k + 1) (12 * w + t) := q3 (k + 1) t (by omega) ht
  rw [← e]
  have : k = 0 ∨ k = 1 ∨ k = 2 ∨ k = 3 := by omega
  rcases this with z | z | z | z <;> subst z
  · exact q1.b.fl ht
  · exact q1.b.pk ht
  · exact q1.b.su ht
  · exact q1.b.fa ht
theorem PB.hT (p : PB h g x w n) {t : Nat} (ht : t < 12) : isT (h 4 t) := by
  obtain ⟨⟨σ, q1, q2, q3⟩, -⟩ := p
  rw [q1.b.ho ht]
  exact (q2.1 t ht).2.1
theorem PB.hb (p : PB h g x w n) {t : Nat} (h1 : 12 ≤ t) (h2 : t < 32) : bt (h 8 0) t = false := by
  obtain ⟨⟨σ, q1, q2, q3⟩, -⟩ := p
  exact q1.2.2.2.2 t h1 h2
theorem k5 {k : Nat} (h : k < 5) : k = 0 ∨ k = 1 ∨ k = 2 ∨ k = 3 ∨ k = 4 := by omega
noncomputable def xTy (x : Nat → Nat → Int32) (j : Nat) (t u v y z : Int32) : Nat → Nat → Int32 := st2 (st2 (st2 (st2 (st2 (st2 x 0 j (b2i true)) 1 j u) 2 j v) 3 j y) 4 j z) 5 j t
theorem xTy_at {x : Nat → Nat → Int32} {j : Nat} {t u v y z : Int32} {k i : Nat} : xTy x j t u v y z k i = if i = j then (if k = 0 then 1 else if k = 1 then u else if k = 2 then v else if k = 3 then y else if k = 4 then z else if k = 5 then t else x k i) else x k i := by
  unfold xTy
  simp only [st2_ap]
  by_cases c : i = j
  · simp only [c, and_true, if_true]
    have : k = 0 ∨ k = 1 ∨ k = 2 ∨ k = 3 ∨ k = 4 ∨ k = 5 ∨ 6 ≤ k := by omega
    rcases this with e | e | e | e | e | e | e
    · subst e; rfl
    · subst e; rfl
    · subst e; rfl
    · subst e; rfl
    · subst e; rfl
    · subst e; rfl
    · simp only [if_neg (show ¬ k = 0 by omega), if_neg (show ¬ k = 1 by omega), if_neg (show ¬ k = 2 by omega), if_neg (show ¬ k = 3 by omega), if_neg (show ¬ k = 4 by omega), if_neg (show ¬ k = 5 by omega)]
  · simp only [c, and_false, if_false]
theorem b4096 {z : Int32} (h : wi z 4096 = true) {i : Nat} (h1 : 12 ≤ i) (h2 : i < 32) : bt z i = false := by
  obtain ⟨j, hj, e⟩ := wi_of (b := 4096) (by decide) h
  rw [e]
  show (BitVec.ofNat 32 j).getLsbD i = false
  rw [BitVec.getLsbD_ofNat]
  have : j.testBit i = false := Nat.testBit_lt_two_pow (Nat.lt_of_lt_of_le hj (by
    have : (4096 : Nat) = 2 ^ 12 := by decide
    rw [this]
    exact Nat.pow_le_pow_right (by omega) h1))
  rw [this, Bool.and_false]
theorem type_pb (p : PB h g x w n) (bx : BX x) {tt : Nat} (ht0 : tt ≠ 0) (ht : tt < 12) {u v y z : Int32} (hy : wi y 12 = true) (hz : wi z 4096 = true) : WFT (vwH (hdF tt u v y z h)) ∧ PB (p_X1_settle (vwH (hdF tt u v y z h)) (hdF tt u v y z h)) g (xTy x (12 * w + tt) (nI tt) u v y z) w n := by
  have wx := p.2.2.1
  have hd8 : hdF tt u v y z h 8 0 = h 8 0 ||| bm tt := by unfold hdF; simp only [st2_ap]; rfl
  have hd0 : ∀ t, hdF tt u v y z h 0 t = if t = tt then u else h 0 t := fun t => by unfold hdF; simp only [st2_ap]; simp
  have hd1 : ∀ t, hdF tt u v y z h 1 t = if t = tt then v else h 1 t := fun t => by unfold hdF; simp only [st2_ap]; simp
  have hd2 : ∀ t, hdF tt u v y z h 2 t = if t = tt then y else h 2 t := fun t => by unfold hdF; simp only [st2_ap]; simp
  have hd3 : ∀ t, hdF tt u v y z h 3 t = if t = tt then z else h 3 t := fun t => by unfold hdF; simp only [st2_ap]; simp
  have hd4 : ∀ t, hdF tt u v y z h 4 t = if t = tt then nI tt else h 4 t := fun t => by unfold hdF; simp only [st2_ap]; simp
  have hx : ∀ k t, t < 12 → xTy x (12 * w + tt) (nI tt) u v y z k (12 * w + t) = if t = tt then (if k = 0 then 1 else if k = 1 then u else if k = 2 then v else if k = 3 then y else if k = 4 then z else if k = 5 then nI tt else x k (12 * w + t)) else x k (12 * w + t) := fun k t _ => by
    rw [xTy_at]
    by_cases c : t = tt
    · rw [if_pos c, if_pos (by omega)]
    · rw [if_neg c, if_neg (by omega)]
  have vm : vmX (xTy x (12 * w + tt) (nI tt) u v y z) w = vmX x w := vm_same (fun k j hk => by
    rw [xTy_at]
    by_cases c : j = 12 * w + tt
    · rw [if_pos c, if_neg (by omega), if_neg (by omega), if_neg (by omega), if_neg (by omega), if_neg (by omega), if_neg (by omega)]
    · rw [if_neg c])
  have vw : ∀ k t, vwX (xTy x (12 * w + tt) (nI tt) u v y z) w k t = xTy x (12 * w + tt) (nI tt) u v y z k (12 * w + t) := fun k t => rfl
  have hth : ∀ t, t < 12 → (thB (vwX (xTy x (12 * w + tt) (nI tt) u v y z) w) t = true ↔ t = tt ∨ thB (vwX x w) t = true) := fun t q => by
    have e0 : thB (vwX (xTy x (12 * w + tt) (nI tt) u v y z) w) t = !decide (xTy x (12 * w + tt) (nI tt) u v y z 0 (12 * w + t) = 0) := rfl
    have e1 : thB (vwX x w) t = !decide (x 0 (12 * w + t) = 0) := rfl
    rw [e0, e1, hx 0 t q]
    by_cases c : t = tt
    · simp [c]
    · simp [c]
  have wy : WFT (vwX (xTy x (12 * w + tt) (nI tt) u v y z) w) := by
    refine ⟨fun t q => ?_, ?_, ?_, ?_, ?_, ?_⟩
    · obtain ⟨a1, a2, a3, a4⟩ := wx.1.1 t q
      rw [vw, vw, vw, hx 3 t q, hx 4 t q, hx 5 t q]
      by_cases c : t = tt
      · simp only [c, if_true, if_neg (by decide : ¬ (3 : Nat) = 0), if_neg (by decide : ¬ (3 : Nat) = 1), if_neg (by decide : ¬ (3 : Nat) = 2), if_neg (by decide : ¬ (4 : Nat) = 0), if_neg (by decide : ¬ (4 : Nat) = 1), if_neg (by decide : ¬ (4 : Nat) = 2), if_neg (by decide : ¬ (4 : Nat) = 3), if_neg (by decide : ¬ (5 : Nat) = 0), if_neg (by decide : ¬ (5 : Nat) = 1), if_neg (by decide : ¬ (5 : Nat) = 2), if_neg (by decide : ¬ (5 : Nat) = 3), if_neg (by decide : ¬ (5 : Nat) = 4)]
        have hy' := wi_sN (b := 12) (by decide) hy
        exact ⟨Or.inr hy', isT_nI ht, fun _ e => by rw [e] at hy; exact absurd hy (by decide), fun i h1 h2 => b4096 hz h1 h2⟩
      · simp only [if_neg c]
        exact ⟨a1, a2, a3, a4⟩
    · rw [vw, hx 0 0 (by omega), if_neg (fun z => ht0 z.symm)]; exact wx.1.2.1
    · rw [vw, hx 1 0 (by omega), if_neg (fun z => ht0 z.symm)]; exact wx.1.2.2.1
    · rw [vw, hx 3 0 (by omega), if_neg (fun z => ht0 z.symm)]; exact wx.1.2.2.2.1
    · rw [vw, hx 4 0 (by omega), if_neg (fun z => ht0 z.symm)]; exact wx.1.2.2.2.2.1
    · rw [vw, hx 2 0 (by omega), if_neg (fun z => ht0 z.symm)]; exact wx.1.2.2.2.2.2
  have hmr : ∀ k j, 6 ≤ k → xTy x (12 * w + tt) (nI tt) u v y z k j = x k j := fun k j hk => by
    rw [xTy_at]
    by_cases c : j = 12 * w + tt
    · rw [if_pos c, if_neg (by omega), if_neg (by omega), if_neg (by omega), if_neg (by omega), if_neg (by omega), if_neg (by omega)]
    · rw [if_neg c]
  refine PB.settled ?_ wy (fun t q => ?_) (fun t h1 h2 => ?_) (fun t q hq => ?_) ⟨wy, ?_, wx.2.2.1, fun m hm => ?_⟩ ?_ ?_ ?_
  · intro k t hk q
    rw [vw]
    rcases k5 hk with e | e | e | e | e <;> subst e
    · show b2i (bt (hdF tt u v y z h 8 0) t) = _
      rw [hd8, b_or, b_bm (by omega) (by omega), hx 0 t q]
      by_cases c : t = tt
      · rw [if_pos c, decide_eq_true c, Bool.or_true]; rfl
      · rw [if_neg c, decide_eq_false c, Bool.or_false]; exact p.th0 bx q
    · show hdF tt u v y z h 0 t = _
      rw [hd0, hx 1 t q]
      by_cases c : t = tt
      · rw [if_pos c, if_pos c]; rfl
      · rw [if_neg c, if_neg c]; exact p.row (k := 0) (by omega) q
    · show hdF tt u v y z h 1 t = _
      rw [hd1, hx 2 t q]
      by_cases c : t = tt
      · rw [if_pos c, if_pos c]; rfl
      · rw [if_neg c, if_neg c]; exact p.row (k := 1) (by omega) q
    · show hdF tt u v y z h 2 t = _
      rw [hd2, hx 3 t q]
      by_cases c : t = tt
      · rw [if_pos c, if_pos c]; rfl
      · rw [if_neg c, if_neg c]; exact p.row (k := 2) (by omega) q
    · show hdF tt u v y z h 3 t = _
      rw [hd3, hx 4 t q]
      by_cases c : t = tt
      · rw [if_pos c, if_pos c]; rfl
      · rw [if_neg c, if_neg c]; exact p.row (k := 3) (by omega) q
  · rw [hd4]
    by_cases c : t = tt
    · rw [if_pos c]; exact isT_nI ht
    · rw [if_neg c]; exact p.hT q
  · rw [hd8, b_or, b_bm (by omega) h2, p.hb h1 h2, decide_eq_false (by omega)]; rfl
  · rw [hd4, hx 5 t q]
    by_cases c : t = tt
    · rw [if_pos c, if_pos c]; rfl
    · rw [if_neg c, if_neg c]
      exact p.2.1 t q (((hth t q).mp hq).resolve_left c)
  · rw [hmr 8 w (by omega)]; exact wx.2.1
  · rw [hmr 9 _ (by omega), hmr 10 _ (by omega), hmr 6 _ (by omega), hmr 11 _ (by omega)]; exact wx.2.2.2 m hm
  · rw [vm]; exact p.2.2.2.1
  · rw [vm]; exact p.2.2.2.2.1
  · rw [vm]
    intro m hm hg
    exact (hth _ (wx.wm m hm).1).mpr (Or.inr (p.2.2.2.2.2 m hm hg))
end TYP
theorem BX.ty {x : Nat → Nat → Int32} {j : Nat} {t u v y z : Int32} (h : BX x) : BX (xTy x j t u v y z) := by
  unfold xTy
  exact BX.n (by omega) (BX.n (by omega) (BX.n (by omega) (BX.n (by omega) (BX.n (by omega) (BX.b h)))))
theorem ot_of {t : Int32} (h : ot t = true) : ¬ t = 0 ∧ wi t 12 = true := by
  unfold ot at h
  simp only [Bool.and_eq_true, Bool.not_eq_true', decide_eq_false_iff_not] at h
  exact h
theorem nz_sN {t : Int32} (h0 : ¬ t = 0) (h : t = nI (sN t)) : sN t ≠ 0 := fun e => h0 (by rw [h, e]; rfl)
theorem m_type {S : LSt} {x : Nat → Nat → Int32} {nf : Nat → Nat} {R w : Nat} (q : INV S x nf R w) (τ γ : Nat → Nat → Nat → Int32) (t u v y z : Int32) : ((p_X4_type τ γ nf R w t u v y z S).1 = (p_X5_type w (nf w) t u v y z x).1 ∧ INV (p_X4_type τ γ nf R w t u v y z S).2 (p_X5_type w (nf w) t u v y z x).2 nf R w) ∧ (ot t = true → wi u 16 = true → wi v 4 = true → wi y 12 = true → wi z 4096 = true → WFT (vwH (hdF (sN t) u v y z (S.1 (2 * w))))) := by
  have hw := q.2.2.2.2.1
  have p := q.1 w hw
  refine ⟨?_, fun h1 h2 h3 h4 h5 => ?_⟩
  · unfold p_X4_type p_X5_type
    by_cases c : ot t = true
    · obtain ⟨c0, c1⟩ := ot_of c
      obtain ⟨hT, eT⟩ := wi_sN (b := 12) (by decide) c1
      rw [if_pos c, if_neg c0, if_pos c1]
      by_cases c2 : wi u 16 = true
      · rw [if_pos c2, if_pos c2]
        by_cases c3 : wi v 4 = true
        · rw [if_pos c3, if_pos c3]
          by_cases c4 : wi y 12 = true
          · rw [if_pos c4, if_pos c4]
            by_cases c5 : wi z 4096 = true
            · rw [if_pos c5, if_pos c5]
              refine ⟨rfl, ?_⟩
              have r := (type_pb (u := u) (v := v) p q.2.2.2.1 (nz_sN c0 eT) hT c4 c5).2
              rw [← eT] at r
              refine q.put (nf' := nf) ?_ (fun b hb hne => ⟨?_, ?_, rfl⟩) (fun b hb hne k t' hk ht' => ?_) (fun b hb hne => ?_) (fun b hb hne k m hk hm => ?_) rfl (fun k j hk => ?_) ?_
              · have e1 : (lsT S (2 * w) (p_X1_define (sN t) u v y z (S.1 (2 * w)))).1 (2 * w) = p_X1_settle (vwH (hdF (sN t) u v y z (S.1 (2 * w)))) (hdF (sN t) u v y z (S.1 (2 * w))) := by
                  rw [lsT_s]
                  rfl
                have e2 : (lsT S (2 * w) (p_X1_define (sN t) u v y z (S.1 (2 * w)))).1 (2 * w + 1) = S.1 (2 * w + 1) := lsT_n (by omega)
                rw [e1, e2]
                exact r
              · exact lsT_n (by omega)
              · exact lsT_n (by omega)
              · show xTy x (12 * w + sN t) t u v y z k (12 * b + t') = x k (12 * b + t')
                rw [xTy_at, if_neg (by omega)]
              · show xTy x (12 * w + sN t) t u v y z 8 b = x 8 b
                rw [xTy_at]
                by_cases d : b = 12 * w + sN t
                · rw [if_pos d, if_neg (by omega), if_neg (by omega), if_neg (by omega), if_neg (by omega), if_neg (by omega), if_neg (by omega)]
                · rw [if_neg d]
              · show xTy x (12 * w + sN t) t u v y z k (30 * b + m) = x k (30 * b + m)
                rw [xTy_at]
                by_cases d : 30 * b + m = 12 * w + sN t
                · rw [if_pos d, if_neg (by omega), if_neg (by omega), if_neg (by omega), if_neg (by omega), if_neg (by omega), if_neg (by omega)]
                · rw [if_neg d]
              · show xTy x (12 * w + sN t) t u v y z k j = x k j
                rw [xTy_at]
                by_cases d : j = 12 * w + sN t
                · rw [if_pos d, if_neg (by omega), if_neg (by omega), if_neg (by omega), if_neg (by omega), if_neg (by omega), if_neg (by omega)]
                · rw [if_neg d]
              · exact BX.ty q.2.2.2.1
            · rw [if_neg c5, if_neg c5]; exact ⟨rfl, q⟩
          · rw [if_neg c4, if_neg c4]; exact ⟨rfl, q⟩
        · rw [if_neg c3, if_neg c3]; exact ⟨rfl, q⟩
      · rw [if_neg c2, if_neg c2]; exact ⟨rfl, q⟩
    · rw [if_neg c]
      by_cases c0 : t = 0
      · rw [if_pos c0]; exact ⟨rfl, q⟩
      · rw [if_neg c0, if_neg (fun z => c (by unfold ot; simp [c0, z]))]; exact ⟨rfl, q⟩
  · obtain ⟨c0, c1⟩ := ot_of h1
    obtain ⟨hT, eT⟩ := wi_sN (b := 12) (by decide) c1
    exact (type_pb p q.2.2.2.1 (nz_sN c0 eT) hT h4 h5).1
