/-! ===== what is written: member, write, refer, forget, branch ===== -/
def xMe (x : Nat → Nat → Int32) (w n : Nat) (t : Int32) (u : Bool) (v y z : Int32) : Nat → Nat → Int32 := st2 (st2 (st2 (st2 (st2 (st2 (st2 x 7 (30 * w + n) (b2i false)) 9 (30 * w + n) t) 6 (30 * w + n) (b2i u)) 10 (30 * w + n) v) 11 (30 * w + n) y) 12 (30 * w + n) z) 8 w (nI (n + 1))
section MEM
variable {x : Nat → Nat → Int32} {w n : Nat} {t : Int32} {u : Bool} {v y z : Int32}
theorem xMe_ne {k j : Nat} (h1 : j ≠ 30 * w + n) (h2 : k ≠ 8) : xMe x w n t u v y z k j = x k j := by
  unfold xMe
  rw [st2_n h2, st2_ap, if_neg (by omega), st2_ap, if_neg (by omega), st2_ap, if_neg (by omega), st2_ap, if_neg (by omega), st2_ap, if_neg (by omega), st2_ap, if_neg (by omega)]
theorem xMe_k {k j : Nat} (h : k < 6 ∨ 13 ≤ k) : xMe x w n t u v y z k j = x k j := by
  unfold xMe
  rw [st2_n (by omega), st2_n (by omega), st2_n (by omega), st2_n (by omega), st2_n (by omega), st2_n (by omega), st2_n (by omega)]
theorem xMe_8 {j : Nat} : xMe x w n t u v y z 8 j = if j = w then nI (n + 1) else x 8 j := by
  unfold xMe
  rw [st2_ap]
  by_cases c : j = w
  · rw [if_pos c, if_pos ⟨rfl, c⟩]
  · rw [if_neg c, if_neg (fun q => c q.2), st2_n (by omega), st2_n (by omega), st2_n (by omega), st2_n (by omega), st2_n (by omega), st2_n (by omega)]
theorem xMe_at : xMe x w n t u v y z 7 (30 * w + n) = 0 ∧ xMe x w n t u v y z 9 (30 * w + n) = t ∧ xMe x w n t u v y z 6 (30 * w + n) = b2i u ∧ xMe x w n t u v y z 10 (30 * w + n) = v ∧ xMe x w n t u v y z 11 (30 * w + n) = y ∧ xMe x w n t u v y z 12 (30 * w + n) = z := by
  unfold xMe
  simp only [st2_ap]
  simp
  rfl
theorem BX.me (h : BX x) : BX (xMe x w n t u v y z) := by
  unfold xMe
  exact BX.n (by omega) (BX.n (by omega) (BX.n (by omega) (BX.n (by omega) (BX.b (BX.n (by omega) (BX.b h))))))
end MEM
theorem b2i_nd (u : Bool) : (!decide (b2i u = 0)) = u := by cases u <;> rfl
theorem m_member {S : LSt} {x : Nat → Nat → Int32} {nf : Nat → Nat} {R w : Nat} (q : INV S x nf R w) (t : Int32) (u : Bool) (v y z : Int32) : (p_X4_member (tq S x) (fun b => vmX x b) nf R w t u v y z S).1 = (p_X5_member w (nf w) t u v y z x).1 ∧ ∃ nf', INV (p_X4_member (tq S x) (fun b => vmX x b) nf R w t u v y z S).2 (p_X5_member w (nf w) t u v y z x).2 nf' R w := by
  have hw := q.2.2.2.2.1
  have p := q.1 w hw
  have bx := q.2.2.2.1
  have hn := p.2.2.1.2.2.1
  have sid : INV (lsT (lsT S (2 * w) (S.1 (2 * w))) (2 * w + 1) (S.1 (2 * w + 1))) x nf R w := by rw [lsT_id, lsT_id]; exact q
  unfold p_X4_member p_X5_member
  by_cases c1 : wi t 12 = true
  · obtain ⟨hT, eT⟩ := wi_sN (b := 12) (by decide) c1
    rw [if_pos c1, c1, Bool.true_and]
    by_cases c3 : thB (vwX x w) (sN t) = true
    · rw [if_pos c3]
      by_cases c2 : wi v 15 = true
      · obtain ⟨hS, eS⟩ := wi_sN (b := 15) (by decide) c2
        rw [if_pos c2, if_pos c2]
        by_cases c4 : wi y 4 = true
        · rw [if_pos c4, if_pos c4]
          by_cases c5 : wi z 8 = true
          · rw [if_pos c5, if_pos c5, ← eS]
            rcases fd_od (γ := vmX x w) (n := nf w) (t := sN t) (key := kyF u v) hn with ⟨f1, f2⟩ | ⟨j, hj, hg, f0, f1, f2⟩
            · rw [f2, if_pos m1_lt]
              by_cases c6 : nf w = 30
              · rw [if_pos c6]
                have ea : p_X0_addMember (tq S x w) (vmX x w) (nf w) (sN t) u v y z (bs2 S w) = (-3, upS (bs2 S w) 1 (S.1 (2 * w + 1))) := by
                  unfold p_X0_addMember p_X2_append
                  rw [tq_th, if_pos c3, f1, if_pos rfl, if_neg (c := nf w < 30) (by omega)]
                  rfl
                show (p_X0_addMember (tq S x w) (vmX x w) (nf w) (sN t) u v y z (bs2 S w)).1 = _ ∧ ∃ nf', INV (lsT (lsT S (2 * w) ((p_X0_addMember (tq S x w) (vmX x w) (nf w) (sN t) u v y z (bs2 S w)).2 0)) (2 * w + 1) ((p_X0_addMember (tq S x w) (vmX x w) (nf w) (sN t) u v y z (bs2 S w)).2 1)) _ nf' R w
                rw [ea]
                exact ⟨rfl, nf, sid⟩
              · rw [if_neg c6]
                have ea : p_X0_addMember (tq S x w) (vmX x w) (nf w) (sN t) u v y z (bs2 S w) = (nI (nf w), upS (bs2 S w) 1 (st2 (st2 (st2 (st2 (st2 (S.1 (2 * w + 1)) 4 0 (nI (nf w + 1))) 0 (nf w) (nI (sN t))) 1 (nf w) (kyF u v)) 2 (nf w) y) 3 (nf w) z)) := by
                  unfold p_X0_addMember p_X2_append
                  rw [tq_th, if_pos c3, f1, if_pos rfl, if_pos (c := nf w < 30) (by omega)]
                  rfl
                show (p_X0_addMember (tq S x w) (vmX x w) (nf w) (sN t) u v y z (bs2 S w)).1 = _ ∧ ∃ nf', INV (lsT (lsT S (2 * w) ((p_X0_addMember (tq S x w) (vmX x w) (nf w) (sN t) u v y z (bs2 S w)).2 0)) (2 * w + 1) ((p_X0_addMember (tq S x w) (vmX x w) (nf w) (sN t) u v y z (bs2 S w)).2 1)) (xMe x w (nf w) t u v y z) nf' R w
                rw [ea]
                refine ⟨rfl, fun b => if b = w then nf w + 1 else nf b, ?_⟩
                rw [← eT]
                show INV (lsT (lsT S (2 * w) (S.1 (2 * w))) (2 * w + 1) (st2 (st2 (st2 (st2 (st2 (S.1 (2 * w + 1)) 4 0 (nI (nf w + 1))) 0 (nf w) t) 1 (nf w) (kyF u v)) 2 (nf w) y) 3 (nf w) z)) (xMe x w (nf w) t u v y z) _ R w
                rw [lsT_id]
                refine q.put ?_ (fun b hb hne => ⟨lsT_n (by omega), lsT_n (by omega), if_neg hne⟩) (fun b hb hne k t' hk ht' => xMe_k (Or.inl hk)) (fun b hb hne => by rw [xMe_8, if_neg hne]) (fun b hb hne k m hk hm => xMe_ne (by have := (q.1 b hb).2.2.1.2.2.1; omega) (by omega)) rfl (fun k j hk => xMe_k (Or.inr hk)) (BX.me bx)
                rw [lsT_s, lsT_n (by omega), if_pos rfl]
                have okm := p.2.2.2.1
                obtain ⟨t7, t9, t6, t10, t11, t12⟩ := xMe_at (x := x) (w := w) (n := nf w) (t := t) (u := u) (v := v) (y := y) (z := z)
                have vo : ∀ k m, m < nf w → vmX (xMe x w (nf w) t u v y z) w k m = vmX x w k m := fun k m hm => vm_at (fun k hk => xMe_ne (by omega) (by omega)) k
                have vgo : ∀ m, m < nf w → goB (vmX (xMe x w (nf w) t u v y z) w) m = goB (vmX x w) m := fun m hm => by unfold goB; rw [vo 4 m hm]
                have n0 : vmX (xMe x w (nf w) t u v y z) w 0 (nf w) = t := t9
                have n1 : vmX (xMe x w (nf w) t u v y z) w 1 (nf w) = kyF u v := by
                  show kyF (!decide (xMe x w (nf w) t u v y z 6 (30 * w + nf w) = 0)) (xMe x w (nf w) t u v y z 10 (30 * w + nf w)) = _
                  rw [t6, t10, b2i_nd]
                have n2 : vmX (xMe x w (nf w) t u v y z) w 2 (nf w) = y := t11
                have n3 : vmX (xMe x w (nf w) t u v y z) w 3 (nf w) = z := t12
                have ng : goB (vmX (xMe x w (nf w) t u v y z) w) (nf w) = false := by
                  show (!decide (xMe x w (nf w) t u v y z 7 (30 * w + nf w) = 0)) = false
                  rw [t7]; rfl
                have no : ∀ m, m < nf w → goB (vmX x w) m = false → vmX x w 0 m = t → vmX x w 1 m = kyF u v → False := fun m hm h1 h2 h3 => by
                  have e := fd_uq p.2.2.2.2.1 p.2.2.1.wm hm h1 h3
                  rw [h2] at e
                  have e2 : fdI (vmX x w) (nf w) (sN t) (kyF u v) = nI m := by unfold fdI; rw [e, if_pos hm]
                  rw [f1] at e2
                  exact nI_nn (k := m) (by omega) e2.symm
                have lt1 : ∀ m, m < nf w + 1 → m < nf w ∨ m = nf w := fun m hm => by omega
                have hX1 : ∀ k t', k < 6 → t' < 12 → xMe x w (nf w) t u v y z k (12 * w + t') = x k (12 * w + t') := fun k t' hk _ => xMe_k (Or.inl hk)
                have hX8 : xMe x w (nf w) t u v y z 8 w = nI (nf w + 1) := by rw [xMe_8, if_pos rfl]
                have hXm : ∀ k m, (k = 6 ∨ k = 9 ∨ k = 10 ∨ k = 11) → m < nf w → xMe x w (nf w) t u v y z k (30 * w + m) = x k (30 * w + m) := fun k m hk hm => xMe_ne (by omega) (by omega)
                generalize xMe x w (nf w) t u v y z = X at t9 t10 t6 t11 vo vgo n0 n1 n2 n3 ng hX1 hX8 hXm ⊢
                generalize S.1 (2 * w + 1) = g at p okm ⊢
                refine p.mem hX1 hX8 (by omega) (fun m hm => ?_) ⟨?_, by omega, fun m hm => ?_, fun m h1 h2 => ?_⟩ ?_ ?_
                · rcases lt1 m hm with d | d
                  · rw [hXm 9 m (by omega) d, hXm 10 m (by omega) d, hXm 6 m (by omega) d, hXm 11 m (by omega) d]; exact p.2.2.1.2.2.2 m d
                  · subst d
                    rw [t9, t10, t6, t11]
                    exact ⟨⟨hT, eT⟩, ⟨hS, eS⟩, by cases u <;> simp [b2i], wi_A c4⟩
                · simp only [st2_ap]; simp
                · rcases lt1 m hm with d | d
                  · obtain ⟨a1, a2, a3, a4, a5⟩ := okm.2.2.1 m d
                    have dn : ¬ m = nf w := by omega
                    rw [vo 0 m d, vo 1 m d, vo 2 m d, vo 3 m d, vgo m d]
                    simp only [st2_ap]
                    simp [dn]
                    exact ⟨a1, a2, a3, a4, a5⟩
                  · subst d
                    rw [n0, n1, n2, n3, ng]
                    simp only [st2_ap]
                    simp
                    exact okm.2.2.2 _ (Nat.le_refl _) (by omega)
                · simp only [st2_ap]
                  simp
                  exact okm.2.2.2 m (by omega) h2
                · intro a b ha hb ga gb e0 e1
                  rcases lt1 a ha with d1 | d1 <;> rcases lt1 b hb with d2 | d2
                  · rw [vgo a d1] at ga
                    rw [vgo b d2] at gb
                    rw [vo 0 a d1, vo 0 b d2] at e0
                    rw [vo 1 a d1, vo 1 b d2] at e1
                    exact p.2.2.2.2.1 a b d1 d2 ga gb e0 e1
                  · subst d2
                    rw [vgo a d1] at ga
                    rw [vo 0 a d1, n0] at e0
                    rw [vo 1 a d1, n1] at e1
                    exact (no a d1 ga e0 e1).elim
                  · subst d1
                    rw [vgo b d2] at gb
                    rw [vo 0 b d2, n0] at e0
                    rw [vo 1 b d2, n1] at e1
                    exact (no b d2 gb e0.symm e1.symm).elim
                  · omega
                · intro m hm gm
                  rcases lt1 m hm with d | d
                  · rw [vgo m d] at gm
                    rw [vo 0 m d]
                    exact p.2.2.2.2.2 m d gm
                  · subst d
                    rw [n0]; exact c3
            · rw [f2, if_neg (nI_pos (by omega))]
              have ea : p_X0_addMember (tq S x w) (vmX x w) (nf w) (sN t) u v y z (bs2 S w) = (-1, bs2 S w) := by
                unfold p_X0_addMember
                rw [tq_th, if_pos c3, f1, if_neg (nI_nn (by omega))]
              show (p_X0_addMember (tq S x w) (vmX x w) (nf w) (sN t) u v y z (bs2 S w)).1 = _ ∧ ∃ nf', INV (lsT (lsT S (2 * w) ((p_X0_addMember (tq S x w) (vmX x w) (nf w) (sN t) u v y z (bs2 S w)).2 0)) (2 * w + 1) ((p_X0_addMember (tq S x w) (vmX x w) (nf w) (sN t) u v y z (bs2 S w)).2 1)) _ nf' R w
              rw [ea]
              exact ⟨rfl, nf, sid⟩
          · rw [if_neg c5, if_neg c5]; exact ⟨rfl, nf, q⟩
        · rw [if_neg c4, if_neg c4]; exact ⟨rfl, nf, q⟩
      · rw [if_neg c2, if_neg c2]; exact ⟨rfl, nf, q⟩
    · rw [if_neg c3]
      by_cases c2 : wi v 15 = true
      · rw [if_pos c2]
        by_cases c4 : wi y 4 = true
        · rw [if_pos c4]
          by_cases c5 : wi z 8 = true
          · rw [if_pos c5]
            have ea : p_X0_addMember (tq S x w) (vmX x w) (nf w) (sN t) u v y z (bs2 S w) = (-1, bs2 S w) := by
              unfold p_X0_addMember
              rw [tq_th, if_neg c3]
            show (p_X0_addMember (tq S x w) (vmX x w) (nf w) (sN t) u v y z (bs2 S w)).1 = _ ∧ ∃ nf', INV (lsT (lsT S (2 * w) ((p_X0_addMember (tq S x w) (vmX x w) (nf w) (sN t) u v y z (bs2 S w)).2 0)) (2 * w + 1) ((p_X0_addMember (tq S x w) (vmX x w) (nf w) (sN t) u v y z (bs2 S w)).2 1)) _ nf' R w
            rw [ea]
            exact ⟨rfl, nf, sid⟩
          · rw [if_neg c5]; exact ⟨rfl, nf, q⟩
        · rw [if_neg c4]; exact ⟨rfl, nf, q⟩
      · rw [if_neg c2]; exact ⟨rfl, nf, q⟩
  · rw [if_neg c1, if_neg (by simp [c1])]; exact ⟨rfl, nf, q⟩
