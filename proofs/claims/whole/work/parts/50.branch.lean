/-! ===== what is written: write, refer, forget, branch ===== -/
theorem m_write {S : LSt} {x : Nat → Nat → Int32} {nf : Nat → Nat} {R w : Nat} (q : INV S x nf R w) (τ γ : Nat → Nat → Nat → Int32) (n : Nat) (t : Int32) : (p_X4_write τ γ nf R w t S).1 = (p_X5_write w n t x).1 ∧ ∃ w', INV (p_X4_write τ γ nf R w t S).2 (p_X5_write w n t x).2 nf R w' := by
  unfold p_X4_write p_X5_write
  by_cases c : wi t 2 = true
  · rw [if_pos c, if_pos c]
    obtain ⟨h1, h2⟩ := wi_sN (b := 2) (by decide) c
    have yk : ∀ k j, k ≠ 19 → st2 x 19 1 t k j = x k j := fun k j hk => by rw [st2_n hk]
    obtain ⟨q1, q2, q3, q4, q5, q6, q7⟩ := q
    refine ⟨rfl, sN t, fun v hv => ?_, q2, ⟨q3.1, ?_, fun i hi => ?_⟩, BX.n (by omega) q4, h1, h2, ?_⟩
    · exact (q1 v hv).frame (fun k t' hk _ => yk k _ (by omega)) (yk 8 v (by omega)) (fun k m hk _ => yk k _ (by omega))
    · show st2 x 19 1 t 19 0 = nI R
      rw [st2_ap, if_neg (by omega)]; exact q3.2.1
    · show φR (S.2.2.1 i) ∧ st2 x 19 1 t 13 i = _ ∧ st2 x 19 1 t 14 i = _ ∧ st2 x 19 1 t 15 i = _ ∧ st2 x 19 1 t 16 i = _
      rw [yk 13 i (by omega), yk 14 i (by omega), yk 15 i (by omega), yk 16 i (by omega)]
      exact q3.2.2 i hi
    · show st2 x 19 1 t 19 1 = _
      rw [st2_ap, if_pos ⟨rfl, rfl⟩]; exact h2
  · rw [if_neg c, if_neg c]; exact ⟨rfl, w, q⟩
theorem m_forget {S : LSt} {x : Nat → Nat → Int32} {nf : Nat → Nat} {R w : Nat} (q : INV S x nf R w) (τ γ : Nat → Nat → Nat → Int32) (n : Nat) : (p_X4_forget τ γ nf R w S).1 = (p_X5_forget w n x).1 ∧ INV (p_X4_forget τ γ nf R w S).2 (p_X5_forget w n x).2 nf 0 w := by
  unfold p_X4_forget p_X5_forget
  have yk : ∀ k j, k ≠ 19 → st2 x 19 0 0 k j = x k j := fun k j hk => by rw [st2_n hk]
  obtain ⟨q1, q2, q3, q4, q5, q6, q7⟩ := q
  refine ⟨q2.trans q3.2.1.symm, fun v hv => ?_, rfl, ⟨by omega, ?_, fun i hi => absurd hi (Nat.not_lt_zero i)⟩, BX.n (by omega) q4, q5, q6, ?_⟩
  · exact (q1 v hv).frame (fun k t' hk _ => yk k _ (by omega)) (yk 8 v (by omega)) (fun k m hk _ => yk k _ (by omega))
  · show st2 x 19 0 0 19 0 = nI 0
    rw [st2_ap, if_pos ⟨rfl, rfl⟩]; exact nI_0.symm
  · show st2 x 19 0 0 19 1 = nI w
    rw [st2_ap, if_neg (by omega)]; exact q7
theorem m_refer {S : LSt} {x : Nat → Nat → Int32} {nf : Nat → Nat} {R w : Nat} (q : INV S x nf R w) (τ γ : Nat → Nat → Nat → Int32) (t u v y : Int32) : (p_X4_refer τ γ nf R w t u v y S).1 = (p_X5_refer w R t u v y x).1 ∧ ∃ R', INV (p_X4_refer τ γ nf R w t u v y S).2 (p_X5_refer w R t u v y x).2 nf R' w := by
  have hR := q.2.2.1.1
  unfold p_X4_refer p_X5_refer
  by_cases c1 : wi t 9 = true
  · rw [if_pos c1, if_pos c1]
    by_cases c2 : wi u 12 = true
    · rw [if_pos c2, if_pos c2]
      by_cases c3 : wi v 12 = true
      · rw [if_pos c3, if_pos c3]
        by_cases c4 : wi y 15 = true
        · rw [if_pos c4, if_pos c4]
          by_cases c5 : R < 16
          · rw [if_pos c5, if_neg (c := R = 16) (by omega)]
            obtain ⟨a1, b1⟩ := wi_sN (b := 9) (by decide) c1
            obtain ⟨a2, b2⟩ := wi_sN (b := 12) (by decide) c2
            obtain ⟨a3, b3⟩ := wi_sN (b := 12) (by decide) c3
            obtain ⟨a4, b4⟩ := wi_sN (b := 15) (by decide) c4
            obtain ⟨q1, q2, q3, q4, q5, q6, q7⟩ := q
            have yk : ∀ k j, k < 13 → st2 (st2 (st2 (st2 (st2 x 13 R t) 14 R u) 15 R v) 16 R y) 19 0 (nI (R + 1)) k j = x k j := fun k j hk => by rw [st2_n (by omega), st2_n (by omega), st2_n (by omega), st2_n (by omega), st2_n (by omega)]
            refine ⟨rfl, R + 1, fun b hb => ?_, rfl, ⟨by omega, ?_, fun i hi => ?_⟩, ?_, q5, q6, ?_⟩
            · exact (q1 b hb).frame (fun k t' hk _ => yk k _ (by omega)) (yk 8 b (by omega)) (fun k m hk _ => yk k _ (by omega))
            · show st2 (st2 (st2 (st2 (st2 x 13 R t) 14 R u) 15 R v) 16 R y) 19 0 (nI (R + 1)) 19 0 = _
              rw [st2_ap, if_pos ⟨rfl, rfl⟩]
            · show φR (phU S.2.2.1 R (p_X3_put (sN t) (sN u) (sN v) (sN y) (S.2.2.1 R)) i) ∧ st2 (st2 (st2 (st2 (st2 x 13 R t) 14 R u) 15 R v) 16 R y) 19 0 (nI (R + 1)) 13 i = nI (phU S.2.2.1 R (p_X3_put (sN t) (sN u) (sN v) (sN y) (S.2.2.1 R)) i 0) ∧ st2 (st2 (st2 (st2 (st2 x 13 R t) 14 R u) 15 R v) 16 R y) 19 0 (nI (R + 1)) 14 i = nI (phU S.2.2.1 R (p_X3_put (sN t) (sN u) (sN v) (sN y) (S.2.2.1 R)) i 1) ∧ st2 (st2 (st2 (st2 (st2 x 13 R t) 14 R u) 15 R v) 16 R y) 19 0 (nI (R + 1)) 15 i = nI (phU S.2.2.1 R (p_X3_put (sN t) (sN u) (sN v) (sN y) (S.2.2.1 R)) i 2) ∧ st2 (st2 (st2 (st2 (st2 x 13 R t) 14 R u) 15 R v) 16 R y) 19 0 (nI (R + 1)) 16 i = nI (phU S.2.2.1 R (p_X3_put (sN t) (sN u) (sN v) (sN y) (S.2.2.1 R)) i 3)
              simp only [st2_ap]
              unfold phU
              by_cases d : i = R
              · subst d
                simp only [if_true]
                have e0 : p_X3_put (sN t) (sN u) (sN v) (sN y) (S.2.2.1 i) 0 = sN t := rfl
                have e1 : p_X3_put (sN t) (sN u) (sN v) (sN y) (S.2.2.1 i) 1 = sN u := rfl
                have e2 : p_X3_put (sN t) (sN u) (sN v) (sN y) (S.2.2.1 i) 2 = sN v := rfl
                have e3 : p_X3_put (sN t) (sN u) (sN v) (sN y) (S.2.2.1 i) 3 = sN y := rfl
                refine ⟨⟨by rw [e0]; exact a1, by rw [e1]; exact a2, by rw [e2]; exact a3, by rw [e3]; exact a4⟩, ?_, ?_, ?_, ?_⟩
                · rw [e0]; simpa using b1
                · rw [e1]; simpa using b2
                · rw [e2]; simpa using b3
                · rw [e3]; simpa using b4
              · have := q3.2.2 i (by omega)
                simp [d]
                exact this
            · exact BX.n (by omega) (BX.n (by omega) (BX.n (by omega) (BX.n (by omega) (BX.n (by omega) q4))))
            · show st2 (st2 (st2 (st2 (st2 x 13 R t) 14 R u) 15 R v) 16 R y) 19 0 (nI (R + 1)) 19 1 = _
              rw [st2_ap, if_neg (by omega), st2_n (by omega), st2_n (by omega), st2_n (by omega), st2_n (by omega)]; exact q7
          · rw [if_neg c5, if_pos (c := R = 16) (by omega)]; exact ⟨rfl, R, q⟩
        · rw [if_neg c4, if_neg c4]; exact ⟨rfl, R, q⟩
      · rw [if_neg c3, if_neg c3]; exact ⟨rfl, R, q⟩
    · rw [if_neg c2, if_neg c2]; exact ⟨rfl, R, q⟩
  · rw [if_neg c1, if_neg c1]; exact ⟨rfl, R, q⟩
/-! ===== branch ===== -/
def cpT (x : Nat → Nat → Int32) (i : Nat) : Nat → Nat → Int32 := fun q j => if q < 6 ∧ 12 ≤ j ∧ j < 12 + i then x q (j - 12) else x q j
theorem cpT_0 (x : Nat → Nat → Int32) : cpT x 0 = x := by
  funext q j
  unfold cpT
  rw [if_neg (by omega)]
theorem cpT_step {x : Nat → Nat → Int32} (bx : BX x) {i : Nat} (hi : i < 12) : st2 (st2 (st2 (st2 (st2 (st2 (cpT x i) 0 (12 + i) (b2i (tb (cpT x i 0 i)))) 1 (12 + i) (cpT x i 1 i)) 2 (12 + i) (cpT x i 2 i)) 3 (12 + i) (cpT x i 3 i)) 4 (12 + i) (cpT x i 4 i)) 5 (12 + i) (cpT x i 5 i) = cpT x (i + 1) := by
  have e : ∀ k, cpT x i k i = x k i := fun k => by unfold cpT; rw [if_neg (by omega)]
  rw [e, e, e, e, e, e, ← tb_eq (bx 0 i (by omega))]
  funext q j
  simp only [st2_ap]
  unfold cpT
  by_cases c : j = 12 + i
  · subst c
    have ej : 12 + i - 12 = i := by omega
    rw [ej]
    have : q = 0 ∨ q = 1 ∨ q = 2 ∨ q = 3 ∨ q = 4 ∨ q = 5 ∨ 6 ≤ q := by omega
    rcases this with d | d | d | d | d | d | d
    · subst d; simp
    · subst d; simp
    · subst d; simp
    · subst d; simp
    · subst d; simp
    · subst d; simp
    · rw [if_neg (by omega), if_neg (by omega), if_neg (by omega), if_neg (by omega), if_neg (by omega), if_neg (by omega), if_neg (by omega), if_neg (by omega)]
  · rw [if_neg (by omega), if_neg (by omega), if_neg (by omega), if_neg (by omega), if_neg (by omega), if_neg (by omega)]
    by_cases d : q < 6 ∧ 12 ≤ j ∧ j < 12 + i
    · rw [if_pos d, if_pos ⟨d.1, d.2.1, by omega⟩]
    · rw [if_neg d, if_neg (by omega)]
theorem br4 {x : Nat → Nat → Int32} (bx : BX x) (w n : Nat) : ∀ k i c, 12 - i < k → i ≤ 12 → c = cnF (thB (vwX x 0)) i → p_X5_branch_4 w n k i c (cpT x i) = p_X5_branch_120 w n 31 0 (cnF (thB (vwX x 0)) 12) (cpT x 12) := by
  intro k
  induction k with
  | zero => intro i c h; omega
  | succ k ih =>
    intro i c hk hi hc
    rw [p_X5_branch_4]
    by_cases d : 12 ≤ i
    · have e : i = 12 := by omega
      subst e
      rw [if_pos d, hc]
    · rw [if_neg d, cpT_step bx (by omega)]
      have e0 : cpT x i 0 i = x 0 i := by unfold cpT; rw [if_neg (by omega)]
      have et : thB (vwX x 0) i = !decide (x 0 i = 0) := by
        show (!decide (x 0 (12 * 0 + i) = 0)) = _
        rw [show 12 * 0 + i = i by omega]
      rw [e0]
      by_cases f : x 0 i = 0
      · rw [if_pos f]
        exact ih (i + 1) c (by omega) (by omega) (by rw [cnF_f (by rw [et]; simp [f]), hc])
      · rw [if_neg f]
        exact ih (i + 1) (c + 1) (by omega) (by omega) (by rw [cnF_t (by rw [et]; simp [f]), hc])
def cpM (x : Nat → Nat → Int32) (i : Nat) : Nat → Nat → Int32 := fun q j => if (q = 6 ∨ q = 7 ∨ q = 9 ∨ q = 10 ∨ q = 11 ∨ q = 12) ∧ 30 ≤ j ∧ j < 30 + i then x q (j - 30) else x q j
theorem cpM_0 (x : Nat → Nat → Int32) : cpM x 0 = x := by
  funext q j
  unfold cpM
  rw [if_neg (by omega)]
theorem cpM_step {x : Nat → Nat → Int32} (bx : BX x) {i : Nat} (hi : i < 30) : st2 (st2 (st2 (st2 (st2 (st2 (cpM x i) 7 (30 + i) (b2i (tb (cpM x i 7 i)))) 9 (30 + i) (cpM x i 9 i)) 6 (30 + i) (b2i (tb (cpM x i 6 i)))) 10 (30 + i) (cpM x i 10 i)) 11 (30 + i) (cpM x i 11 i)) 12 (30 + i) (cpM x i 12 i) = cpM x (i + 1) := by
  have e : ∀ k, cpM x i k i = x k i := fun k => by unfold cpM; rw [if_neg (by omega)]
  rw [e, e, e, e, e, e, ← tb_eq (bx 7 i (by omega)), ← tb_eq (bx 6 i (by omega))]
  funext q j
  simp only [st2_ap]
  unfold cpM
  by_cases c : j = 30 + i
  · subst c
    have ej : 30 + i - 30 = i := by omega
    rw [ej]
    by_cases m : q = 6 ∨ q = 7 ∨ q = 9 ∨ q = 10 ∨ q = 11 ∨ q = 12
    · rcases m with d | d | d | d | d | d
      · subst d; simp
      · subst d; simp
      · subst d; simp
      · subst d; simp
      · subst d; simp
      · subst d; simp
    · rw [if_neg (by omega), if_neg (by omega), if_neg (by omega), if_neg (by omega), if_neg (by omega), if_neg (by omega), if_neg (fun z => m z.1), if_neg (fun z => m z.1)]
  · rw [if_neg (by omega), if_neg (by omega), if_neg (by omega), if_neg (by omega), if_neg (by omega), if_neg (by omega)]
    by_cases d : (q = 6 ∨ q = 7 ∨ q = 9 ∨ q = 10 ∨ q = 11 ∨ q = 12) ∧ 30 ≤ j ∧ j < 30 + i
    · rw [if_pos d, if_pos ⟨d.1, d.2.1, by omega⟩]
    · rw [if_neg d, if_neg (fun z => d ⟨z.1, z.2.1, by omega⟩)]
theorem br120 {x : Nat → Nat → Int32} (bx : BX x) (w n c : Nat) (hn : n ≤ 30) : ∀ k i, n - i < k → i ≤ n → p_X5_branch_120 w n k i c (cpM x i) = (nI c, st2 (st2 (cpM x n) 8 1 (nI n)) 19 1 1) := by
  intro k
  induction k with
  | zero => intro i h; omega
  | succ k ih =>
    intro i hk hi
    rw [p_X5_branch_120]
    by_cases d : n ≤ i
    · have e : i = n := by omega
      subst e
      rw [if_pos d]
    · rw [if_neg d, cpM_step bx (by omega)]
      exact ih (i + 1) (by omega) (by omega)
theorem bx_cpT {x : Nat → Nat → Int32} (bx : BX x) (i : Nat) : BX (cpT x i) := fun q j hq => by
  unfold cpT
  by_cases c : q < 6 ∧ 12 ≤ j ∧ j < 12 + i
  · rw [if_pos c]; exact bx q _ hq
  · rw [if_neg c]; exact bx q _ hq
theorem bx_cpM {x : Nat → Nat → Int32} (bx : BX x) (i : Nat) : BX (cpM x i) := fun q j hq => by
  unfold cpM
  by_cases c : (q = 6 ∨ q = 7 ∨ q = 9 ∨ q = 10 ∨ q = 11 ∨ q = 12) ∧ 30 ≤ j ∧ j < 30 + i
  · rw [if_pos c]; exact bx q _ hq
  · rw [if_neg c]; exact bx q _ hq
def xBr (x : Nat → Nat → Int32) (n : Nat) : Nat → Nat → Int32 := st2 (st2 (cpM (cpT x 12) n) 8 1 (nI n)) 19 1 1
theorem br_eq {x : Nat → Nat → Int32} (bx : BX x) (w n : Nat) (hn : n ≤ 30) : p_X5_branch w n x = (nI (cnF (thB (vwX x 0)) 12), xBr x n) := by
  unfold p_X5_branch
  have h := br4 bx w n 13 0 0 (by omega) (by omega) rfl
  rw [cpT_0] at h
  have h2 := br120 (bx_cpT bx 12) w n (cnF (thB (vwX x 0)) 12) hn 31 0 (by omega) (by omega)
  rw [cpM_0] at h2
  rw [h, h2]
  rfl
section XBR
variable {x : Nat → Nat → Int32} {n : Nat}
theorem xBr_t1 {k t : Nat} (hk : k < 6) (ht : t < 12) : xBr x n k (12 * 1 + t) = x k t := by
  unfold xBr
  rw [st2_n (by omega), st2_n (by omega)]
  unfold cpM
  rw [if_neg (by omega)]
  unfold cpT
  rw [if_pos ⟨hk, by omega, by omega⟩]
  exact congrArg (x k) (by omega)
theorem xBr_t0 {k t : Nat} (hk : k < 6) (ht : t < 12) : xBr x n k (12 * 0 + t) = x k (12 * 0 + t) := by
  unfold xBr
  rw [st2_n (by omega), st2_n (by omega)]
  unfold cpM
  rw [if_neg (by omega)]
  unfold cpT
  rw [if_neg (by omega)]
theorem xBr_m1 {k m : Nat} (hk : k = 6 ∨ k = 7 ∨ k = 9 ∨ k = 10 ∨ k = 11 ∨ k = 12) (hm : m < n) : xBr x n k (30 * 1 + m) = x k (30 * 0 + m) := by
  unfold xBr
  rw [st2_n (by omega), st2_n (by omega)]
  unfold cpM
  rw [if_pos ⟨hk, by omega, by omega⟩]
  unfold cpT
  rw [if_neg (by omega)]
  exact congrArg (x k) (by omega)
theorem xBr_m0 {k m : Nat} (hk : k = 6 ∨ k = 7 ∨ k = 9 ∨ k = 10 ∨ k = 11 ∨ k = 12) (hm : m < 30) : xBr x n k (30 * 0 + m) = x k (30 * 0 + m) := by
  unfold xBr
  rw [st2_n (by omega), st2_n (by omega)]
  unfold cpM
  rw [if_neg (by omega)]
  unfold cpT
  rw [if_neg (by omega)]
theorem xBr_8 : xBr x n 8 1 = nI n ∧ xBr x n 8 0 = x 8 0 := by
  unfold xBr
  rw [st2_n (q := 8) (by omega), st2_ap, if_pos ⟨rfl, rfl⟩, st2_ap, if_neg (by omega)]
  refine ⟨rfl, ?_⟩
  unfold cpM
  rw [if_neg (by omega)]
  unfold cpT
  rw [if_neg (by omega)]
theorem xBr_r {k j : Nat} (hk : 13 ≤ k) (hj : ¬ (k = 19 ∧ j = 1)) : xBr x n k j = x k j := by
  unfold xBr
  rw [st2_ap, if_neg hj, st2_n (by omega)]
  unfold cpM
  rw [if_neg (by omega)]
  unfold cpT
  rw [if_neg (by omega)]
theorem xBr_w : xBr x n 19 1 = 1 := by
  unfold xBr
  rw [st2_ap, if_pos ⟨rfl, rfl⟩]
theorem BX.br (bx : BX x) : BX (xBr x n) := by
  unfold xBr
  exact BX.n (by omega) (BX.n (by omega) (bx_cpM (bx_cpT bx 12) n))
end XBR
theorem cpy_at {f g : Nat → Int32} {n t : Nat} (h : t < n) : va_cpy f g 0 0 n t = f t := by
  unfold va_cpy
  rw [if_pos ⟨by omega, by omega⟩]
  exact congrArg f (by omega)
theorem hb_at {k h : Nat → Nat → Int32} {q t : Nat} (hq : q < 5) (ht : t < 12) : hbF k h q t = k q t := by
  have : q = 0 ∨ q = 1 ∨ q = 2 ∨ q = 3 ∨ q = 4 := by omega
  rcases this with e | e | e | e | e <;> subst e
  · exact cpy_at (f := k 0) (g := h 0) ht
  · exact cpy_at (f := k 1) (g := h 1) ht
  · exact cpy_at (f := k 2) (g := h 2) ht
  · exact cpy_at (f := k 3) (g := h 3) ht
  · exact cpy_at (f := k 4) (g := h 4) ht
theorem hb_8 {k h : Nat → Nat → Int32} : hbF k h 8 0 = k 8 0 := by
  show st2 h 8 0 (k 8 0) 8 0 = _
  rw [st2_ap, if_pos ⟨rfl, rfl⟩]
theorem gb_at {k g : Nat → Nat → Int32} {q m : Nat} (hq : q < 4) (hm : m < 30) : p_X2_becomeAs k g q m = k q m := by
  have : q = 0 ∨ q = 1 ∨ q = 2 ∨ q = 3 := by omega
  rcases this with e | e | e | e <;> subst e
  · exact cpy_at (f := k 0) (g := g 0) hm
  · exact cpy_at (f := k 1) (g := g 1) hm
  · exact cpy_at (f := k 2) (g := g 2) hm
  · exact cpy_at (f := k 3) (g := g 3) hm
theorem gb_4 {k g : Nat → Nat → Int32} : p_X2_becomeAs k g 4 0 = k 4 0 ∧ p_X2_becomeAs k g 4 1 = k 4 1 := by
  have e : p_X2_becomeAs k g 4 = st2 (st2 g 4 0 (k 4 0)) 4 1 (k 4 1) 4 := rfl
  rw [e, st2_ap, if_neg (by omega), st2_ap, if_pos ⟨rfl, rfl⟩, st2_ap, if_pos ⟨rfl, rfl⟩]
  exact ⟨rfl, rfl⟩
theorem branch_pb {h g h1 g1 x : Nat → Nat → Int32} {n : Nat} (p : PB h g x 0 n) (bx : BX x) : (WFT (vwH (hbF h h1)) ∧ PB (p_X1_settle (vwH (hbF h h1)) (hbF h h1)) (p_X2_becomeAs g g1) (xBr x n) 1 n) ∧ PB h g (xBr x n) 0 n := by
  have wx := p.2.2.1
  have hn := wx.2.2.1
  have okm := p.2.2.2.1
  have z0 : ∀ t, 12 * 0 + t = t := fun t => by omega
  have vw : ∀ k t, k < 6 → t < 12 → vwX (xBr x n) 1 k t = vwX x 0 k t := fun k t hk ht => by
    show xBr x n k (12 * 1 + t) = x k (12 * 0 + t)
    rw [xBr_t1 hk ht, z0]
  have vm : ∀ k m, m < n → vmX (xBr x n) 1 k m = vmX x 0 k m := fun k m hm => by
    unfold vmX
    rw [xBr_m1 (k := 6) (by omega) hm, xBr_m1 (k := 7) (by omega) hm, xBr_m1 (k := 9) (by omega) hm, xBr_m1 (k := 10) (by omega) hm, xBr_m1 (k := 11) (by omega) hm, xBr_m1 (k := 12) (by omega) hm]
  have vg : ∀ m, m < n → goB (vmX (xBr x n) 1) m = goB (vmX x 0) m := fun m hm => by unfold goB; rw [vm 4 m hm]
  have ag0 : AG (vwX x 0) (vwX (xBr x n) 1) := fun k t hk ht => (vw k t (by omega) ht).symm
  have wy : WFT (vwX (xBr x n) 1) := ag_WFT wx.1 ag0 (fun t ht => by rw [vw 5 t (by omega) ht]; exact (wx.1.1 t ht).2.1)
  refine ⟨PB.settled ?_ wy (fun t q => by rw [hb_at (by omega) q]; exact p.hT q) (fun t h1 h2 => by rw [hb_8]; exact p.hb h1 h2) (fun t q hq => ?_) ⟨wy, xBr_8.1, hn, fun m hm => ?_⟩ ⟨?_, hn, fun m hm => ?_, fun m h1 h2 => ?_⟩ ?_ ?_, ?_⟩
  · intro k t hk q
    rw [vw k t (by omega) q]
    show _ = x k (12 * 0 + t)
    rcases k5 hk with e | e | e | e | e <;> subst e
    · show b2i (bt (hbF h h1 8 0) t) = _
      rw [hb_8]; exact p.th0 bx q
    · show hbF h h1 0 t = _
      rw [hb_at (by omega) q]; exact p.row (k := 0) (by omega) q
    · show hbF h h1 1 t = _
      rw [hb_at (by omega) q]; exact p.row (k := 1) (by omega) q
    · show hbF h h1 2 t = _
      rw [hb_at (by omega) q]; exact p.row (k := 2) (by omega) q
    · show hbF h h1 3 t = _
      rw [hb_at (by omega) q]; exact p.row (k := 3) (by omega) q
  · rw [← ag_th ag0 q] at hq
    rw [hb_at (by omega) q, xBr_t1 (by omega) q, p.2.1 t q hq, z0]
  · rw [xBr_m1 (k := 9) (by omega) hm, xBr_m1 (k := 10) (by omega) hm, xBr_m1 (k := 6) (by omega) hm, xBr_m1 (k := 11) (by omega) hm]; exact wx.2.2.2 m hm
  · rw [gb_4.1]; exact okm.1
  · rw [vm 0 m hm, vm 1 m hm, vm 2 m hm, vm 3 m hm, vg m hm, gb_at (q := 0) (by omega) (by omega), gb_at (q := 1) (by omega) (by omega), gb_at (q := 2) (by omega) (by omega), gb_at (q := 3) (by omega) (by omega), gb_4.2]
    exact okm.2.2.1 m hm
  · rw [gb_4.2]; exact okm.2.2.2 m h1 h2
  · intro a b ha hb
    rw [vg a ha, vg b hb, vm 0 a ha, vm 0 b hb, vm 1 a ha, vm 1 b hb]
    exact p.2.2.2.2.1 a b ha hb
  · intro m hm
    rw [vg m hm, vm 0 m hm, ← ag_th ag0 (wx.wm m hm).1]
    exact p.2.2.2.2.2 m hm
  · exact p.frame (fun k t hk ht => xBr_t0 hk ht) xBr_8.2 (fun k m hk hm => xBr_m0 hk (by omega))
theorem m_branch {S : LSt} {x : Nat → Nat → Int32} {nf : Nat → Nat} {R w : Nat} (q : INV S x nf R w) (γ : Nat → Nat → Nat → Int32) : ((p_X4_branch (tq S x) γ nf R w S).1 = (p_X5_branch w (nf 0) x).1 ∧ INV (p_X4_branch (tq S x) γ nf R w S).2 (p_X5_branch w (nf 0) x).2 (fun _ => nf 0) R 1) ∧ WFT (vwH (hbF (S.1 (2 * 0)) (S.1 (2 * 1)))) ∧ OKH ((lsB S).1 (2 * 1)) (tq S x 0) := by
  have p := q.1 0 (by omega)
  have bx := q.2.2.2.1
  have r := branch_pb (h1 := S.1 (2 * 1)) (g1 := S.1 (2 * 1 + 1)) p bx
  have eA : p_X0_becomeAs (S.1 (2 * 0)) (S.1 (2 * 0 + 1)) (bs2 S 1) 0 = p_X1_settle (vwH (hbF (S.1 (2 * 0)) (S.1 (2 * 1)))) (hbF (S.1 (2 * 0)) (S.1 (2 * 1))) := rfl
  have eB : p_X0_becomeAs (S.1 (2 * 0)) (S.1 (2 * 0 + 1)) (bs2 S 1) 1 = p_X2_becomeAs (S.1 (2 * 0 + 1)) (S.1 (2 * 1 + 1)) := rfl
  refine ⟨?_, r.1.1, ?_⟩
  · rw [br_eq bx w (nf 0) p.2.2.1.2.2.1]
    unfold p_X4_branch p_X4_branch_15
    rw [eA, eB]
    refine ⟨rfl, ?_⟩
    obtain ⟨q1, q2, q3, q4, q5, q6, q7⟩ := q
    refine ⟨fun v hv => ?_, q2, ⟨q3.1, ?_, fun i hi => ?_⟩, bx.br, by omega, rfl, ?_⟩
    · have s2 : (lsT (lsT S 2 (p_X1_settle (vwH (hbF (S.1 (2 * 0)) (S.1 (2 * 1)))) (hbF (S.1 (2 * 0)) (S.1 (2 * 1))))) 3 (p_X2_becomeAs (S.1 (2 * 0 + 1)) (S.1 (2 * 1 + 1)))).1 (2 * 1) = p_X1_settle (vwH (hbF (S.1 (2 * 0)) (S.1 (2 * 1)))) (hbF (S.1 (2 * 0)) (S.1 (2 * 1))) := by rw [lsT_n (by omega)]; exact lsT_s
      have s3 : (lsT (lsT S 2 (p_X1_settle (vwH (hbF (S.1 (2 * 0)) (S.1 (2 * 1)))) (hbF (S.1 (2 * 0)) (S.1 (2 * 1))))) 3 (p_X2_becomeAs (S.1 (2 * 0 + 1)) (S.1 (2 * 1 + 1)))).1 (2 * 1 + 1) = p_X2_becomeAs (S.1 (2 * 0 + 1)) (S.1 (2 * 1 + 1)) := lsT_s
      have s0 : (lsT (lsT S 2 (p_X1_settle (vwH (hbF (S.1 (2 * 0)) (S.1 (2 * 1)))) (hbF (S.1 (2 * 0)) (S.1 (2 * 1))))) 3 (p_X2_becomeAs (S.1 (2 * 0 + 1)) (S.1 (2 * 1 + 1)))).1 (2 * 0) = S.1 (2 * 0) := by rw [lsT_n (by omega), lsT_n (by omega)]
      have s1 : (lsT (lsT S 2 (p_X1_settle (vwH (hbF (S.1 (2 * 0)) (S.1 (2 * 1)))) (hbF (S.1 (2 * 0)) (S.1 (2 * 1))))) 3 (p_X2_becomeAs (S.1 (2 * 0 + 1)) (S.1 (2 * 1 + 1)))).1 (2 * 0 + 1) = S.1 (2 * 0 + 1) := by rw [lsT_n (by omega), lsT_n (by omega)]
      have : v = 0 ∨ v = 1 := by omega
      rcases this with e | e
      · subst e
        show PB ((lsT (lsT S 2 (p_X1_settle (vwH (hbF (S.1 (2 * 0)) (S.1 (2 * 1)))) (hbF (S.1 (2 * 0)) (S.1 (2 * 1))))) 3 (p_X2_becomeAs (S.1 (2 * 0 + 1)) (S.1 (2 * 1 + 1)))).1 (2 * 0)) ((lsT (lsT S 2 (p_X1_settle (vwH (hbF (S.1 (2 * 0)) (S.1 (2 * 1)))) (hbF (S.1 (2 * 0)) (S.1 (2 * 1))))) 3 (p_X2_becomeAs (S.1 (2 * 0 + 1)) (S.1 (2 * 1 + 1)))).1 (2 * 0 + 1)) (xBr x (nf 0)) 0 (nf 0)
        rw [s0, s1]; exact r.2
      · subst e
        show PB ((lsT (lsT S 2 (p_X1_settle (vwH (hbF (S.1 (2 * 0)) (S.1 (2 * 1)))) (hbF (S.1 (2 * 0)) (S.1 (2 * 1))))) 3 (p_X2_becomeAs (S.1 (2 * 0 + 1)) (S.1 (2 * 1 + 1)))).1 (2 * 1)) ((lsT (lsT S 2 (p_X1_settle (vwH (hbF (S.1 (2 * 0)) (S.1 (2 * 1)))) (hbF (S.1 (2 * 0)) (S.1 (2 * 1))))) 3 (p_X2_becomeAs (S.1 (2 * 0 + 1)) (S.1 (2 * 1 + 1)))).1 (2 * 1 + 1)) (xBr x (nf 0)) 1 (nf 0)
        rw [s2, s3]; exact r.1.2
    · show xBr x (nf 0) 19 0 = nI R
      rw [xBr_r (by omega) (by omega)]; exact q3.2.1
    · show φR (S.2.2.1 i) ∧ xBr x (nf 0) 13 i = nI (S.2.2.1 i 0) ∧ xBr x (nf 0) 14 i = nI (S.2.2.1 i 1) ∧ xBr x (nf 0) 15 i = nI (S.2.2.1 i 2) ∧ xBr x (nf 0) 16 i = nI (S.2.2.1 i 3)
      rw [xBr_r (k := 13) (by omega) (by omega), xBr_r (k := 14) (by omega) (by omega), xBr_r (k := 15) (by omega) (by omega), xBr_r (k := 16) (by omega) (by omega)]
      exact q3.2.2 i hi
    · exact xBr_w (x := x) (n := nf 0)
  · have e : (lsB S).1 (2 * 1) = p_X1_settle (vwH (hbF (S.1 (2 * 0)) (S.1 (2 * 1)))) (hbF (S.1 (2 * 0)) (S.1 (2 * 1))) := by
      unfold lsB
      rw [lsT_n (by omega), ← eA]; exact lsT_s
    rw [e]
    obtain ⟨⟨σ, k1, k2, k3⟩, -⟩ := r.1.2
    refine ag_OKH k1 k2 (fun k t hk ht => ?_) (fun t ht => ?_)
    · rw [k3 k t hk ht]
      show xBr x (nf 0) k (12 * 1 + t) = mixT (S.1 (2 * 0)) x 0 k t
      unfold mixT
      rw [if_neg (by omega), xBr_t1 (by omega) ht]
      show x k t = x k (12 * 0 + t)
      exact congrArg (x k) (by omega)
    · rw [settle_ok r.1.1 rfl (fun t h1 h2 => by rw [hb_8]; exact p.hb h1 h2) |>.b.ho ht]
      show hbF (S.1 (2 * 0)) (S.1 (2 * 1)) 4 t = S.1 (2 * 0) 4 t
      exact hb_at (by omega) ht
