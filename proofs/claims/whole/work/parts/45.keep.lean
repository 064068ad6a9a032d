/-! ===== tables that agree on the twelve types ===== -/
def AG (τ σ : Nat → Nat → Int32) : Prop := ∀ k t, k < 5 → t < 12 → τ k t = σ k t
section AGS
variable {τ σ : Nat → Nat → Int32}
theorem ag_th (a : AG τ σ) {t : Nat} (ht : t < 12) : thB τ t = thB σ t := by unfold thB; rw [a 0 t (by omega) ht]
theorem ag_sN (wf : WFT τ) {t : Nat} (ht : t < 12) (c : ¬ τ 3 t = -1) : sN (τ 3 t) < 12 := ((wf.1 t ht).1.resolve_left c).1
theorem ag_wr (wf : WFT τ) (a : AG τ σ) {t : Nat} (ht : t < 12) : wrB τ t = wrB σ t := by
  unfold wrB
  rw [← a 3 t (by omega) ht, ← a 1 t (by omega) ht]
  have h1 : exB (fun u => bt (τ 4 t) u && !(bt (τ 1 u) 1)) 12 = exB (fun u => bt (σ 4 t) u && !(bt (σ 1 u) 1)) 12 := exB_cong (fun u hu => by rw [a 4 t (by omega) ht, a 1 u (by omega) hu])
  rw [h1]
  by_cases c : τ 3 t = -1
  · rw [decide_eq_true c]; simp only [Bool.not_true, Bool.false_and]
  · rw [a 1 _ (by omega) (ag_sN wf ht c)]
theorem ag_gN (wf : WFT τ) (a : AG τ σ) : ∀ n t, t < 12 → gN τ n t = gN σ n t
  | 0, t, ht => by rw [gN, gN]
  | n + 1, t, ht => by
    rw [gN, gN, ag_th a ht, ag_wr wf a ht, ← a 3 t (by omega) ht]
    have h1 : exB (fun u => bt (τ 4 t) u && !(gN τ n u)) 12 = exB (fun u => bt (σ 4 t) u && !(gN σ n u)) 12 := exB_cong (fun u hu => by rw [a 4 t (by omega) ht, ag_gN wf a n u hu])
    rw [h1]
    by_cases c : τ 3 t = -1
    · rw [decide_eq_true c]; simp only [Bool.true_or]
    · rw [ag_gN wf a n _ (ag_sN wf ht c)]
theorem ag_Gd (wf : WFT τ) (a : AG τ σ) {t : Nat} (ht : t < 12) : Gd τ t ↔ Gd σ t := by
  unfold Gd
  constructor
  · rintro ⟨n, h⟩; exact ⟨n, by rw [← ag_gN wf a n t ht]; exact h⟩
  · rintro ⟨n, h⟩; exact ⟨n, by rw [ag_gN wf a n t ht]; exact h⟩
theorem ag_gdB (wf : WFT τ) (a : AG τ σ) {t : Nat} (ht : t < 12) : gdB τ t = gdB σ t := by rw [Bool.eq_iff_iff, gdB_iff, gdB_iff]; exact ag_Gd wf a ht
theorem ag_vN (wf : WFT τ) (a : AG τ σ) : ∀ n o t, t < 12 → vN τ n o t = vN σ n o t
  | 0, o, t, ht => by rw [vN, vN]
  | n + 1, o, t, ht => by
    rw [vN, vN, ag_th a ht, ag_wr wf a ht, ← a 3 t (by omega) ht]
    have h1 : fst (fun u => bt (τ 4 t) u && !(gdB τ u)) 12 = fst (fun u => bt (σ 4 t) u && !(gdB σ u)) 12 := fst_cong (fun u hu => by rw [a 4 t (by omega) ht, ag_gdB wf a hu])
    rw [h1]
    have h2 : (!decide (τ 3 t = -1) && !(gdB τ (sN (τ 3 t)))) = (!decide (τ 3 t = -1) && !(gdB σ (sN (τ 3 t)))) := by
      by_cases c : τ 3 t = -1
      · rw [decide_eq_true c]; simp only [Bool.not_true, Bool.false_and]
      · rw [ag_gdB wf a (ag_sN wf ht c)]
    rw [h2]
    by_cases c1 : thB σ t = true
    · rw [if_pos c1, if_pos c1]
      by_cases c2 : bt o t = true
      · rw [if_pos c2, if_pos c2]
      · rw [if_neg c2, if_neg c2]
        by_cases c3 : (!decide (τ 3 t = -1) && !(gdB σ (sN (τ 3 t)))) = true
        · rw [if_pos c3, if_pos c3]
          have c4 : ¬ τ 3 t = -1 := by
            simp only [Bool.and_eq_true, Bool.not_eq_true', decide_eq_false_iff_not] at c3
            exact c3.1
          exact ag_vN wf a n _ _ (ag_sN wf ht c4)
        · rw [if_neg c3, if_neg c3]
          by_cases c5 : fst (fun u => bt (σ 4 t) u && !(gdB σ u)) 12 < 12
          · rw [if_pos c5, if_pos c5]
            exact ag_vN wf a n _ _ c5
          · rw [if_neg c5, if_neg c5]
    · rw [if_neg c1, if_neg c1]
theorem ag_LV (wf : WFT τ) (a : AG τ σ) {t : Nat} (ht : t < 12) : LV τ t = LV σ t := ag_vN wf a 13 0 t ht
theorem ag_abN (wf : WFT τ) (a : AG τ σ) (w : Nat) : ∀ n t, t < 12 → abN τ n t w = abN σ n t w
  | 0, t, ht => by rw [abN, abN]
  | n + 1, t, ht => by
    rw [abN, abN, ← a 3 t (by omega) ht]
    by_cases c : τ 3 t = -1
    · rw [decide_eq_true c]; simp only [Bool.not_true, Bool.false_and]
    · rw [ag_abN wf a w n _ (ag_sN wf ht c)]
theorem ag_fcN (wf : WFT τ) (a : AG τ σ) (w : Nat) : ∀ n t, t < 12 → fcN τ n t w = fcN σ n t w
  | 0, t, ht => by rw [fcN, fcN]
  | n + 1, t, ht => by
    rw [fcN, fcN, ← a 3 t (by omega) ht]
    have h1 : exB (fun u => bt (τ 4 t) u && fcN τ n u w) 12 = exB (fun u => bt (σ 4 t) u && fcN σ n u w) 12 := exB_cong (fun u hu => by rw [a 4 t (by omega) ht, ag_fcN wf a w n u hu])
    rw [h1, a 4 t (by omega) ht]
    by_cases c : τ 3 t = -1
    · rw [decide_eq_true c]; simp only [Bool.not_true, Bool.false_and]
    · rw [ag_fcN wf a w n _ (ag_sN wf ht c)]
theorem ag_abB (wf : WFT τ) (a : AG τ σ) {t : Nat} (ht : t < 12) (w : Nat) : abB τ t w = abB σ t w := by
  rw [Bool.eq_iff_iff, abB_iff, abB_iff]
  constructor
  · rintro ⟨n, h⟩; exact ⟨n, by rw [← ag_abN wf a w n t ht]; exact h⟩
  · rintro ⟨n, h⟩; exact ⟨n, by rw [ag_abN wf a w n t ht]; exact h⟩
theorem ag_fcB (wf : WFT τ) (a : AG τ σ) {t : Nat} (ht : t < 12) (w : Nat) : fcB τ t w = fcB σ t w := by
  rw [Bool.eq_iff_iff, fcB_iff, fcB_iff]
  constructor
  · rintro ⟨n, h⟩; exact ⟨n, by rw [← ag_fcN wf a w n t ht]; exact h⟩
  · rintro ⟨n, h⟩; exact ⟨n, by rw [ag_fcN wf a w n t ht]; exact h⟩
theorem ag_OKH {h : Nat → Nat → Int32} (k : OKH h τ) (wf : WFT τ) (a : AG τ σ) (h5 : ∀ t, t < 12 → h 4 t = σ 5 t) : OKH h σ := by
  refine ⟨fun t ht => ?_, fun t ht => ?_, k.2.2.1, fun t ht g w hw => ?_, k.2.2.2.2⟩
  · obtain ⟨q1, q2, q3, q4, q5, q6⟩ := k.b t ht
    exact ⟨by rw [q1, a 1 t (by omega) ht], by rw [q2, a 2 t (by omega) ht], by rw [q3, a 3 t (by omega) ht], by rw [q4, a 4 t (by omega) ht], h5 t ht, by rw [q6, ag_th a ht]⟩
  · rw [← ag_LV wf a ht, ← ag_gdB wf a ht]
    exact k.2.1 t ht
  · rw [← ag_abB wf a ht, ← ag_fcB wf a ht]
    exact k.2.2.2.1 t ht ((ag_Gd wf a ht).mpr g) w hw
theorem ag_WFT (wf : WFT τ) (a : AG τ σ) (h5 : ∀ t, t < 12 → isT (σ 5 t)) : WFT σ := by
  refine ⟨fun t ht => ?_, ?_, ?_, ?_, ?_, ?_⟩
  · obtain ⟨q1, q2, q3, q4⟩ := wf.1 t ht
    rw [← a 3 t (by omega) ht, ← a 4 t (by omega) ht]
    exact ⟨q1, h5 t ht, q3, q4⟩
  · rw [← a 0 0 (by omega) (by omega)]; exact wf.2.1
  · rw [← a 1 0 (by omega) (by omega)]; exact wf.2.2.1
  · rw [← a 3 0 (by omega) (by omega)]; exact wf.2.2.2.1
  · rw [← a 4 0 (by omega) (by omega)]; exact wf.2.2.2.2.1
  · rw [← a 2 0 (by omega) (by omega)]; exact wf.2.2.2.2.2
end AGS
/-! ===== one build, place by place ===== -/
def PB (h g x : Nat → Nat → Int32) (w n : Nat) : Prop := (∃ σ, OKH h σ ∧ WFT σ ∧ AG σ (vwX x w)) ∧ (∀ t, t < 12 → thB (vwX x w) t = true → h 4 t = x 5 (12 * w + t)) ∧ WX x w n ∧ OKM g (vmX x w) n ∧ UQ (vmX x w) n ∧ OT (vwX x w) (vmX x w) n
def mixT (h x : Nat → Nat → Int32) (w : Nat) : Nat → Nat → Int32 := fun k => if k = 5 then h 4 else vwX x w k
section PBS
variable {h g x : Nat → Nat → Int32} {w n : Nat}
theorem PB.br (p : PB h g x w n) : BR h g x (mixT h x w) w n := by
  obtain ⟨⟨σ, h1, h2, h3⟩, h4, h5, h6, h7, h8⟩ := p
  have a : AG σ (mixT h x w) := fun k t hk ht => by
    rw [h3 k t hk ht]; unfold mixT; rw [if_neg (by omega)]
  have e5 : ∀ t, mixT h x w 5 t = h 4 t := fun t => rfl
  have se : SE (mixT h x w) (vwX x w) := fun k hk => by unfold mixT; rw [if_neg hk]
  refine ⟨ag_OKH h1 h2 a (fun t ht => rfl), ag_WFT h2 a (fun t ht => ?_), se, fun t ht q => ?_, h6, h5, h7, ?_⟩
  · rw [e5, h1.b.ho ht]; exact (h2.1 t ht).2.1
  · rw [e5]
    rw [se_th se] at q
    exact h4 t ht q
  · intro m hm hg
    rw [se_th se]
    exact h8 m hm hg
theorem BR.pb {τ : Nat → Nat → Int32} (b : BR h g x τ w n) : PB h g x w n := by
  refine ⟨⟨τ, b.okh, b.wf, fun k t hk ht => by rw [b.se k (by omega)]⟩, fun t ht q => ?_, b.wx, b.okm, b.uq, fun m hm hg => ?_⟩
  · rw [← se_th b.se] at q
    rw [b.okh.b.ho ht]
    exact b.ha t ht q
  · rw [← se_th b.se]; exact b.ot m hm hg
theorem vm_at {x y : Nat → Nat → Int32} {w m : Nat} (e : ∀ k, (k = 6 ∨ k = 7 ∨ k = 9 ∨ k = 10 ∨ k = 11 ∨ k = 12) → y k (30 * w + m) = x k (30 * w + m)) (k : Nat) : vmX y w k m = vmX x w k m := by
  unfold vmX
  rw [e 6 (by omega), e 7 (by omega), e 9 (by omega), e 10 (by omega), e 11 (by omega), e 12 (by omega)]
/-- another build has been written -/
theorem PB.frame {y : Nat → Nat → Int32} (p : PB h g x w n) (h1 : ∀ k t, k < 6 → t < 12 → y k (12 * w + t) = x k (12 * w + t)) (h2 : y 8 w = x 8 w) (h3 : ∀ k m, (k = 6 ∨ k = 7 ∨ k = 9 ∨ k = 10 ∨ k = 11 ∨ k = 12) → m < n → y k (30 * w + m) = x k (30 * w + m)) : PB h g y w n := by
  obtain ⟨⟨σ, q1, q2, q3⟩, q4, q5, q6, q7, q8⟩ := p
  have hv : ∀ k t, k < 6 → t < 12 → vwX y w k t = vwX x w k t := h1
  have hm : ∀ k m, m < n → vmX y w k m = vmX x w k m := fun k m hm => vm_at (fun k hk => h3 k m hk hm) k
  have ag : AG (vwX x w) (vwX y w) := fun k t hk ht => (hv k t (by omega) ht).symm
  have hgo : ∀ m, m < n → goB (vmX y w) m = goB (vmX x w) m := fun m q => by unfold goB; rw [hm 4 m q]
  refine ⟨⟨σ, q1, q2, fun k t hk ht => (q3 k t hk ht).trans (ag k t hk ht)⟩, fun t ht q => ?_, ⟨?_, ?_, q5.2.2.1, fun m q => ?_⟩, ⟨q6.1, q6.2.1, fun m q => ?_, q6.2.2.2⟩, ?_, ?_⟩
  · rw [← ag_th ag ht] at q
    rw [h1 5 t (by omega) ht]
    exact q4 t ht q
  · refine ag_WFT q5.1 ag (fun t ht => ?_)
    rw [hv 5 t (by omega) ht]
    exact (q5.1.1 t ht).2.1
  · rw [h2]; exact q5.2.1
  · rw [h3 9 m (by omega) q, h3 10 m (by omega) q, h3 6 m (by omega) q, h3 11 m (by omega) q]
    exact q5.2.2.2 m q
  · rw [hm 0 m q, hm 1 m q, hm 2 m q, hm 3 m q, hgo m q]
    exact q6.2.2.1 m q
  · intro a b ha hb
    rw [hgo a ha, hgo b hb, hm 0 a ha, hm 0 b hb, hm 1 a ha, hm 1 b hb]
    exact q7 a b ha hb
  · intro m q
    rw [hgo m q, hm 0 m q, ← ag_th ag (q5.wm m q).1]
    exact q8 m q
end PBS
theorem st2_ap {h : Nat → Nat → Int32} {k j q i : Nat} {v : Int32} : st2 h k j v q i = if q = k ∧ i = j then v else h q i := by
  by_cases c : q = k
  · subst c
    rw [st2_k]
    by_cases d : i = j
    · subst d; rw [pk_us, if_pos ⟨rfl, rfl⟩]
    · rw [pk_un d, if_neg (fun z => d z.2)]
  · rw [st2_n c, if_neg (fun z => c z.1)]
/-- the whole state -/
def INV (S : LSt) (x : Nat → Nat → Int32) (nf : Nat → Nat) (R w : Nat) : Prop := (∀ v, v < 2 → PB (S.1 (2 * v)) (S.1 (2 * v + 1)) x v (nf v)) ∧ S.2.2.2.1 = nI R ∧ WR x R S.2.2.1 ∧ BX x ∧ w < 2 ∧ S.2.2.2.2 = nI w ∧ x 19 1 = nI w
theorem INV.lr {S : LSt} {x : Nat → Nat → Int32} {nf : Nat → Nat} {R w : Nat} (q : INV S x nf R w) : LR S.1 S.2.2.1 S.2.2.2.1 x (fun v => mixT (S.1 (2 * v)) x v) nf R := ⟨fun v hv => (q.1 v hv).br, q.2.1, q.2.2.1, q.2.2.2.1⟩
