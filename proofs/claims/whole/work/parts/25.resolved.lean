/-! ===== what the reference's answers range over ===== -/
theorem vN_nat {τ : Nat → Nat → Int32} (wf : WFT τ) : ∀ n o t, t < 12 → ∃ k, (k < 204 ∧ k % 64 < 12) ∧ vN τ n o t = nI k := by
  intro n
  induction n with
  | zero => intro o t _; exact ⟨0, by omega, rfl⟩
  | succ n ih =>
    intro o t ht
    rw [vN]
    split
    · split
      · exact ⟨128 + t, by omega, rfl⟩
      · split
        · rename_i hs
          simp only [Bool.and_eq_true, Bool.not_eq_true', decide_eq_false_iff_not] at hs
          exact ih _ _ ((wf.1 t ht).1.resolve_left hs.1).1
        · split
          · rename_i hf; exact ih _ _ hf
          · split
            · exact ⟨192 + t, by omega, rfl⟩
            · exact ⟨t, by omega, rfl⟩
    · exact ⟨64 + t, by omega, rfl⟩
theorem LV_nat {τ : Nat → Nat → Int32} (wf : WFT τ) {t : Nat} (ht : t < 12) : ∃ k, (k < 204 ∧ k % 64 < 12) ∧ LV τ t = nI k := vN_nat wf 13 0 t ht
theorem LV_64 {τ : Nat → Nat → Int32} (wf : WFT τ) {t : Nat} (ht : t < 12) : LV τ t < 64 ↔ Gd τ t := by
  obtain ⟨k, hk, e⟩ := LV_nat wf ht
  have h := gd_LV wf ht
  rw [← gdB_iff, ← h, e, gd_nI (by omega), decide_eq_true_eq]
  exact nI_ltI (b := 64) (by omega) (by omega)
theorem LV_64' {τ : Nat → Nat → Int32} (wf : WFT τ) {t : Nat} (ht : t < 12) : 64 ≤ LV τ t ↔ ¬ gdB τ t = true := by
  rw [gdB_iff, ← LV_64 wf ht, Int32.not_lt]
def isM (n : Nat) (v : Int32) : Prop := sN v < n ∧ v = nI (sN v)
def om1 (n : Nat) (v : Int32) : Prop := v = -1 ∨ isM n v
theorem isM_nI {n k : Nat} (hn : n ≤ 30) (h : k < n) : isM n (nI k) := by unfold isM; rw [sN_nI (by omega)]; exact ⟨h, rfl⟩
theorem om1.nn {n : Nat} {v : Int32} (h : om1 n v) (c : 0 ≤ v) : isM n v := h.resolve_left (fun e => by rw [e] at c; exact absurd c (by decide))
theorem om1_od {γ : Nat → Nat → Int32} {n t : Nat} {key : Int32} (hn : n ≤ 30) : om1 n (odI γ n t key) := by
  unfold odI
  split
  · rename_i c; exact Or.inr (isM_nI hn c)
  · exact Or.inl rfl
theorem om1_av {n k : Nat} (hn : n ≤ 30) : om1 n (av n k) := by
  unfold av
  split
  · rename_i c; exact Or.inr (isM_nI hn c)
  · exact Or.inl rfl
theorem bod6 (x : Nat → Nat → Int32) (w n : Nat) (hn : n ≤ 30) (t : Int32) (u : Nat) : ∀ k i v, 12 - i < k → i ≤ 12 → (v = -2 ∨ om1 n v) → (p_X5_bodied_6 x w n t u k i v = -2 ∨ om1 n (p_X5_bodied_6 x w n t u k i v)) := by
  intro k
  induction k with
  | zero => intro i v h; omega
  | succ k ih =>
    intro i v hk hi hv
    rw [p_X5_bodied_6]
    split
    · exact hv
    · split
      · split
        · split
          · exact ih _ _ (by omega) (by omega) (Or.inr (om1_od hn))
          · exact ih _ _ (by omega) (by omega) (Or.inl rfl)
        · exact ih _ _ (by omega) (by omega) hv
      · exact ih _ _ (by omega) (by omega) hv
theorem bod_cases (x : Nat → Nat → Int32) (w n : Nat) (hn : n ≤ 30) (t : Int32) (u : Nat) : p_X5_bodied x w n t u = -2 ∨ om1 n (p_X5_bodied x w n t u) := by
  rw [p_X5_bodied]; exact bod6 x w n hn t u 13 0 (-1) (by omega) (by omega) (Or.inr (Or.inl rfl))
theorem bod_isM {x : Nat → Nat → Int32} {w n : Nat} (hn : n ≤ 30) {t : Int32} {u : Nat} (c : 0 ≤ p_X5_bodied x w n t u) : isM n (p_X5_bodied x w n t u) := by
  rcases bod_cases x w n hn t u with e | e
  · rw [e] at c; exact absurd c (by decide)
  · exact e.nn c
theorem find_om1 (x : Nat → Nat → Int32) (w n : Nat) (hn : n ≤ 30) (t u : Nat) (wx : WX x w n) (ht : t < 12) (gt : Gd (vwX x w) t) : om1 n (p_X5_find x w n t u) := by
  have h148 : ∀ k i, n - i < k → i ≤ n → om1 n (p_X5_find_148 x w n t u k i) := by
    intro k
    induction k with
    | zero => intro i h; omega
    | succ k ih =>
      intro i hk hi
      rw [p_X5_find_148]
      split
      · exact Or.inl rfl
      · have hr := ih (i + 1) (by omega) (by omega)
        split
        · split
          · exact hr
          · split
            · split
              · split
                · exact hr
                · split
                  · exact Or.inr (isM_nI hn (by omega))
                  · exact hr
              · exact hr
            · exact hr
        · exact hr
  have h26 : ∀ k v z, (v = -1 ∨ (isT v ∧ gN (vwX x w) (k - 1) (sN v) = true)) → 0 < k → om1 n (p_X5_find_26 x w n t u k v z) := by
    intro k
    induction k with
    | zero => intro v z _ h; omega
    | succ k ih =>
      intro v z hv _
      rw [p_X5_find_26]
      split
      · split
        · exact h148 31 0 (by omega) (by omega)
        · rename_i c; exact Or.inr (bod_isM hn (Int32.not_lt.mp c))
      · rename_i c
        obtain ⟨hT, hg⟩ := hv.resolve_left (fun e => c (by rw [e]; decide))
        have hu := up_step wx.1 hT hg
        have hr := ih (x 3 (12 * w + sN v)) z hu.2 hu.1
        split
        · split
          · split
            · exact om1_od hn
            · split
              · split
                · exact om1_od hn
                · exact hr
              · exact hr
          · exact om1_od hn
        · exact hr
  have h0 : nI t = -1 ∨ (isT (nI t) ∧ gN (vwX x w) (14 - 1) (sN (nI t)) = true) := Or.inr ⟨isT_nI ht, by rw [sN_nI (by omega)]; exact gN_mono (gN12 wx.1 ht gt)⟩
  rw [p_X5_find]
  split
  · exact h26 14 _ _ h0 (by omega)
  · exact h26 14 _ _ h0 (by omega)
/-- the references: R of them -/
def WR (x : Nat → Nat → Int32) (R : Nat) (Φ : Nat → Nat → Nat) : Prop := R ≤ 16 ∧ x 19 0 = nI R ∧ ∀ i, i < R → φR (Φ i) ∧ x 13 i = nI (Φ i 0) ∧ x 14 i = nI (Φ i 1) ∧ x 15 i = nI (Φ i 2) ∧ x 16 i = nI (Φ i 3)
theorem wi_sN {v : Int32} {b : Nat} (hb : b < 2 ^ 31) (h : wi v (nI b) = true) : sN v < b ∧ v = nI (sN v) := by
  obtain ⟨j, hj, e⟩ := wi_of hb h
  rw [e, sN_nI (by omega)]
  exact ⟨hj, rfl⟩

theorem c_X5_loadedR (l : Launch) (D : va_G) (cI cZ cB cR : ClassId) (a : Nat → Nat) (x : Nat → Nat → Int32) (r1 r2 : Nat → Int32) (w n : Nat) (t : Nat) (hw : w < 2) (wx : WX x w n) (hnt : t < 12)  : MUi l yX5_loaded wsX5_loaded ({ frames := 2, cells := 0, slots := 0, locals := 46 } : Room) D cI cZ cB cR (wX cI cZ a x r1 r2) [.ref (a 0), .int (nI w), .int (nI t)] (fun (u8 : (Nat → Int32) × (Nat → Int32)) => wX cI cZ a x u8.1 u8.2) (fun r _ => r = LV (vwX x w) t) :=
  MUi.weak (c_X5_loaded l D cI cZ cB cR a x (fun k => if k = 0 then r1 else r2) w n t hw wx hnt) (fun _ => ((p_X5_loaded x w n t (fun k => if k = 0 then r1 else r2)).2 0, (p_X5_loaded x w n t (fun k => if k = 0 then r1 else r2)).2 1)) (fun _ => rfl) (fun r u9 h => h.trans (pe_X5_loaded x (fun k => if k = 0 then r1 else r2) w n t wx hnt))
theorem c_X5_fieldR (l : Launch) (D : va_G) (cI cZ cB cR : ClassId) (a : Nat → Nat) (x : Nat → Nat → Int32) (r1 r2 : Nat → Int32) (w n : Nat) (t : Nat) (u : Nat) (hw : w < 2) (wx : WX x w n) (hnt : t < 12) (hnu : u < 15) (gt : Gd (vwX x w) t) : MUi l yX5_field wsX5_field ({ frames := 1, cells := 0, slots := 0, locals := 26 } : Room) D cI cZ cB cR (wX cI cZ a x r1 r2) [.ref (a 0), .int (nI w), .int (nI t), .int (nI u)] (fun (u8 : (Nat → Int32) × (Nat → Int32)) => wX cI cZ a x u8.1 u8.2) (fun r _ => r = av n (FR (vwX x w) (vmX x w) n (kyF false (nI u)) t)) :=
  MUi.weak (c_X5_field l D cI cZ cB cR a x (fun k => if k = 0 then r1 else r2) w n t u hw wx hnt hnu) (fun _ => ((p_X5_field x w n t u (fun k => if k = 0 then r1 else r2)).2 0, (p_X5_field x w n t u (fun k => if k = 0 then r1 else r2)).2 1)) (fun _ => rfl) (fun r u9 h => h.trans (pe_X5_field x (fun k => if k = 0 then r1 else r2) w n t u wx hnt gt))
noncomputable def p_X5_isLoaded (x : Nat → Nat → Int32) (w n : Nat) (t : Nat) : Int32 := if (64 : Int32) ≤ (LV (vwX x w) t) then ((0 : Int32)) else ((1 : Int32))
theorem pe_X5_isLoaded (x : Nat → Nat → Int32) (w n : Nat) (t : Nat) (hw : w < 2) (wx : WX x w n) (hnt : t < 12)  : p_X5_isLoaded x w n t = b2i (gdB (vwX x w) t) := by
  rw [p_X5_isLoaded]
  exact ite_b2i (LV_64' wx.1 hnt)
set_option maxHeartbeats 4000000 in
set_option maxRecDepth 100000 in
theorem c_X5_isLoaded (l : Launch) (D : va_G) (cI cZ cB cR : ClassId) (a : Nat → Nat) (x : Nat → Nat → Int32) (r1 r2 : Nat → Int32) (w n : Nat) (t : Nat) (hw : w < 2) (wx : WX x w n) (hnt : t < 12)  : MUi l yX5_isLoaded wsX5_isLoaded ({ frames := 3, cells := 0, slots := 0, locals := 75 } : Room) D cI cZ cB cR (wX cI cZ a x r1 r2) [.ref (a 0), .int (nI w), .int (nI t)] (fun (u8 : (Nat → Int32) × (Nat → Int32)) => wX cI cZ a x u8.1 u8.2) (fun r _ => r = (b2i (gdB (vwX x w) t))) := by
  have hE : p_X5_isLoaded x w n t = b2i (gdB (vwX x w) t) := pe_X5_isLoaded x w n t hw wx hnt
  intro sz
  refine Met.ofW (cc := cX5_isLoaded) (maxL := 3) (ret := (some .boolean)) (by decide) rfl ?_
  intro p e s m args below meth c s₁ B hml hv
  obtain ⟨hargs, hsz, hP, hEV, hD0⟩ := hv
  have hx := B.exec
  have hb := B.bytes
  have hr := B.returns
  have hts := atoms_spec (ws := wsX5_isLoaded) B.pre
  have hown : s.vm.findClass RX5 = some m.cls := findClass_of_methodNamed B.named
  have hlocks := B.notSynchronized
  have hK := hEV.1
  have hl := lv_entry ([.ref (a 0), .int (nI w), .int (nI t)]) (n := 3) (Nat.le_of_ble_eq_true rfl)
  rw [show entryFrame m args 3 = entryFrame m ([.ref (a 0), .int (nI w), .int (nI t)] : List Value).toArray 3 from by rw [hargs], lg_entry_eq]
  generalize (lg_sl ([.ref (a 0), .int (nI w), .int (nI t)]) ++ List.replicate (3 - (lg_sl ([.ref (a 0), .int (nI w), .int (nI t)])).length) Slot.unset).toArray = ls at hl ⊢
  have hl : lv_has ls 3 [(0, .ref (a 0)), (1, .int (nI w)), (2, .int (nI t))] := hl
  subst hsz
  have hD := hD0.self (sz := s.heap.size)
  generalize hAe : va_A (wX cI cZ a x r1 r2) s.heap.size = A at hD ⊢
  have hA : ∀ q : Nat, s.heap.size ≤ q → A q := fun q h9 => by rw [← hAe]; exact Or.inr h9
  have hS : va_S A s.heap s.heap [] := va_S.rf
  rw [p_X5_isLoaded] at hE
  have hn30 := wx.2.2.1
  refine lv_aload_n hx hb dX5_isLoaded_0 rfl (lv_at hl 0 rfl) ?_
  refine lv_iload_n hx hb dX5_isLoaded_1 rfl (lv_at hl 1 rfl) ?_
  refine lv_iload_n hx hb dX5_isLoaded_2 rfl (lv_at hl 2 rfl) ?_
  refine mu_V [.int (nI w), .int (nI t)] [] ⟨hx, hb, hml, hown, hts⟩ (c_X5_loadedR l D cI cZ cB cR a x r1 r2 w n t (by omega) wx (by omega) ) (cwV (C := RX5) 2 hts (goodP (ps := [.methodLink RX5 104 yX5_loaded, .instanceMethod yX5_loaded, .selects RX5 yX5_loaded yX5_loaded, .initialized RX5]) (all4 mw_3_194 mw_3_196 ms_29 mw_1_6) mw_3_197) rfl rfl rfl (by decide +kernel) ⟨Nat.le_of_ble_eq_true rfl, Nat.le_of_ble_eq_true rfl⟩) hEV hP hD hS hA 0 rfl rfl rfl hl.1 rfl (Nat.le_of_ble_eq_true rfl) dX5_isLoaded_3 ⟨Nat.zero_le _, Nat.zero_le _⟩ (fun r9 u9 H1 locs hw hP1 hk1 hS => ?_)
  subst hw
  obtain ⟨r1, r2⟩ := u9
  dsimp only at hP1
  have hP : va_P D vwCl (wX cI cZ a x r1 r2) H1 := hP1
  have hD : va_D A (wX cI cZ a x r1 r2) := hD.adr rfl
  generalize H1 = H at hP hS ⊢
  refine lv_bipush (v := (64 : Int32)) hx hb dX5_isLoaded_6 (by decide) ?_
  refine lv_icmp_ge (tgt := 15) hx hb dX5_isLoaded_8 (by decide) (fun c_8 => ?_) (fun c_8 => ?_)
  · skip
    have hE := (if_pos c_8).symm.trans hE
    refine lv_iconst (v := (0 : Int32)) hx hb dX5_isLoaded_15 (by decide) ?_
    exact W.zret hx hb hr rfl (fun t9 ht9 _ => ⟨⟨_, (r1, r2), rfl, hE, by show va_P D vwCl _ t9.heap; rw [ht9]; exact hP⟩, hS.F ht9⟩) hS.2.2 dX5_isLoaded_16
  · skip
    have hE := (if_neg c_8).symm.trans hE
    refine lv_iconst (v := (1 : Int32)) hx hb dX5_isLoaded_11 (by decide) ?_
    refine lv_goto (tgt := 16) hx hb dX5_isLoaded_12 (by decide) ?_
    exact W.zret hx hb hr rfl (fun t9 ht9 _ => ⟨⟨_, (r1, r2), rfl, hE, by show va_P D vwCl _ t9.heap; rw [ht9]; exact hP⟩, hS.F ht9⟩) hS.2.2 dX5_isLoaded_16
noncomputable def p_X5_resolved_385 (x : Nat → Nat → Int32) (nf : Nat → Nat) (R : Nat) (Φ : Nat → Nat → Nat) (w : Nat) (t : Nat) (n10 : Nat) (n9 : Nat) : Int32 := if (Φ t 0) = 5 then (if ((x 12 n10) &&& (2 : Int32)) = (0 : Int32) then (nI (64 * 0 + (16 + n9))) else (nI (64 * 7 + (16 + n9)))) else (nI (64 * 0 + (16 + n9)))
noncomputable def p_X5_resolved_361 (x : Nat → Nat → Int32) (nf : Nat → Nat) (R : Nat) (Φ : Nat → Nat → Nat) (w : Nat) (t : Nat) (n10 : Nat) (n9 : Nat) : Int32 := if (Φ t 0) = 5 then (if (abB (vwX x w) (Φ t 1) (Φ t 2) || fcB (vwX x w) (Φ t 1) (Φ t 2)) = true then (p_X5_resolved_385 x nf R Φ w t n10 n9) else (nI (64 * 3 + (Φ t 2)))) else (p_X5_resolved_385 x nf R Φ w t n10 n9)
noncomputable def p_X5_resolved_327 (x : Nat → Nat → Int32) (nf : Nat → Nat) (R : Nat) (Φ : Nat → Nat → Nat) (w : Nat) (t : Nat) (n10 : Nat) (n9 : Nat) : Int32 := if ((x 12 n10) &&& (4 : Int32)) = (0 : Int32) then (p_X5_resolved_361 x nf R Φ w t n10 n9) else (if (Φ t 1) = (sN (x 9 n10)) then (p_X5_resolved_361 x nf R Φ w t n10 n9) else (nI (64 * 4 + (16 + n9))))
noncomputable def p_X5_resolved_302 (x : Nat → Nat → Int32) (nf : Nat → Nat) (R : Nat) (Φ : Nat → Nat → Nat) (w : Nat) (t : Nat) (z11 : Bool) (n10 : Nat) (n9 : Nat) (zs0 : Bool) : Int32 := if (b2i zs0) = (b2i z11) then (if (Φ t 0) = 1 then (p_X5_resolved_327 x nf R Φ w t n10 n9) else (if (Φ t 0) = 3 then (p_X5_resolved_327 x nf R Φ w t n10 n9) else (p_X5_resolved_361 x nf R Φ w t n10 n9))) else (nI (64 * 3 + (16 + n9)))
noncomputable def p_X5_resolved_283 (x : Nat → Nat → Int32) (nf : Nat → Nat) (R : Nat) (Φ : Nat → Nat → Nat) (w : Nat) (t : Nat) (n10 : Nat) (n9 : Nat) (zs0 : Bool) : Int32 := if ((x 12 n10) &&& (1 : Int32)) = (0 : Int32) then (p_X5_resolved_302 x nf R Φ w t zs0 n10 n9 false) else (p_X5_resolved_302 x nf R Φ w t zs0 n10 n9 true)
noncomputable def p_X5_resolved_205 (x : Nat → Nat → Int32) (nf : Nat → Nat) (R : Nat) (Φ : Nat → Nat → Nat) (w : Nat) (t : Nat) (vs0 : Int32) : Int32 := if (0 : Int32) ≤ vs0 then (if (p_X5_isOpen x w (nf w) (sN vs0) (Φ t 2) (Φ t 1)) = (0 : Int32) then (nI (64 * 4 + (16 + (sN vs0)))) else (if (Φ t 0) = 2 then (p_X5_resolved_283 x nf R Φ w t ((30 * w) + (sN vs0)) (sN vs0) true) else (if (Φ t 0) = 3 then (p_X5_resolved_283 x nf R Φ w t ((30 * w) + (sN vs0)) (sN vs0) true) else (if (Φ t 0) = 6 then (p_X5_resolved_283 x nf R Φ w t ((30 * w) + (sN vs0)) (sN vs0) true) else (p_X5_resolved_283 x nf R Φ w t ((30 * w) + (sN vs0)) (sN vs0) false))))) else (if 4 ≤ (Φ t 0) then (nI (64 * 6 + (Φ t 2))) else (nI (64 * 5 + (Φ t 2))))
noncomputable def p_X5_resolved_171 (x : Nat → Nat → Int32) (nf : Nat → Nat) (R : Nat) (Φ : Nat → Nat → Nat) (w : Nat) (t : Nat) : Int32 := if 4 ≤ (Φ t 0) then (p_X5_resolved_205 x nf R Φ w t (p_X5_find x w (nf w) (Φ t 2) (Φ t 3))) else (p_X5_resolved_205 x nf R Φ w t (av (nf w) (FR (vwX x w) (vmX x w) (nf w) (kyF false (nI (Φ t 3))) (Φ t 2))))
noncomputable def p_X5_resolved_153 (x : Nat → Nat → Int32) (nf : Nat → Nat) (R : Nat) (Φ : Nat → Nat → Nat) (w : Nat) (t : Nat) (v8 : Int32) : Int32 := if (Φ t 0) = 7 then (if v8 = (0 : Int32) then (nI (64 * 3 + (Φ t 2))) else (p_X5_resolved_171 x nf R Φ w t )) else (p_X5_resolved_171 x nf R Φ w t )
noncomputable def p_X5_resolved_141 (x : Nat → Nat → Int32) (nf : Nat → Nat) (R : Nat) (Φ : Nat → Nat → Nat) (w : Nat) (t : Nat) (zs0 : Bool) : Int32 := if (Φ t 0) = 4 then (if zs0 = true then (nI (64 * 3 + (Φ t 2))) else (p_X5_resolved_153 x nf R Φ w t (b2i zs0))) else (p_X5_resolved_153 x nf R Φ w t (b2i zs0))
noncomputable def p_X5_resolved_111 (x : Nat → Nat → Int32) (nf : Nat → Nat) (R : Nat) (Φ : Nat → Nat → Nat) (w : Nat) (t : Nat) : Int32 := if (Φ t 0) = 8 then (nI (64 * 0 + (Φ t 2))) else (if ((x 1 ((12 * w) + (Φ t 2))) &&& (2 : Int32)) = (0 : Int32) then (p_X5_resolved_141 x nf R Φ w t false) else (p_X5_resolved_141 x nf R Φ w t true))
noncomputable def p_X5_resolved (x : Nat → Nat → Int32) (nf : Nat → Nat) (R : Nat) (Φ : Nat → Nat → Nat) (w : Nat) (t : Nat) : Int32 := if (LV (vwX x w) (Φ t 1)) < (64 : Int32) then (if (LV (vwX x w) (Φ t 2)) < (64 : Int32) then (if ((x 1 ((12 * w) + (Φ t 2))) &&& (1 : Int32)) = (0 : Int32) then (if (x 2 ((12 * w) + (Φ t 2))) = (x 2 ((12 * w) + (Φ t 1))) then (p_X5_resolved_111 x nf R Φ w t ) else (nI (64 * 4 + (Φ t 2)))) else (p_X5_resolved_111 x nf R Φ w t )) else (LV (vwX x w) (Φ t 2))) else (LV (vwX x w) (Φ t 1))
set_option maxHeartbeats 4000000 in
set_option maxRecDepth 100000 in
theorem c_X5_resolved (l : Launch) (D : va_G) (cI cZ cB cR : ClassId) (a : Nat → Nat) (x : Nat → Nat → Int32) (r1 r2 : Nat → Int32) (nf : Nat → Nat) (R : Nat) (Φ : Nat → Nat → Nat) (w : Nat) (t : Nat) (hX : ∀ w, w < 2 → WX x w (nf w)) (wr : WR x R Φ) (hw : w < 2) (hnt : t < R)  : MUi l yX5_resolved wsX5_resolved ({ frames := 5, cells := 0, slots := 0, locals := 130 } : Room) D cI cZ cB cR (wX cI cZ a x r1 r2) [.ref (a 0), .int (nI w), .int (nI t)] (fun (u8 : (Nat → Int32) × (Nat → Int32)) => wX cI cZ a x u8.1 u8.2) (fun r _ => r = (p_X5_resolved x nf R Φ w t)) := by
  generalize hE : p_X5_resolved x nf R Φ w t = tgt
  intro sz
  refine Met.ofW (cc := cX5_resolved) (maxL := 12) (ret := (some .int)) (by decide) rfl ?_
  intro p e s m args below meth c s₁ B hml hv
  obtain ⟨hargs, hsz, hP, hEV, hD0⟩ := hv
  have hx := B.exec
  have hb := B.bytes
  have hr := B.returns
  have hts := atoms_spec (ws := wsX5_resolved) B.pre
  have hown : s.vm.findClass RX5 = some m.cls := findClass_of_methodNamed B.named
  have hlocks := B.notSynchronized
  have hK := hEV.1
  have hl := lv_entry ([.ref (a 0), .int (nI w), .int (nI t)]) (n := 12) (Nat.le_of_ble_eq_true rfl)
  rw [show entryFrame m args 12 = entryFrame m ([.ref (a 0), .int (nI w), .int (nI t)] : List Value).toArray 12 from by rw [hargs], lg_entry_eq]
  generalize (lg_sl ([.ref (a 0), .int (nI w), .int (nI t)]) ++ List.replicate (12 - (lg_sl ([.ref (a 0), .int (nI w), .int (nI t)])).length) Slot.unset).toArray = ls at hl ⊢
  have hl : lv_has ls 12 [(0, .ref (a 0)), (1, .int (nI w)), (2, .int (nI t))] := hl
  subst hsz
  have hD := hD0.self (sz := s.heap.size)
  generalize hAe : va_A (wX cI cZ a x r1 r2) s.heap.size = A at hD ⊢
  have hA : ∀ q : Nat, s.heap.size ≤ q → A q := fun q h9 => by rw [← hAe]; exact Or.inr h9
  have hS : va_S A s.heap s.heap [] := va_S.rf
  rw [p_X5_resolved] at hE
  have hR16 := wr.1
  have wx := hX w hw
  have hn30 := wx.2.2.1
  have hf9 := (wr.2.2 t hnt).1
  have hf0 := hf9.1
  have hf1 := hf9.2.1
  have hf2 := hf9.2.2.1
  have hf3 := hf9.2.2.2
  have key_385 : ∀ (n10 : Nat) (n9 : Nat) (ls : Array Slot) (r1 : Nat → Int32) (r2 : Nat → Int32) (H : Heap) (locs : List Loc) (hP : va_P D vwCl (wX cI cZ a x r1 r2) H) (hD : va_D A (wX cI cZ a x r1 r2)) (hS : va_S A s.heap H locs), n9 < nf w → n10 = 30 * w + n9 → lv_has ls 12 [(10, .int (nI n10)), (9, .int (nI n9)), (3, .int (nI (Φ t 0))), (0, .ref (a 0))] → p_X5_resolved_385 x nf R Φ w t n10 n9 = tgt → W p l e (headSpec wsX5_resolved ({ frames := 5, cells := 0, slots := 0, locals := 130 } : Room)).room s m args below meth c H locs 0 0 (MQ below (va_Qi (fun r (_ : (Nat → Int32) × (Nat → Int32)) => r = tgt) (fun u t => va_P D vwCl ((fun (u8 : (Nat → Int32) × (Nat → Int32)) => wX cI cZ a x u8.1 u8.2) u) t.heap) A) args s 0 0 A) (F0 m 385 ls []) := by
    intro n10 n9 ls r1 r2 H locs hP hD hS hi_385_0 hi_385_1 hl hE
    rw [p_X5_resolved_385] at hE
    refine lv_iload_n hx hb dX5_resolved_385 rfl (lv_at hl 2 rfl) ?_
    refine lv_iconst (v := (5 : Int32)) hx hb dX5_resolved_386 (by decide) ?_
    refine lv_icmp_ne (tgt := 413) hx hb dX5_resolved_387 (by decide) (fun c_387 => ?_) (fun c_387 => ?_)
    · have c_387 : ¬ ((Φ t 0) = 5) := fun q9 => c_387 ((nI_eq (a := (Φ t 0)) (b := 5) (by omega) (by omega)).mpr q9)
      have hE := (if_neg c_387).symm.trans hE
      refine lv_iconst (v := (0 : Int32)) hx hb dX5_resolved_413 (by decide) ?_
      refine lv_bipush (v := (16 : Int32)) hx hb dX5_resolved_414 (by decide) ?_
      refine lv_iload hx hb dX5_resolved_416 (lv_at hl 1 rfl) ?_
      refine lv_iadd hx hb dX5_resolved_418 ?_
      refine top_eq (nI_add 16 n9) ?_
      refine ro_S [.int (0 : Int32), .int (nI (16 + n9))] [] ⟨hx, hb, hml, hown, hts⟩ (c_X5_verdict l D cI cZ cB cR 0 (16 + n9) (by omega) (by omega)) (va_cwS 2 hts (goodP (ps := [.methodLink RX5 97 yX5_verdict, .static yX5_verdict, .initialized RX5]) (all3 mw_3_198 mw_3_199 mw_1_6) mw_3_200) rfl rfl rfl (by decide +kernel) ⟨Nat.le_of_ble_eq_true rfl, Nat.le_of_ble_eq_true rfl⟩) hEV va_P0 rfl hl.1 rfl (Nat.le_of_ble_eq_true rfl) dX5_resolved_419 ⟨Nat.zero_le _, Nat.zero_le _⟩ ?_
      exact W.iret hx hb hr (fun t9 ht9 _ => ⟨⟨_, (r1, r2), rfl, hE, by show va_P D vwCl _ t9.heap; rw [ht9]; exact hP⟩, hS.F ht9⟩) hS.2.2 dX5_resolved_422
    · have c_387 : (Φ t 0) = 5 := (nI_eq (a := (Φ t 0)) (b := 5) (by omega) (by omega)).mp c_387
      have hE := (if_pos c_387).symm.trans hE
      refine lv_aload_n hx hb dX5_resolved_390 rfl (lv_at hl 3 rfl) ?_
      refine va_get (D := D) (ci := 5) (v := .ref (a 13)) (C := RX5) (T := TX5) (N := 21) hx hb hts (fun w9 h9 => List.mem_cons_of_mem _ (inT_X5 w9 h9)) hown hK hP 0 rfl rfl 12 (by decide) (hts (.fieldLink RX5 47 "LinkPredictorModel" "marks" "[I") (List.mem_cons_of_mem _ mw_3_78)) (fun _ h9 => h9) rfl dX5_resolved_391 ?_
      refine lv_iload hx hb dX5_resolved_394 (lv_at hl 0 rfl) ?_
      refine ro_ald hx hb hEV hP 13 (j := n10) rfl (by omega) (by decide) dX5_resolved_396 ?_
      refine lv_iconst (v := (2 : Int32)) hx hb dX5_resolved_397 (by decide) ?_
      refine lv_iand hx hb dX5_resolved_398 ?_
      refine lv_if_eq (tgt := 413) hx hb dX5_resolved_399 (by decide) (fun c_399 => ?_) (fun c_399 => ?_)
      · skip
        have hE := (if_pos c_399).symm.trans hE
        refine lv_iconst (v := (0 : Int32)) hx hb dX5_resolved_413 (by decide) ?_
        refine lv_bipush (v := (16 : Int32)) hx hb dX5_resolved_414 (by decide) ?_
        refine lv_iload hx hb dX5_resolved_416 (lv_at hl 1 rfl) ?_
        refine lv_iadd hx hb dX5_resolved_418 ?_
        refine top_eq (nI_add 16 n9) ?_
        refine ro_S [.int (0 : Int32), .int (nI (16 + n9))] [] ⟨hx, hb, hml, hown, hts⟩ (c_X5_verdict l D cI cZ cB cR 0 (16 + n9) (by omega) (by omega)) (va_cwS 2 hts (goodP (ps := [.methodLink RX5 97 yX5_verdict, .static yX5_verdict, .initialized RX5]) (all3 mw_3_198 mw_3_199 mw_1_6) mw_3_200) rfl rfl rfl (by decide +kernel) ⟨Nat.le_of_ble_eq_true rfl, Nat.le_of_ble_eq_true rfl⟩) hEV va_P0 rfl hl.1 rfl (Nat.le_of_ble_eq_true rfl) dX5_resolved_419 ⟨Nat.zero_le _, Nat.zero_le _⟩ ?_
        exact W.iret hx hb hr (fun t9 ht9 _ => ⟨⟨_, (r1, r2), rfl, hE, by show va_P D vwCl _ t9.heap; rw [ht9]; exact hP⟩, hS.F ht9⟩) hS.2.2 dX5_resolved_422
      · skip
        have hE := (if_neg c_399).symm.trans hE
        refine lv_bipush (v := (7 : Int32)) hx hb dX5_resolved_402 (by decide) ?_
        refine lv_bipush (v := (16 : Int32)) hx hb dX5_resolved_404 (by decide) ?_
        refine lv_iload hx hb dX5_resolved_406 (lv_at hl 1 rfl) ?_
        refine lv_iadd hx hb dX5_resolved_408 ?_
        refine top_eq (nI_add 16 n9) ?_
        refine ro_S [.int (7 : Int32), .int (nI (16 + n9))] [] ⟨hx, hb, hml, hown, hts⟩ (c_X5_verdict l D cI cZ cB cR 7 (16 + n9) (by omega) (by omega)) (va_cwS 2 hts (goodP (ps := [.methodLink RX5 97 yX5_verdict, .static yX5_verdict, .initialized RX5]) (all3 mw_3_198 mw_3_199 mw_1_6) mw_3_200) rfl rfl rfl (by decide +kernel) ⟨Nat.le_of_ble_eq_true rfl, Nat.le_of_ble_eq_true rfl⟩) hEV va_P0 rfl hl.1 rfl (Nat.le_of_ble_eq_true rfl) dX5_resolved_409 ⟨Nat.zero_le _, Nat.zero_le _⟩ ?_
        exact W.iret hx hb hr (fun t9 ht9 _ => ⟨⟨_, (r1, r2), rfl, hE, by show va_P D vwCl _ t9.heap; rw [ht9]; exact hP⟩, hS.F ht9⟩) hS.2.2 dX5_resolved_412
  have key_361 : ∀ (n10 : Nat) (n9 : Nat) (ls : Array Slot) (r1 : Nat → Int32) (r2 : Nat → Int32) (H : Heap) (locs : List Loc) (hP : va_P D vwCl (wX cI cZ a x r1 r2) H) (hD : va_D A (wX cI cZ a x r1 r2)) (hS : va_S A s.heap H locs), Gd (vwX x w) (Φ t 1) → Gd (vwX x w) (Φ t 2) → n9 < nf w → n10 = 30 * w + n9 → lv_has ls 12 [(10, .int (nI n10)), (9, .int (nI n9)), (5, .int (nI (Φ t 2))), (4, .int (nI (Φ t 1))), (3, .int (nI (Φ t 0))), (0, .ref (a 0)), (1, .int (nI w))] → p_X5_resolved_361 x nf R Φ w t n10 n9 = tgt → W p l e (headSpec wsX5_resolved ({ frames := 5, cells := 0, slots := 0, locals := 130 } : Room)).room s m args below meth c H locs 0 0 (MQ below (va_Qi (fun r (_ : (Nat → Int32) × (Nat → Int32)) => r = tgt) (fun u t => va_P D vwCl ((fun (u8 : (Nat → Int32) × (Nat → Int32)) => wX cI cZ a x u8.1 u8.2) u) t.heap) A) args s 0 0 A) (F0 m 361 ls []) := by
    intro n10 n9 ls r1 r2 H locs hP hD hS hi_361_0 hi_361_1 hi_361_2 hi_361_3 hl hE
    rw [p_X5_resolved_361] at hE
    refine lv_iload_n hx hb dX5_resolved_361 rfl (lv_at hl 4 rfl) ?_
    refine lv_iconst (v := (5 : Int32)) hx hb dX5_resolved_362 (by decide) ?_
    refine lv_icmp_ne (tgt := 385) hx hb dX5_resolved_363 (by decide) (fun c_363 => ?_) (fun c_363 => ?_)
    · have c_363 : ¬ ((Φ t 0) = 5) := fun q9 => c_363 ((nI_eq (a := (Φ t 0)) (b := 5) (by omega) (by omega)).mpr q9)
      have hE := (if_neg c_363).symm.trans hE
      exact key_385 n10 n9 ls _ _ _ _ hP hD hS (by first | omega | assumption | exact find_om1 _ _ _ hn30 _ _ wx (by omega) (by assumption) | exact om1_av hn30) (by first | omega | assumption | exact find_om1 _ _ _ hn30 _ _ wx (by omega) (by assumption) | exact om1_av hn30) (lv_sub hl [0, 1, 4, 5] rfl) hE
    · have c_363 : (Φ t 0) = 5 := (nI_eq (a := (Φ t 0)) (b := 5) (by omega) (by omega)).mp c_363
      have hE := (if_pos c_363).symm.trans hE
      refine lv_aload_n hx hb dX5_resolved_366 rfl (lv_at hl 5 rfl) ?_
      refine lv_iload_n hx hb dX5_resolved_367 rfl (lv_at hl 6 rfl) ?_
      refine lv_iload hx hb dX5_resolved_368 (lv_at hl 3 rfl) ?_
      refine lv_iload hx hb dX5_resolved_370 (lv_at hl 2 rfl) ?_
      refine ro_V [.int (nI w), .int (nI (Φ t 1)), .int (nI (Φ t 2))] [] ⟨hx, hb, hml, hown, hts⟩ (c_X5_under l D cI cZ cB cR a x r1 r2 w (nf w) (Φ t 1) (Φ t 2) (by omega) (hX w (by omega)) (by omega) (by omega) (by assumption)) (cwV (C := RX5) 3 hts (goodP (ps := [.methodLink RX5 116 yX5_under, .instanceMethod yX5_under, .selects RX5 yX5_under yX5_under, .initialized RX5]) (all4 mw_4_8 mw_4_10 ms_40 mw_1_6) mw_4_11) rfl rfl rfl (by decide +kernel) ⟨Nat.le_of_ble_eq_true rfl, Nat.le_of_ble_eq_true rfl⟩) hEV hP 0 rfl rfl rfl hl.1 rfl (Nat.le_of_ble_eq_true rfl) dX5_resolved_372 ⟨Nat.zero_le _, Nat.zero_le _⟩ ?_
      refine lv_if_ne (tgt := 385) hx hb dX5_resolved_375 (by decide) (fun c_375 => ?_) (fun c_375 => ?_)
      · have c_375 : (abB (vwX x w) (Φ t 1) (Φ t 2) || fcB (vwX x w) (Φ t 1) (Φ t 2)) = true := b2i_t c_375
        have hE := (if_pos c_375).symm.trans hE
        exact key_385 n10 n9 ls _ _ _ _ hP hD hS (by first | omega | assumption | exact find_om1 _ _ _ hn30 _ _ wx (by omega) (by assumption) | exact om1_av hn30) (by first | omega | assumption | exact find_om1 _ _ _ hn30 _ _ wx (by omega) (by assumption) | exact om1_av hn30) (lv_sub hl [0, 1, 4, 5] rfl) hE
      · have c_375 : ¬ ((abB (vwX x w) (Φ t 1) (Φ t 2) || fcB (vwX x w) (Φ t 1) (Φ t 2)) = true) := b2i_f c_375
        have hE := (if_neg c_375).symm.trans hE
        refine lv_iconst (v := (3 : Int32)) hx hb dX5_resolved_378 (by decide) ?_
        refine lv_iload hx hb dX5_resolved_379 (lv_at hl 2 rfl) ?_
        refine ro_S [.int (3 : Int32), .int (nI (Φ t 2))] [] ⟨hx, hb, hml, hown, hts⟩ (c_X5_verdict l D cI cZ cB cR 3 (Φ t 2) (by omega) (by omega)) (va_cwS 2 hts (goodP (ps := [.methodLink RX5 97 yX5_verdict, .static yX5_verdict, .initialized RX5]) (all3 mw_3_198 mw_3_199 mw_1_6) mw_3_200) rfl rfl rfl (by decide +kernel) ⟨Nat.le_of_ble_eq_true rfl, Nat.le_of_ble_eq_true rfl⟩) hEV va_P0 rfl hl.1 rfl (Nat.le_of_ble_eq_true rfl) dX5_resolved_381 ⟨Nat.zero_le _, Nat.zero_le _⟩ ?_
        exact W.iret hx hb hr (fun t9 ht9 _ => ⟨⟨_, (r1, r2), rfl, hE, by show va_P D vwCl _ t9.heap; rw [ht9]; exact hP⟩, hS.F ht9⟩) hS.2.2 dX5_resolved_384
  have key_327 : ∀ (n10 : Nat) (n9 : Nat) (ls : Array Slot) (r1 : Nat → Int32) (r2 : Nat → Int32) (H : Heap) (locs : List Loc) (hP : va_P D vwCl (wX cI cZ a x r1 r2) H) (hD : va_D A (wX cI cZ a x r1 r2)) (hS : va_S A s.heap H locs), Gd (vwX x w) (Φ t 1) → Gd (vwX x w) (Φ t 2) → n9 < nf w → n10 = 30 * w + n9 → lv_has ls 12 [(10, .int (nI n10)), (9, .int (nI n9)), (5, .int (nI (Φ t 2))), (4, .int (nI (Φ t 1))), (3, .int (nI (Φ t 0))), (0, .ref (a 0)), (1, .int (nI w))] → p_X5_resolved_327 x nf R Φ w t n10 n9 = tgt → W p l e (headSpec wsX5_resolved ({ frames := 5, cells := 0, slots := 0, locals := 130 } : Room)).room s m args below meth c H locs 0 0 (MQ below (va_Qi (fun r (_ : (Nat → Int32) × (Nat → Int32)) => r = tgt) (fun u t => va_P D vwCl ((fun (u8 : (Nat → Int32) × (Nat → Int32)) => wX cI cZ a x u8.1 u8.2) u) t.heap) A) args s 0 0 A) (F0 m 327 ls []) := by
    intro n10 n9 ls r1 r2 H locs hP hD hS hi_327_0 hi_327_1 hi_327_2 hi_327_3 hl hE
    rw [p_X5_resolved_327] at hE
    refine lv_aload_n hx hb dX5_resolved_327 rfl (lv_at hl 5 rfl) ?_
    refine va_get (D := D) (ci := 5) (v := .ref (a 13)) (C := RX5) (T := TX5) (N := 21) hx hb hts (fun w9 h9 => List.mem_cons_of_mem _ (inT_X5 w9 h9)) hown hK hP 0 rfl rfl 12 (by decide) (hts (.fieldLink RX5 47 "LinkPredictorModel" "marks" "[I") (List.mem_cons_of_mem _ mw_3_78)) (fun _ h9 => h9) rfl dX5_resolved_328 ?_
    refine lv_iload hx hb dX5_resolved_331 (lv_at hl 0 rfl) ?_
    refine ro_ald hx hb hEV hP 13 (j := n10) rfl (by omega) (by decide) dX5_resolved_333 ?_
    refine lv_iconst (v := (4 : Int32)) hx hb dX5_resolved_334 (by decide) ?_
    refine lv_iand hx hb dX5_resolved_335 ?_
    refine lv_if_eq (tgt := 361) hx hb dX5_resolved_336 (by decide) (fun c_336 => ?_) (fun c_336 => ?_)
    · skip
      have hE := (if_pos c_336).symm.trans hE
      exact key_361 n10 n9 ls _ _ _ _ hP hD hS (by first | omega | assumption | exact find_om1 _ _ _ hn30 _ _ wx (by omega) (by assumption) | exact om1_av hn30) (by first | omega | assumption | exact find_om1 _ _ _ hn30 _ _ wx (by omega) (by assumption) | exact om1_av hn30) (by first | omega | assumption | exact find_om1 _ _ _ hn30 _ _ wx (by omega) (by assumption) | exact om1_av hn30) (by first | omega | assumption | exact find_om1 _ _ _ hn30 _ _ wx (by omega) (by assumption) | exact om1_av hn30) (lv_sub hl [0, 1, 2, 3, 4, 5, 6] rfl) hE
    · skip
      have hE := (if_neg c_336).symm.trans hE
      refine lv_iload hx hb dX5_resolved_339 (lv_at hl 3 rfl) ?_
      have ho9 : sN (x 9 n10) < 12 := by rw [hi_327_3]; exact (wx.2.2.2 n9 (by omega)).1.1
      refine lv_aload_n hx hb dX5_resolved_341 rfl (lv_at hl 5 rfl) ?_
      refine va_get (D := D) (ci := 5) (v := .ref (a 10)) (C := RX5) (T := TX5) (N := 21) hx hb hts (fun w9 h9 => List.mem_cons_of_mem _ (inT_X5 w9 h9)) hown hK hP 0 rfl rfl 9 (by decide) (hts (.fieldLink RX5 38 "LinkPredictorModel" "owner" "[I") (List.mem_cons_of_mem _ mw_3_75)) (fun _ h9 => h9) rfl dX5_resolved_342 ?_
      refine lv_iload hx hb dX5_resolved_345 (lv_at hl 0 rfl) ?_
      refine ro_ald hx hb hEV hP 10 (j := n10) rfl (by omega) (by decide) dX5_resolved_347 ?_
      refine top_eq (show x 9 n10 = nI (sN (x 9 n10)) from by rw [hi_327_3]; exact (wx.2.2.2 n9 (by omega)).1.2) ?_
      refine lv_icmp_eq (tgt := 361) hx hb dX5_resolved_348 (by decide) (fun c_348 => ?_) (fun c_348 => ?_)
      · have c_348 : (Φ t 1) = (sN (x 9 n10)) := (nI_eq (a := (Φ t 1)) (b := (sN (x 9 n10))) (by omega) (by omega)).mp c_348
        have hE := (if_pos c_348).symm.trans hE
        exact key_361 n10 n9 ls _ _ _ _ hP hD hS (by first | omega | assumption | exact find_om1 _ _ _ hn30 _ _ wx (by omega) (by assumption) | exact om1_av hn30) (by first | omega | assumption | exact find_om1 _ _ _ hn30 _ _ wx (by omega) (by assumption) | exact om1_av hn30) (by first | omega | assumption | exact find_om1 _ _ _ hn30 _ _ wx (by omega) (by assumption) | exact om1_av hn30) (by first | omega | assumption | exact find_om1 _ _ _ hn30 _ _ wx (by omega) (by assumption) | exact om1_av hn30) (lv_sub hl [0, 1, 2, 3, 4, 5, 6] rfl) hE
      · have c_348 : ¬ ((Φ t 1) = (sN (x 9 n10))) := fun q9 => c_348 ((nI_eq (a := (Φ t 1)) (b := (sN (x 9 n10))) (by omega) (by omega)).mpr q9)
        have hE := (if_neg c_348).symm.trans hE
        refine lv_iconst (v := (4 : Int32)) hx hb dX5_resolved_351 (by decide) ?_
        refine lv_bipush (v := (16 : Int32)) hx hb dX5_resolved_352 (by decide) ?_
        refine lv_iload hx hb dX5_resolved_354 (lv_at hl 1 rfl) ?_
        refine lv_iadd hx hb dX5_resolved_356 ?_
        refine top_eq (nI_add 16 n9) ?_
        refine ro_S [.int (4 : Int32), .int (nI (16 + n9))] [] ⟨hx, hb, hml, hown, hts⟩ (c_X5_verdict l D cI cZ cB cR 4 (16 + n9) (by omega) (by omega)) (va_cwS 2 hts (goodP (ps := [.methodLink RX5 97 yX5_verdict, .static yX5_verdict, .initialized RX5]) (all3 mw_3_198 mw_3_199 mw_1_6) mw_3_200) rfl rfl rfl (by decide +kernel) ⟨Nat.le_of_ble_eq_true rfl, Nat.le_of_ble_eq_true rfl⟩) hEV va_P0 rfl hl.1 rfl (Nat.le_of_ble_eq_true rfl) dX5_resolved_357 ⟨Nat.zero_le _, Nat.zero_le _⟩ ?_
        exact W.iret hx hb hr (fun t9 ht9 _ => ⟨⟨_, (r1, r2), rfl, hE, by show va_P D vwCl _ t9.heap; rw [ht9]; exact hP⟩, hS.F ht9⟩) hS.2.2 dX5_resolved_360
  have key_302 : ∀ (z11 : Bool) (n10 : Nat) (n9 : Nat) (zs0 : Bool) (ls : Array Slot) (r1 : Nat → Int32) (r2 : Nat → Int32) (H : Heap) (locs : List Loc) (hP : va_P D vwCl (wX cI cZ a x r1 r2) H) (hD : va_D A (wX cI cZ a x r1 r2)) (hS : va_S A s.heap H locs), Gd (vwX x w) (Φ t 1) → Gd (vwX x w) (Φ t 2) → n9 < nf w → n10 = 30 * w + n9 → lv_has ls 12 [(11, .int (b2i z11)), (10, .int (nI n10)), (9, .int (nI n9)), (5, .int (nI (Φ t 2))), (4, .int (nI (Φ t 1))), (3, .int (nI (Φ t 0))), (0, .ref (a 0)), (1, .int (nI w))] → p_X5_resolved_302 x nf R Φ w t z11 n10 n9 zs0 = tgt → W p l e (headSpec wsX5_resolved ({ frames := 5, cells := 0, slots := 0, locals := 130 } : Room)).room s m args below meth c H locs 0 0 (MQ below (va_Qi (fun r (_ : (Nat → Int32) × (Nat → Int32)) => r = tgt) (fun u t => va_P D vwCl ((fun (u8 : (Nat → Int32) × (Nat → Int32)) => wX cI cZ a x u8.1 u8.2) u) t.heap) A) args s 0 0 A) (F0 m 302 ls [.int (b2i zs0)]) := by
    intro z11 n10 n9 zs0 ls r1 r2 H locs hP hD hS hi_302_0 hi_302_1 hi_302_2 hi_302_3 hl hE
    rw [p_X5_resolved_302] at hE
    refine lv_iload hx hb dX5_resolved_302 (lv_at hl 0 rfl) ?_
    refine lv_icmp_eq (tgt := 317) hx hb dX5_resolved_304 (by decide) (fun c_304 => ?_) (fun c_304 => ?_)
    · skip
      have hE := (if_pos c_304).symm.trans hE
      refine lv_iload_n hx hb dX5_resolved_317 rfl (lv_at hl 5 rfl) ?_
      refine lv_iconst (v := (1 : Int32)) hx hb dX5_resolved_318 (by decide) ?_
      refine lv_icmp_eq (tgt := 327) hx hb dX5_resolved_319 (by decide) (fun c_319 => ?_) (fun c_319 => ?_)
      · have c_319 : (Φ t 0) = 1 := (nI_eq (a := (Φ t 0)) (b := 1) (by omega) (by omega)).mp c_319
        have hE := (if_pos c_319).symm.trans hE
        exact key_327 n10 n9 ls _ _ _ _ hP hD hS (by first | omega | assumption | exact find_om1 _ _ _ hn30 _ _ wx (by omega) (by assumption) | exact om1_av hn30) (by first | omega | assumption | exact find_om1 _ _ _ hn30 _ _ wx (by omega) (by assumption) | exact om1_av hn30) (by first | omega | assumption | exact find_om1 _ _ _ hn30 _ _ wx (by omega) (by assumption) | exact om1_av hn30) (by first | omega | assumption | exact find_om1 _ _ _ hn30 _ _ wx (by omega) (by assumption) | exact om1_av hn30) (lv_sub hl [1, 2, 3, 4, 5, 6, 7] rfl) hE
      · have c_319 : ¬ ((Φ t 0) = 1) := fun q9 => c_319 ((nI_eq (a := (Φ t 0)) (b := 1) (by omega) (by omega)).mpr q9)
        have hE := (if_neg c_319).symm.trans hE
        refine lv_iload_n hx hb dX5_resolved_322 rfl (lv_at hl 5 rfl) ?_
        refine lv_iconst (v := (3 : Int32)) hx hb dX5_resolved_323 (by decide) ?_
        refine lv_icmp_ne (tgt := 361) hx hb dX5_resolved_324 (by decide) (fun c_324 => ?_) (fun c_324 => ?_)
        · have c_324 : ¬ ((Φ t 0) = 3) := fun q9 => c_324 ((nI_eq (a := (Φ t 0)) (b := 3) (by omega) (by omega)).mpr q9)
          have hE := (if_neg c_324).symm.trans hE
          exact key_361 n10 n9 ls _ _ _ _ hP hD hS (by first | omega | assumption | exact find_om1 _ _ _ hn30 _ _ wx (by omega) (by assumption) | exact om1_av hn30) (by first | omega | assumption | exact find_om1 _ _ _ hn30 _ _ wx (by omega) (by assumption) | exact om1_av hn30) (by first | omega | assumption | exact find_om1 _ _ _ hn30 _ _ wx (by omega) (by assumption) | exact om1_av hn30) (by first | omega | assumption | exact find_om1 _ _ _ hn30 _ _ wx (by omega) (by assumption) | exact om1_av hn30) (lv_sub hl [1, 2, 3, 4, 5, 6, 7] rfl) hE
        · have c_324 : (Φ t 0) = 3 := (nI_eq (a := (Φ t 0)) (b := 3) (by omega) (by omega)).mp c_324
          have hE := (if_pos c_324).symm.trans hE
          exact key_327 n10 n9 ls _ _ _ _ hP hD hS (by first | omega | assumption | exact find_om1 _ _ _ hn30 _ _ wx (by omega) (by assumption) | exact om1_av hn30) (by first | omega | assumption | exact find_om1 _ _ _ hn30 _ _ wx (by omega) (by assumption) | exact om1_av hn30) (by first | omega | assumption | exact find_om1 _ _ _ hn30 _ _ wx (by omega) (by assumption) | exact om1_av hn30) (by first | omega | assumption | exact find_om1 _ _ _ hn30 _ _ wx (by omega) (by assumption) | exact om1_av hn30) (lv_sub hl [1, 2, 3, 4, 5, 6, 7] rfl) hE
    · skip
      have hE := (if_neg c_304).symm.trans hE
      refine lv_iconst (v := (3 : Int32)) hx hb dX5_resolved_307 (by decide) ?_
      refine lv_bipush (v := (16 : Int32)) hx hb dX5_resolved_308 (by decide) ?_
      refine lv_iload hx hb dX5_resolved_310 (lv_at hl 2 rfl) ?_
      refine lv_iadd hx hb dX5_resolved_312 ?_
      refine top_eq (nI_add 16 n9) ?_
      refine ro_S [.int (3 : Int32), .int (nI (16 + n9))] [] ⟨hx, hb, hml, hown, hts⟩ (c_X5_verdict l D cI cZ cB cR 3 (16 + n9) (by omega) (by omega)) (va_cwS 2 hts (goodP (ps := [.methodLink RX5 97 yX5_verdict, .static yX5_verdict, .initialized RX5]) (all3 mw_3_198 mw_3_199 mw_1_6) mw_3_200) rfl rfl rfl (by decide +kernel) ⟨Nat.le_of_ble_eq_true rfl, Nat.le_of_ble_eq_true rfl⟩) hEV va_P0 rfl hl.1 rfl (Nat.le_of_ble_eq_true rfl) dX5_resolved_313 ⟨Nat.zero_le _, Nat.zero_le _⟩ ?_
      exact W.iret hx hb hr (fun t9 ht9 _ => ⟨⟨_, (r1, r2), rfl, hE, by show va_P D vwCl _ t9.heap; rw [ht9]; exact hP⟩, hS.F ht9⟩) hS.2.2 dX5_resolved_316
  have key_283 : ∀ (n10 : Nat) (n9 : Nat) (zs0 : Bool) (ls : Array Slot) (r1 : Nat → Int32) (r2 : Nat → Int32) (H : Heap) (locs : List Loc) (hP : va_P D vwCl (wX cI cZ a x r1 r2) H) (hD : va_D A (wX cI cZ a x r1 r2)) (hS : va_S A s.heap H locs), Gd (vwX x w) (Φ t 1) → Gd (vwX x w) (Φ t 2) → n9 < nf w → n10 = 30 * w + n9 → lv_has ls 12 [(10, .int (nI n10)), (9, .int (nI n9)), (5, .int (nI (Φ t 2))), (4, .int (nI (Φ t 1))), (3, .int (nI (Φ t 0))), (0, .ref (a 0)), (1, .int (nI w))] → p_X5_resolved_283 x nf R Φ w t n10 n9 zs0 = tgt → W p l e (headSpec wsX5_resolved ({ frames := 5, cells := 0, slots := 0, locals := 130 } : Room)).room s m args below meth c H locs 0 0 (MQ below (va_Qi (fun r (_ : (Nat → Int32) × (Nat → Int32)) => r = tgt) (fun u t => va_P D vwCl ((fun (u8 : (Nat → Int32) × (Nat → Int32)) => wX cI cZ a x u8.1 u8.2) u) t.heap) A) args s 0 0 A) (F0 m 283 ls [.int (b2i zs0)]) := by
    intro n10 n9 zs0 ls r1 r2 H locs hP hD hS hi_283_0 hi_283_1 hi_283_2 hi_283_3 hl hE
    rw [p_X5_resolved_283] at hE
    refine lv_istore (lv' := [(11, .int (b2i zs0)), (10, .int (nI n10)), (9, .int (nI n9)), (5, .int (nI (Φ t 2))), (4, .int (nI (Φ t 1))), (3, .int (nI (Φ t 0))), (0, .ref (a 0)), (1, .int (nI w))]) hx hb dX5_resolved_283 hl (by decide) rfl (fun ls hl => ?_)
    refine lv_aload_n hx hb dX5_resolved_285 rfl (lv_at hl 6 rfl) ?_
    refine va_get (D := D) (ci := 5) (v := .ref (a 13)) (C := RX5) (T := TX5) (N := 21) hx hb hts (fun w9 h9 => List.mem_cons_of_mem _ (inT_X5 w9 h9)) hown hK hP 0 rfl rfl 12 (by decide) (hts (.fieldLink RX5 47 "LinkPredictorModel" "marks" "[I") (List.mem_cons_of_mem _ mw_3_78)) (fun _ h9 => h9) rfl dX5_resolved_286 ?_
    refine lv_iload hx hb dX5_resolved_289 (lv_at hl 1 rfl) ?_
    refine ro_ald hx hb hEV hP 13 (j := n10) rfl (by omega) (by decide) dX5_resolved_291 ?_
    refine lv_iconst (v := (1 : Int32)) hx hb dX5_resolved_292 (by decide) ?_
    refine lv_iand hx hb dX5_resolved_293 ?_
    refine lv_if_eq (tgt := 301) hx hb dX5_resolved_294 (by decide) (fun c_294 => ?_) (fun c_294 => ?_)
    · skip
      have hE := (if_pos c_294).symm.trans hE
      refine lv_iconst (v := (0 : Int32)) hx hb dX5_resolved_301 (by decide) ?_
      exact key_302 zs0 n10 n9 false ls _ _ _ _ hP hD hS (by first | omega | assumption | exact find_om1 _ _ _ hn30 _ _ wx (by omega) (by assumption) | exact om1_av hn30) (by first | omega | assumption | exact find_om1 _ _ _ hn30 _ _ wx (by omega) (by assumption) | exact om1_av hn30) (by first | omega | assumption | exact find_om1 _ _ _ hn30 _ _ wx (by omega) (by assumption) | exact om1_av hn30) (by first | omega | assumption | exact find_om1 _ _ _ hn30 _ _ wx (by omega) (by assumption) | exact om1_av hn30) (lv_sub hl [0, 1, 2, 3, 4, 5, 6, 7] rfl) hE
    · skip
      have hE := (if_neg c_294).symm.trans hE
      refine lv_iconst (v := (1 : Int32)) hx hb dX5_resolved_297 (by decide) ?_
      refine lv_goto (tgt := 302) hx hb dX5_resolved_298 (by decide) ?_
      exact key_302 zs0 n10 n9 true ls _ _ _ _ hP hD hS (by first | omega | assumption | exact find_om1 _ _ _ hn30 _ _ wx (by omega) (by assumption) | exact om1_av hn30) (by first | omega | assumption | exact find_om1 _ _ _ hn30 _ _ wx (by omega) (by assumption) | exact om1_av hn30) (by first | omega | assumption | exact find_om1 _ _ _ hn30 _ _ wx (by omega) (by assumption) | exact om1_av hn30) (by first | omega | assumption | exact find_om1 _ _ _ hn30 _ _ wx (by omega) (by assumption) | exact om1_av hn30) (lv_sub hl [0, 1, 2, 3, 4, 5, 6, 7] rfl) hE
  have key_205 : ∀ (vs0 : Int32) (ls : Array Slot) (r1 : Nat → Int32) (r2 : Nat → Int32) (H : Heap) (locs : List Loc) (hP : va_P D vwCl (wX cI cZ a x r1 r2) H) (hD : va_D A (wX cI cZ a x r1 r2)) (hS : va_S A s.heap H locs), Gd (vwX x w) (Φ t 1) → Gd (vwX x w) (Φ t 2) → om1 (nf w) vs0 → lv_has ls 12 [(5, .int (nI (Φ t 2))), (4, .int (nI (Φ t 1))), (3, .int (nI (Φ t 0))), (0, .ref (a 0)), (1, .int (nI w))] → p_X5_resolved_205 x nf R Φ w t vs0 = tgt → W p l e (headSpec wsX5_resolved ({ frames := 5, cells := 0, slots := 0, locals := 130 } : Room)).room s m args below meth c H locs 0 0 (MQ below (va_Qi (fun r (_ : (Nat → Int32) × (Nat → Int32)) => r = tgt) (fun u t => va_P D vwCl ((fun (u8 : (Nat → Int32) × (Nat → Int32)) => wX cI cZ a x u8.1 u8.2) u) t.heap) A) args s 0 0 A) (F0 m 205 ls [.int vs0]) := by
    intro vs0 ls r1 r2 H locs hP hD hS hi_205_0 hi_205_1 hi_205_2 hl hE
    rw [p_X5_resolved_205] at hE
    refine lv_istore (lv' := [(9, .int vs0), (5, .int (nI (Φ t 2))), (4, .int (nI (Φ t 1))), (3, .int (nI (Φ t 0))), (0, .ref (a 0)), (1, .int (nI w))]) hx hb dX5_resolved_205 hl (by decide) rfl (fun ls hl => ?_)
    refine lv_iload hx hb dX5_resolved_207 (lv_at hl 0 rfl) ?_
    refine lv_if_ge (tgt := 229) hx hb dX5_resolved_209 (by decide) (fun c_209 => ?_) (fun c_209 => ?_)
    · skip
      have hE := (if_pos c_209).symm.trans hE
      replace hl : lv_has ls 12 [(9, .int (nI (sN vs0))), (5, .int (nI (Φ t 2))), (4, .int (nI (Φ t 1))), (3, .int (nI (Φ t 0))), (0, .ref (a 0)), (1, .int (nI w))] := by rw [← (hi_205_2.nn c_209).2]; exact hl
      have hm9 : sN vs0 < nf w := (hi_205_2.nn c_209).1
      refine lv_bipush (v := (30 : Int32)) hx hb dX5_resolved_229 (by decide) ?_
      refine lv_iload_n hx hb dX5_resolved_231 rfl (lv_at hl 5 rfl) ?_
      refine lv_imul hx hb dX5_resolved_232 ?_
      refine top_eq (pk_mul 30 w) ?_
      refine lv_iload hx hb dX5_resolved_233 (lv_at hl 0 rfl) ?_
      refine lv_iadd hx hb dX5_resolved_235 ?_
      refine top_eq (nI_add (30 * w) (sN vs0)) ?_
      refine lv_istore (lv' := [(10, .int (nI ((30 * w) + (sN vs0)))), (9, .int (nI (sN vs0))), (5, .int (nI (Φ t 2))), (4, .int (nI (Φ t 1))), (3, .int (nI (Φ t 0))), (0, .ref (a 0)), (1, .int (nI w))]) hx hb dX5_resolved_236 hl (by decide) rfl (fun ls hl => ?_)
      refine lv_aload_n hx hb dX5_resolved_238 rfl (lv_at hl 5 rfl) ?_
      refine lv_iload_n hx hb dX5_resolved_239 rfl (lv_at hl 6 rfl) ?_
      refine lv_iload hx hb dX5_resolved_240 (lv_at hl 1 rfl) ?_
      refine lv_iload hx hb dX5_resolved_242 (lv_at hl 2 rfl) ?_
      refine lv_iload hx hb dX5_resolved_244 (lv_at hl 3 rfl) ?_
      refine ro_V [.int (nI w), .int (nI (sN vs0)), .int (nI (Φ t 2)), .int (nI (Φ t 1))] [] ⟨hx, hb, hml, hown, hts⟩ (c_X5_isOpen l D cI cZ cB cR a x r1 r2 w (nf w) (sN vs0) (Φ t 2) (Φ t 1) (by omega) (hX w (by omega)) (by omega) (by omega) (by omega) (by assumption) (by assumption)) (cwV (C := RX5) 4 hts (goodP (ps := [.methodLink RX5 139 yX5_isOpen, .instanceMethod yX5_isOpen, .selects RX5 yX5_isOpen yX5_isOpen, .initialized RX5]) (all4 mw_4_16 mw_4_18 ms_42 mw_1_6) mw_4_19) rfl rfl rfl (by decide +kernel) ⟨Nat.le_of_ble_eq_true rfl, Nat.le_of_ble_eq_true rfl⟩) hEV hP 0 rfl rfl rfl hl.1 rfl (Nat.le_of_ble_eq_true rfl) dX5_resolved_246 ⟨Nat.zero_le _, Nat.zero_le _⟩ ?_
      refine lv_if_ne (tgt := 262) hx hb dX5_resolved_249 (by decide) (fun c_249 => ?_) (fun c_249 => ?_)
      · skip
        have hE := (if_neg c_249).symm.trans hE
        refine lv_iload_n hx hb dX5_resolved_262 rfl (lv_at hl 4 rfl) ?_
        refine lv_iconst (v := (2 : Int32)) hx hb dX5_resolved_263 (by decide) ?_
        refine lv_icmp_eq (tgt := 278) hx hb dX5_resolved_264 (by decide) (fun c_264 => ?_) (fun c_264 => ?_)
        · have c_264 : (Φ t 0) = 2 := (nI_eq (a := (Φ t 0)) (b := 2) (by omega) (by omega)).mp c_264
          have hE := (if_pos c_264).symm.trans hE
          refine lv_iconst (v := (1 : Int32)) hx hb dX5_resolved_278 (by decide) ?_
          refine lv_goto (tgt := 283) hx hb dX5_resolved_279 (by decide) ?_
          exact key_283 ((30 * w) + (sN vs0)) (sN vs0) true ls _ _ _ _ hP hD hS (by first | omega | assumption | exact find_om1 _ _ _ hn30 _ _ wx (by omega) (by assumption) | exact om1_av hn30) (by first | omega | assumption | exact find_om1 _ _ _ hn30 _ _ wx (by omega) (by assumption) | exact om1_av hn30) (by first | omega | assumption | exact find_om1 _ _ _ hn30 _ _ wx (by omega) (by assumption) | exact om1_av hn30) (by first | omega | assumption | exact find_om1 _ _ _ hn30 _ _ wx (by omega) (by assumption) | exact om1_av hn30) (lv_sub hl [0, 1, 2, 3, 4, 5, 6] rfl) hE
        · have c_264 : ¬ ((Φ t 0) = 2) := fun q9 => c_264 ((nI_eq (a := (Φ t 0)) (b := 2) (by omega) (by omega)).mpr q9)
          have hE := (if_neg c_264).symm.trans hE
          refine lv_iload_n hx hb dX5_resolved_267 rfl (lv_at hl 4 rfl) ?_
          refine lv_iconst (v := (3 : Int32)) hx hb dX5_resolved_268 (by decide) ?_
          refine lv_icmp_eq (tgt := 278) hx hb dX5_resolved_269 (by decide) (fun c_269 => ?_) (fun c_269 => ?_)
          · have c_269 : (Φ t 0) = 3 := (nI_eq (a := (Φ t 0)) (b := 3) (by omega) (by omega)).mp c_269
            have hE := (if_pos c_269).symm.trans hE
            refine lv_iconst (v := (1 : Int32)) hx hb dX5_resolved_278 (by decide) ?_
            refine lv_goto (tgt := 283) hx hb dX5_resolved_279 (by decide) ?_
            exact key_283 ((30 * w) + (sN vs0)) (sN vs0) true ls _ _ _ _ hP hD hS (by first | omega | assumption | exact find_om1 _ _ _ hn30 _ _ wx (by omega) (by assumption) | exact om1_av hn30) (by first | omega | assumption | exact find_om1 _ _ _ hn30 _ _ wx (by omega) (by assumption) | exact om1_av hn30) (by first | omega | assumption | exact find_om1 _ _ _ hn30 _ _ wx (by omega) (by assumption) | exact om1_av hn30) (by first | omega | assumption | exact find_om1 _ _ _ hn30 _ _ wx (by omega) (by assumption) | exact om1_av hn30) (lv_sub hl [0, 1, 2, 3, 4, 5, 6] rfl) hE
          · have c_269 : ¬ ((Φ t 0) = 3) := fun q9 => c_269 ((nI_eq (a := (Φ t 0)) (b := 3) (by omega) (by omega)).mpr q9)
            have hE := (if_neg c_269).symm.trans hE
            refine lv_iload_n hx hb dX5_resolved_272 rfl (lv_at hl 4 rfl) ?_
            refine lv_bipush (v := (6 : Int32)) hx hb dX5_resolved_273 (by decide) ?_
            refine lv_icmp_ne (tgt := 282) hx hb dX5_resolved_275 (by decide) (fun c_275 => ?_) (fun c_275 => ?_)
            · have c_275 : ¬ ((Φ t 0) = 6) := fun q9 => c_275 ((nI_eq (a := (Φ t 0)) (b := 6) (by omega) (by omega)).mpr q9)
              have hE := (if_neg c_275).symm.trans hE
              refine lv_iconst (v := (0 : Int32)) hx hb dX5_resolved_282 (by decide) ?_
              exact key_283 ((30 * w) + (sN vs0)) (sN vs0) false ls _ _ _ _ hP hD hS (by first | omega | assumption | exact find_om1 _ _ _ hn30 _ _ wx (by omega) (by assumption) | exact om1_av hn30) (by first | omega | assumption | exact find_om1 _ _ _ hn30 _ _ wx (by omega) (by assumption) | exact om1_av hn30) (by first | omega | assumption | exact find_om1 _ _ _ hn30 _ _ wx (by omega) (by assumption) | exact om1_av hn30) (by first | omega | assumption | exact find_om1 _ _ _ hn30 _ _ wx (by omega) (by assumption) | exact om1_av hn30) (lv_sub hl [0, 1, 2, 3, 4, 5, 6] rfl) hE
            · have c_275 : (Φ t 0) = 6 := (nI_eq (a := (Φ t 0)) (b := 6) (by omega) (by omega)).mp c_275
              have hE := (if_pos c_275).symm.trans hE
              refine lv_iconst (v := (1 : Int32)) hx hb dX5_resolved_278 (by decide) ?_
              refine lv_goto (tgt := 283) hx hb dX5_resolved_279 (by decide) ?_
              exact key_283 ((30 * w) + (sN vs0)) (sN vs0) true ls _ _ _ _ hP hD hS (by first | omega | assumption | exact find_om1 _ _ _ hn30 _ _ wx (by omega) (by assumption) | exact om1_av hn30) (by first | omega | assumption | exact find_om1 _ _ _ hn30 _ _ wx (by omega) (by assumption) | exact om1_av hn30) (by first | omega | assumption | exact find_om1 _ _ _ hn30 _ _ wx (by omega) (by assumption) | exact om1_av hn30) (by first | omega | assumption | exact find_om1 _ _ _ hn30 _ _ wx (by omega) (by assumption) | exact om1_av hn30) (lv_sub hl [0, 1, 2, 3, 4, 5, 6] rfl) hE
      · skip
        have hE := (if_pos c_249).symm.trans hE
        refine lv_iconst (v := (4 : Int32)) hx hb dX5_resolved_252 (by decide) ?_
        refine lv_bipush (v := (16 : Int32)) hx hb dX5_resolved_253 (by decide) ?_
        refine lv_iload hx hb dX5_resolved_255 (lv_at hl 1 rfl) ?_
        refine lv_iadd hx hb dX5_resolved_257 ?_
        refine top_eq (nI_add 16 (sN vs0)) ?_
        refine ro_S [.int (4 : Int32), .int (nI (16 + (sN vs0)))] [] ⟨hx, hb, hml, hown, hts⟩ (c_X5_verdict l D cI cZ cB cR 4 (16 + (sN vs0)) (by omega) (by omega)) (va_cwS 2 hts (goodP (ps := [.methodLink RX5 97 yX5_verdict, .static yX5_verdict, .initialized RX5]) (all3 mw_3_198 mw_3_199 mw_1_6) mw_3_200) rfl rfl rfl (by decide +kernel) ⟨Nat.le_of_ble_eq_true rfl, Nat.le_of_ble_eq_true rfl⟩) hEV va_P0 rfl hl.1 rfl (Nat.le_of_ble_eq_true rfl) dX5_resolved_258 ⟨Nat.zero_le _, Nat.zero_le _⟩ ?_
        exact W.iret hx hb hr (fun t9 ht9 _ => ⟨⟨_, (r1, r2), rfl, hE, by show va_P D vwCl _ t9.heap; rw [ht9]; exact hP⟩, hS.F ht9⟩) hS.2.2 dX5_resolved_261
    · skip
      have hE := (if_neg c_209).symm.trans hE
      refine lv_iload_n hx hb dX5_resolved_212 rfl (lv_at hl 3 rfl) ?_
      refine lv_iconst (v := (4 : Int32)) hx hb dX5_resolved_213 (by decide) ?_
      refine lv_icmp_ge (tgt := 221) hx hb dX5_resolved_214 (by decide) (fun c_214 => ?_) (fun c_214 => ?_)
      · have c_214 : 4 ≤ (Φ t 0) := (nI_leI (a := 4) (b := (Φ t 0)) (by omega) (by omega)).mp c_214
        have hE := (if_pos c_214).symm.trans hE
        refine lv_bipush (v := (6 : Int32)) hx hb dX5_resolved_221 (by decide) ?_
        refine lv_iload hx hb dX5_resolved_223 (lv_at hl 1 rfl) ?_
        refine ro_S [.int (6 : Int32), .int (nI (Φ t 2))] [] ⟨hx, hb, hml, hown, hts⟩ (c_X5_verdict l D cI cZ cB cR 6 (Φ t 2) (by omega) (by omega)) (va_cwS 2 hts (goodP (ps := [.methodLink RX5 97 yX5_verdict, .static yX5_verdict, .initialized RX5]) (all3 mw_3_198 mw_3_199 mw_1_6) mw_3_200) rfl rfl rfl (by decide +kernel) ⟨Nat.le_of_ble_eq_true rfl, Nat.le_of_ble_eq_true rfl⟩) hEV va_P0 rfl hl.1 rfl (Nat.le_of_ble_eq_true rfl) dX5_resolved_225 ⟨Nat.zero_le _, Nat.zero_le _⟩ ?_
        exact W.iret hx hb hr (fun t9 ht9 _ => ⟨⟨_, (r1, r2), rfl, hE, by show va_P D vwCl _ t9.heap; rw [ht9]; exact hP⟩, hS.F ht9⟩) hS.2.2 dX5_resolved_228
      · have c_214 : ¬ (4 ≤ (Φ t 0)) := fun q9 => c_214 ((nI_leI (a := 4) (b := (Φ t 0)) (by omega) (by omega)).mpr q9)
        have hE := (if_neg c_214).symm.trans hE
        refine lv_iconst (v := (5 : Int32)) hx hb dX5_resolved_217 (by decide) ?_
        refine lv_goto (tgt := 223) hx hb dX5_resolved_218 (by decide) ?_
        refine lv_iload hx hb dX5_resolved_223 (lv_at hl 1 rfl) ?_
        refine ro_S [.int (5 : Int32), .int (nI (Φ t 2))] [] ⟨hx, hb, hml, hown, hts⟩ (c_X5_verdict l D cI cZ cB cR 5 (Φ t 2) (by omega) (by omega)) (va_cwS 2 hts (goodP (ps := [.methodLink RX5 97 yX5_verdict, .static yX5_verdict, .initialized RX5]) (all3 mw_3_198 mw_3_199 mw_1_6) mw_3_200) rfl rfl rfl (by decide +kernel) ⟨Nat.le_of_ble_eq_true rfl, Nat.le_of_ble_eq_true rfl⟩) hEV va_P0 rfl hl.1 rfl (Nat.le_of_ble_eq_true rfl) dX5_resolved_225 ⟨Nat.zero_le _, Nat.zero_le _⟩ ?_
        exact W.iret hx hb hr (fun t9 ht9 _ => ⟨⟨_, (r1, r2), rfl, hE, by show va_P D vwCl _ t9.heap; rw [ht9]; exact hP⟩, hS.F ht9⟩) hS.2.2 dX5_resolved_228
  have key_171 : ∀ (ls : Array Slot) (r1 : Nat → Int32) (r2 : Nat → Int32) (H : Heap) (locs : List Loc) (hP : va_P D vwCl (wX cI cZ a x r1 r2) H) (hD : va_D A (wX cI cZ a x r1 r2)) (hS : va_S A s.heap H locs), Gd (vwX x w) (Φ t 1) → Gd (vwX x w) (Φ t 2) → lv_has ls 12 [(5, .int (nI (Φ t 2))), (4, .int (nI (Φ t 1))), (3, .int (nI (Φ t 0))), (0, .ref (a 0)), (1, .int (nI w)), (2, .int (nI t))] → p_X5_resolved_171 x nf R Φ w t  = tgt → W p l e (headSpec wsX5_resolved ({ frames := 5, cells := 0, slots := 0, locals := 130 } : Room)).room s m args below meth c H locs 0 0 (MQ below (va_Qi (fun r (_ : (Nat → Int32) × (Nat → Int32)) => r = tgt) (fun u t => va_P D vwCl ((fun (u8 : (Nat → Int32) × (Nat → Int32)) => wX cI cZ a x u8.1 u8.2) u) t.heap) A) args s 0 0 A) (F0 m 171 ls []) := by
    intro  ls r1 r2 H locs hP hD hS hi_171_0 hi_171_1 hl hE
    rw [p_X5_resolved_171] at hE
    refine lv_iload_n hx hb dX5_resolved_171 rfl (lv_at hl 2 rfl) ?_
    refine lv_iconst (v := (4 : Int32)) hx hb dX5_resolved_172 (by decide) ?_
    refine lv_icmp_ge (tgt := 192) hx hb dX5_resolved_173 (by decide) (fun c_173 => ?_) (fun c_173 => ?_)
    · have c_173 : 4 ≤ (Φ t 0) := (nI_leI (a := 4) (b := (Φ t 0)) (by omega) (by omega)).mp c_173
      have hE := (if_pos c_173).symm.trans hE
      refine lv_aload_n hx hb dX5_resolved_192 rfl (lv_at hl 3 rfl) ?_
      refine lv_iload_n hx hb dX5_resolved_193 rfl (lv_at hl 4 rfl) ?_
      refine lv_iload hx hb dX5_resolved_194 (lv_at hl 0 rfl) ?_
      refine lv_aload_n hx hb dX5_resolved_196 rfl (lv_at hl 3 rfl) ?_
      refine va_get (D := D) (ci := 5) (v := .ref (a 17)) (C := RX5) (T := TX5) (N := 21) hx hb hts (fun w9 h9 => List.mem_cons_of_mem _ (inT_X5 w9 h9)) hown hK hP 0 rfl rfl 16 (by decide) (hts (.fieldLink RX5 59 "LinkPredictorModel" "asked" "[I") (List.mem_cons_of_mem _ mw_3_82)) (fun _ h9 => h9) rfl dX5_resolved_197 ?_
      refine lv_iload_n hx hb dX5_resolved_200 rfl (lv_at hl 5 rfl) ?_
      refine ro_ald hx hb hEV hP 17 (j := t) rfl (by omega) (by decide) dX5_resolved_201 ?_
      refine top_eq ((wr.2.2 t hnt).2.2.2.2) ?_
      refine ro_V [.int (nI w), .int (nI (Φ t 2)), .int (nI (Φ t 3))] [] ⟨hx, hb, hml, hown, hts⟩ (c_X5_find l D cI cZ cB cR a x r1 r2 w (nf w) (Φ t 2) (Φ t 3) (by omega) (hX w (by omega)) (by omega) (by omega) (by assumption)) (cwV (C := RX5) 3 hts (goodP (ps := [.methodLink RX5 136 yX5_find, .instanceMethod yX5_find, .selects RX5 yX5_find yX5_find, .initialized RX5]) (all4 mw_3_228 mw_3_230 ms_35 mw_1_6) mw_3_231) rfl rfl rfl (by decide +kernel) ⟨Nat.le_of_ble_eq_true rfl, Nat.le_of_ble_eq_true rfl⟩) hEV hP 0 rfl rfl rfl hl.1 rfl (Nat.le_of_ble_eq_true rfl) dX5_resolved_202 ⟨Nat.zero_le _, Nat.zero_le _⟩ ?_
      exact key_205 (p_X5_find x w (nf w) (Φ t 2) (Φ t 3)) ls _ _ _ _ hP hD hS (by first | omega | assumption | exact find_om1 _ _ _ hn30 _ _ wx (by omega) (by assumption) | exact om1_av hn30) (by first | omega | assumption | exact find_om1 _ _ _ hn30 _ _ wx (by omega) (by assumption) | exact om1_av hn30) (by first | omega | assumption | exact find_om1 _ _ _ hn30 _ _ wx (by omega) (by assumption) | exact om1_av hn30) (lv_sub hl [0, 1, 2, 3, 4] rfl) hE
    · have c_173 : ¬ (4 ≤ (Φ t 0)) := fun q9 => c_173 ((nI_leI (a := 4) (b := (Φ t 0)) (by omega) (by omega)).mpr q9)
      have hE := (if_neg c_173).symm.trans hE
      refine lv_aload_n hx hb dX5_resolved_176 rfl (lv_at hl 3 rfl) ?_
      refine lv_iload_n hx hb dX5_resolved_177 rfl (lv_at hl 4 rfl) ?_
      refine lv_iload hx hb dX5_resolved_178 (lv_at hl 0 rfl) ?_
      refine lv_aload_n hx hb dX5_resolved_180 rfl (lv_at hl 3 rfl) ?_
      refine va_get (D := D) (ci := 5) (v := .ref (a 17)) (C := RX5) (T := TX5) (N := 21) hx hb hts (fun w9 h9 => List.mem_cons_of_mem _ (inT_X5 w9 h9)) hown hK hP 0 rfl rfl 16 (by decide) (hts (.fieldLink RX5 59 "LinkPredictorModel" "asked" "[I") (List.mem_cons_of_mem _ mw_3_82)) (fun _ h9 => h9) rfl dX5_resolved_181 ?_
      refine lv_iload_n hx hb dX5_resolved_184 rfl (lv_at hl 5 rfl) ?_
      refine ro_ald hx hb hEV hP 17 (j := t) rfl (by omega) (by decide) dX5_resolved_185 ?_
      refine top_eq ((wr.2.2 t hnt).2.2.2.2) ?_
      refine mu_V [.int (nI w), .int (nI (Φ t 2)), .int (nI (Φ t 3))] [] ⟨hx, hb, hml, hown, hts⟩ (c_X5_fieldR l D cI cZ cB cR a x r1 r2 w (nf w) (Φ t 2) (Φ t 3) (by omega) (hX w (by omega)) (by omega) (by omega) (by assumption)) (cwV (C := RX5) 3 hts (goodP (ps := [.methodLink RX5 133 yX5_field, .instanceMethod yX5_field, .selects RX5 yX5_field yX5_field, .initialized RX5]) (all4 mw_3_220 mw_3_222 ms_33 mw_1_6) mw_3_223) rfl rfl rfl (by decide +kernel) ⟨Nat.le_of_ble_eq_true rfl, Nat.le_of_ble_eq_true rfl⟩) hEV hP hD hS hA 0 rfl rfl rfl hl.1 rfl (Nat.le_of_ble_eq_true rfl) dX5_resolved_186 ⟨Nat.zero_le _, Nat.zero_le _⟩ (fun r9 u9 H1 locs hw hP1 hk1 hS => ?_)
      subst hw
      obtain ⟨r1, r2⟩ := u9
      dsimp only at hP1
      have hP : va_P D vwCl (wX cI cZ a x r1 r2) H1 := hP1
      have hD : va_D A (wX cI cZ a x r1 r2) := hD.adr rfl
      generalize H1 = H at hP hS ⊢
      refine lv_goto (tgt := 205) hx hb dX5_resolved_189 (by decide) ?_
      exact key_205 (av (nf w) (FR (vwX x w) (vmX x w) (nf w) (kyF false (nI (Φ t 3))) (Φ t 2))) ls _ _ _ _ hP hD hS (by first | omega | assumption | exact find_om1 _ _ _ hn30 _ _ wx (by omega) (by assumption) | exact om1_av hn30) (by first | omega | assumption | exact find_om1 _ _ _ hn30 _ _ wx (by omega) (by assumption) | exact om1_av hn30) (by first | omega | assumption | exact find_om1 _ _ _ hn30 _ _ wx (by omega) (by assumption) | exact om1_av hn30) (lv_sub hl [0, 1, 2, 3, 4] rfl) hE
  have key_153 : ∀ (v8 : Int32) (ls : Array Slot) (r1 : Nat → Int32) (r2 : Nat → Int32) (H : Heap) (locs : List Loc) (hP : va_P D vwCl (wX cI cZ a x r1 r2) H) (hD : va_D A (wX cI cZ a x r1 r2)) (hS : va_S A s.heap H locs), Gd (vwX x w) (Φ t 1) → Gd (vwX x w) (Φ t 2) → lv_has ls 12 [(8, .int v8), (5, .int (nI (Φ t 2))), (4, .int (nI (Φ t 1))), (3, .int (nI (Φ t 0))), (0, .ref (a 0)), (1, .int (nI w)), (2, .int (nI t))] → p_X5_resolved_153 x nf R Φ w t v8 = tgt → W p l e (headSpec wsX5_resolved ({ frames := 5, cells := 0, slots := 0, locals := 130 } : Room)).room s m args below meth c H locs 0 0 (MQ below (va_Qi (fun r (_ : (Nat → Int32) × (Nat → Int32)) => r = tgt) (fun u t => va_P D vwCl ((fun (u8 : (Nat → Int32) × (Nat → Int32)) => wX cI cZ a x u8.1 u8.2) u) t.heap) A) args s 0 0 A) (F0 m 153 ls []) := by
    intro v8 ls r1 r2 H locs hP hD hS hi_153_0 hi_153_1 hl hE
    rw [p_X5_resolved_153] at hE
    refine lv_iload_n hx hb dX5_resolved_153 rfl (lv_at hl 3 rfl) ?_
    refine lv_bipush (v := (7 : Int32)) hx hb dX5_resolved_154 (by decide) ?_
    refine lv_icmp_ne (tgt := 171) hx hb dX5_resolved_156 (by decide) (fun c_156 => ?_) (fun c_156 => ?_)
    · have c_156 : ¬ ((Φ t 0) = 7) := fun q9 => c_156 ((nI_eq (a := (Φ t 0)) (b := 7) (by omega) (by omega)).mpr q9)
      have hE := (if_neg c_156).symm.trans hE
      exact key_171  ls _ _ _ _ hP hD hS (by first | omega | assumption | exact find_om1 _ _ _ hn30 _ _ wx (by omega) (by assumption) | exact om1_av hn30) (by first | omega | assumption | exact find_om1 _ _ _ hn30 _ _ wx (by omega) (by assumption) | exact om1_av hn30) (lv_sub hl [1, 2, 3, 4, 5, 6] rfl) hE
    · have c_156 : (Φ t 0) = 7 := (nI_eq (a := (Φ t 0)) (b := 7) (by omega) (by omega)).mp c_156
      have hE := (if_pos c_156).symm.trans hE
      refine lv_iload hx hb dX5_resolved_159 (lv_at hl 0 rfl) ?_
      refine lv_if_ne (tgt := 171) hx hb dX5_resolved_161 (by decide) (fun c_161 => ?_) (fun c_161 => ?_)
      · skip
        have hE := (if_neg c_161).symm.trans hE
        exact key_171  ls _ _ _ _ hP hD hS (by first | omega | assumption | exact find_om1 _ _ _ hn30 _ _ wx (by omega) (by assumption) | exact om1_av hn30) (by first | omega | assumption | exact find_om1 _ _ _ hn30 _ _ wx (by omega) (by assumption) | exact om1_av hn30) (lv_sub hl [1, 2, 3, 4, 5, 6] rfl) hE
      · skip
        have hE := (if_pos c_161).symm.trans hE
        refine lv_iconst (v := (3 : Int32)) hx hb dX5_resolved_164 (by decide) ?_
        refine lv_iload hx hb dX5_resolved_165 (lv_at hl 1 rfl) ?_
        refine ro_S [.int (3 : Int32), .int (nI (Φ t 2))] [] ⟨hx, hb, hml, hown, hts⟩ (c_X5_verdict l D cI cZ cB cR 3 (Φ t 2) (by omega) (by omega)) (va_cwS 2 hts (goodP (ps := [.methodLink RX5 97 yX5_verdict, .static yX5_verdict, .initialized RX5]) (all3 mw_3_198 mw_3_199 mw_1_6) mw_3_200) rfl rfl rfl (by decide +kernel) ⟨Nat.le_of_ble_eq_true rfl, Nat.le_of_ble_eq_true rfl⟩) hEV va_P0 rfl hl.1 rfl (Nat.le_of_ble_eq_true rfl) dX5_resolved_167 ⟨Nat.zero_le _, Nat.zero_le _⟩ ?_
        exact W.iret hx hb hr (fun t9 ht9 _ => ⟨⟨_, (r1, r2), rfl, hE, by show va_P D vwCl _ t9.heap; rw [ht9]; exact hP⟩, hS.F ht9⟩) hS.2.2 dX5_resolved_170
  have key_141 : ∀ (zs0 : Bool) (ls : Array Slot) (r1 : Nat → Int32) (r2 : Nat → Int32) (H : Heap) (locs : List Loc) (hP : va_P D vwCl (wX cI cZ a x r1 r2) H) (hD : va_D A (wX cI cZ a x r1 r2)) (hS : va_S A s.heap H locs), Gd (vwX x w) (Φ t 1) → Gd (vwX x w) (Φ t 2) → lv_has ls 12 [(5, .int (nI (Φ t 2))), (4, .int (nI (Φ t 1))), (3, .int (nI (Φ t 0))), (0, .ref (a 0)), (1, .int (nI w)), (2, .int (nI t))] → p_X5_resolved_141 x nf R Φ w t zs0 = tgt → W p l e (headSpec wsX5_resolved ({ frames := 5, cells := 0, slots := 0, locals := 130 } : Room)).room s m args below meth c H locs 0 0 (MQ below (va_Qi (fun r (_ : (Nat → Int32) × (Nat → Int32)) => r = tgt) (fun u t => va_P D vwCl ((fun (u8 : (Nat → Int32) × (Nat → Int32)) => wX cI cZ a x u8.1 u8.2) u) t.heap) A) args s 0 0 A) (F0 m 141 ls [.int (b2i zs0)]) := by
    intro zs0 ls r1 r2 H locs hP hD hS hi_141_0 hi_141_1 hl hE
    rw [p_X5_resolved_141] at hE
    refine lv_istore (lv' := [(8, .int (b2i zs0)), (5, .int (nI (Φ t 2))), (4, .int (nI (Φ t 1))), (3, .int (nI (Φ t 0))), (0, .ref (a 0)), (1, .int (nI w)), (2, .int (nI t))]) hx hb dX5_resolved_141 hl (by decide) rfl (fun ls hl => ?_)
    refine lv_iload_n hx hb dX5_resolved_143 rfl (lv_at hl 3 rfl) ?_
    refine lv_iconst (v := (4 : Int32)) hx hb dX5_resolved_144 (by decide) ?_
    refine lv_icmp_ne (tgt := 153) hx hb dX5_resolved_145 (by decide) (fun c_145 => ?_) (fun c_145 => ?_)
    · have c_145 : ¬ ((Φ t 0) = 4) := fun q9 => c_145 ((nI_eq (a := (Φ t 0)) (b := 4) (by omega) (by omega)).mpr q9)
      have hE := (if_neg c_145).symm.trans hE
      exact key_153 (b2i zs0) ls _ _ _ _ hP hD hS (by first | omega | assumption | exact find_om1 _ _ _ hn30 _ _ wx (by omega) (by assumption) | exact om1_av hn30) (by first | omega | assumption | exact find_om1 _ _ _ hn30 _ _ wx (by omega) (by assumption) | exact om1_av hn30) (lv_sub hl [0, 1, 2, 3, 4, 5, 6] rfl) hE
    · have c_145 : (Φ t 0) = 4 := (nI_eq (a := (Φ t 0)) (b := 4) (by omega) (by omega)).mp c_145
      have hE := (if_pos c_145).symm.trans hE
      refine lv_iload hx hb dX5_resolved_148 (lv_at hl 0 rfl) ?_
      refine lv_if_ne (tgt := 164) hx hb dX5_resolved_150 (by decide) (fun c_150 => ?_) (fun c_150 => ?_)
      · have c_150 : zs0 = true := b2i_t c_150
        have hE := (if_pos c_150).symm.trans hE
        refine lv_iconst (v := (3 : Int32)) hx hb dX5_resolved_164 (by decide) ?_
        refine lv_iload hx hb dX5_resolved_165 (lv_at hl 1 rfl) ?_
        refine ro_S [.int (3 : Int32), .int (nI (Φ t 2))] [] ⟨hx, hb, hml, hown, hts⟩ (c_X5_verdict l D cI cZ cB cR 3 (Φ t 2) (by omega) (by omega)) (va_cwS 2 hts (goodP (ps := [.methodLink RX5 97 yX5_verdict, .static yX5_verdict, .initialized RX5]) (all3 mw_3_198 mw_3_199 mw_1_6) mw_3_200) rfl rfl rfl (by decide +kernel) ⟨Nat.le_of_ble_eq_true rfl, Nat.le_of_ble_eq_true rfl⟩) hEV va_P0 rfl hl.1 rfl (Nat.le_of_ble_eq_true rfl) dX5_resolved_167 ⟨Nat.zero_le _, Nat.zero_le _⟩ ?_
        exact W.iret hx hb hr (fun t9 ht9 _ => ⟨⟨_, (r1, r2), rfl, hE, by show va_P D vwCl _ t9.heap; rw [ht9]; exact hP⟩, hS.F ht9⟩) hS.2.2 dX5_resolved_170
      · have c_150 : ¬ (zs0 = true) := b2i_f c_150
        have hE := (if_neg c_150).symm.trans hE
        exact key_153 (b2i zs0) ls _ _ _ _ hP hD hS (by first | omega | assumption | exact find_om1 _ _ _ hn30 _ _ wx (by omega) (by assumption) | exact om1_av hn30) (by first | omega | assumption | exact find_om1 _ _ _ hn30 _ _ wx (by omega) (by assumption) | exact om1_av hn30) (lv_sub hl [0, 1, 2, 3, 4, 5, 6] rfl) hE
  have key_111 : ∀ (ls : Array Slot) (r1 : Nat → Int32) (r2 : Nat → Int32) (H : Heap) (locs : List Loc) (hP : va_P D vwCl (wX cI cZ a x r1 r2) H) (hD : va_D A (wX cI cZ a x r1 r2)) (hS : va_S A s.heap H locs), Gd (vwX x w) (Φ t 1) → Gd (vwX x w) (Φ t 2) → lv_has ls 12 [(6, .int (nI ((12 * w) + (Φ t 2)))), (5, .int (nI (Φ t 2))), (4, .int (nI (Φ t 1))), (3, .int (nI (Φ t 0))), (0, .ref (a 0)), (1, .int (nI w)), (2, .int (nI t))] → p_X5_resolved_111 x nf R Φ w t  = tgt → W p l e (headSpec wsX5_resolved ({ frames := 5, cells := 0, slots := 0, locals := 130 } : Room)).room s m args below meth c H locs 0 0 (MQ below (va_Qi (fun r (_ : (Nat → Int32) × (Nat → Int32)) => r = tgt) (fun u t => va_P D vwCl ((fun (u8 : (Nat → Int32) × (Nat → Int32)) => wX cI cZ a x u8.1 u8.2) u) t.heap) A) args s 0 0 A) (F0 m 111 ls []) := by
    intro  ls r1 r2 H locs hP hD hS hi_111_0 hi_111_1 hl hE
    rw [p_X5_resolved_111] at hE
    refine lv_iload_n hx hb dX5_resolved_111 rfl (lv_at hl 3 rfl) ?_
    refine lv_bipush (v := (8 : Int32)) hx hb dX5_resolved_112 (by decide) ?_
    refine lv_icmp_ne (tgt := 124) hx hb dX5_resolved_114 (by decide) (fun c_114 => ?_) (fun c_114 => ?_)
    · have c_114 : ¬ ((Φ t 0) = 8) := fun q9 => c_114 ((nI_eq (a := (Φ t 0)) (b := 8) (by omega) (by omega)).mpr q9)
      have hE := (if_neg c_114).symm.trans hE
      refine lv_aload_n hx hb dX5_resolved_124 rfl (lv_at hl 4 rfl) ?_
      refine va_get (D := D) (ci := 5) (v := .ref (a 2)) (C := RX5) (T := TX5) (N := 21) hx hb hts (fun w9 h9 => List.mem_cons_of_mem _ (inT_X5 w9 h9)) hown hK hP 0 rfl rfl 1 (by decide) (hts (.fieldLink RX5 13 "LinkPredictorModel" "flags" "[I") (List.mem_cons_of_mem _ mw_3_67)) (fun _ h9 => h9) rfl dX5_resolved_125 ?_
      refine lv_iload hx hb dX5_resolved_128 (lv_at hl 0 rfl) ?_
      refine ro_ald hx hb hEV hP 2 (j := ((12 * w) + (Φ t 2))) rfl (by omega) (by decide) dX5_resolved_130 ?_
      refine lv_iconst (v := (2 : Int32)) hx hb dX5_resolved_131 (by decide) ?_
      refine lv_iand hx hb dX5_resolved_132 ?_
      refine lv_if_eq (tgt := 140) hx hb dX5_resolved_133 (by decide) (fun c_133 => ?_) (fun c_133 => ?_)
      · skip
        have hE := (if_pos c_133).symm.trans hE
        refine lv_iconst (v := (0 : Int32)) hx hb dX5_resolved_140 (by decide) ?_
        exact key_141 false ls _ _ _ _ hP hD hS (by first | omega | assumption | exact find_om1 _ _ _ hn30 _ _ wx (by omega) (by assumption) | exact om1_av hn30) (by first | omega | assumption | exact find_om1 _ _ _ hn30 _ _ wx (by omega) (by assumption) | exact om1_av hn30) (lv_sub hl [1, 2, 3, 4, 5, 6] rfl) hE
      · skip
        have hE := (if_neg c_133).symm.trans hE
        refine lv_iconst (v := (1 : Int32)) hx hb dX5_resolved_136 (by decide) ?_
        refine lv_goto (tgt := 141) hx hb dX5_resolved_137 (by decide) ?_
        exact key_141 true ls _ _ _ _ hP hD hS (by first | omega | assumption | exact find_om1 _ _ _ hn30 _ _ wx (by omega) (by assumption) | exact om1_av hn30) (by first | omega | assumption | exact find_om1 _ _ _ hn30 _ _ wx (by omega) (by assumption) | exact om1_av hn30) (lv_sub hl [1, 2, 3, 4, 5, 6] rfl) hE
    · have c_114 : (Φ t 0) = 8 := (nI_eq (a := (Φ t 0)) (b := 8) (by omega) (by omega)).mp c_114
      have hE := (if_pos c_114).symm.trans hE
      refine lv_iconst (v := (0 : Int32)) hx hb dX5_resolved_117 (by decide) ?_
      refine lv_iload hx hb dX5_resolved_118 (lv_at hl 1 rfl) ?_
      refine ro_S [.int (0 : Int32), .int (nI (Φ t 2))] [] ⟨hx, hb, hml, hown, hts⟩ (c_X5_verdict l D cI cZ cB cR 0 (Φ t 2) (by omega) (by omega)) (va_cwS 2 hts (goodP (ps := [.methodLink RX5 97 yX5_verdict, .static yX5_verdict, .initialized RX5]) (all3 mw_3_198 mw_3_199 mw_1_6) mw_3_200) rfl rfl rfl (by decide +kernel) ⟨Nat.le_of_ble_eq_true rfl, Nat.le_of_ble_eq_true rfl⟩) hEV va_P0 rfl hl.1 rfl (Nat.le_of_ble_eq_true rfl) dX5_resolved_120 ⟨Nat.zero_le _, Nat.zero_le _⟩ ?_
      exact W.iret hx hb hr (fun t9 ht9 _ => ⟨⟨_, (r1, r2), rfl, hE, by show va_P D vwCl _ t9.heap; rw [ht9]; exact hP⟩, hS.F ht9⟩) hS.2.2 dX5_resolved_123
  refine lv_aload_n hx hb dX5_resolved_0 rfl (lv_at hl 0 rfl) ?_
  refine va_get (D := D) (ci := 5) (v := .ref (a 14)) (C := RX5) (T := TX5) (N := 21) hx hb hts (fun w9 h9 => List.mem_cons_of_mem _ (inT_X5 w9 h9)) hown hK hP 0 rfl rfl 13 (by decide) (hts (.fieldLink RX5 50 "LinkPredictorModel" "kind" "[I") (List.mem_cons_of_mem _ mw_3_79)) (fun _ h9 => h9) rfl dX5_resolved_1 ?_
  refine lv_iload_n hx hb dX5_resolved_4 rfl (lv_at hl 2 rfl) ?_
  refine ro_ald hx hb hEV hP 14 (j := t) rfl (by omega) (by decide) dX5_resolved_5 ?_
  refine top_eq ((wr.2.2 t hnt).2.1) ?_
  refine lv_istore_n (lv' := [(3, .int (nI (Φ t 0))), (0, .ref (a 0)), (1, .int (nI w)), (2, .int (nI t))]) hx hb dX5_resolved_6 rfl hl (by decide) rfl (fun ls hl => ?_)
  refine lv_aload_n hx hb dX5_resolved_7 rfl (lv_at hl 1 rfl) ?_
  refine va_get (D := D) (ci := 5) (v := .ref (a 15)) (C := RX5) (T := TX5) (N := 21) hx hb hts (fun w9 h9 => List.mem_cons_of_mem _ (inT_X5 w9 h9)) hown hK hP 0 rfl rfl 14 (by decide) (hts (.fieldLink RX5 53 "LinkPredictorModel" "holder" "[I") (List.mem_cons_of_mem _ mw_3_80)) (fun _ h9 => h9) rfl dX5_resolved_8 ?_
  refine lv_iload_n hx hb dX5_resolved_11 rfl (lv_at hl 3 rfl) ?_
  refine ro_ald hx hb hEV hP 15 (j := t) rfl (by omega) (by decide) dX5_resolved_12 ?_
  refine top_eq ((wr.2.2 t hnt).2.2.1) ?_
  refine lv_istore (lv' := [(4, .int (nI (Φ t 1))), (3, .int (nI (Φ t 0))), (0, .ref (a 0)), (1, .int (nI w)), (2, .int (nI t))]) hx hb dX5_resolved_13 hl (by decide) rfl (fun ls hl => ?_)
  refine lv_aload_n hx hb dX5_resolved_15 rfl (lv_at hl 2 rfl) ?_
  refine va_get (D := D) (ci := 5) (v := .ref (a 16)) (C := RX5) (T := TX5) (N := 21) hx hb hts (fun w9 h9 => List.mem_cons_of_mem _ (inT_X5 w9 h9)) hown hK hP 0 rfl rfl 15 (by decide) (hts (.fieldLink RX5 56 "LinkPredictorModel" "way" "[I") (List.mem_cons_of_mem _ mw_3_81)) (fun _ h9 => h9) rfl dX5_resolved_16 ?_
  refine lv_iload_n hx hb dX5_resolved_19 rfl (lv_at hl 4 rfl) ?_
  refine ro_ald hx hb hEV hP 16 (j := t) rfl (by omega) (by decide) dX5_resolved_20 ?_
  refine top_eq ((wr.2.2 t hnt).2.2.2.1) ?_
  refine lv_istore (lv' := [(5, .int (nI (Φ t 2))), (4, .int (nI (Φ t 1))), (3, .int (nI (Φ t 0))), (0, .ref (a 0)), (1, .int (nI w)), (2, .int (nI t))]) hx hb dX5_resolved_21 hl (by decide) rfl (fun ls hl => ?_)
  refine lv_bipush (v := (12 : Int32)) hx hb dX5_resolved_23 (by decide) ?_
  refine lv_iload_n hx hb dX5_resolved_25 rfl (lv_at hl 4 rfl) ?_
  refine lv_imul hx hb dX5_resolved_26 ?_
  refine top_eq (pk_mul 12 w) ?_
  refine lv_iload hx hb dX5_resolved_27 (lv_at hl 0 rfl) ?_
  refine lv_iadd hx hb dX5_resolved_29 ?_
  refine top_eq (nI_add (12 * w) (Φ t 2)) ?_
  refine lv_istore (lv' := [(6, .int (nI ((12 * w) + (Φ t 2)))), (5, .int (nI (Φ t 2))), (4, .int (nI (Φ t 1))), (3, .int (nI (Φ t 0))), (0, .ref (a 0)), (1, .int (nI w)), (2, .int (nI t))]) hx hb dX5_resolved_30 hl (by decide) rfl (fun ls hl => ?_)
  refine lv_aload_n hx hb dX5_resolved_32 rfl (lv_at hl 4 rfl) ?_
  refine lv_iload_n hx hb dX5_resolved_33 rfl (lv_at hl 5 rfl) ?_
  refine lv_iload hx hb dX5_resolved_34 (lv_at hl 2 rfl) ?_
  refine mu_V [.int (nI w), .int (nI (Φ t 1))] [] ⟨hx, hb, hml, hown, hts⟩ (c_X5_loadedR l D cI cZ cB cR a x r1 r2 w (nf w) (Φ t 1) (by omega) (hX w (by omega)) (by omega) ) (cwV (C := RX5) 2 hts (goodP (ps := [.methodLink RX5 104 yX5_loaded, .instanceMethod yX5_loaded, .selects RX5 yX5_loaded yX5_loaded, .initialized RX5]) (all4 mw_3_194 mw_3_196 ms_29 mw_1_6) mw_3_197) rfl rfl rfl (by decide +kernel) ⟨Nat.le_of_ble_eq_true rfl, Nat.le_of_ble_eq_true rfl⟩) hEV hP hD hS hA 0 rfl rfl rfl hl.1 rfl (Nat.le_of_ble_eq_true rfl) dX5_resolved_36 ⟨Nat.zero_le _, Nat.zero_le _⟩ (fun r9 u9 H1 locs hw hP1 hk1 hS => ?_)
  subst hw
  obtain ⟨r1, r2⟩ := u9
  dsimp only at hP1
  have hP : va_P D vwCl (wX cI cZ a x r1 r2) H1 := hP1
  have hD : va_D A (wX cI cZ a x r1 r2) := hD.adr rfl
  generalize H1 = H at hP hS ⊢
  refine lv_istore (lv' := [(7, .int (LV (vwX x w) (Φ t 1))), (6, .int (nI ((12 * w) + (Φ t 2)))), (5, .int (nI (Φ t 2))), (4, .int (nI (Φ t 1))), (3, .int (nI (Φ t 0))), (0, .ref (a 0)), (1, .int (nI w)), (2, .int (nI t))]) hx hb dX5_resolved_39 hl (by decide) rfl (fun ls hl => ?_)
  refine lv_iload hx hb dX5_resolved_41 (lv_at hl 0 rfl) ?_
  refine lv_bipush (v := (64 : Int32)) hx hb dX5_resolved_43 (by decide) ?_
  refine lv_icmp_lt (tgt := 51) hx hb dX5_resolved_45 (by decide) (fun c_45 => ?_) (fun c_45 => ?_)
  · skip
    have hE := (if_pos c_45).symm.trans hE
    have gd9 : Gd (vwX x w) (Φ t 1) := (LV_64 wx.1 (by omega)).mp c_45
    refine lv_aload_n hx hb dX5_resolved_51 rfl (lv_at hl 5 rfl) ?_
    refine lv_iload_n hx hb dX5_resolved_52 rfl (lv_at hl 6 rfl) ?_
    refine lv_iload hx hb dX5_resolved_53 (lv_at hl 2 rfl) ?_
    refine mu_V [.int (nI w), .int (nI (Φ t 2))] [] ⟨hx, hb, hml, hown, hts⟩ (c_X5_loadedR l D cI cZ cB cR a x r1 r2 w (nf w) (Φ t 2) (by omega) (hX w (by omega)) (by omega) ) (cwV (C := RX5) 2 hts (goodP (ps := [.methodLink RX5 104 yX5_loaded, .instanceMethod yX5_loaded, .selects RX5 yX5_loaded yX5_loaded, .initialized RX5]) (all4 mw_3_194 mw_3_196 ms_29 mw_1_6) mw_3_197) rfl rfl rfl (by decide +kernel) ⟨Nat.le_of_ble_eq_true rfl, Nat.le_of_ble_eq_true rfl⟩) hEV hP hD hS hA 0 rfl rfl rfl hl.1 rfl (Nat.le_of_ble_eq_true rfl) dX5_resolved_55 ⟨Nat.zero_le _, Nat.zero_le _⟩ (fun r9 u9 H1 locs hw hP1 hk1 hS => ?_)
    subst hw
    obtain ⟨r1, r2⟩ := u9
    dsimp only at hP1
    have hP : va_P D vwCl (wX cI cZ a x r1 r2) H1 := hP1
    have hD : va_D A (wX cI cZ a x r1 r2) := hD.adr rfl
    generalize H1 = H at hP hS ⊢
    refine lv_istore (lv' := [(7, .int (LV (vwX x w) (Φ t 2))), (6, .int (nI ((12 * w) + (Φ t 2)))), (5, .int (nI (Φ t 2))), (4, .int (nI (Φ t 1))), (3, .int (nI (Φ t 0))), (0, .ref (a 0)), (1, .int (nI w)), (2, .int (nI t))]) hx hb dX5_resolved_58 hl (by decide) rfl (fun ls hl => ?_)
    refine lv_iload hx hb dX5_resolved_60 (lv_at hl 0 rfl) ?_
    refine lv_bipush (v := (64 : Int32)) hx hb dX5_resolved_62 (by decide) ?_
    refine lv_icmp_lt (tgt := 70) hx hb dX5_resolved_64 (by decide) (fun c_64 => ?_) (fun c_64 => ?_)
    · skip
      have hE := (if_pos c_64).symm.trans hE
      have gr9 : Gd (vwX x w) (Φ t 2) := (LV_64 wx.1 (by omega)).mp c_64
      refine lv_aload_n hx hb dX5_resolved_70 rfl (lv_at hl 5 rfl) ?_
      refine va_get (D := D) (ci := 5) (v := .ref (a 2)) (C := RX5) (T := TX5) (N := 21) hx hb hts (fun w9 h9 => List.mem_cons_of_mem _ (inT_X5 w9 h9)) hown hK hP 0 rfl rfl 1 (by decide) (hts (.fieldLink RX5 13 "LinkPredictorModel" "flags" "[I") (List.mem_cons_of_mem _ mw_3_67)) (fun _ h9 => h9) rfl dX5_resolved_71 ?_
      refine lv_iload hx hb dX5_resolved_74 (lv_at hl 1 rfl) ?_
      refine ro_ald hx hb hEV hP 2 (j := ((12 * w) + (Φ t 2))) rfl (by omega) (by decide) dX5_resolved_76 ?_
      refine lv_iconst (v := (1 : Int32)) hx hb dX5_resolved_77 (by decide) ?_
      refine lv_iand hx hb dX5_resolved_78 ?_
      refine lv_if_ne (tgt := 111) hx hb dX5_resolved_79 (by decide) (fun c_79 => ?_) (fun c_79 => ?_)
      · skip
        have hE := (if_neg c_79).symm.trans hE
        exact key_111  ls _ _ _ _ hP hD hS (by first | omega | assumption | exact find_om1 _ _ _ hn30 _ _ wx (by omega) (by assumption) | exact om1_av hn30) (by first | omega | assumption | exact find_om1 _ _ _ hn30 _ _ wx (by omega) (by assumption) | exact om1_av hn30) (lv_sub hl [1, 2, 3, 4, 5, 6, 7] rfl) hE
      · skip
        have hE := (if_pos c_79).symm.trans hE
        refine lv_aload_n hx hb dX5_resolved_82 rfl (lv_at hl 5 rfl) ?_
        refine va_get (D := D) (ci := 5) (v := .ref (a 3)) (C := RX5) (T := TX5) (N := 21) hx hb hts (fun w9 h9 => List.mem_cons_of_mem _ (inT_X5 w9 h9)) hown hK hP 0 rfl rfl 2 (by decide) (hts (.fieldLink RX5 17 "LinkPredictorModel" "pack" "[I") (List.mem_cons_of_mem _ mw_3_68)) (fun _ h9 => h9) rfl dX5_resolved_83 ?_
        refine lv_iload hx hb dX5_resolved_86 (lv_at hl 1 rfl) ?_
        refine ro_ald hx hb hEV hP 3 (j := ((12 * w) + (Φ t 2))) rfl (by omega) (by decide) dX5_resolved_88 ?_
        refine lv_aload_n hx hb dX5_resolved_89 rfl (lv_at hl 5 rfl) ?_
        refine va_get (D := D) (ci := 5) (v := .ref (a 3)) (C := RX5) (T := TX5) (N := 21) hx hb hts (fun w9 h9 => List.mem_cons_of_mem _ (inT_X5 w9 h9)) hown hK hP 0 rfl rfl 2 (by decide) (hts (.fieldLink RX5 17 "LinkPredictorModel" "pack" "[I") (List.mem_cons_of_mem _ mw_3_68)) (fun _ h9 => h9) rfl dX5_resolved_90 ?_
        refine lv_bipush (v := (12 : Int32)) hx hb dX5_resolved_93 (by decide) ?_
        refine lv_iload_n hx hb dX5_resolved_95 rfl (lv_at hl 6 rfl) ?_
        refine lv_imul hx hb dX5_resolved_96 ?_
        refine top_eq (pk_mul 12 w) ?_
        refine lv_iload hx hb dX5_resolved_97 (lv_at hl 3 rfl) ?_
        refine lv_iadd hx hb dX5_resolved_99 ?_
        refine top_eq (nI_add (12 * w) (Φ t 1)) ?_
        refine ro_ald hx hb hEV hP 3 (j := ((12 * w) + (Φ t 1))) rfl (by omega) (by decide) dX5_resolved_100 ?_
        refine lv_icmp_eq (tgt := 111) hx hb dX5_resolved_101 (by decide) (fun c_101 => ?_) (fun c_101 => ?_)
        · skip
          have hE := (if_pos c_101).symm.trans hE
          exact key_111  ls _ _ _ _ hP hD hS (by first | omega | assumption | exact find_om1 _ _ _ hn30 _ _ wx (by omega) (by assumption) | exact om1_av hn30) (by first | omega | assumption | exact find_om1 _ _ _ hn30 _ _ wx (by omega) (by assumption) | exact om1_av hn30) (lv_sub hl [1, 2, 3, 4, 5, 6, 7] rfl) hE
        · skip
          have hE := (if_neg c_101).symm.trans hE
          refine lv_iconst (v := (4 : Int32)) hx hb dX5_resolved_104 (by decide) ?_
          refine lv_iload hx hb dX5_resolved_105 (lv_at hl 2 rfl) ?_
          refine ro_S [.int (4 : Int32), .int (nI (Φ t 2))] [] ⟨hx, hb, hml, hown, hts⟩ (c_X5_verdict l D cI cZ cB cR 4 (Φ t 2) (by omega) (by omega)) (va_cwS 2 hts (goodP (ps := [.methodLink RX5 97 yX5_verdict, .static yX5_verdict, .initialized RX5]) (all3 mw_3_198 mw_3_199 mw_1_6) mw_3_200) rfl rfl rfl (by decide +kernel) ⟨Nat.le_of_ble_eq_true rfl, Nat.le_of_ble_eq_true rfl⟩) hEV va_P0 rfl hl.1 rfl (Nat.le_of_ble_eq_true rfl) dX5_resolved_107 ⟨Nat.zero_le _, Nat.zero_le _⟩ ?_
          exact W.iret hx hb hr (fun t9 ht9 _ => ⟨⟨_, (r1, r2), rfl, hE, by show va_P D vwCl _ t9.heap; rw [ht9]; exact hP⟩, hS.F ht9⟩) hS.2.2 dX5_resolved_110
    · skip
      have hE := (if_neg c_64).symm.trans hE
      refine lv_iload hx hb dX5_resolved_67 (lv_at hl 0 rfl) ?_
      exact W.iret hx hb hr (fun t9 ht9 _ => ⟨⟨_, (r1, r2), rfl, hE, by show va_P D vwCl _ t9.heap; rw [ht9]; exact hP⟩, hS.F ht9⟩) hS.2.2 dX5_resolved_69
  · skip
    have hE := (if_neg c_45).symm.trans hE
    refine lv_iload hx hb dX5_resolved_48 (lv_at hl 0 rfl) ?_
    exact W.iret hx hb hr (fun t9 ht9 _ => ⟨⟨_, (r1, r2), rfl, hE, by show va_P D vwCl _ t9.heap; rw [ht9]; exact hP⟩, hS.F ht9⟩) hS.2.2 dX5_resolved_50
