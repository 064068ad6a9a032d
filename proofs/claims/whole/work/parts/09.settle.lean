def p_X1_settle_24 (τ : Nat → Nat → Int32) (K7 : Nat → (Nat → Nat → Int32) → (Nat → Nat → Int32)) (n1 : Nat) (vs0 : Int32) (h : (Nat → Nat → Int32)) : (Nat → Nat → Int32) := K7 (n1 + 1) (st2 h 5 n1 vs0)
def p_X1_settle_7 (τ : Nat → Nat → Int32) : Nat → Nat → (Nat → Nat → Int32) → (Nat → Nat → Int32)
  | 0, _, h => h
  | k + 1, n1, h => if 12 ≤ n1 then (h) else (p_X1_settle_24 τ (fun n1 h => p_X1_settle_7 τ k n1 h) n1 ((pLI τ 13 h n1 0).1) ((pLI τ 13 h n1 0).2))
def p_X1_settle (τ : Nat → Nat → Int32) (h : (Nat → Nat → Int32)) : (Nat → Nat → Int32) := p_X1_settle_7 τ 13 0 (st2 h 8 1 (0 : Int32))
set_option maxHeartbeats 4000000 in
set_option maxRecDepth 100000 in
theorem c_X1_settle (l : Launch) (D : va_G) (cI cZ cB cR : ClassId) (a : Nat → Nat) (h τ : Nat → Nat → Int32) (hT : vwH h = τ) (wf : WFT τ) : MUv l yX1_settle wsX1_settle ({ frames := 37, cells := 0, slots := 0, locals := 1003 } : Room) D cI cZ cB cR (wH cI a h) [.ref (a 0)] (fun (_ : Unit) => wH cI a ((p_X1_settle τ h))) (fun _ => True) := by
  generalize hE : p_X1_settle τ h = tgt
  intro sz
  refine Met.ofW (cc := cX1_settle) (maxL := 2) (ret := none) (by decide) rfl ?_
  intro p e s m args below meth c s₁ B hml hv
  obtain ⟨hargs, hsz, hP, hEV, hD0⟩ := hv
  have hx := B.exec
  have hb := B.bytes
  have hr := B.returns
  have hts := atoms_spec (ws := wsX1_settle) B.pre
  have hown : s.vm.findClass RX1 = some m.cls := findClass_of_methodNamed B.named
  have hlocks := B.notSynchronized
  have hK := hEV.1
  have hl := lv_entry ([.ref (a 0)]) (n := 2) (Nat.le_of_ble_eq_true rfl)
  rw [show entryFrame m args 2 = entryFrame m ([.ref (a 0)] : List Value).toArray 2 from by rw [hargs], lg_entry_eq]
  generalize (lg_sl ([.ref (a 0)]) ++ List.replicate (2 - (lg_sl ([.ref (a 0)])).length) Slot.unset).toArray = ls at hl ⊢
  have hl : lv_has ls 2 [(0, .ref (a 0))] := hl
  subst hsz
  have hD := hD0.self (sz := s.heap.size)
  generalize hAe : va_A (wH cI a h) s.heap.size = A at hD ⊢
  have hA : ∀ q : Nat, s.heap.size ≤ q → A q := fun q h9 => by rw [← hAe]; exact Or.inr h9
  have hS : va_S A s.heap s.heap [] := va_S.rf
  rw [p_X1_settle] at hE
  have key_7 : ∀ (k_7 : Nat) (n1 : Nat) (h : (Nat → Nat → Int32)) (ls : Array Slot) (H : Heap) (locs : List Loc) (hP : va_P D vwCl (wH cI a h) H) (hD : va_D A (wH cI a h)) (hS : va_S A s.heap H locs), (12 - n1) < k_7 → vwH h = τ → n1 ≤ 12 → lv_has ls 2 [(1, .int (nI n1)), (0, .ref (a 0))] → p_X1_settle_7 τ k_7 n1 h = tgt → W p l e (headSpec wsX1_settle ({ frames := 37, cells := 0, slots := 0, locals := 1003 } : Room)).room s m args below meth c H locs 0 0 (MQ below (va_Qv (fun (_ : Unit) => True) (fun _ t => va_P D vwCl (wH cI a tgt) t.heap) A) args s 0 0 A) (F0 m 7 ls []) := by
    intro k_7
    induction k_7 with
    | zero => intro n1 h ls H locs hP hD hS hm; exact absurd hm (Nat.not_lt_zero _)
    | succ k_7 ih_7 =>
      have key_24 : ∀ (n1 : Nat) (vs0 : Int32) (h : (Nat → Nat → Int32)) (ls : Array Slot) (H : Heap) (locs : List Loc) (hP : va_P D vwCl (wH cI a h) H) (hD : va_D A (wH cI a h)) (hS : va_S A s.heap H locs), vwH h = τ → n1 < 12 → (12 - n1) < k_7 + 1 → lv_has ls 2 [(1, .int (nI n1)), (0, .ref (a 0))] → p_X1_settle_24 τ (fun n1 h => p_X1_settle_7 τ k_7 n1 h) n1 vs0 h = tgt → W p l e (headSpec wsX1_settle ({ frames := 37, cells := 0, slots := 0, locals := 1003 } : Room)).room s m args below meth c H locs 0 0 (MQ below (va_Qv (fun (_ : Unit) => True) (fun _ t => va_P D vwCl (wH cI a tgt) t.heap) A) args s 0 0 A) (F0 m 24 ls [.int vs0, .int (nI n1), .ref (a 6)]) := by
        intro n1 vs0 h ls H locs hP hD hS hi_24_0 hi_24_1 hi_24_2 hl hE
        rw [p_X1_settle_24] at hE
        have hT := hi_24_0
        refine mu_ast hx hb hEV hP hD hS 6 (j := n1) (v := vs0) (w2 := wH cI a (st2 h 5 n1 vs0)) rfl (by omega) (by decide) rfl dX1_settle_24 (fun H locs hP hD hS => ?_)
        refine lv_iinc (v := nI (n1 + 1)) (lv' := [(1, .int (nI (n1 + 1))), (0, .ref (a 0))]) hx hb dX1_settle_25 hl (k := 0) rfl (nI_1 _) (by decide) rfl (fun ls hl => ?_)
        refine lv_goto (tgt := 7) hx hb dX1_settle_28 (by decide) ?_
        exact ih_7 (n1 + 1) (st2 h 5 n1 vs0) ls _ _ hP hD hS (by omega) (by first | omega | exact hT | (simp only [vwH_s5, vwH_s6, vwH_s7, vwH_s8]; exact hT) | exact (vwH_LI _ _ _ _ _).trans hT) (by first | omega | exact hT | (simp only [vwH_s5, vwH_s6, vwH_s7, vwH_s8]; exact hT) | exact (vwH_LI _ _ _ _ _).trans hT) (lv_sub hl [0, 1] rfl) hE
      intro n1 h ls H locs hP hD hS hm_7 hi_7_0 hi_7_1 hl hE
      rw [p_X1_settle_7] at hE
      have hT := hi_7_0
      refine lv_iload_n hx hb dX1_settle_7 rfl (lv_at hl 0 rfl) ?_
      refine lv_bipush (v := (12 : Int32)) hx hb dX1_settle_8 (by decide) ?_
      refine lv_icmp_ge (tgt := 31) hx hb dX1_settle_10 (by decide) (fun c_10 => ?_) (fun c_10 => ?_)
      · have c_10 : 12 ≤ n1 := (nI_leI (a := 12) (b := n1) (by omega) (by omega)).mp c_10
        have hE := (if_pos c_10).symm.trans hE
        exact W.vret hx hb hr (fun t9 ht9 _ => ⟨⟨(), rfl, trivial, by show va_P D vwCl _ t9.heap; rw [ht9, ← hE]; exact hP⟩, hS.F ht9⟩) hS.2.2 dX1_settle_31
      · have c_10 : ¬ (12 ≤ n1) := fun q9 => c_10 ((nI_leI (a := 12) (b := n1) (by omega) (by omega)).mpr q9)
        have hE := (if_neg c_10).symm.trans hE
        refine lv_aload_n hx hb dX1_settle_13 rfl (lv_at hl 1 rfl) ?_
        refine va_get (D := D) (ci := 1) (v := .ref (a 6)) (C := RX1) (T := TX1) (N := 10) hx hb hts (fun w9 h9 => List.mem_cons_of_mem _ (inT_X1 w9 h9)) hown hK hP 0 rfl rfl 6 (by decide) (hts (.fieldLink RX1 27 "LinkPredictor$Hierarchy" "verdicts" "[I") (List.mem_cons_of_mem _ mw_1_77)) (fun _ h9 => h9) rfl dX1_settle_14 ?_
        refine lv_iload_n hx hb dX1_settle_17 rfl (lv_at hl 0 rfl) ?_
        refine lv_aload_n hx hb dX1_settle_18 rfl (lv_at hl 1 rfl) ?_
        refine lv_iload_n hx hb dX1_settle_19 rfl (lv_at hl 0 rfl) ?_
        refine lv_iconst (v := (0 : Int32)) hx hb dX1_settle_20 (by decide) ?_
        refine mu_V [.int (nI n1), .int (0 : Int32)] [.int (nI n1), .ref (a 6)] ⟨hx, hb, hml, hown, hts⟩ (c_LI l D cI cZ cB cR a τ wf 13 h n1 0 (by first | exact hT | (simp only [vwH_s5, vwH_s6, vwH_s7, vwH_s8]; exact hT)) (by omega) (by rw [cN_0]; omega)) (cwV (C := RX1) 2 hts (goodP (ps := [.methodLink RX1 78 yX1_loadInside, .instanceMethod yX1_loadInside, .selects RX1 yX1_loadInside yX1_loadInside, .initialized RX1]) (all4 mw_1_38 mw_1_40 ms_1 mw_1_3) mw_1_41) rfl rfl rfl (by decide +kernel) ⟨Nat.le_of_ble_eq_true rfl, Nat.le_of_ble_eq_true rfl⟩) hEV hP hD hS hA 0 rfl rfl rfl hl.1 rfl (Nat.le_of_ble_eq_true rfl) dX1_settle_21 ⟨Nat.zero_le _, Nat.zero_le _⟩ (fun r9 u9 H1 locs hw hP1 hk1 hS => ?_)
        subst hw
        have hP : va_P D vwCl (wH cI a ((pLI τ 13 h n1 0).2)) H1 := hP1
        have hD : va_D A (wH cI a ((pLI τ 13 h n1 0).2)) := hD.adr rfl
        generalize H1 = H at hP hS ⊢
        exact key_24 n1 ((pLI τ 13 h n1 0).1) ((pLI τ 13 h n1 0).2) ls _ _ hP hD hS (by first | omega | exact hT | (simp only [vwH_s5, vwH_s6, vwH_s7, vwH_s8]; exact hT) | exact (vwH_LI _ _ _ _ _).trans hT) (by first | omega | exact hT | (simp only [vwH_s5, vwH_s6, vwH_s7, vwH_s8]; exact hT) | exact (vwH_LI _ _ _ _ _).trans hT) (by first | omega | exact hT | (simp only [vwH_s5, vwH_s6, vwH_s7, vwH_s8]; exact hT) | exact (vwH_LI _ _ _ _ _).trans hT) (lv_sub hl [0, 1] rfl) hE
  refine lv_aload_n hx hb dX1_settle_0 rfl (lv_at hl 0 rfl) ?_
  refine lv_iconst (v := (0 : Int32)) hx hb dX1_settle_1 (by decide) ?_
  refine va_put (D := D) (ci := 1) (v := .int (0 : Int32)) (ty := .int) (C := RX1) (T := TX1) (N := 10) hx hb hts (fun w9 h9 => List.mem_cons_of_mem _ (inT_X1 w9 h9)) tyX1 tyX1_ok nmX1 hown hK hP hD hS 0 rfl rfl 7 (by decide) (hts (.fieldLink RX1 72 "LinkPredictor$Hierarchy" "settled" "I") (List.mem_cons_of_mem _ mw_1_78)) (fun _ h9 => h9) rfl (by decide +kernel) rfl rfl (Nat.le_of_ble_eq_true rfl) dX1_settle_2 (fun H locs hP hD hS => ?_)
  have hP : va_P D vwCl (wH cI a (st2 h 8 1 (0 : Int32))) _ := hP
  have hD : va_D A (wH cI a (st2 h 8 1 (0 : Int32))) := hD
  refine lv_iconst (v := (0 : Int32)) hx hb dX1_settle_5 (by decide) ?_
  refine lv_istore_n (lv' := [(1, .int (0 : Int32)), (0, .ref (a 0))]) hx hb dX1_settle_6 rfl hl (by decide) rfl (fun ls hl => ?_)
  exact key_7 13 0 (st2 h 8 1 (0 : Int32)) ls _ _ hP hD hS (by omega) (by first | omega | exact hT | (simp only [vwH_s5, vwH_s6, vwH_s7, vwH_s8]; exact hT) | exact (vwH_LI _ _ _ _ _).trans hT) (by first | omega | exact hT | (simp only [vwH_s5, vwH_s6, vwH_s7, vwH_s8]; exact hT) | exact (vwH_LI _ _ _ _ _).trans hT) (lv_sub hl [0, 1] rfl) hE
/-! ===== settle ===== -/
/-- Hierarchy as it stands between calls: its rows are the table, and what it keeps is what LOADING tells -/
def OKH (h τ : Nat → Nat → Int32) : Prop := OKB h τ ∧ (∀ t, t < 12 → h 5 t = LV τ t ∧ bt (h 8 1) t = gdB τ t) ∧ (∀ t, 12 ≤ t → t < 32 → bt (h 8 1) t = false) ∧ (∀ t, t < 12 → Gd τ t → ∀ w, w < 12 → bt (h 6 t) w = abB τ t w ∧ bt (h 7 t) w = fcB τ t w) ∧ ∀ t, 12 ≤ t → t < 32 → bt (h 8 0) t = false
theorem OKH.b {h τ : Nat → Nat → Int32} (k : OKH h τ) : OKB h τ := k.1
theorem OKH.lv {h τ : Nat → Nat → Int32} (k : OKH h τ) {t : Nat} (ht : t < 12) : h 5 t = LV τ t := (k.2.1 t ht).1
theorem OKH.se {h τ : Nat → Nat → Int32} (k : OKH h τ) {t : Nat} (ht : t < 12) : bt (h 8 1) t = gdB τ t := (k.2.1 t ht).2
theorem OKH.ab {h τ : Nat → Nat → Int32} (k : OKH h τ) {t w : Nat} (ht : t < 12) (g : Gd τ t) (hw : w < 12) : bt (h 6 t) w = abB τ t w := (k.2.2.2.1 t ht g w hw).1
theorem OKH.fc {h τ : Nat → Nat → Int32} (k : OKH h τ) {t w : Nat} (ht : t < 12) (g : Gd τ t) (hw : w < 12) : bt (h 7 t) w = fcB τ t w := (k.2.2.2.1 t ht g w hw).2
theorem OC0 {τ : Nat → Nat → Int32} {t : Nat} : OC τ 0 t := fun u _ h => by rw [b_0] at h; exact absurd h (by decide)
theorem settle7 {τ : Nat → Nat → Int32} (wf : WFT τ) : ∀ k i h, 12 - i < k → i ≤ 12 → CI τ h → (∀ j, j < i → h 5 j = LV τ j ∧ (Gd τ j → bt (h 8 1) j = true)) → CI τ (p_X1_settle_7 τ k i h) ∧ ∀ j, j < 12 → (p_X1_settle_7 τ k i h) 5 j = LV τ j ∧ (Gd τ j → bt ((p_X1_settle_7 τ k i h) 8 1) j = true) := by
  intro k
  induction k with
  | zero => intro i h h1; omega
  | succ k ih =>
    intro i h hk hi ci hj
    rw [p_X1_settle_7]
    by_cases c : 12 ≤ i
    · rw [if_pos c]
      have e : i = 12 := by omega
      subst e
      exact ⟨ci, hj⟩
    · rw [if_neg c, p_X1_settle_24]
      have hi2 : i < 12 := by omega
      obtain ⟨f1, f2, f3, f4⟩ := LI_ok wf 13 h i 0 ci hi2 (by rw [cN_0]; omega) OC0
      have f5 : ((pLI τ 13 h i 0).2) 5 = h 5 := rv5_LI τ 13 h i 0
      have e8 : ∀ v, (st2 (pLI τ 13 h i 0).2 5 i v) 8 = (pLI τ 13 h i 0).2 8 := fun v => st2_n (by omega)
      refine ih (i + 1) _ (by omega) (by omega) ⟨by rw [vwH_s5]; exact f2.1, ?_, ?_⟩ ?_
      · intro u hu hb
        rw [e8] at hb
        rw [st2_n (q := 6) (by omega), st2_n (q := 7) (by omega)]
        exact f2.2.1 u hu hb
      · intro u h5 h6
        rw [e8]
        exact f2.2.2 u h5 h6
      · intro j q
        rw [e8, st2_k]
        rcases Nat.lt_or_ge j i with z | z
        · rw [pk_un (by omega), f5]
          exact ⟨(hj j z).1, fun g => f3 j (by omega) ((hj j z).2 g)⟩
        · have e : j = i := by omega
          subst e
          rw [pk_us]
          exact ⟨f1, f4⟩
theorem settle_ok {τ h : Nat → Nat → Int32} (wf : WFT τ) (hT : vwH h = τ) (hb : ∀ t, 12 ≤ t → t < 32 → bt (h 8 0) t = false) : OKH (p_X1_settle τ h) τ := by
  rw [p_X1_settle]
  have hv : vwH (st2 h 8 1 0) = τ := by rw [vwH_s8]; exact hT
  obtain ⟨g1, g2⟩ := settle7 wf 13 0 (st2 h 8 1 0) (by omega) (by omega) ⟨hv, fun u hu q => by rw [st2_k, pk_us, b_0] at q; exact absurd q (by decide), fun u _ _ => by rw [st2_k, pk_us, b_0]⟩ (fun j q => absurd q (Nat.not_lt_zero j))
  refine ⟨OKB_of g1.1, fun t ht => ⟨(g2 t ht).1, ?_⟩, g1.2.2, fun t ht g w hw => (g1.2.1 t ht ((g2 t ht).2 g)).2 w hw, fun t h5 h6 => ?_⟩
  · rw [Bool.eq_iff_iff, gdB_iff]
    exact ⟨fun q => (g1.2.1 t ht q).1, (g2 t ht).2⟩
  · have e : vwH (p_X1_settle_7 τ 13 0 (st2 h 8 1 0)) = vwH h := by rw [g1.1, hT]
    have e2 : b2i (bt ((p_X1_settle_7 τ 13 0 (st2 h 8 1 0)) 8 0) t) = b2i (bt (h 8 0) t) := congrFun (congrFun e 0) t
    rw [hb t h5 h6] at e2
    cases q : bt ((p_X1_settle_7 τ 13 0 (st2 h 8 1 0)) 8 0) t with
    | false => rfl
    | true => rw [q] at e2; exact absurd e2 (by decide)
