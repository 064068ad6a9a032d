/-! ===== the mathematical tables: τ 0 there, 1 flags, 2 pack, 3 super, 4 faces, 5 host of a type; γ 0 owner, 1 key, 2 access, 3 marks, 4 gone of a member ===== -/
def sN (x : Int32) : Nat := x.toNatClampNeg
theorem sN_nI {n : Nat} (h : n < 2 ^ 31) : sN (nI n) = n := nI_clamp h
def thB (τ : Nat → Nat → Int32) (t : Nat) : Bool := !decide (τ 0 t = 0)
def goB (γ : Nat → Nat → Int32) (m : Nat) : Bool := !decide (γ 4 m = 0)
/-- a place that is a type's number -/
def isT (x : Int32) : Prop := sN x < 12 ∧ x = nI (sN x)
def WFT (τ : Nat → Nat → Int32) : Prop := (∀ t, t < 12 → (τ 3 t = -1 ∨ isT (τ 3 t)) ∧ isT (τ 5 t) ∧ (t ≠ 0 → ¬ τ 3 t = -1) ∧ (∀ i, 12 ≤ i → i < 32 → bt (τ 4 t) i = false)) ∧ τ 0 0 = 1 ∧ τ 1 0 = 1 ∧ τ 3 0 = -1 ∧ τ 4 0 = 0 ∧ τ 2 0 = 0
/-- Hierarchy's own rows are the table -/
def OKB (h τ : Nat → Nat → Int32) : Prop := ∀ t, t < 12 → h 0 t = τ 1 t ∧ h 1 t = τ 2 t ∧ h 2 t = τ 3 t ∧ h 3 t = τ 4 t ∧ h 4 t = τ 5 t ∧ bt (h 8 0) t = thB τ t
theorem OKB.fl {h τ : Nat → Nat → Int32} (k : OKB h τ) {t : Nat} (ht : t < 12) : h 0 t = τ 1 t := (k t ht).1
theorem OKB.pk {h τ : Nat → Nat → Int32} (k : OKB h τ) {t : Nat} (ht : t < 12) : h 1 t = τ 2 t := (k t ht).2.1
theorem OKB.su {h τ : Nat → Nat → Int32} (k : OKB h τ) {t : Nat} (ht : t < 12) : h 2 t = τ 3 t := (k t ht).2.2.1
theorem OKB.fa {h τ : Nat → Nat → Int32} (k : OKB h τ) {t : Nat} (ht : t < 12) : h 3 t = τ 4 t := (k t ht).2.2.2.1
theorem OKB.ho {h τ : Nat → Nat → Int32} (k : OKB h τ) {t : Nat} (ht : t < 12) : h 4 t = τ 5 t := (k t ht).2.2.2.2.1
theorem OKB.th {h τ : Nat → Nat → Int32} (k : OKB h τ) {t : Nat} (ht : t < 12) : bt (h 8 0) t = thB τ t := (k t ht).2.2.2.2.2
/-- the first number from i on with p, k tries -/
def fsG (p : Nat → Bool) : Nat → Nat → Nat
  | 0, i => i
  | k + 1, i => if p i = true then i else fsG p k (i + 1)
/-- the first number below n with p, else n -/
def fst (p : Nat → Bool) (n : Nat) : Nat := fsG p n 0
theorem fsG_le (p : Nat → Bool) : ∀ k i, i ≤ fsG p k i ∧ fsG p k i ≤ i + k
  | 0, i => ⟨Nat.le_refl i, Nat.le_refl i⟩
  | k + 1, i => by
    have ih := fsG_le p k (i + 1)
    rw [fsG]
    split
    · omega
    · omega
theorem fsG_no (p : Nat → Bool) : ∀ k i j, i ≤ j → j < fsG p k i → p j = false
  | 0, i, j, h1, h2 => by rw [fsG] at h2; omega
  | k + 1, i, j, h1, h2 => by
    rw [fsG] at h2
    split at h2
    · omega
    · rename_i q
      rcases Nat.lt_or_ge i j with z | z
      · exact fsG_no p k (i + 1) j z h2
      · have e : j = i := by omega
        subst e
        simpa using q
theorem fsG_yes (p : Nat → Bool) : ∀ k i, fsG p k i < i + k → p (fsG p k i) = true
  | 0, i, h => by rw [fsG] at h; omega
  | k + 1, i, h => by
    rw [fsG] at h ⊢
    split
    · rename_i q; exact q
    · rename_i q
      rw [if_neg q] at h
      exact fsG_yes p k (i + 1) (by omega)
theorem fst_le (p : Nat → Bool) (n : Nat) : fst p n ≤ n := by have := (fsG_le p n 0).2; unfold fst; omega
theorem fst_no (p : Nat → Bool) (n k : Nat) (h : k < fst p n) : p k = false := fsG_no p n 0 k (Nat.zero_le k) h
theorem fst_yes (p : Nat → Bool) (n : Nat) (h : fst p n < n) : p (fst p n) = true := fsG_yes p n 0 (by have : fst p n = fsG p n 0 := rfl; omega)
theorem fst_at {p : Nat → Bool} {n i : Nat} (hi : i < n) (h : p i = true) (h0 : ∀ j, j < i → p j = false) : fst p n = i := by
  have h1 : ¬ i < fst p n := fun q => by rw [fst_no p n i q] at h; exact absurd h (by decide)
  have h2 : ¬ fst p n < i := fun q => by have := fst_yes p n (by omega); rw [h0 _ q] at this; exact absurd this (by decide)
  omega
theorem fst_none {p : Nat → Bool} {n : Nat} (h : ∀ j, j < n → p j = false) : fst p n = n := by
  have h1 := fst_le p n
  rcases Nat.lt_or_ge (fst p n) n with q | q
  · have := fst_yes p n q
    rw [h _ q] at this
    exact absurd this (by decide)
  · omega
theorem fst_cong {p q : Nat → Bool} {n : Nat} (h : ∀ j, j < n → p j = q j) : fst p n = fst q n := by
  rcases Nat.lt_or_ge (fst q n) n with z | z
  · exact fst_at z (by rw [h _ z]; exact fst_yes q n z) (fun j hj => by rw [h j (by omega)]; exact fst_no q n j hj)
  · have e : fst q n = n := by have := fst_le q n; omega
    rw [e]
    exact fst_none (fun j hj => by rw [h j hj]; exact fst_no q n j (by omega))
/-- some number below n has p -/
def exB (p : Nat → Bool) (n : Nat) : Bool := decide (fst p n < n)
theorem exB_iff {p : Nat → Bool} {n : Nat} : exB p n = true ↔ ∃ i, i < n ∧ p i = true := by
  unfold exB
  rw [decide_eq_true_iff]
  constructor
  · intro h; exact ⟨_, h, fst_yes p n h⟩
  · rintro ⟨i, hi, e⟩
    apply Classical.byContradiction
    intro q
    have := fst_no p n i (by omega)
    rw [this] at e
    exact absurd e (by decide)
def kyF (x : Bool) (y : Int32) : Int32 := if x = true then 15 + y else y
/-- Members' own rows are the table, n of them -/
def OKM (g γ : Nat → Nat → Int32) (n : Nat) : Prop := g 4 0 = nI n ∧ n ≤ 30 ∧ (∀ m, m < n → g 0 m = γ 0 m ∧ g 1 m = γ 1 m ∧ g 2 m = γ 2 m ∧ g 3 m = γ 3 m ∧ bt (g 4 1) m = goB γ m) ∧ ∀ m, n ≤ m → m < 32 → bt (g 4 1) m = false
theorem OKM.ow {g γ : Nat → Nat → Int32} {n : Nat} (k : OKM g γ n) {m : Nat} (hm : m < n) : g 0 m = γ 0 m := (k.2.2.1 m hm).1
theorem OKM.ky {g γ : Nat → Nat → Int32} {n : Nat} (k : OKM g γ n) {m : Nat} (hm : m < n) : g 1 m = γ 1 m := (k.2.2.1 m hm).2.1
theorem OKM.ac {g γ : Nat → Nat → Int32} {n : Nat} (k : OKM g γ n) {m : Nat} (hm : m < n) : g 2 m = γ 2 m := (k.2.2.1 m hm).2.2.1
theorem OKM.mk {g γ : Nat → Nat → Int32} {n : Nat} (k : OKM g γ n) {m : Nat} (hm : m < n) : g 3 m = γ 3 m := (k.2.2.1 m hm).2.2.2.1
theorem OKM.go {g γ : Nat → Nat → Int32} {n : Nat} (k : OKM g γ n) {m : Nat} (hm : m < n) : bt (g 4 1) m = goB γ m := (k.2.2.1 m hm).2.2.2.2
/-- the member of a type itself -/
def ownP (γ : Nat → Nat → Int32) (t : Nat) (key : Int32) (m : Nat) : Bool := decide (γ 1 m = key) && decide (γ 0 m = nI t) && !(goB γ m)
def fdN (γ : Nat → Nat → Int32) (n t : Nat) (key : Int32) : Nat := fst (ownP γ t key) n
def fdI (γ : Nat → Nat → Int32) (n t : Nat) (key : Int32) : Int32 := if fdN γ n t key < n then nI (fdN γ n t key) else -2
/-- neither private nor static -/
def inhB (γ : Nat → Nat → Int32) (m : Nat) : Bool := !decide (γ 2 m = 0) && !(bt (γ 3 m) 0)
/-- Hierarchy's own rows as a table -/
def vwH (h : Nat → Nat → Int32) : Nat → Nat → Int32 := fun k => if k = 0 then fun t => b2i (bt (h 8 0) t) else if k ≤ 5 then h (k - 1) else fun _ => 0
theorem OKB_self (h : Nat → Nat → Int32) : OKB h (vwH h) := fun t _ => ⟨rfl, rfl, rfl, rfl, rfl, by show _ = !decide (b2i (bt (h 8 0) t) = 0); cases bt (h 8 0) t <;> rfl⟩
theorem OKB_of {h τ : Nat → Nat → Int32} (e : vwH h = τ) : OKB h τ := e ▸ OKB_self h
theorem vwH_cong {h g : Nat → Nat → Int32} (h1 : ∀ k, k < 5 → h k = g k) (h2 : h 8 0 = g 8 0) : vwH h = vwH g := by
  funext k
  unfold vwH
  by_cases c : k = 0
  · rw [if_pos c, if_pos c, h2]
  · rw [if_neg c, if_neg c]
    by_cases d : k ≤ 5
    · rw [if_pos d, if_pos d, h1 (k - 1) (by omega)]
    · rw [if_neg d, if_neg d]
theorem vwH_s5 {h : Nat → Nat → Int32} {j : Nat} {v : Int32} : vwH (st2 h 5 j v) = vwH h := vwH_cong (fun k hk => st2_n (by omega)) (by rw [st2_n (by omega)])
theorem vwH_s6 {h : Nat → Nat → Int32} {j : Nat} {v : Int32} : vwH (st2 h 6 j v) = vwH h := vwH_cong (fun k hk => st2_n (by omega)) (by rw [st2_n (by omega)])
theorem vwH_s7 {h : Nat → Nat → Int32} {j : Nat} {v : Int32} : vwH (st2 h 7 j v) = vwH h := vwH_cong (fun k hk => st2_n (by omega)) (by rw [st2_n (by omega)])
theorem vwH_s8 {h : Nat → Nat → Int32} {v : Int32} : vwH (st2 h 8 1 v) = vwH h := vwH_cong (fun k hk => st2_n (by omega)) (by rw [st2_k]; rfl)
theorem vp_of_isT {x y : Int32} (e : x = y) (h : isT y) : vp_in x 12 := by rw [e, h.2]; exact vp_in_nI h.1 (by omega)
theorem isT_nI {x : Nat} (h : x < 12) : isT (nI x) := by unfold isT; rw [sN_nI (by omega)]; exact ⟨h, rfl⟩
def p_X4_bit (x : Nat) : Int32 := (1 : Int32) <<< ((nI x) &&& 31)
theorem pe_X4_bit (x : Nat) (hnx : x < 32) : p_X4_bit x = bm x := rfl
set_option maxHeartbeats 4000000 in
set_option maxRecDepth 100000 in
theorem c_X4_bit (l : Launch) (D : va_G) (cI cZ cB cR : ClassId) (x : Nat) (hnx : x < 32) : RO l yX4_bit wsX4_bit ({ frames := 0, cells := 0, slots := 0, locals := 0 } : Room) D cI cZ cB cR ([]) [.int (nI x)] (bm x) := by
  have hE : p_X4_bit x = bm x := pe_X4_bit x hnx
  refine Met.ofW (cc := cX4_bit) (maxL := 1) (ret := (some .int)) (by decide) rfl ?_
  intro p e s m args below meth c s₁ B hml hv
  obtain ⟨hargs, hP, hEV⟩ := hv
  have hx := B.exec
  have hb := B.bytes
  have hr := B.returns
  have hts := atoms_spec (ws := wsX4_bit) B.pre
  have hown : s.vm.findClass RX4 = some m.cls := findClass_of_methodNamed B.named
  have hlocks := B.notSynchronized
  have hK := hEV.1
  have hl := lv_entry ([.int (nI x)]) (n := 1) (Nat.le_of_ble_eq_true rfl)
  rw [show entryFrame m args 1 = entryFrame m ([.int (nI x)] : List Value).toArray 1 from by rw [hargs], lg_entry_eq]
  generalize (lg_sl ([.int (nI x)]) ++ List.replicate (1 - (lg_sl ([.int (nI x)])).length) Slot.unset).toArray = ls at hl ⊢
  have hl : lv_has ls 1 [(0, .int (nI x))] := hl
  rw [p_X4_bit] at hE
  refine lv_iconst (v := (1 : Int32)) hx hb dX4_bit_0 (by decide) ?_
  refine lv_iload_n hx hb dX4_bit_1 rfl (lv_at hl 0 rfl) ?_
  refine lv_ishl hx hb dX4_bit_2 ?_
  exact W.iret hx hb hr (fun t9 ht9 _ => ⟨_, rfl, hE, ht9⟩) (fun _ h9 => by cases h9) dX4_bit_3
def p_X4_contains (x : Int32) (y : Nat) : Int32 := if (x &&& ((1 : Int32) <<< ((nI y) &&& 31))) = (0 : Int32) then ((0 : Int32)) else ((1 : Int32))
theorem pe_X4_contains (x : Int32) (y : Nat) (hny : y < 32) : p_X4_contains x y = b2i (bt x y) := ite_b2i (has_eq hny)
set_option maxHeartbeats 4000000 in
set_option maxRecDepth 100000 in
theorem c_X4_contains (l : Launch) (D : va_G) (cI cZ cB cR : ClassId) (x : Int32) (y : Nat) (hny : y < 32) : RO l yX4_contains wsX4_contains ({ frames := 0, cells := 0, slots := 0, locals := 0 } : Room) D cI cZ cB cR ([]) [.int x, .int (nI y)] (b2i (bt x y)) := by
  have hE : p_X4_contains x y = b2i (bt x y) := pe_X4_contains x y hny
  refine Met.ofW (cc := cX4_contains) (maxL := 2) (ret := (some .boolean)) (by decide) rfl ?_
  intro p e s m args below meth c s₁ B hml hv
  obtain ⟨hargs, hP, hEV⟩ := hv
  have hx := B.exec
  have hb := B.bytes
  have hr := B.returns
  have hts := atoms_spec (ws := wsX4_contains) B.pre
  have hown : s.vm.findClass RX4 = some m.cls := findClass_of_methodNamed B.named
  have hlocks := B.notSynchronized
  have hK := hEV.1
  have hl := lv_entry ([.int x, .int (nI y)]) (n := 2) (Nat.le_of_ble_eq_true rfl)
  rw [show entryFrame m args 2 = entryFrame m ([.int x, .int (nI y)] : List Value).toArray 2 from by rw [hargs], lg_entry_eq]
  generalize (lg_sl ([.int x, .int (nI y)]) ++ List.replicate (2 - (lg_sl ([.int x, .int (nI y)])).length) Slot.unset).toArray = ls at hl ⊢
  have hl : lv_has ls 2 [(0, .int x), (1, .int (nI y))] := hl
  rw [p_X4_contains] at hE
  refine lv_iload_n hx hb dX4_contains_0 rfl (lv_at hl 0 rfl) ?_
  refine lv_iconst (v := (1 : Int32)) hx hb dX4_contains_1 (by decide) ?_
  refine lv_iload_n hx hb dX4_contains_2 rfl (lv_at hl 1 rfl) ?_
  refine lv_ishl hx hb dX4_contains_3 ?_
  refine lv_iand hx hb dX4_contains_4 ?_
  refine lv_if_eq (tgt := 12) hx hb dX4_contains_5 (by decide) (fun c_5 => ?_) (fun c_5 => ?_)
  · skip
    have hE := (if_pos c_5).symm.trans hE
    refine lv_iconst (v := (0 : Int32)) hx hb dX4_contains_12 (by decide) ?_
    exact W.zret hx hb hr rfl (fun t9 ht9 _ => ⟨_, rfl, hE, ht9⟩) (fun _ h9 => by cases h9) dX4_contains_13
  · skip
    have hE := (if_neg c_5).symm.trans hE
    refine lv_iconst (v := (1 : Int32)) hx hb dX4_contains_8 (by decide) ?_
    refine lv_goto (tgt := 13) hx hb dX4_contains_9 (by decide) ?_
    exact W.zret hx hb hr rfl (fun t9 ht9 _ => ⟨_, rfl, hE, ht9⟩) (fun _ h9 => by cases h9) dX4_contains_13
def p_X4_isWithin (x : Int32) (y : Int32) : Int32 := if x < (0 : Int32) then ((0 : Int32)) else (if y ≤ x then ((0 : Int32)) else ((1 : Int32)))
theorem pe_X4_isWithin (x : Int32) (y : Int32)  : p_X4_isWithin x y = b2i (wi x y) := by
  unfold p_X4_isWithin wi
  by_cases h1 : x < 0 <;> by_cases h2 : y ≤ x <;> simp [h1, h2, b2i]
set_option maxHeartbeats 4000000 in
set_option maxRecDepth 100000 in
theorem c_X4_isWithin (l : Launch) (D : va_G) (cI cZ cB cR : ClassId) (x : Int32) (y : Int32) : RO l yX4_isWithin wsX4_isWithin ({ frames := 0, cells := 0, slots := 0, locals := 0 } : Room) D cI cZ cB cR ([]) [.int x, .int y] (b2i (wi x y)) := by
  have hE : p_X4_isWithin x y = b2i (wi x y) := pe_X4_isWithin x y
  refine Met.ofW (cc := cX4_isWithin) (maxL := 2) (ret := (some .boolean)) (by decide) rfl ?_
  intro p e s m args below meth c s₁ B hml hv
  obtain ⟨hargs, hP, hEV⟩ := hv
  have hx := B.exec
  have hb := B.bytes
  have hr := B.returns
  have hts := atoms_spec (ws := wsX4_isWithin) B.pre
  have hown : s.vm.findClass RX4 = some m.cls := findClass_of_methodNamed B.named
  have hlocks := B.notSynchronized
  have hK := hEV.1
  have hl := lv_entry ([.int x, .int y]) (n := 2) (Nat.le_of_ble_eq_true rfl)
  rw [show entryFrame m args 2 = entryFrame m ([.int x, .int y] : List Value).toArray 2 from by rw [hargs], lg_entry_eq]
  generalize (lg_sl ([.int x, .int y]) ++ List.replicate (2 - (lg_sl ([.int x, .int y])).length) Slot.unset).toArray = ls at hl ⊢
  have hl : lv_has ls 2 [(0, .int x), (1, .int y)] := hl
  rw [p_X4_isWithin] at hE
  refine lv_iload_n hx hb dX4_isWithin_0 rfl (lv_at hl 0 rfl) ?_
  refine lv_if_lt (tgt := 13) hx hb dX4_isWithin_1 (by decide) (fun c_1 => ?_) (fun c_1 => ?_)
  · skip
    have hE := (if_pos c_1).symm.trans hE
    refine lv_iconst (v := (0 : Int32)) hx hb dX4_isWithin_13 (by decide) ?_
    exact W.zret hx hb hr rfl (fun t9 ht9 _ => ⟨_, rfl, hE, ht9⟩) (fun _ h9 => by cases h9) dX4_isWithin_14
  · skip
    have hE := (if_neg c_1).symm.trans hE
    refine lv_iload_n hx hb dX4_isWithin_4 rfl (lv_at hl 0 rfl) ?_
    refine lv_iload_n hx hb dX4_isWithin_5 rfl (lv_at hl 1 rfl) ?_
    refine lv_icmp_ge (tgt := 13) hx hb dX4_isWithin_6 (by decide) (fun c_6 => ?_) (fun c_6 => ?_)
    · skip
      have hE := (if_pos c_6).symm.trans hE
      refine lv_iconst (v := (0 : Int32)) hx hb dX4_isWithin_13 (by decide) ?_
      exact W.zret hx hb hr rfl (fun t9 ht9 _ => ⟨_, rfl, hE, ht9⟩) (fun _ h9 => by cases h9) dX4_isWithin_14
    · skip
      have hE := (if_neg c_6).symm.trans hE
      refine lv_iconst (v := (1 : Int32)) hx hb dX4_isWithin_9 (by decide) ?_
      refine lv_goto (tgt := 14) hx hb dX4_isWithin_10 (by decide) ?_
      exact W.zret hx hb hr rfl (fun t9 ht9 _ => ⟨_, rfl, hE, ht9⟩) (fun _ h9 => by cases h9) dX4_isWithin_14
def p_X4_isGood (x : Int32) : Int32 := b2i (wi x (64 : Int32))
theorem pe_X4_isGood (x : Int32)  : p_X4_isGood x = b2i (gd x) := rfl
set_option maxHeartbeats 4000000 in
set_option maxRecDepth 100000 in
theorem c_X4_isGood (l : Launch) (D : va_G) (cI cZ cB cR : ClassId) (x : Int32) : RO l yX4_isGood wsX4_isGood ({ frames := 1, cells := 0, slots := 0, locals := 21 } : Room) D cI cZ cB cR ([]) [.int x] (b2i (gd x)) := by
  have hE : p_X4_isGood x = b2i (gd x) := pe_X4_isGood x
  refine Met.ofW (cc := cX4_isGood) (maxL := 1) (ret := (some .boolean)) (by decide) rfl ?_
  intro p e s m args below meth c s₁ B hml hv
  obtain ⟨hargs, hP, hEV⟩ := hv
  have hx := B.exec
  have hb := B.bytes
  have hr := B.returns
  have hts := atoms_spec (ws := wsX4_isGood) B.pre
  have hown : s.vm.findClass RX4 = some m.cls := findClass_of_methodNamed B.named
  have hlocks := B.notSynchronized
  have hK := hEV.1
  have hl := lv_entry ([.int x]) (n := 1) (Nat.le_of_ble_eq_true rfl)
  rw [show entryFrame m args 1 = entryFrame m ([.int x] : List Value).toArray 1 from by rw [hargs], lg_entry_eq]
  generalize (lg_sl ([.int x]) ++ List.replicate (1 - (lg_sl ([.int x])).length) Slot.unset).toArray = ls at hl ⊢
  have hl : lv_has ls 1 [(0, .int x)] := hl
  rw [p_X4_isGood] at hE
  refine lv_iload_n hx hb dX4_isGood_0 rfl (lv_at hl 0 rfl) ?_
  refine lv_bipush (v := (64 : Int32)) hx hb dX4_isGood_1 (by decide) ?_
  refine ro_S [.int x, .int (64 : Int32)] [] ⟨hx, hb, hml, hown, hts⟩ (c_X4_isWithin l D cI cZ cB cR x (64 : Int32)) (va_cwS 2 hts (goodP (ps := [.methodLink RX4 34 yX4_isWithin, .static yX4_isWithin, .initialized RX4]) (all3 mw_1_56 mw_1_57 mw_1_1) mw_1_58) rfl rfl rfl (by decide +kernel) ⟨Nat.le_of_ble_eq_true rfl, Nat.le_of_ble_eq_true rfl⟩) hEV va_P0 rfl hl.1 rfl (Nat.le_of_ble_eq_true rfl) dX4_isGood_3 ⟨Nat.zero_le _, Nat.zero_le _⟩ ?_
  exact W.zret hx hb hr (b2i_nar _) (fun t9 ht9 _ => ⟨_, rfl, hE, ht9⟩) (fun _ h9 => by cases h9) dX4_isGood_6
def p_X4_isOrdinaryType (x : Int32) : Int32 := if x = (0 : Int32) then ((0 : Int32)) else (if (wi x (12 : Int32)) = true then ((1 : Int32)) else ((0 : Int32)))
theorem pe_X4_isOrdinaryType (x : Int32)  : p_X4_isOrdinaryType x = b2i (ot x) := by
  unfold p_X4_isOrdinaryType ot
  by_cases h1 : x = 0 <;> by_cases h2 : wi x 12 = true <;> simp [h1, h2, b2i]
set_option maxHeartbeats 4000000 in
set_option maxRecDepth 100000 in
theorem c_X4_isOrdinaryType (l : Launch) (D : va_G) (cI cZ cB cR : ClassId) (x : Int32) : RO l yX4_isOrdinaryType wsX4_isOrdinaryType ({ frames := 1, cells := 0, slots := 0, locals := 21 } : Room) D cI cZ cB cR ([]) [.int x] (b2i (ot x)) := by
  have hE : p_X4_isOrdinaryType x = b2i (ot x) := pe_X4_isOrdinaryType x
  refine Met.ofW (cc := cX4_isOrdinaryType) (maxL := 1) (ret := (some .boolean)) (by decide) rfl ?_
  intro p e s m args below meth c s₁ B hml hv
  obtain ⟨hargs, hP, hEV⟩ := hv
  have hx := B.exec
  have hb := B.bytes
  have hr := B.returns
  have hts := atoms_spec (ws := wsX4_isOrdinaryType) B.pre
  have hown : s.vm.findClass RX4 = some m.cls := findClass_of_methodNamed B.named
  have hlocks := B.notSynchronized
  have hK := hEV.1
  have hl := lv_entry ([.int x]) (n := 1) (Nat.le_of_ble_eq_true rfl)
  rw [show entryFrame m args 1 = entryFrame m ([.int x] : List Value).toArray 1 from by rw [hargs], lg_entry_eq]
  generalize (lg_sl ([.int x]) ++ List.replicate (1 - (lg_sl ([.int x])).length) Slot.unset).toArray = ls at hl ⊢
  have hl : lv_has ls 1 [(0, .int x)] := hl
  rw [p_X4_isOrdinaryType] at hE
  refine lv_iload_n hx hb dX4_isOrdinaryType_0 rfl (lv_at hl 0 rfl) ?_
  refine lv_if_eq (tgt := 17) hx hb dX4_isOrdinaryType_1 (by decide) (fun c_1 => ?_) (fun c_1 => ?_)
  · skip
    have hE := (if_pos c_1).symm.trans hE
    refine lv_iconst (v := (0 : Int32)) hx hb dX4_isOrdinaryType_17 (by decide) ?_
    exact W.zret hx hb hr rfl (fun t9 ht9 _ => ⟨_, rfl, hE, ht9⟩) (fun _ h9 => by cases h9) dX4_isOrdinaryType_18
  · skip
    have hE := (if_neg c_1).symm.trans hE
    refine lv_iload_n hx hb dX4_isOrdinaryType_4 rfl (lv_at hl 0 rfl) ?_
    refine lv_bipush (v := (12 : Int32)) hx hb dX4_isOrdinaryType_5 (by decide) ?_
    refine ro_S [.int x, .int (12 : Int32)] [] ⟨hx, hb, hml, hown, hts⟩ (c_X4_isWithin l D cI cZ cB cR x (12 : Int32)) (va_cwS 2 hts (goodP (ps := [.methodLink RX4 34 yX4_isWithin, .static yX4_isWithin, .initialized RX4]) (all3 mw_1_56 mw_1_57 mw_1_1) mw_1_58) rfl rfl rfl (by decide +kernel) ⟨Nat.le_of_ble_eq_true rfl, Nat.le_of_ble_eq_true rfl⟩) hEV va_P0 rfl hl.1 rfl (Nat.le_of_ble_eq_true rfl) dX4_isOrdinaryType_7 ⟨Nat.zero_le _, Nat.zero_le _⟩ ?_
    refine lv_if_eq (tgt := 17) hx hb dX4_isOrdinaryType_10 (by decide) (fun c_10 => ?_) (fun c_10 => ?_)
    · have c_10 : ¬ ((wi x (12 : Int32)) = true) := b2i_f c_10
      have hE := (if_neg c_10).symm.trans hE
      refine lv_iconst (v := (0 : Int32)) hx hb dX4_isOrdinaryType_17 (by decide) ?_
      exact W.zret hx hb hr rfl (fun t9 ht9 _ => ⟨_, rfl, hE, ht9⟩) (fun _ h9 => by cases h9) dX4_isOrdinaryType_18
    · have c_10 : (wi x (12 : Int32)) = true := b2i_t c_10
      have hE := (if_pos c_10).symm.trans hE
      refine lv_iconst (v := (1 : Int32)) hx hb dX4_isOrdinaryType_13 (by decide) ?_
      refine lv_goto (tgt := 18) hx hb dX4_isOrdinaryType_14 (by decide) ?_
      exact W.zret hx hb hr rfl (fun t9 ht9 _ => ⟨_, rfl, hE, ht9⟩) (fun _ h9 => by cases h9) dX4_isOrdinaryType_18
def p_X2_keyOf (x : Bool) (y : Int32) : Int32 := if x = true then ((15 : Int32) + y) else (y)
theorem pe_X2_keyOf (x : Bool) (y : Int32)  : p_X2_keyOf x y = kyF x y := rfl
set_option maxHeartbeats 4000000 in
set_option maxRecDepth 100000 in
theorem c_X2_keyOf (l : Launch) (D : va_G) (cI cZ cB cR : ClassId) (x : Bool) (y : Int32) : RO l yX2_keyOf wsX2_keyOf ({ frames := 0, cells := 0, slots := 0, locals := 0 } : Room) D cI cZ cB cR ([]) [.int (b2i x), .int y] (kyF x y) := by
  have hE : p_X2_keyOf x y = kyF x y := pe_X2_keyOf x y
  refine Met.ofW (cc := cX2_keyOf) (maxL := 2) (ret := (some .int)) (by decide) rfl ?_
  intro p e s m args below meth c s₁ B hml hv
  obtain ⟨hargs, hP, hEV⟩ := hv
  have hx := B.exec
  have hb := B.bytes
  have hr := B.returns
  have hts := atoms_spec (ws := wsX2_keyOf) B.pre
  have hown : s.vm.findClass RX2 = some m.cls := findClass_of_methodNamed B.named
  have hlocks := B.notSynchronized
  have hK := hEV.1
  have hl := lv_entry ([.int (b2i x), .int y]) (n := 2) (Nat.le_of_ble_eq_true rfl)
  rw [show entryFrame m args 2 = entryFrame m ([.int (b2i x), .int y] : List Value).toArray 2 from by rw [hargs], lg_entry_eq]
  generalize (lg_sl ([.int (b2i x), .int y]) ++ List.replicate (2 - (lg_sl ([.int (b2i x), .int y])).length) Slot.unset).toArray = ls at hl ⊢
  have hl : lv_has ls 2 [(0, .int (b2i x)), (1, .int y)] := hl
  rw [p_X2_keyOf] at hE
  refine lv_iload_n hx hb dX2_keyOf_0 rfl (lv_at hl 0 rfl) ?_
  refine lv_if_eq (tgt := 11) hx hb dX2_keyOf_1 (by decide) (fun c_1 => ?_) (fun c_1 => ?_)
  · have c_1 : ¬ (x = true) := b2i_f c_1
    have hE := (if_neg c_1).symm.trans hE
    refine lv_iload_n hx hb dX2_keyOf_11 rfl (lv_at hl 1 rfl) ?_
    exact W.iret hx hb hr (fun t9 ht9 _ => ⟨_, rfl, hE, ht9⟩) (fun _ h9 => by cases h9) dX2_keyOf_12
  · have c_1 : x = true := b2i_t c_1
    have hE := (if_pos c_1).symm.trans hE
    refine lv_bipush (v := (15 : Int32)) hx hb dX2_keyOf_4 (by decide) ?_
    refine lv_iload_n hx hb dX2_keyOf_6 rfl (lv_at hl 1 rfl) ?_
    refine lv_iadd hx hb dX2_keyOf_7 ?_
    refine lv_goto (tgt := 12) hx hb dX2_keyOf_8 (by decide) ?_
    exact W.iret hx hb hr (fun t9 ht9 _ => ⟨_, rfl, hE, ht9⟩) (fun _ h9 => by cases h9) dX2_keyOf_12
def p_X1_isThere (h : Nat → Nat → Int32) (τ : Nat → Nat → Int32) (x : Nat) : Int32 := b2i (bt (h 8 0) x)
theorem pe_X1_isThere (h : Nat → Nat → Int32) (τ : Nat → Nat → Int32) (x : Nat) (ok : OKB h τ) (hnx : x < 12) : p_X1_isThere h τ x = b2i (thB τ x) := congrArg b2i (ok.th hnx)
set_option maxHeartbeats 4000000 in
set_option maxRecDepth 100000 in
theorem c_X1_isThere (l : Launch) (D : va_G) (cI cZ cB cR : ClassId) (a : Nat → Nat) (h : Nat → Nat → Int32) (τ : Nat → Nat → Int32) (x : Nat) (ok : OKB h τ) (hnx : x < 12) : RO l yX1_isThere wsX1_isThere ({ frames := 1, cells := 0, slots := 0, locals := 21 } : Room) D cI cZ cB cR (wH cI a h) [.ref (a 0), .int (nI x)] (b2i (thB τ x)) := by
  have hE : p_X1_isThere h τ x = b2i (thB τ x) := pe_X1_isThere h τ x ok hnx
  refine Met.ofW (cc := cX1_isThere) (maxL := 2) (ret := (some .boolean)) (by decide) rfl ?_
  intro p e s m args below meth c s₁ B hml hv
  obtain ⟨hargs, hP, hEV⟩ := hv
  have hx := B.exec
  have hb := B.bytes
  have hr := B.returns
  have hts := atoms_spec (ws := wsX1_isThere) B.pre
  have hown : s.vm.findClass RX1 = some m.cls := findClass_of_methodNamed B.named
  have hlocks := B.notSynchronized
  have hK := hEV.1
  have hl := lv_entry ([.ref (a 0), .int (nI x)]) (n := 2) (Nat.le_of_ble_eq_true rfl)
  rw [show entryFrame m args 2 = entryFrame m ([.ref (a 0), .int (nI x)] : List Value).toArray 2 from by rw [hargs], lg_entry_eq]
  generalize (lg_sl ([.ref (a 0), .int (nI x)]) ++ List.replicate (2 - (lg_sl ([.ref (a 0), .int (nI x)])).length) Slot.unset).toArray = ls at hl ⊢
  have hl : lv_has ls 2 [(0, .ref (a 0)), (1, .int (nI x))] := hl
  rw [p_X1_isThere] at hE
  refine lv_aload_n hx hb dX1_isThere_0 rfl (lv_at hl 0 rfl) ?_
  refine va_get (D := D) (ci := 1) (v := .int (h 8 0)) (C := RX1) (T := TX1) (N := 10) hx hb hts (fun w9 h9 => List.mem_cons_of_mem _ (inT_X1 w9 h9)) hown hK hP 0 rfl rfl 0 (by decide) (hts (.fieldLink RX1 40 "LinkPredictor$Hierarchy" "there" "I") (List.mem_cons_of_mem _ mw_1_71)) (fun _ h9 => h9) rfl dX1_isThere_1 ?_
  refine lv_iload_n hx hb dX1_isThere_4 rfl (lv_at hl 1 rfl) ?_
  refine ro_SN [.int (h 8 0), .int (nI x)] [] ⟨hx, hb, hml, hown, hts⟩ (c_X4_contains l D cI cZ cB cR (h 8 0) x (by omega)) (va_cnB (host := "LinkPredictor") 2 hts (goodC mw_1_48) rfl rfl rfl (hEV.2 (.methodLinkNest RX1 57 yX4_contains "LinkPredictor") (by decide +kernel)) (hts (.initialized RX4) (List.mem_cons_of_mem _ mw_1_1)) (by decide +kernel) ⟨Nat.le_of_ble_eq_true rfl, Nat.le_of_ble_eq_true rfl⟩) (hts (.static yX4_contains) (List.mem_cons_of_mem _ mw_1_47)) hEV va_P0 rfl hl.1 rfl (Nat.le_of_ble_eq_true rfl) dX1_isThere_5 ⟨Nat.zero_le _, Nat.zero_le _⟩ ?_
  exact W.zret hx hb hr (b2i_nar _) (fun t9 ht9 _ => ⟨_, rfl, hE, ht9⟩) (fun _ h9 => by cases h9) dX1_isThere_8
def p_X1_isInterface (h : Nat → Nat → Int32) (τ : Nat → Nat → Int32) (x : Nat) : Int32 := if ((h 0 x) &&& (2 : Int32)) = (0 : Int32) then ((0 : Int32)) else ((1 : Int32))
theorem pe_X1_isInterface (h : Nat → Nat → Int32) (τ : Nat → Nat → Int32) (x : Nat) (ok : OKB h τ) (hnx : x < 12) : p_X1_isInterface h τ x = b2i (bt (τ 1 x) 1) := by rw [p_X1_isInterface, ok.fl hnx]; exact ite_b2i and2_eq
set_option maxHeartbeats 4000000 in
set_option maxRecDepth 100000 in
theorem c_X1_isInterface (l : Launch) (D : va_G) (cI cZ cB cR : ClassId) (a : Nat → Nat) (h : Nat → Nat → Int32) (τ : Nat → Nat → Int32) (x : Nat) (ok : OKB h τ) (hnx : x < 12) : RO l yX1_isInterface wsX1_isInterface ({ frames := 0, cells := 0, slots := 0, locals := 0 } : Room) D cI cZ cB cR (wH cI a h) [.ref (a 0), .int (nI x)] (b2i (bt (τ 1 x) 1)) := by
  have hE : p_X1_isInterface h τ x = b2i (bt (τ 1 x) 1) := pe_X1_isInterface h τ x ok hnx
  refine Met.ofW (cc := cX1_isInterface) (maxL := 2) (ret := (some .boolean)) (by decide) rfl ?_
  intro p e s m args below meth c s₁ B hml hv
  obtain ⟨hargs, hP, hEV⟩ := hv
  have hx := B.exec
  have hb := B.bytes
  have hr := B.returns
  have hts := atoms_spec (ws := wsX1_isInterface) B.pre
  have hown : s.vm.findClass RX1 = some m.cls := findClass_of_methodNamed B.named
  have hlocks := B.notSynchronized
  have hK := hEV.1
  have hl := lv_entry ([.ref (a 0), .int (nI x)]) (n := 2) (Nat.le_of_ble_eq_true rfl)
  rw [show entryFrame m args 2 = entryFrame m ([.ref (a 0), .int (nI x)] : List Value).toArray 2 from by rw [hargs], lg_entry_eq]
  generalize (lg_sl ([.ref (a 0), .int (nI x)]) ++ List.replicate (2 - (lg_sl ([.ref (a 0), .int (nI x)])).length) Slot.unset).toArray = ls at hl ⊢
  have hl : lv_has ls 2 [(0, .ref (a 0)), (1, .int (nI x))] := hl
  rw [p_X1_isInterface] at hE
  refine lv_aload_n hx hb dX1_isInterface_0 rfl (lv_at hl 0 rfl) ?_
  refine va_get (D := D) (ci := 1) (v := .ref (a 1)) (C := RX1) (T := TX1) (N := 10) hx hb hts (fun w9 h9 => List.mem_cons_of_mem _ (inT_X1 w9 h9)) hown hK hP 0 rfl rfl 1 (by decide) (hts (.fieldLink RX1 9 "LinkPredictor$Hierarchy" "flags" "[I") (List.mem_cons_of_mem _ mw_1_72)) (fun _ h9 => h9) rfl dX1_isInterface_1 ?_
  refine lv_iload_n hx hb dX1_isInterface_4 rfl (lv_at hl 1 rfl) ?_
  refine ro_ald hx hb hEV hP 1 (j := x) rfl (by omega) (by decide) dX1_isInterface_5 ?_
  refine lv_iconst (v := (2 : Int32)) hx hb dX1_isInterface_6 (by decide) ?_
  refine lv_iand hx hb dX1_isInterface_7 ?_
  refine lv_if_eq (tgt := 15) hx hb dX1_isInterface_8 (by decide) (fun c_8 => ?_) (fun c_8 => ?_)
  · skip
    have hE := (if_pos c_8).symm.trans hE
    refine lv_iconst (v := (0 : Int32)) hx hb dX1_isInterface_15 (by decide) ?_
    exact W.zret hx hb hr rfl (fun t9 ht9 _ => ⟨_, rfl, hE, ht9⟩) (fun _ h9 => by cases h9) dX1_isInterface_16
  · skip
    have hE := (if_neg c_8).symm.trans hE
    refine lv_iconst (v := (1 : Int32)) hx hb dX1_isInterface_11 (by decide) ?_
    refine lv_goto (tgt := 16) hx hb dX1_isInterface_12 (by decide) ?_
    exact W.zret hx hb hr rfl (fun t9 ht9 _ => ⟨_, rfl, hE, ht9⟩) (fun _ h9 => by cases h9) dX1_isInterface_16
def p_X1_canBeMade (h : Nat → Nat → Int32) (τ : Nat → Nat → Int32) (x : Nat) : Int32 := if ((h 0 x) &&& (6 : Int32)) = (0 : Int32) then ((1 : Int32)) else ((0 : Int32))
theorem pe_X1_canBeMade (h : Nat → Nat → Int32) (τ : Nat → Nat → Int32) (x : Nat) (ok : OKB h τ) (hnx : x < 12) : p_X1_canBeMade h τ x = b2i (!(bt (τ 1 x) 1 || bt (τ 1 x) 2)) := by
  rw [p_X1_canBeMade, ok.fl hnx]
  by_cases q : τ 1 x &&& 6 = 0
  · have := and6_eq.mp q
    simp only [not_or, Bool.not_eq_true] at this
    simp [q, this.1, this.2, b2i]
  · have e : bt (τ 1 x) 1 = true ∨ bt (τ 1 x) 2 = true := Classical.byContradiction (fun z => q (and6_eq.mpr z))
    rcases e with e | e <;> simp [q, e, b2i]
set_option maxHeartbeats 4000000 in
set_option maxRecDepth 100000 in
theorem c_X1_canBeMade (l : Launch) (D : va_G) (cI cZ cB cR : ClassId) (a : Nat → Nat) (h : Nat → Nat → Int32) (τ : Nat → Nat → Int32) (x : Nat) (ok : OKB h τ) (hnx : x < 12) : RO l yX1_canBeMade wsX1_canBeMade ({ frames := 0, cells := 0, slots := 0, locals := 0 } : Room) D cI cZ cB cR (wH cI a h) [.ref (a 0), .int (nI x)] (b2i (!(bt (τ 1 x) 1 || bt (τ 1 x) 2))) := by
  have hE : p_X1_canBeMade h τ x = b2i (!(bt (τ 1 x) 1 || bt (τ 1 x) 2)) := pe_X1_canBeMade h τ x ok hnx
  refine Met.ofW (cc := cX1_canBeMade) (maxL := 2) (ret := (some .boolean)) (by decide) rfl ?_
  intro p e s m args below meth c s₁ B hml hv
  obtain ⟨hargs, hP, hEV⟩ := hv
  have hx := B.exec
  have hb := B.bytes
  have hr := B.returns
  have hts := atoms_spec (ws := wsX1_canBeMade) B.pre
  have hown : s.vm.findClass RX1 = some m.cls := findClass_of_methodNamed B.named
  have hlocks := B.notSynchronized
  have hK := hEV.1
  have hl := lv_entry ([.ref (a 0), .int (nI x)]) (n := 2) (Nat.le_of_ble_eq_true rfl)
  rw [show entryFrame m args 2 = entryFrame m ([.ref (a 0), .int (nI x)] : List Value).toArray 2 from by rw [hargs], lg_entry_eq]
  generalize (lg_sl ([.ref (a 0), .int (nI x)]) ++ List.replicate (2 - (lg_sl ([.ref (a 0), .int (nI x)])).length) Slot.unset).toArray = ls at hl ⊢
  have hl : lv_has ls 2 [(0, .ref (a 0)), (1, .int (nI x))] := hl
  rw [p_X1_canBeMade] at hE
  refine lv_aload_n hx hb dX1_canBeMade_0 rfl (lv_at hl 0 rfl) ?_
  refine va_get (D := D) (ci := 1) (v := .ref (a 1)) (C := RX1) (T := TX1) (N := 10) hx hb hts (fun w9 h9 => List.mem_cons_of_mem _ (inT_X1 w9 h9)) hown hK hP 0 rfl rfl 1 (by decide) (hts (.fieldLink RX1 9 "LinkPredictor$Hierarchy" "flags" "[I") (List.mem_cons_of_mem _ mw_1_72)) (fun _ h9 => h9) rfl dX1_canBeMade_1 ?_
  refine lv_iload_n hx hb dX1_canBeMade_4 rfl (lv_at hl 1 rfl) ?_
  refine ro_ald hx hb hEV hP 1 (j := x) rfl (by omega) (by decide) dX1_canBeMade_5 ?_
  refine lv_bipush (v := (6 : Int32)) hx hb dX1_canBeMade_6 (by decide) ?_
  refine lv_iand hx hb dX1_canBeMade_8 ?_
  refine lv_if_ne (tgt := 16) hx hb dX1_canBeMade_9 (by decide) (fun c_9 => ?_) (fun c_9 => ?_)
  · skip
    have hE := (if_neg c_9).symm.trans hE
    refine lv_iconst (v := (0 : Int32)) hx hb dX1_canBeMade_16 (by decide) ?_
    exact W.zret hx hb hr rfl (fun t9 ht9 _ => ⟨_, rfl, hE, ht9⟩) (fun _ h9 => by cases h9) dX1_canBeMade_17
  · skip
    have hE := (if_pos c_9).symm.trans hE
    refine lv_iconst (v := (1 : Int32)) hx hb dX1_canBeMade_12 (by decide) ?_
    refine lv_goto (tgt := 17) hx hb dX1_canBeMade_13 (by decide) ?_
    exact W.zret hx hb hr rfl (fun t9 ht9 _ => ⟨_, rfl, hE, ht9⟩) (fun _ h9 => by cases h9) dX1_canBeMade_17
def p_X1_superOf (h : Nat → Nat → Int32) (τ : Nat → Nat → Int32) (x : Nat) : Int32 := h 2 x
theorem pe_X1_superOf (h : Nat → Nat → Int32) (τ : Nat → Nat → Int32) (x : Nat) (ok : OKB h τ) (hnx : x < 12) : p_X1_superOf h τ x = τ 3 x := ok.su hnx
set_option maxHeartbeats 4000000 in
set_option maxRecDepth 100000 in
theorem c_X1_superOf (l : Launch) (D : va_G) (cI cZ cB cR : ClassId) (a : Nat → Nat) (h : Nat → Nat → Int32) (τ : Nat → Nat → Int32) (x : Nat) (ok : OKB h τ) (hnx : x < 12) : RO l yX1_superOf wsX1_superOf ({ frames := 0, cells := 0, slots := 0, locals := 0 } : Room) D cI cZ cB cR (wH cI a h) [.ref (a 0), .int (nI x)] (τ 3 x) := by
  have hE : p_X1_superOf h τ x = τ 3 x := pe_X1_superOf h τ x ok hnx
  refine Met.ofW (cc := cX1_superOf) (maxL := 2) (ret := (some .int)) (by decide) rfl ?_
  intro p e s m args below meth c s₁ B hml hv
  obtain ⟨hargs, hP, hEV⟩ := hv
  have hx := B.exec
  have hb := B.bytes
  have hr := B.returns
  have hts := atoms_spec (ws := wsX1_superOf) B.pre
  have hown : s.vm.findClass RX1 = some m.cls := findClass_of_methodNamed B.named
  have hlocks := B.notSynchronized
  have hK := hEV.1
  have hl := lv_entry ([.ref (a 0), .int (nI x)]) (n := 2) (Nat.le_of_ble_eq_true rfl)
  rw [show entryFrame m args 2 = entryFrame m ([.ref (a 0), .int (nI x)] : List Value).toArray 2 from by rw [hargs], lg_entry_eq]
  generalize (lg_sl ([.ref (a 0), .int (nI x)]) ++ List.replicate (2 - (lg_sl ([.ref (a 0), .int (nI x)])).length) Slot.unset).toArray = ls at hl ⊢
  have hl : lv_has ls 2 [(0, .ref (a 0)), (1, .int (nI x))] := hl
  rw [p_X1_superOf] at hE
  refine lv_aload_n hx hb dX1_superOf_0 rfl (lv_at hl 0 rfl) ?_
  refine va_get (D := D) (ci := 1) (v := .ref (a 3)) (C := RX1) (T := TX1) (N := 10) hx hb hts (fun w9 h9 => List.mem_cons_of_mem _ (inT_X1 w9 h9)) hown hK hP 0 rfl rfl 3 (by decide) (hts (.fieldLink RX1 18 "LinkPredictor$Hierarchy" "supers" "[I") (List.mem_cons_of_mem _ mw_1_74)) (fun _ h9 => h9) rfl dX1_superOf_1 ?_
  refine lv_iload_n hx hb dX1_superOf_4 rfl (lv_at hl 1 rfl) ?_
  refine ro_ald hx hb hEV hP 3 (j := x) rfl (by omega) (by decide) dX1_superOf_5 ?_
  exact W.iret hx hb hr (fun t9 ht9 _ => ⟨_, rfl, hE, ht9⟩) (fun _ h9 => by cases h9) dX1_superOf_6
def p_X1_directFacesOf (h : Nat → Nat → Int32) (τ : Nat → Nat → Int32) (x : Nat) : Int32 := h 3 x
theorem pe_X1_directFacesOf (h : Nat → Nat → Int32) (τ : Nat → Nat → Int32) (x : Nat) (ok : OKB h τ) (hnx : x < 12) : p_X1_directFacesOf h τ x = τ 4 x := ok.fa hnx
set_option maxHeartbeats 4000000 in
set_option maxRecDepth 100000 in
theorem c_X1_directFacesOf (l : Launch) (D : va_G) (cI cZ cB cR : ClassId) (a : Nat → Nat) (h : Nat → Nat → Int32) (τ : Nat → Nat → Int32) (x : Nat) (ok : OKB h τ) (hnx : x < 12) : RO l yX1_directFacesOf wsX1_directFacesOf ({ frames := 0, cells := 0, slots := 0, locals := 0 } : Room) D cI cZ cB cR (wH cI a h) [.ref (a 0), .int (nI x)] (τ 4 x) := by
  have hE : p_X1_directFacesOf h τ x = τ 4 x := pe_X1_directFacesOf h τ x ok hnx
  refine Met.ofW (cc := cX1_directFacesOf) (maxL := 2) (ret := (some .int)) (by decide) rfl ?_
  intro p e s m args below meth c s₁ B hml hv
  obtain ⟨hargs, hP, hEV⟩ := hv
  have hx := B.exec
  have hb := B.bytes
  have hr := B.returns
  have hts := atoms_spec (ws := wsX1_directFacesOf) B.pre
  have hown : s.vm.findClass RX1 = some m.cls := findClass_of_methodNamed B.named
  have hlocks := B.notSynchronized
  have hK := hEV.1
  have hl := lv_entry ([.ref (a 0), .int (nI x)]) (n := 2) (Nat.le_of_ble_eq_true rfl)
  rw [show entryFrame m args 2 = entryFrame m ([.ref (a 0), .int (nI x)] : List Value).toArray 2 from by rw [hargs], lg_entry_eq]
  generalize (lg_sl ([.ref (a 0), .int (nI x)]) ++ List.replicate (2 - (lg_sl ([.ref (a 0), .int (nI x)])).length) Slot.unset).toArray = ls at hl ⊢
  have hl : lv_has ls 2 [(0, .ref (a 0)), (1, .int (nI x))] := hl
  rw [p_X1_directFacesOf] at hE
  refine lv_aload_n hx hb dX1_directFacesOf_0 rfl (lv_at hl 0 rfl) ?_
  refine va_get (D := D) (ci := 1) (v := .ref (a 4)) (C := RX1) (T := TX1) (N := 10) hx hb hts (fun w9 h9 => List.mem_cons_of_mem _ (inT_X1 w9 h9)) hown hK hP 0 rfl rfl 4 (by decide) (hts (.fieldLink RX1 21 "LinkPredictor$Hierarchy" "directFaces" "[I") (List.mem_cons_of_mem _ mw_1_75)) (fun _ h9 => h9) rfl dX1_directFacesOf_1 ?_
  refine lv_iload_n hx hb dX1_directFacesOf_4 rfl (lv_at hl 1 rfl) ?_
  refine ro_ald hx hb hEV hP 4 (j := x) rfl (by omega) (by decide) dX1_directFacesOf_5 ?_
  exact W.iret hx hb hr (fun t9 ht9 _ => ⟨_, rfl, hE, ht9⟩) (fun _ h9 => by cases h9) dX1_directFacesOf_6
def p_X1_isSamePackage (h : Nat → Nat → Int32) (τ : Nat → Nat → Int32) (x : Nat) (y : Nat) : Int32 := if (h 1 x) = (h 1 y) then ((1 : Int32)) else ((0 : Int32))
theorem pe_X1_isSamePackage (h : Nat → Nat → Int32) (τ : Nat → Nat → Int32) (x : Nat) (y : Nat) (ok : OKB h τ) (hnx : x < 12) (hny : y < 12) : p_X1_isSamePackage h τ x y = b2i (decide (τ 2 x = τ 2 y)) := by rw [p_X1_isSamePackage, ok.pk hnx, ok.pk hny]; exact ite_b2i' (by simp)
set_option maxHeartbeats 4000000 in
set_option maxRecDepth 100000 in
theorem c_X1_isSamePackage (l : Launch) (D : va_G) (cI cZ cB cR : ClassId) (a : Nat → Nat) (h : Nat → Nat → Int32) (τ : Nat → Nat → Int32) (x : Nat) (y : Nat) (ok : OKB h τ) (hnx : x < 12) (hny : y < 12) : RO l yX1_isSamePackage wsX1_isSamePackage ({ frames := 0, cells := 0, slots := 0, locals := 0 } : Room) D cI cZ cB cR (wH cI a h) [.ref (a 0), .int (nI x), .int (nI y)] (b2i (decide (τ 2 x = τ 2 y))) := by
  have hE : p_X1_isSamePackage h τ x y = b2i (decide (τ 2 x = τ 2 y)) := pe_X1_isSamePackage h τ x y ok hnx hny
  refine Met.ofW (cc := cX1_isSamePackage) (maxL := 3) (ret := (some .boolean)) (by decide) rfl ?_
  intro p e s m args below meth c s₁ B hml hv
  obtain ⟨hargs, hP, hEV⟩ := hv
  have hx := B.exec
  have hb := B.bytes
  have hr := B.returns
  have hts := atoms_spec (ws := wsX1_isSamePackage) B.pre
  have hown : s.vm.findClass RX1 = some m.cls := findClass_of_methodNamed B.named
  have hlocks := B.notSynchronized
  have hK := hEV.1
  have hl := lv_entry ([.ref (a 0), .int (nI x), .int (nI y)]) (n := 3) (Nat.le_of_ble_eq_true rfl)
  rw [show entryFrame m args 3 = entryFrame m ([.ref (a 0), .int (nI x), .int (nI y)] : List Value).toArray 3 from by rw [hargs], lg_entry_eq]
  generalize (lg_sl ([.ref (a 0), .int (nI x), .int (nI y)]) ++ List.replicate (3 - (lg_sl ([.ref (a 0), .int (nI x), .int (nI y)])).length) Slot.unset).toArray = ls at hl ⊢
  have hl : lv_has ls 3 [(0, .ref (a 0)), (1, .int (nI x)), (2, .int (nI y))] := hl
  rw [p_X1_isSamePackage] at hE
  refine lv_aload_n hx hb dX1_isSamePackage_0 rfl (lv_at hl 0 rfl) ?_
  refine va_get (D := D) (ci := 1) (v := .ref (a 2)) (C := RX1) (T := TX1) (N := 10) hx hb hts (fun w9 h9 => List.mem_cons_of_mem _ (inT_X1 w9 h9)) hown hK hP 0 rfl rfl 2 (by decide) (hts (.fieldLink RX1 15 "LinkPredictor$Hierarchy" "packs" "[I") (List.mem_cons_of_mem _ mw_1_73)) (fun _ h9 => h9) rfl dX1_isSamePackage_1 ?_
  refine lv_iload_n hx hb dX1_isSamePackage_4 rfl (lv_at hl 1 rfl) ?_
  refine ro_ald hx hb hEV hP 2 (j := x) rfl (by omega) (by decide) dX1_isSamePackage_5 ?_
  refine lv_aload_n hx hb dX1_isSamePackage_6 rfl (lv_at hl 0 rfl) ?_
  refine va_get (D := D) (ci := 1) (v := .ref (a 2)) (C := RX1) (T := TX1) (N := 10) hx hb hts (fun w9 h9 => List.mem_cons_of_mem _ (inT_X1 w9 h9)) hown hK hP 0 rfl rfl 2 (by decide) (hts (.fieldLink RX1 15 "LinkPredictor$Hierarchy" "packs" "[I") (List.mem_cons_of_mem _ mw_1_73)) (fun _ h9 => h9) rfl dX1_isSamePackage_7 ?_
  refine lv_iload_n hx hb dX1_isSamePackage_10 rfl (lv_at hl 2 rfl) ?_
  refine ro_ald hx hb hEV hP 2 (j := y) rfl (by omega) (by decide) dX1_isSamePackage_11 ?_
  refine lv_icmp_ne (tgt := 19) hx hb dX1_isSamePackage_12 (by decide) (fun c_12 => ?_) (fun c_12 => ?_)
  · skip
    have hE := (if_neg c_12).symm.trans hE
    refine lv_iconst (v := (0 : Int32)) hx hb dX1_isSamePackage_19 (by decide) ?_
    exact W.zret hx hb hr rfl (fun t9 ht9 _ => ⟨_, rfl, hE, ht9⟩) (fun _ h9 => by cases h9) dX1_isSamePackage_20
  · skip
    have hE := (if_pos c_12).symm.trans hE
    refine lv_iconst (v := (1 : Int32)) hx hb dX1_isSamePackage_15 (by decide) ?_
    refine lv_goto (tgt := 20) hx hb dX1_isSamePackage_16 (by decide) ?_
    exact W.zret hx hb hr rfl (fun t9 ht9 _ => ⟨_, rfl, hE, ht9⟩) (fun _ h9 => by cases h9) dX1_isSamePackage_20
