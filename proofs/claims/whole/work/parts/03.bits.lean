/-! ===== Int32 by its bits: bt x i ===== -/
def bt (x : Int32) (i : Nat) : Bool := x.toBitVec.getLsbD i
theorem b_ext {x y : Int32} (h : ∀ i, i < 32 → bt x i = bt y i) : x = y := Int32.toBitVec_inj.mp (BitVec.eq_of_getLsbD_eq (fun i hi => h i hi))
theorem b_or (x y : Int32) (i : Nat) : bt (x ||| y) i = (bt x i || bt y i) := by unfold bt; rw [Int32.toBitVec_or, BitVec.getLsbD_or]
theorem b_and (x y : Int32) (i : Nat) : bt (x &&& y) i = (bt x i && bt y i) := by unfold bt; rw [Int32.toBitVec_and, BitVec.getLsbD_and]
theorem b_xor (x y : Int32) (i : Nat) : bt (x ^^^ y) i = (bt x i ^^ bt y i) := by unfold bt; rw [Int32.toBitVec_xor, BitVec.getLsbD_xor]
theorem b_big {x : Int32} {i : Nat} (h : 32 ≤ i) : bt x i = false := BitVec.getLsbD_of_ge _ _ h
theorem b_255 (i : Nat) : bt 255 i = decide (i < 8) := by
  rcases Nat.lt_or_ge i 32 with h | h
  · exact (by decide +kernel : ∀ i, i < 32 → bt 255 i = decide (i < 8)) i h
  · rw [b_big h, decide_eq_false (by omega)]
theorem b_65535 (i : Nat) : bt 65535 i = decide (i < 16) := by
  rcases Nat.lt_or_ge i 32 with h | h
  · exact (by decide +kernel : ∀ i, i < 32 → bt 65535 i = decide (i < 16)) i h
  · rw [b_big h, decide_eq_false (by omega)]
theorem b_m1 : ∀ i, i < 32 → bt (-1) i = true := by decide +kernel
theorem b_0 (i : Nat) : bt 0 i = false := BitVec.getLsbD_zero
theorem s_l : ∀ n, n < 32 → ((nI n &&& 31).toBitVec.smod 32).toNat = n := by decide +kernel
theorem s_u : ∀ n, n < 32 → (((nI n).toUInt32 &&& Int32.toUInt32 31).toBitVec % 32).toNat = n := by decide +kernel
theorem b_shl (n : Nat) (hn : n < 32) (x : Int32) {i : Nat} (hi : i < 32) : bt (x <<< (nI n &&& 31)) i = (decide (n ≤ i) && bt x (i - n)) := by
  unfold bt
  rw [Int32.toBitVec_shiftLeft]
  show (x.toBitVec <<< ((nI n &&& 31).toBitVec.smod 32).toNat).getLsbD i = _
  rw [s_l n hn, BitVec.getLsbD_shiftLeft]
  rcases Nat.lt_or_ge i n with h | h
  · simp [h, Nat.not_le.mpr h]
  · simp [hi, h, Nat.not_lt.mpr h]
theorem b_ushr (n : Nat) (hn : n < 32) (x : Int32) (i : Nat) : bt ((x.toUInt32 >>> ((nI n).toUInt32 &&& Int32.toUInt32 31)).toInt32) i = bt x (n + i) := by
  show (x.toUInt32 >>> ((nI n).toUInt32 &&& Int32.toUInt32 31)).toBitVec.getLsbD i = x.toUInt32.toBitVec.getLsbD (n + i)
  rw [UInt32.toBitVec_shiftRight]
  show (x.toUInt32.toBitVec >>> (((nI n).toUInt32 &&& Int32.toUInt32 31).toBitVec % 32).toNat).getLsbD i = _
  rw [s_u n hn, BitVec.getLsbD_ushiftRight]
theorem b_sshr (n : Nat) (hn : n < 32) (x : Int32) {i : Nat} (hi : i < 32) : bt (x >>> (nI n &&& 31)) i = if n + i < 32 then bt x (n + i) else bt x 31 := by
  unfold bt
  rw [Int32.toBitVec_shiftRight]
  show (x.toBitVec.sshiftRight ((nI n &&& 31).toBitVec.smod 32).toNat).getLsbD i = _
  rw [s_l n hn, BitVec.getLsbD_sshiftRight, BitVec.msb_eq_getLsbD_last]
  simp [hi]
theorem b_shl8 (x : Int32) {i : Nat} (hi : i < 32) : bt (x <<< ((8 : Int32) &&& 31)) i = (decide (8 ≤ i) && bt x (i - 8)) := b_shl 8 (by omega) x hi
theorem b_shl16 (x : Int32) {i : Nat} (hi : i < 32) : bt (x <<< ((16 : Int32) &&& 31)) i = (decide (16 ≤ i) && bt x (i - 16)) := b_shl 16 (by omega) x hi
theorem b_shl24 (x : Int32) {i : Nat} (hi : i < 32) : bt (x <<< ((24 : Int32) &&& 31)) i = (decide (24 ≤ i) && bt x (i - 24)) := b_shl 24 (by omega) x hi
theorem b_sshr8 (x : Int32) {i : Nat} (hi : i < 32) : bt (x >>> ((8 : Int32) &&& 31)) i = if 8 + i < 32 then bt x (8 + i) else bt x 31 := b_sshr 8 (by omega) x hi
/-! ===== one bit, masks, ranges ===== -/
theorem Int32_and_comm (x y : Int32) : x &&& y = y &&& x := b_ext (fun i _ => by rw [b_and, b_and, Bool.and_comm])
/-- the mask of one bit -/
def bm (t : Nat) : Int32 := (1 : Int32) <<< (nI t &&& 31)
theorem b_1 : ∀ i, i < 32 → bt 1 i = decide (i = 0) := by decide +kernel
theorem b_bm {t i : Nat} (ht : t < 32) (hi : i < 32) : bt (bm t) i = decide (i = t) := by
  unfold bm
  rw [b_shl t ht 1 hi]
  rcases Nat.lt_or_ge i t with h | h
  · simp [Nat.not_le.mpr h, Nat.ne_of_lt h]
  · rw [b_1 (i - t) (by omega)]
    by_cases e : i = t
    · subst e; simp
    · have : ¬ i - t = 0 := by omega
      simp [e, this]
theorem b_ne0 {x : Int32} (h : ¬ x = 0) : ∃ i, i < 32 ∧ bt x i = true := by
  apply Classical.byContradiction
  intro n
  apply h
  apply b_ext
  intro i hi
  rw [b_0]
  cases e : bt x i with
  | false => rfl
  | true => exact absurd ⟨i, hi, e⟩ n
theorem has_eq {x : Int32} {t : Nat} (ht : t < 32) : x &&& bm t = 0 ↔ ¬ (bt x t = true) := by
  constructor
  · intro h e
    have := b_and x (bm t) t
    rw [h, b_0, e, b_bm ht ht] at this
    simp at this
  · intro h
    apply Classical.byContradiction
    intro n
    obtain ⟨i, hi, e⟩ := b_ne0 n
    rw [b_and, b_bm ht hi] at e
    simp at e
    exact h (by rw [← e.2]; exact e.1)
theorem shr_eq {x : Int32} {t : Nat} (ht : t < 32) : (x >>> (nI t &&& 31)) &&& 1 = 1 ↔ bt x t = true := by
  have h0 : bt (x >>> (nI t &&& 31)) 0 = bt x t := by rw [b_sshr t ht x (by omega), if_pos (by omega)]; rfl
  constructor
  · intro h
    have := b_and (x >>> (nI t &&& 31)) 1 0
    rw [h, b_1 0 (by omega), h0] at this
    simpa using this.symm
  · intro h
    apply b_ext
    intro i hi
    rw [b_and, b_1 i hi]
    by_cases e : i = 0
    · subst e; rw [h0, h]; rfl
    · simp [e]
theorem b_2 : ∀ i, i < 32 → bt 2 i = decide (i = 1) := by decide +kernel
theorem b_4 : ∀ i, i < 32 → bt 4 i = decide (i = 2) := by decide +kernel
theorem b_6 : ∀ i, i < 32 → bt 6 i = (decide (i = 1) || decide (i = 2)) := by decide +kernel
theorem b_10 : ∀ i, i < 32 → bt 10 i = (decide (i = 1) || decide (i = 3)) := by decide +kernel
theorem and1_eq {x : Int32} : x &&& 1 = 0 ↔ ¬ (bt x 0 = true) := has_eq (t := 0) (by omega)
theorem and2_eq {x : Int32} : x &&& 2 = 0 ↔ ¬ (bt x 1 = true) := has_eq (t := 1) (by omega)
theorem and4_eq {x : Int32} : x &&& 4 = 0 ↔ ¬ (bt x 2 = true) := has_eq (t := 2) (by omega)
theorem and6_eq {x : Int32} : x &&& 6 = 0 ↔ ¬ (bt x 1 = true ∨ bt x 2 = true) := by
  constructor
  · intro h e
    rcases e with e | e
    · have := b_and x 6 1
      rw [h, b_0, e, b_6 1 (by omega)] at this; simp at this
    · have := b_and x 6 2
      rw [h, b_0, e, b_6 2 (by omega)] at this; simp at this
  · intro h
    apply Classical.byContradiction
    intro n
    obtain ⟨i, hi, e⟩ := b_ne0 n
    rw [b_and, b_6 i hi] at e
    simp at e
    rcases e.2 with q | q
    · exact h (Or.inl (by rw [← q]; exact e.1))
    · exact h (Or.inr (by rw [← q]; exact e.1))
theorem and10_eq {x : Int32} : x &&& 10 = 0 ↔ ¬ (bt x 1 = true ∨ bt x 3 = true) := by
  constructor
  · intro h e
    rcases e with e | e
    · have := b_and x 10 1
      rw [h, b_0, e, b_10 1 (by omega)] at this; simp at this
    · have := b_and x 10 3
      rw [h, b_0, e, b_10 3 (by omega)] at this; simp at this
  · intro h
    apply Classical.byContradiction
    intro n
    obtain ⟨i, hi, e⟩ := b_ne0 n
    rw [b_and, b_10 i hi] at e
    simp at e
    rcases e.2 with q | q
    · exact h (Or.inl (by rw [← q]; exact e.1))
    · exact h (Or.inr (by rw [← q]; exact e.1))
/-- a number is in its range -/
def wi (x b : Int32) : Bool := !decide (x < 0) && !decide (b ≤ x)
theorem wi_iff {x b : Int32} : wi x b = true ↔ ¬ x < 0 ∧ ¬ b ≤ x := by
  unfold wi
  rw [Bool.and_eq_true, Bool.not_eq_true', Bool.not_eq_true', decide_eq_false_iff_not, decide_eq_false_iff_not]
theorem wi_of {x : Int32} {b : Nat} (hb : b < 2 ^ 31) (h : wi x (nI b) = true) : ∃ j : Nat, j < b ∧ x = nI j := by
  obtain ⟨h1, h2⟩ := wi_iff.mp h
  obtain ⟨j, hj, e⟩ := nI_of h1
  refine ⟨j, ?_, e⟩
  rcases Nat.lt_or_ge j b with q | q
  · exact q
  · exact absurd (show nI b ≤ x by rw [e]; exact nI_le q hj) h2
theorem wi_nI {j b : Nat} (hj : j < 2 ^ 31) (hb : b < 2 ^ 31) : wi (nI j) (nI b) = decide (j < b) := by
  have h1 : ¬ nI j < 0 := nI_pos hj
  by_cases h : j < b
  · have h2 : ¬ nI b ≤ nI j := nI_ge h hb
    simp [wi, h1, h2, h]
  · have h2 : nI b ≤ nI j := nI_le (by omega) hj
    simp [wi, h1, h2, h]
/-- a verdict that is good -/
def gd (v : Int32) : Bool := wi v 64
/-- a type's number but the root's -/
def ot (t : Int32) : Bool := !decide (t = 0) && wi t 12
theorem ite_b2i {c : Prop} {i : Decidable c} {b : Bool} (h : c ↔ ¬ (b = true)) : (if c then (0 : Int32) else 1) = b2i b := by
  by_cases q : c
  · rw [if_pos q]; have := h.mp q; cases b with | true => exact absurd rfl this | false => rfl
  · rw [if_neg q]; cases b with | true => rfl | false => exact absurd (h.mpr (by decide)) q
theorem ite_b2i' {c : Prop} {i : Decidable c} {b : Bool} (h : c ↔ b = true) : (if c then (1 : Int32) else 0) = b2i b := by
  by_cases q : c
  · rw [if_pos q, h.mp q]; rfl
  · rw [if_neg q]; cases b with | true => exact absurd (h.mpr rfl) q | false => rfl
