/-! ===== how many bits ===== -/
theorem andB {a b q r : Nat} (ha : a < 256) (hb : b < 256) : (a + 256 * q) &&& (b + 256 * r) = (a &&& b) + 256 * (q &&& r) := by
  have h1 := Nat.and_mod_two_pow (a := a + 256 * q) (b := b + 256 * r) (n := 8)
  have h2 := Nat.and_div_two_pow (a := a + 256 * q) (b := b + 256 * r) (n := 8)
  have e1 : (a + 256 * q) % 2 ^ 8 = a := by omega
  have e2 : (b + 256 * r) % 2 ^ 8 = b := by omega
  have e3 : (a + 256 * q) / 2 ^ 8 = q := by omega
  have e4 : (b + 256 * r) / 2 ^ 8 = r := by omega
  rw [e1, e2] at h1
  rw [e3, e4] at h2
  omega
def s1 (b : Nat) : Nat := b - ((b / 2) &&& 85)
def s2 (b : Nat) : Nat := (s1 b &&& 51) + ((s1 b / 4) &&& 51)
def s3 (b : Nat) : Nat := (s2 b + s2 b / 16) &&& 15
theorem f1 : ∀ b, b < 256 → ((b / 2) &&& 85) ≤ b ∧ s1 b < 256 ∧ s2 b ≤ 68 ∧ s2 b % 16 ≤ 4 ∧ s3 b ≤ 8 ∧ s3 b = cnF (fun i => b.testBit i) 8 := by decide +kernel
theorem f2 : ∀ b, b < 256 → ∀ c, c < 2 → (b / 2 + 128 * c) &&& 85 = (b / 2) &&& 85 := by decide +kernel
theorem f3 : ∀ b, b < 256 → ∀ c, c < 4 → (b / 4 + 64 * c) &&& 51 = (b / 4) &&& 51 := by decide +kernel
theorem f4 : ∀ b, b < 69 → ∀ c, c < 16 → (b + (b / 16 + 16 * c)) &&& 15 = (b + b / 16) &&& 15 := by decide +kernel
theorem and4 {a0 a1 a2 a3 m : Nat} (h0 : a0 < 256) (h1 : a1 < 256) (h2 : a2 < 256) (hm : m < 256) : (a0 + 256 * (a1 + 256 * (a2 + 256 * a3))) &&& (m + 256 * (m + 256 * (m + 256 * m))) = (a0 &&& m) + 256 * ((a1 &&& m) + 256 * ((a2 &&& m) + 256 * (a3 &&& m))) := by
  rw [andB h0 hm, andB h1 hm, andB h2 hm]
def pc (n : Nat) : Nat :=
  let i1 := n - ((n / 2) &&& 1431655765)
  let i2 := (i1 &&& 858993459) + ((i1 / 4) &&& 858993459)
  let i3 := (i2 + i2 / 16) &&& 252645135
  let i4 := i3 + i3 / 256
  let i5 := i4 + i4 / 65536
  i5 % 64
theorem pc_fin {p0 p1 p2 p3 : Nat} (h0 : p0 ≤ 8) (h1 : p1 ≤ 8) (h2 : p2 ≤ 8) (h3 : p3 ≤ 8) : (p0 + 256 * (p1 + 256 * (p2 + 256 * p3)) + (p0 + 256 * (p1 + 256 * (p2 + 256 * p3))) / 256 + (p0 + 256 * (p1 + 256 * (p2 + 256 * p3)) + (p0 + 256 * (p1 + 256 * (p2 + 256 * p3))) / 256) / 65536) % 64 = p0 + p1 + p2 + p3 := by
  have e1 : (p0 + 256 * (p1 + 256 * (p2 + 256 * p3))) / 256 = p1 + 256 * (p2 + 256 * p3) := by omega
  rw [e1]
  have e2 : p0 + 256 * (p1 + 256 * (p2 + 256 * p3)) + (p1 + 256 * (p2 + 256 * p3)) = (p0 + p1) + 256 * (p1 + p2) + 65536 * ((p2 + p3) + 256 * p3) := by omega
  rw [e2]
  have e3 : ((p0 + p1) + 256 * (p1 + p2) + 65536 * ((p2 + p3) + 256 * p3)) / 65536 = (p2 + p3) + 256 * p3 := by omega
  rw [e3]
  omega
theorem pc_eq {b0 b1 b2 b3 : Nat} (h0 : b0 < 256) (h1 : b1 < 256) (h2 : b2 < 256) (h3 : b3 < 256) : pc (b0 + 256 * (b1 + 256 * (b2 + 256 * b3))) = s3 b0 + s3 b1 + s3 b2 + s3 b3 := by
  have g0 := f1 b0 h0
  have g1 := f1 b1 h1
  have g2 := f1 b2 h2
  have g3 := f1 b3 h3
  have e1 : ((b0 + 256 * (b1 + 256 * (b2 + 256 * b3))) / 2) &&& 1431655765 = ((b0 / 2) &&& 85) + 256 * (((b1 / 2) &&& 85) + 256 * (((b2 / 2) &&& 85) + 256 * ((b3 / 2) &&& 85))) := by
    have e : (b0 + 256 * (b1 + 256 * (b2 + 256 * b3))) / 2 = (b0 / 2 + 128 * (b1 % 2)) + 256 * ((b1 / 2 + 128 * (b2 % 2)) + 256 * ((b2 / 2 + 128 * (b3 % 2)) + 256 * (b3 / 2))) := by omega
    rw [e, show 1431655765 = 85 + 256 * (85 + 256 * (85 + 256 * 85)) from rfl, and4 (by omega) (by omega) (by omega) (by omega), f2 b0 h0 _ (by omega), f2 b1 h1 _ (by omega), f2 b2 h2 _ (by omega)]
  have e2 : (b0 + 256 * (b1 + 256 * (b2 + 256 * b3))) - (((b0 / 2) &&& 85) + 256 * (((b1 / 2) &&& 85) + 256 * (((b2 / 2) &&& 85) + 256 * ((b3 / 2) &&& 85)))) = s1 b0 + 256 * (s1 b1 + 256 * (s1 b2 + 256 * s1 b3)) := by
    unfold s1; omega
  have e3 : (s1 b0 + 256 * (s1 b1 + 256 * (s1 b2 + 256 * s1 b3))) &&& 858993459 = (s1 b0 &&& 51) + 256 * ((s1 b1 &&& 51) + 256 * ((s1 b2 &&& 51) + 256 * (s1 b3 &&& 51))) := by
    rw [show 858993459 = 51 + 256 * (51 + 256 * (51 + 256 * 51)) from rfl, and4 (by omega) (by omega) (by omega) (by omega)]
  have e4 : ((s1 b0 + 256 * (s1 b1 + 256 * (s1 b2 + 256 * s1 b3))) / 4) &&& 858993459 = ((s1 b0 / 4) &&& 51) + 256 * (((s1 b1 / 4) &&& 51) + 256 * (((s1 b2 / 4) &&& 51) + 256 * ((s1 b3 / 4) &&& 51))) := by
    have e : (s1 b0 + 256 * (s1 b1 + 256 * (s1 b2 + 256 * s1 b3))) / 4 = (s1 b0 / 4 + 64 * (s1 b1 % 4)) + 256 * ((s1 b1 / 4 + 64 * (s1 b2 % 4)) + 256 * ((s1 b2 / 4 + 64 * (s1 b3 % 4)) + 256 * (s1 b3 / 4))) := by omega
    rw [e, show 858993459 = 51 + 256 * (51 + 256 * (51 + 256 * 51)) from rfl, and4 (by omega) (by omega) (by omega) (by omega), f3 _ (by omega) _ (by omega), f3 _ (by omega) _ (by omega), f3 _ (by omega) _ (by omega)]
  have e5 : (s1 b0 &&& 51) + 256 * ((s1 b1 &&& 51) + 256 * ((s1 b2 &&& 51) + 256 * (s1 b3 &&& 51))) + (((s1 b0 / 4) &&& 51) + 256 * (((s1 b1 / 4) &&& 51) + 256 * (((s1 b2 / 4) &&& 51) + 256 * ((s1 b3 / 4) &&& 51)))) = s2 b0 + 256 * (s2 b1 + 256 * (s2 b2 + 256 * s2 b3)) := by
    unfold s2; omega
  have e6 : (s2 b0 + 256 * (s2 b1 + 256 * (s2 b2 + 256 * s2 b3)) + (s2 b0 + 256 * (s2 b1 + 256 * (s2 b2 + 256 * s2 b3))) / 16) &&& 252645135 = s3 b0 + 256 * (s3 b1 + 256 * (s3 b2 + 256 * s3 b3)) := by
    have e : s2 b0 + 256 * (s2 b1 + 256 * (s2 b2 + 256 * s2 b3)) + (s2 b0 + 256 * (s2 b1 + 256 * (s2 b2 + 256 * s2 b3))) / 16 = (s2 b0 + (s2 b0 / 16 + 16 * (s2 b1 % 16))) + 256 * ((s2 b1 + (s2 b1 / 16 + 16 * (s2 b2 % 16))) + 256 * ((s2 b2 + (s2 b2 / 16 + 16 * (s2 b3 % 16))) + 256 * (s2 b3 + s2 b3 / 16))) := by omega
    rw [e, show 252645135 = 15 + 256 * (15 + 256 * (15 + 256 * 15)) from rfl, and4 (by omega) (by omega) (by omega) (by omega), f4 _ (by omega) _ (by omega), f4 _ (by omega) _ (by omega), f4 _ (by omega) _ (by omega)]
    rfl
  unfold pc
  simp only []
  rw [e1, e2, e3, e4, e5, e6]
  exact pc_fin g0.2.2.2.2.1 g1.2.2.2.2.1 g2.2.2.2.2.1 g3.2.2.2.2.1
theorem cnF_add (p : Nat → Bool) (a : Nat) : ∀ b, cnF p (a + b) = cnF p a + cnF (fun i => p (a + i)) b
  | 0 => rfl
  | b + 1 => by rw [← Nat.add_assoc, cnF, cnF, cnF_add p a b, Nat.add_assoc]
theorem cnF_tail {p : Nat → Bool} {a : Nat} (b : Nat) (h : ∀ i, a ≤ i → i < a + b → p i = false) : cnF p (a + b) = cnF p a := by
  rw [cnF_add]
  have : cnF (fun i => p (a + i)) b = cnF (fun _ => false) b := cnF_cong (fun j hj => h (a + j) (by omega) (by omega))
  rw [this]
  have : ∀ b, cnF (fun _ => false) b = 0 := by
    intro b
    induction b with
    | zero => rfl
    | succ b ih => rw [cnF_f (by simp), ih]
  rw [this]; rfl
theorem pc_cn (v : Int32) : pc v.toBitVec.toNat = cnF (bt v) 32 := by
  have hN := v.toBitVec.isLt
  have hb : ∀ i, bt v i = v.toBitVec.toNat.testBit i := fun i => (BitVec.testBit_toNat v.toBitVec).symm
  generalize v.toBitVec.toNat = N at hN hb ⊢
  have e : N = N % 256 + 256 * (N / 256 % 256 + 256 * (N / 65536 % 256 + 256 * (N / 16777216))) := by omega
  have hk : ∀ k, ∀ i, i < 8 → (N / 2 ^ (8 * k) % 256).testBit i = bt v (8 * k + i) := by
    intro k i hi
    rw [show 256 = 2 ^ 8 from rfl, Nat.testBit_mod_two_pow, Nat.testBit_div_two_pow, hb]
    simp [hi, Nat.add_comm]
  have h3 : N / 16777216 < 256 := by omega
  have s0 : s3 (N % 256) = cnF (bt v) 8 := by
    rw [(f1 _ (by omega)).2.2.2.2.2]
    refine cnF_cong (fun i hi => ?_)
    have := hk 0 i hi
    simpa using this
  have s1' : s3 (N / 256 % 256) = cnF (fun i => bt v (8 + i)) 8 := by
    rw [(f1 _ (by omega)).2.2.2.2.2]
    exact cnF_cong (fun i hi => hk 1 i hi)
  have s2' : s3 (N / 65536 % 256) = cnF (fun i => bt v (16 + i)) 8 := by
    rw [(f1 _ (by omega)).2.2.2.2.2]
    exact cnF_cong (fun i hi => hk 2 i hi)
  have s3' : s3 (N / 16777216) = cnF (fun i => bt v (24 + i)) 8 := by
    rw [(f1 _ (by omega)).2.2.2.2.2]
    refine cnF_cong (fun i hi => ?_)
    have := hk 3 i hi
    rw [show N / 2 ^ (8 * 3) % 256 = N / 16777216 by show N / 16777216 % 256 = _; omega] at this
    exact this
  have ep := pc_eq (b0 := N % 256) (b1 := N / 256 % 256) (b2 := N / 65536 % 256) (b3 := N / 16777216) (by omega) (by omega) (by omega) h3
  rw [← e] at ep
  rw [ep, s0, s1', s2', s3', show (32 : Nat) = 8 + 8 + 8 + 8 from rfl, cnF_add, cnF_add, cnF_add]
theorem nx_and (a b : Nat) : nI a &&& nI b = nI (a &&& b) := by
  apply Int32.toBitVec_inj.1
  show BitVec.ofNat 32 a &&& BitVec.ofNat 32 b = BitVec.ofNat 32 (a &&& b)
  apply BitVec.eq_of_getLsbD_eq
  intro i hi
  simp [hi]
theorem nI_self (v : Int32) : nI v.toBitVec.toNat = v := by
  apply Int32.toBitVec_inj.1
  show BitVec.ofNat 32 v.toBitVec.toNat = v.toBitVec
  simp
theorem us_1 {n : Nat} (h : n < 2 ^ 32) : ((nI n).toUInt32 >>> ((1 : Int32).toUInt32 &&& Int32.toUInt32 31)).toInt32 = nI (n / 2) := pk_ushrN h 1 1 (by decide)
theorem us_2 {n : Nat} (h : n < 2 ^ 32) : ((nI n).toUInt32 >>> ((2 : Int32).toUInt32 &&& Int32.toUInt32 31)).toInt32 = nI (n / 4) := pk_ushrN h 2 2 (by decide)
theorem us_4 {n : Nat} (h : n < 2 ^ 32) : ((nI n).toUInt32 >>> ((4 : Int32).toUInt32 &&& Int32.toUInt32 31)).toInt32 = nI (n / 16) := pk_ushrN h 4 4 (by decide)
theorem us_8 {n : Nat} (h : n < 2 ^ 32) : ((nI n).toUInt32 >>> ((8 : Int32).toUInt32 &&& Int32.toUInt32 31)).toInt32 = nI (n / 256) := pk_ushrN h 8 8 (by decide)
theorem us_16 {n : Nat} (h : n < 2 ^ 32) : ((nI n).toUInt32 >>> ((16 : Int32).toUInt32 &&& Int32.toUInt32 31)).toInt32 = nI (n / 65536) := pk_ushrN h 16 16 (by decide)

def p_J6_bitCount_0f7a4 (v : Int32) : Int32 := (((((((v - (((v.toUInt32 >>> ((1 : Int32).toUInt32 &&& Int32.toUInt32 31)).toInt32) &&& (1431655765 : Int32))) &&& (858993459 : Int32)) + ((((v - (((v.toUInt32 >>> ((1 : Int32).toUInt32 &&& Int32.toUInt32 31)).toInt32) &&& (1431655765 : Int32))).toUInt32 >>> ((2 : Int32).toUInt32 &&& Int32.toUInt32 31)).toInt32) &&& (858993459 : Int32))) + (((((v - (((v.toUInt32 >>> ((1 : Int32).toUInt32 &&& Int32.toUInt32 31)).toInt32) &&& (1431655765 : Int32))) &&& (858993459 : Int32)) + ((((v - (((v.toUInt32 >>> ((1 : Int32).toUInt32 &&& Int32.toUInt32 31)).toInt32) &&& (1431655765 : Int32))).toUInt32 >>> ((2 : Int32).toUInt32 &&& Int32.toUInt32 31)).toInt32) &&& (858993459 : Int32))).toUInt32 >>> ((4 : Int32).toUInt32 &&& Int32.toUInt32 31)).toInt32)) &&& (252645135 : Int32)) + (((((((v - (((v.toUInt32 >>> ((1 : Int32).toUInt32 &&& Int32.toUInt32 31)).toInt32) &&& (1431655765 : Int32))) &&& (858993459 : Int32)) + ((((v - (((v.toUInt32 >>> ((1 : Int32).toUInt32 &&& Int32.toUInt32 31)).toInt32) &&& (1431655765 : Int32))).toUInt32 >>> ((2 : Int32).toUInt32 &&& Int32.toUInt32 31)).toInt32) &&& (858993459 : Int32))) + (((((v - (((v.toUInt32 >>> ((1 : Int32).toUInt32 &&& Int32.toUInt32 31)).toInt32) &&& (1431655765 : Int32))) &&& (858993459 : Int32)) + ((((v - (((v.toUInt32 >>> ((1 : Int32).toUInt32 &&& Int32.toUInt32 31)).toInt32) &&& (1431655765 : Int32))).toUInt32 >>> ((2 : Int32).toUInt32 &&& Int32.toUInt32 31)).toInt32) &&& (858993459 : Int32))).toUInt32 >>> ((4 : Int32).toUInt32 &&& Int32.toUInt32 31)).toInt32)) &&& (252645135 : Int32)).toUInt32 >>> ((8 : Int32).toUInt32 &&& Int32.toUInt32 31)).toInt32)) + ((((((((v - (((v.toUInt32 >>> ((1 : Int32).toUInt32 &&& Int32.toUInt32 31)).toInt32) &&& (1431655765 : Int32))) &&& (858993459 : Int32)) + ((((v - (((v.toUInt32 >>> ((1 : Int32).toUInt32 &&& Int32.toUInt32 31)).toInt32) &&& (1431655765 : Int32))).toUInt32 >>> ((2 : Int32).toUInt32 &&& Int32.toUInt32 31)).toInt32) &&& (858993459 : Int32))) + (((((v - (((v.toUInt32 >>> ((1 : Int32).toUInt32 &&& Int32.toUInt32 31)).toInt32) &&& (1431655765 : Int32))) &&& (858993459 : Int32)) + ((((v - (((v.toUInt32 >>> ((1 : Int32).toUInt32 &&& Int32.toUInt32 31)).toInt32) &&& (1431655765 : Int32))).toUInt32 >>> ((2 : Int32).toUInt32 &&& Int32.toUInt32 31)).toInt32) &&& (858993459 : Int32))).toUInt32 >>> ((4 : Int32).toUInt32 &&& Int32.toUInt32 31)).toInt32)) &&& (252645135 : Int32)) + (((((((v - (((v.toUInt32 >>> ((1 : Int32).toUInt32 &&& Int32.toUInt32 31)).toInt32) &&& (1431655765 : Int32))) &&& (858993459 : Int32)) + ((((v - (((v.toUInt32 >>> ((1 : Int32).toUInt32 &&& Int32.toUInt32 31)).toInt32) &&& (1431655765 : Int32))).toUInt32 >>> ((2 : Int32).toUInt32 &&& Int32.toUInt32 31)).toInt32) &&& (858993459 : Int32))) + (((((v - (((v.toUInt32 >>> ((1 : Int32).toUInt32 &&& Int32.toUInt32 31)).toInt32) &&& (1431655765 : Int32))) &&& (858993459 : Int32)) + ((((v - (((v.toUInt32 >>> ((1 : Int32).toUInt32 &&& Int32.toUInt32 31)).toInt32) &&& (1431655765 : Int32))).toUInt32 >>> ((2 : Int32).toUInt32 &&& Int32.toUInt32 31)).toInt32) &&& (858993459 : Int32))).toUInt32 >>> ((4 : Int32).toUInt32 &&& Int32.toUInt32 31)).toInt32)) &&& (252645135 : Int32)).toUInt32 >>> ((8 : Int32).toUInt32 &&& Int32.toUInt32 31)).toInt32)).toUInt32 >>> ((16 : Int32).toUInt32 &&& Int32.toUInt32 31)).toInt32)) &&& (63 : Int32)
theorem pe_bitCount (v : Int32) : p_J6_bitCount_0f7a4 v = nI (cnF (bt v) 32) := by
  rw [← pc_cn v]
  have hN := v.toBitVec.isLt
  have hv : v = nI v.toBitVec.toNat := (nI_self v).symm
  generalize v.toBitVec.toNat = N at hN hv ⊢
  subst hv
  have a1 : (N / 2) &&& 1431655765 ≤ N := Nat.le_trans Nat.and_le_left (by omega)
  unfold p_J6_bitCount_0f7a4 pc
  have e1 : nI N - (((nI N).toUInt32 >>> ((1 : Int32).toUInt32 &&& Int32.toUInt32 31)).toInt32 &&& (1431655765 : Int32)) = nI (N - ((N / 2) &&& 1431655765)) := by
    rw [us_1 hN, show (1431655765 : Int32) = nI 1431655765 from rfl, nx_and, pk_sub a1]
  simp only [e1]
  generalize hi1 : N - ((N / 2) &&& 1431655765) = i1
  have b1 : i1 < 2 ^ 32 := by omega
  have e2 : (nI i1 &&& (858993459 : Int32)) + (((nI i1).toUInt32 >>> ((2 : Int32).toUInt32 &&& Int32.toUInt32 31)).toInt32 &&& (858993459 : Int32)) = nI ((i1 &&& 858993459) + ((i1 / 4) &&& 858993459)) := by
    rw [us_2 b1, show (858993459 : Int32) = nI 858993459 from rfl, nx_and, nx_and, nI_add]
  simp only [e2]
  generalize hi2 : (i1 &&& 858993459) + ((i1 / 4) &&& 858993459) = i2
  have b2 : i2 ≤ 2 * 858993459 := by
    have q1 : i1 &&& 858993459 ≤ 858993459 := Nat.and_le_right
    have q2 : (i1 / 4) &&& 858993459 ≤ 858993459 := Nat.and_le_right
    omega
  have e3 : (nI i2 + ((nI i2).toUInt32 >>> ((4 : Int32).toUInt32 &&& Int32.toUInt32 31)).toInt32) &&& (252645135 : Int32) = nI ((i2 + i2 / 16) &&& 252645135) := by
    rw [us_4 (by omega), show (252645135 : Int32) = nI 252645135 from rfl, nI_add, nx_and]
  simp only [e3]
  generalize hi3 : (i2 + i2 / 16) &&& 252645135 = i3
  have b3 : i3 ≤ 252645135 := by rw [← hi3]; exact Nat.and_le_right
  have e4 : nI i3 + ((nI i3).toUInt32 >>> ((8 : Int32).toUInt32 &&& Int32.toUInt32 31)).toInt32 = nI (i3 + i3 / 256) := by
    rw [us_8 (by omega), nI_add]
  simp only [e4]
  generalize hi4 : i3 + i3 / 256 = i4
  have b4 : i4 ≤ 2 * 252645135 := by omega
  have e5 : nI i4 + ((nI i4).toUInt32 >>> ((16 : Int32).toUInt32 &&& Int32.toUInt32 31)).toInt32 = nI (i4 + i4 / 65536) := by
    rw [us_16 (by omega), nI_add]
  simp only [e5]
  exact pk_andN (n := i4 + i4 / 65536) (by omega) 6 rfl
set_option maxHeartbeats 4000000 in
set_option maxRecDepth 100000 in
theorem c_J6_bitCount_0f7a4 (l : Launch) (D : va_G) (cI cZ cB cR : ClassId) (v : Int32) : RO l yJ6_bitCount_0f7a4 wsJ6_bitCount_0f7a4 ({ frames := 0, cells := 0, slots := 0, locals := 0 } : Room) D cI cZ cB cR ([]) [.int v] (nI (cnF (bt v) 32)) := by
  have hE : p_J6_bitCount_0f7a4 v = nI (cnF (bt v) 32) := pe_bitCount v
  refine Met.ofW (cc := cJ6_bitCount_0f7a4) (maxL := 1) (ret := (some .int)) (by decide) rfl ?_
  intro p e s m args below meth c s₁ B hml hv
  obtain ⟨hargs, hP, hEV⟩ := hv
  have hx := B.exec
  have hb := B.bytes
  have hr := B.returns
  have hts := atoms_spec (ws := wsJ6_bitCount_0f7a4) B.pre
  have hown : s.vm.findClass RJ6 = some m.cls := findClass_of_methodNamed B.named
  have hlocks := B.notSynchronized
  have hK := hEV.1
  have hl := lv_entry ([.int v]) (n := 1) (Nat.le_of_ble_eq_true rfl)
  rw [show entryFrame m args 1 = entryFrame m ([.int v] : List Value).toArray 1 from by rw [hargs], lg_entry_eq]
  generalize (lg_sl ([.int v]) ++ List.replicate (1 - (lg_sl ([.int v])).length) Slot.unset).toArray = ls at hl ⊢
  have hl : lv_has ls 1 [(0, .int v)] := hl
  rw [p_J6_bitCount_0f7a4] at hE
  refine lv_iload_n hx hb dJ6_bitCount_0f7a4_0 rfl (lv_at hl 0 rfl) ?_
  refine lv_iload_n hx hb dJ6_bitCount_0f7a4_1 rfl (lv_at hl 0 rfl) ?_
  refine lv_iconst (v := (1 : Int32)) hx hb dJ6_bitCount_0f7a4_2 (by decide) ?_
  refine lv_iushr hx hb dJ6_bitCount_0f7a4_3 rfl ?_
  refine lv_ldcw hx hb hown (hts (.constant RJ6 265 (1431655765 : Int32)) (List.mem_cons_of_mem _ mw_2_42)) dJ6_bitCount_0f7a4_4 ?_
  refine lv_iand hx hb dJ6_bitCount_0f7a4_7 ?_
  refine lv_isub hx hb dJ6_bitCount_0f7a4_8 ?_
  refine lv_istore_n (lv' := [(0, .int (v - (((v.toUInt32 >>> ((1 : Int32).toUInt32 &&& Int32.toUInt32 31)).toInt32) &&& (1431655765 : Int32))))]) hx hb dJ6_bitCount_0f7a4_9 rfl hl (by decide) rfl (fun ls hl => ?_)
  refine lv_iload_n hx hb dJ6_bitCount_0f7a4_10 rfl (lv_at hl 0 rfl) ?_
  refine lv_ldcw hx hb hown (hts (.constant RJ6 266 (858993459 : Int32)) (List.mem_cons_of_mem _ mw_2_43)) dJ6_bitCount_0f7a4_11 ?_
  refine lv_iand hx hb dJ6_bitCount_0f7a4_14 ?_
  refine lv_iload_n hx hb dJ6_bitCount_0f7a4_15 rfl (lv_at hl 0 rfl) ?_
  refine lv_iconst (v := (2 : Int32)) hx hb dJ6_bitCount_0f7a4_16 (by decide) ?_
  refine lv_iushr hx hb dJ6_bitCount_0f7a4_17 rfl ?_
  refine lv_ldcw hx hb hown (hts (.constant RJ6 266 (858993459 : Int32)) (List.mem_cons_of_mem _ mw_2_43)) dJ6_bitCount_0f7a4_18 ?_
  refine lv_iand hx hb dJ6_bitCount_0f7a4_21 ?_
  refine lv_iadd hx hb dJ6_bitCount_0f7a4_22 ?_
  refine lv_istore_n (lv' := [(0, .int (((v - (((v.toUInt32 >>> ((1 : Int32).toUInt32 &&& Int32.toUInt32 31)).toInt32) &&& (1431655765 : Int32))) &&& (858993459 : Int32)) + ((((v - (((v.toUInt32 >>> ((1 : Int32).toUInt32 &&& Int32.toUInt32 31)).toInt32) &&& (1431655765 : Int32))).toUInt32 >>> ((2 : Int32).toUInt32 &&& Int32.toUInt32 31)).toInt32) &&& (858993459 : Int32))))]) hx hb dJ6_bitCount_0f7a4_23 rfl hl (by decide) rfl (fun ls hl => ?_)
  refine lv_iload_n hx hb dJ6_bitCount_0f7a4_24 rfl (lv_at hl 0 rfl) ?_
  refine lv_iload_n hx hb dJ6_bitCount_0f7a4_25 rfl (lv_at hl 0 rfl) ?_
  refine lv_iconst (v := (4 : Int32)) hx hb dJ6_bitCount_0f7a4_26 (by decide) ?_
  refine lv_iushr hx hb dJ6_bitCount_0f7a4_27 rfl ?_
  refine lv_iadd hx hb dJ6_bitCount_0f7a4_28 ?_
  refine lv_ldcw hx hb hown (hts (.constant RJ6 267 (252645135 : Int32)) (List.mem_cons_of_mem _ mw_2_44)) dJ6_bitCount_0f7a4_29 ?_
  refine lv_iand hx hb dJ6_bitCount_0f7a4_32 ?_
  refine lv_istore_n (lv' := [(0, .int (((((v - (((v.toUInt32 >>> ((1 : Int32).toUInt32 &&& Int32.toUInt32 31)).toInt32) &&& (1431655765 : Int32))) &&& (858993459 : Int32)) + ((((v - (((v.toUInt32 >>> ((1 : Int32).toUInt32 &&& Int32.toUInt32 31)).toInt32) &&& (1431655765 : Int32))).toUInt32 >>> ((2 : Int32).toUInt32 &&& Int32.toUInt32 31)).toInt32) &&& (858993459 : Int32))) + (((((v - (((v.toUInt32 >>> ((1 : Int32).toUInt32 &&& Int32.toUInt32 31)).toInt32) &&& (1431655765 : Int32))) &&& (858993459 : Int32)) + ((((v - (((v.toUInt32 >>> ((1 : Int32).toUInt32 &&& Int32.toUInt32 31)).toInt32) &&& (1431655765 : Int32))).toUInt32 >>> ((2 : Int32).toUInt32 &&& Int32.toUInt32 31)).toInt32) &&& (858993459 : Int32))).toUInt32 >>> ((4 : Int32).toUInt32 &&& Int32.toUInt32 31)).toInt32)) &&& (252645135 : Int32)))]) hx hb dJ6_bitCount_0f7a4_33 rfl hl (by decide) rfl (fun ls hl => ?_)
  refine lv_iload_n hx hb dJ6_bitCount_0f7a4_34 rfl (lv_at hl 0 rfl) ?_
  refine lv_iload_n hx hb dJ6_bitCount_0f7a4_35 rfl (lv_at hl 0 rfl) ?_
  refine lv_bipush (v := (8 : Int32)) hx hb dJ6_bitCount_0f7a4_36 (by decide) ?_
  refine lv_iushr hx hb dJ6_bitCount_0f7a4_38 rfl ?_
  refine lv_iadd hx hb dJ6_bitCount_0f7a4_39 ?_
  refine lv_istore_n (lv' := [(0, .int ((((((v - (((v.toUInt32 >>> ((1 : Int32).toUInt32 &&& Int32.toUInt32 31)).toInt32) &&& (1431655765 : Int32))) &&& (858993459 : Int32)) + ((((v - (((v.toUInt32 >>> ((1 : Int32).toUInt32 &&& Int32.toUInt32 31)).toInt32) &&& (1431655765 : Int32))).toUInt32 >>> ((2 : Int32).toUInt32 &&& Int32.toUInt32 31)).toInt32) &&& (858993459 : Int32))) + (((((v - (((v.toUInt32 >>> ((1 : Int32).toUInt32 &&& Int32.toUInt32 31)).toInt32) &&& (1431655765 : Int32))) &&& (858993459 : Int32)) + ((((v - (((v.toUInt32 >>> ((1 : Int32).toUInt32 &&& Int32.toUInt32 31)).toInt32) &&& (1431655765 : Int32))).toUInt32 >>> ((2 : Int32).toUInt32 &&& Int32.toUInt32 31)).toInt32) &&& (858993459 : Int32))).toUInt32 >>> ((4 : Int32).toUInt32 &&& Int32.toUInt32 31)).toInt32)) &&& (252645135 : Int32)) + (((((((v - (((v.toUInt32 >>> ((1 : Int32).toUInt32 &&& Int32.toUInt32 31)).toInt32) &&& (1431655765 : Int32))) &&& (858993459 : Int32)) + ((((v - (((v.toUInt32 >>> ((1 : Int32).toUInt32 &&& Int32.toUInt32 31)).toInt32) &&& (1431655765 : Int32))).toUInt32 >>> ((2 : Int32).toUInt32 &&& Int32.toUInt32 31)).toInt32) &&& (858993459 : Int32))) + (((((v - (((v.toUInt32 >>> ((1 : Int32).toUInt32 &&& Int32.toUInt32 31)).toInt32) &&& (1431655765 : Int32))) &&& (858993459 : Int32)) + ((((v - (((v.toUInt32 >>> ((1 : Int32).toUInt32 &&& Int32.toUInt32 31)).toInt32) &&& (1431655765 : Int32))).toUInt32 >>> ((2 : Int32).toUInt32 &&& Int32.toUInt32 31)).toInt32) &&& (858993459 : Int32))).toUInt32 >>> ((4 : Int32).toUInt32 &&& Int32.toUInt32 31)).toInt32)) &&& (252645135 : Int32)).toUInt32 >>> ((8 : Int32).toUInt32 &&& Int32.toUInt32 31)).toInt32)))]) hx hb dJ6_bitCount_0f7a4_40 rfl hl (by decide) rfl (fun ls hl => ?_)
  refine lv_iload_n hx hb dJ6_bitCount_0f7a4_41 rfl (lv_at hl 0 rfl) ?_
  refine lv_iload_n hx hb dJ6_bitCount_0f7a4_42 rfl (lv_at hl 0 rfl) ?_
  refine lv_bipush (v := (16 : Int32)) hx hb dJ6_bitCount_0f7a4_43 (by decide) ?_
  refine lv_iushr hx hb dJ6_bitCount_0f7a4_45 rfl ?_
  refine lv_iadd hx hb dJ6_bitCount_0f7a4_46 ?_
  refine lv_istore_n (lv' := [(0, .int (((((((v - (((v.toUInt32 >>> ((1 : Int32).toUInt32 &&& Int32.toUInt32 31)).toInt32) &&& (1431655765 : Int32))) &&& (858993459 : Int32)) + ((((v - (((v.toUInt32 >>> ((1 : Int32).toUInt32 &&& Int32.toUInt32 31)).toInt32) &&& (1431655765 : Int32))).toUInt32 >>> ((2 : Int32).toUInt32 &&& Int32.toUInt32 31)).toInt32) &&& (858993459 : Int32))) + (((((v - (((v.toUInt32 >>> ((1 : Int32).toUInt32 &&& Int32.toUInt32 31)).toInt32) &&& (1431655765 : Int32))) &&& (858993459 : Int32)) + ((((v - (((v.toUInt32 >>> ((1 : Int32).toUInt32 &&& Int32.toUInt32 31)).toInt32) &&& (1431655765 : Int32))).toUInt32 >>> ((2 : Int32).toUInt32 &&& Int32.toUInt32 31)).toInt32) &&& (858993459 : Int32))).toUInt32 >>> ((4 : Int32).toUInt32 &&& Int32.toUInt32 31)).toInt32)) &&& (252645135 : Int32)) + (((((((v - (((v.toUInt32 >>> ((1 : Int32).toUInt32 &&& Int32.toUInt32 31)).toInt32) &&& (1431655765 : Int32))) &&& (858993459 : Int32)) + ((((v - (((v.toUInt32 >>> ((1 : Int32).toUInt32 &&& Int32.toUInt32 31)).toInt32) &&& (1431655765 : Int32))).toUInt32 >>> ((2 : Int32).toUInt32 &&& Int32.toUInt32 31)).toInt32) &&& (858993459 : Int32))) + (((((v - (((v.toUInt32 >>> ((1 : Int32).toUInt32 &&& Int32.toUInt32 31)).toInt32) &&& (1431655765 : Int32))) &&& (858993459 : Int32)) + ((((v - (((v.toUInt32 >>> ((1 : Int32).toUInt32 &&& Int32.toUInt32 31)).toInt32) &&& (1431655765 : Int32))).toUInt32 >>> ((2 : Int32).toUInt32 &&& Int32.toUInt32 31)).toInt32) &&& (858993459 : Int32))).toUInt32 >>> ((4 : Int32).toUInt32 &&& Int32.toUInt32 31)).toInt32)) &&& (252645135 : Int32)).toUInt32 >>> ((8 : Int32).toUInt32 &&& Int32.toUInt32 31)).toInt32)) + ((((((((v - (((v.toUInt32 >>> ((1 : Int32).toUInt32 &&& Int32.toUInt32 31)).toInt32) &&& (1431655765 : Int32))) &&& (858993459 : Int32)) + ((((v - (((v.toUInt32 >>> ((1 : Int32).toUInt32 &&& Int32.toUInt32 31)).toInt32) &&& (1431655765 : Int32))).toUInt32 >>> ((2 : Int32).toUInt32 &&& Int32.toUInt32 31)).toInt32) &&& (858993459 : Int32))) + (((((v - (((v.toUInt32 >>> ((1 : Int32).toUInt32 &&& Int32.toUInt32 31)).toInt32) &&& (1431655765 : Int32))) &&& (858993459 : Int32)) + ((((v - (((v.toUInt32 >>> ((1 : Int32).toUInt32 &&& Int32.toUInt32 31)).toInt32) &&& (1431655765 : Int32))).toUInt32 >>> ((2 : Int32).toUInt32 &&& Int32.toUInt32 31)).toInt32) &&& (858993459 : Int32))).toUInt32 >>> ((4 : Int32).toUInt32 &&& Int32.toUInt32 31)).toInt32)) &&& (252645135 : Int32)) + (((((((v - (((v.toUInt32 >>> ((1 : Int32).toUInt32 &&& Int32.toUInt32 31)).toInt32) &&& (1431655765 : Int32))) &&& (858993459 : Int32)) + ((((v - (((v.toUInt32 >>> ((1 : Int32).toUInt32 &&& Int32.toUInt32 31)).toInt32) &&& (1431655765 : Int32))).toUInt32 >>> ((2 : Int32).toUInt32 &&& Int32.toUInt32 31)).toInt32) &&& (858993459 : Int32))) + (((((v - (((v.toUInt32 >>> ((1 : Int32).toUInt32 &&& Int32.toUInt32 31)).toInt32) &&& (1431655765 : Int32))) &&& (858993459 : Int32)) + ((((v - (((v.toUInt32 >>> ((1 : Int32).toUInt32 &&& Int32.toUInt32 31)).toInt32) &&& (1431655765 : Int32))).toUInt32 >>> ((2 : Int32).toUInt32 &&& Int32.toUInt32 31)).toInt32) &&& (858993459 : Int32))).toUInt32 >>> ((4 : Int32).toUInt32 &&& Int32.toUInt32 31)).toInt32)) &&& (252645135 : Int32)).toUInt32 >>> ((8 : Int32).toUInt32 &&& Int32.toUInt32 31)).toInt32)).toUInt32 >>> ((16 : Int32).toUInt32 &&& Int32.toUInt32 31)).toInt32)))]) hx hb dJ6_bitCount_0f7a4_47 rfl hl (by decide) rfl (fun ls hl => ?_)
  refine lv_iload_n hx hb dJ6_bitCount_0f7a4_48 rfl (lv_at hl 0 rfl) ?_
  refine lv_bipush (v := (63 : Int32)) hx hb dJ6_bitCount_0f7a4_49 (by decide) ?_
  refine lv_iand hx hb dJ6_bitCount_0f7a4_51 ?_
  exact W.iret hx hb hr (fun t9 ht9 _ => ⟨_, rfl, hE, ht9⟩) (fun _ h9 => by cases h9) dJ6_bitCount_0f7a4_52
theorem cn_th {h τ : Nat → Nat → Int32} (okh : OKH h τ) : cnF (bt (h 8 0)) 32 = cnF (thB τ) 12 := by
  rw [show (32 : Nat) = 12 + 20 from rfl, cnF_tail 20 (fun i h1 h2 => okh.2.2.2.2 i h1 (by omega))]
  exact cnF_cong (fun j hj => okh.b.th hj)
theorem cn_se {h τ : Nat → Nat → Int32} (okh : OKH h τ) : cnF (bt (h 8 1)) 32 = cnF (gdB τ) 12 := by
  rw [show (32 : Nat) = 12 + 20 from rfl, cnF_tail 20 (fun i h1 h2 => okh.2.2.1 i h1 (by omega))]
  exact cnF_cong (fun j hj => okh.se hj)
theorem cn_go {g γ : Nat → Nat → Int32} {n : Nat} (ok : OKM g γ n) : cnF (bt (g 4 1)) 32 = cnF (goB γ) n := by
  have hn := ok.2.1
  rw [show (32 : Nat) = n + (32 - n) by omega, cnF_tail (32 - n) (fun i h1 h2 => ok.2.2.2 i h1 (by omega))]
  exact cnF_cong (fun j hj => ok.go hj)
def p_X1_countThere (h : Nat → Nat → Int32) (τ : Nat → Nat → Int32)  : Int32 := nI (cnF (bt (h 8 0)) 32)
theorem pe_X1_countThere (h : Nat → Nat → Int32) (τ : Nat → Nat → Int32)  (okh : OKH h τ)  : p_X1_countThere h τ = nI (cnF (thB τ) 12) := by rw [p_X1_countThere, cn_th okh]
set_option maxHeartbeats 4000000 in
set_option maxRecDepth 100000 in
theorem c_X1_countThere (l : Launch) (D : va_G) (cI cZ cB cR : ClassId) (a : Nat → Nat) (h : Nat → Nat → Int32) (τ : Nat → Nat → Int32)  (okh : OKH h τ)  : RO l yX1_countThere wsX1_countThere ({ frames := 1, cells := 0, slots := 0, locals := 20 } : Room) D cI cZ cB cR (wH cI a h) [.ref (a 0)] (nI (cnF (thB τ) 12)) := by
  have hE : p_X1_countThere h τ = nI (cnF (thB τ) 12) := pe_X1_countThere h τ okh
  refine Met.ofW (cc := cX1_countThere) (maxL := 1) (ret := (some .int)) (by decide) rfl ?_
  intro p e s m args below meth c s₁ B hml hv
  obtain ⟨hargs, hP, hEV⟩ := hv
  have hx := B.exec
  have hb := B.bytes
  have hr := B.returns
  have hts := atoms_spec (ws := wsX1_countThere) B.pre
  have hown : s.vm.findClass RX1 = some m.cls := findClass_of_methodNamed B.named
  have hlocks := B.notSynchronized
  have hK := hEV.1
  have hl := lv_entry ([.ref (a 0)]) (n := 1) (Nat.le_of_ble_eq_true rfl)
  rw [show entryFrame m args 1 = entryFrame m ([.ref (a 0)] : List Value).toArray 1 from by rw [hargs], lg_entry_eq]
  generalize (lg_sl ([.ref (a 0)]) ++ List.replicate (1 - (lg_sl ([.ref (a 0)])).length) Slot.unset).toArray = ls at hl ⊢
  have hl : lv_has ls 1 [(0, .ref (a 0))] := hl
  rw [p_X1_countThere] at hE
  refine lv_aload_n hx hb dX1_countThere_0 rfl (lv_at hl 0 rfl) ?_
  refine va_get (D := D) (ci := 1) (v := .int (h 8 0)) (C := RX1) (T := TX1) (N := 10) hx hb hts (fun w9 h9 => List.mem_cons_of_mem _ (inT_X1 w9 h9)) hown hK hP 0 rfl rfl 0 (by decide) (hts (.fieldLink RX1 40 "LinkPredictor$Hierarchy" "there" "I") (List.mem_cons_of_mem _ mw_1_71)) (fun _ h9 => h9) rfl dX1_countThere_1 ?_
  refine ro_S [.int (h 8 0)] [] ⟨hx, hb, hml, hown, hts⟩ (c_J6_bitCount_0f7a4 l D cI cZ cB cR (h 8 0)) (va_cwS 1 hts (goodP (ps := [.methodLink RX1 67 yJ6_bitCount_0f7a4, .static yJ6_bitCount_0f7a4, .initialized RJ6]) (all3 mw_2_39 mw_2_40 mw_1_8) mw_2_41) rfl rfl rfl (by decide +kernel) ⟨Nat.le_of_ble_eq_true rfl, Nat.le_of_ble_eq_true rfl⟩) hEV va_P0 rfl hl.1 rfl (Nat.le_of_ble_eq_true rfl) dX1_countThere_4 ⟨Nat.zero_le _, Nat.zero_le _⟩ ?_
  exact W.iret hx hb hr (fun t9 ht9 _ => ⟨_, rfl, hE, ht9⟩) (fun _ h9 => by cases h9) dX1_countThere_7
noncomputable def p_X1_countLoaded (h : Nat → Nat → Int32) (τ : Nat → Nat → Int32)  : Int32 := nI (cnF (bt (h 8 1)) 32)
theorem pe_X1_countLoaded (h : Nat → Nat → Int32) (τ : Nat → Nat → Int32)  (okh : OKH h τ)  : p_X1_countLoaded h τ = nI (cnF (gdB τ) 12) := by rw [p_X1_countLoaded, cn_se okh]
set_option maxHeartbeats 4000000 in
set_option maxRecDepth 100000 in
theorem c_X1_countLoaded (l : Launch) (D : va_G) (cI cZ cB cR : ClassId) (a : Nat → Nat) (h : Nat → Nat → Int32) (τ : Nat → Nat → Int32)  (okh : OKH h τ)  : RO l yX1_countLoaded wsX1_countLoaded ({ frames := 1, cells := 0, slots := 0, locals := 20 } : Room) D cI cZ cB cR (wH cI a h) [.ref (a 0)] (nI (cnF (gdB τ) 12)) := by
  have hE : p_X1_countLoaded h τ = nI (cnF (gdB τ) 12) := pe_X1_countLoaded h τ okh
  refine Met.ofW (cc := cX1_countLoaded) (maxL := 1) (ret := (some .int)) (by decide) rfl ?_
  intro p e s m args below meth c s₁ B hml hv
  obtain ⟨hargs, hP, hEV⟩ := hv
  have hx := B.exec
  have hb := B.bytes
  have hr := B.returns
  have hts := atoms_spec (ws := wsX1_countLoaded) B.pre
  have hown : s.vm.findClass RX1 = some m.cls := findClass_of_methodNamed B.named
  have hlocks := B.notSynchronized
  have hK := hEV.1
  have hl := lv_entry ([.ref (a 0)]) (n := 1) (Nat.le_of_ble_eq_true rfl)
  rw [show entryFrame m args 1 = entryFrame m ([.ref (a 0)] : List Value).toArray 1 from by rw [hargs], lg_entry_eq]
  generalize (lg_sl ([.ref (a 0)]) ++ List.replicate (1 - (lg_sl ([.ref (a 0)])).length) Slot.unset).toArray = ls at hl ⊢
  have hl : lv_has ls 1 [(0, .ref (a 0))] := hl
  rw [p_X1_countLoaded] at hE
  refine lv_aload_n hx hb dX1_countLoaded_0 rfl (lv_at hl 0 rfl) ?_
  refine va_get (D := D) (ci := 1) (v := .int (h 8 1)) (C := RX1) (T := TX1) (N := 10) hx hb hts (fun w9 h9 => List.mem_cons_of_mem _ (inT_X1 w9 h9)) hown hK hP 0 rfl rfl 7 (by decide) (hts (.fieldLink RX1 72 "LinkPredictor$Hierarchy" "settled" "I") (List.mem_cons_of_mem _ mw_1_78)) (fun _ h9 => h9) rfl dX1_countLoaded_1 ?_
  refine ro_S [.int (h 8 1)] [] ⟨hx, hb, hml, hown, hts⟩ (c_J6_bitCount_0f7a4 l D cI cZ cB cR (h 8 1)) (va_cwS 1 hts (goodP (ps := [.methodLink RX1 67 yJ6_bitCount_0f7a4, .static yJ6_bitCount_0f7a4, .initialized RJ6]) (all3 mw_2_39 mw_2_40 mw_1_8) mw_2_41) rfl rfl rfl (by decide +kernel) ⟨Nat.le_of_ble_eq_true rfl, Nat.le_of_ble_eq_true rfl⟩) hEV va_P0 rfl hl.1 rfl (Nat.le_of_ble_eq_true rfl) dX1_countLoaded_4 ⟨Nat.zero_le _, Nat.zero_le _⟩ ?_
  exact W.iret hx hb hr (fun t9 ht9 _ => ⟨_, rfl, hE, ht9⟩) (fun _ h9 => by cases h9) dX1_countLoaded_7
def p_X2_countPresent (g : Nat → Nat → Int32) (γ : Nat → Nat → Int32) (n : Nat)  : Int32 := (nI n) - (nI (cnF (bt (g 4 1)) 32))
theorem pe_X2_countPresent (g : Nat → Nat → Int32) (γ : Nat → Nat → Int32) (n : Nat)  (ok : OKM g γ n)  : p_X2_countPresent g γ n = nI (n - cnF (goB γ) n) := by rw [p_X2_countPresent, cn_go ok]; exact pk_sub (cnF_le _ n)
set_option maxHeartbeats 4000000 in
set_option maxRecDepth 100000 in
theorem c_X2_countPresent (l : Launch) (D : va_G) (cI cZ cB cR : ClassId) (a : Nat → Nat) (g : Nat → Nat → Int32) (γ : Nat → Nat → Int32) (n : Nat)  (ok : OKM g γ n)  : RO l yX2_countPresent wsX2_countPresent ({ frames := 1, cells := 0, slots := 0, locals := 20 } : Room) D cI cZ cB cR (wM cI a g) [.ref (a 0)] (nI (n - cnF (goB γ) n)) := by
  have hE : p_X2_countPresent g γ n = nI (n - cnF (goB γ) n) := pe_X2_countPresent g γ n ok
  refine Met.ofW (cc := cX2_countPresent) (maxL := 1) (ret := (some .int)) (by decide) rfl ?_
  intro p e s m args below meth c s₁ B hml hv
  obtain ⟨hargs, hP, hEV⟩ := hv
  have hx := B.exec
  have hb := B.bytes
  have hr := B.returns
  have hts := atoms_spec (ws := wsX2_countPresent) B.pre
  have hown : s.vm.findClass RX2 = some m.cls := findClass_of_methodNamed B.named
  have hlocks := B.notSynchronized
  have hK := hEV.1
  have hl := lv_entry ([.ref (a 0)]) (n := 1) (Nat.le_of_ble_eq_true rfl)
  rw [show entryFrame m args 1 = entryFrame m ([.ref (a 0)] : List Value).toArray 1 from by rw [hargs], lg_entry_eq]
  generalize (lg_sl ([.ref (a 0)]) ++ List.replicate (1 - (lg_sl ([.ref (a 0)])).length) Slot.unset).toArray = ls at hl ⊢
  have hl : lv_has ls 1 [(0, .ref (a 0))] := hl
  rw [p_X2_countPresent] at hE
  refine lv_aload_n hx hb dX2_countPresent_0 rfl (lv_at hl 0 rfl) ?_
  refine va_get (D := D) (ci := 2) (v := .int (g 4 0)) (C := RX2) (T := TX2) (N := 6) hx hb hts (fun w9 h9 => List.mem_cons_of_mem _ (inT_X2 w9 h9)) hown hK hP 0 rfl rfl 0 (by decide) (hts (.fieldLink RX2 24 "LinkPredictor$Members" "size" "I") (List.mem_cons_of_mem _ mw_1_109)) (fun _ h9 => h9) rfl dX2_countPresent_1 ?_
  refine top_eq (ok.1) ?_
  refine lv_aload_n hx hb dX2_countPresent_4 rfl (lv_at hl 0 rfl) ?_
  refine va_get (D := D) (ci := 2) (v := .int (g 4 1)) (C := RX2) (T := TX2) (N := 6) hx hb hts (fun w9 h9 => List.mem_cons_of_mem _ (inT_X2 w9 h9)) hown hK hP 0 rfl rfl 1 (by decide) (hts (.fieldLink RX2 36 "LinkPredictor$Members" "gone" "I") (List.mem_cons_of_mem _ mw_1_110)) (fun _ h9 => h9) rfl dX2_countPresent_5 ?_
  refine ro_S [.int (g 4 1)] [.int (nI n)] ⟨hx, hb, hml, hown, hts⟩ (c_J6_bitCount_0f7a4 l D cI cZ cB cR (g 4 1)) (va_cwS 1 hts (goodP (ps := [.methodLink RX2 56 yJ6_bitCount_0f7a4, .static yJ6_bitCount_0f7a4, .initialized RJ6]) (all3 mw_3_37 mw_2_40 mw_1_8) mw_2_41) rfl rfl rfl (by decide +kernel) ⟨Nat.le_of_ble_eq_true rfl, Nat.le_of_ble_eq_true rfl⟩) hEV va_P0 rfl hl.1 rfl (Nat.le_of_ble_eq_true rfl) dX2_countPresent_8 ⟨Nat.zero_le _, Nat.zero_le _⟩ ?_
  refine lv_isub hx hb dX2_countPresent_11 ?_
  exact W.iret hx hb hr (fun t9 ht9 _ => ⟨_, rfl, hE, ht9⟩) (fun _ h9 => by cases h9) dX2_countPresent_12
/-! ===== methods that write ===== -/
def hdF (x : Nat) (y z u v : Int32) (h : Nat → Nat → Int32) : Nat → Nat → Int32 := st2 (st2 (st2 (st2 (st2 (st2 h 8 0 ((h 8 0) ||| (bm x))) 0 x y) 1 x z) 2 x u) 3 x v) 4 x (nI x)
def htF (x : Nat) (h : Nat → Nat → Int32) : Nat → Nat → Int32 := st2 h 8 0 ((h 8 0) &&& ((bm x) ^^^ (-1)))
/-- a whole row put in the place of another -/
def stR (h : Nat → Nat → Int32) (k : Nat) (f : Nat → Int32) : Nat → Nat → Int32 := fun q => if q = k then f else h q
noncomputable def p_X1_define (x : Nat) (y z u v : Int32) (h : (Nat → Nat → Int32)) : (Nat → Nat → Int32) := p_X1_settle (vwH (st2 (st2 (st2 (st2 (st2 (st2 h 8 0 ((h 8 0) ||| (bm x))) 0 x y) 1 x z) 2 x u) 3 x v) 4 x (nI x))) (st2 (st2 (st2 (st2 (st2 (st2 h 8 0 ((h 8 0) ||| (bm x))) 0 x y) 1 x z) 2 x u) 3 x v) 4 x (nI x))
set_option maxHeartbeats 4000000 in
set_option maxRecDepth 100000 in
theorem c_X1_define (l : Launch) (D : va_G) (cI cZ cB cR : ClassId) (a : Nat → Nat) (h : Nat → Nat → Int32) (x : Nat) (y z u v : Int32) (wf : WFT (vwH (hdF x y z u v h))) (hnx : x < 12) : MUv l yX1_define wsX1_define ({ frames := 38, cells := 0, slots := 0, locals := 1024 } : Room) D cI cZ cB cR (wH cI a h) [.ref (a 0), .int (nI x), .int y, .int z, .int u, .int v] (fun (_ : Unit) => wH cI a ((p_X1_define x y z u v h))) (fun _ => True) := by
  generalize hE : p_X1_define x y z u v h = tgt
  intro sz
  refine Met.ofW (cc := cX1_define) (maxL := 6) (ret := none) (by decide) rfl ?_
  intro p e s m args below meth c s₁ B hml hv
  obtain ⟨hargs, hsz, hP, hEV, hD0⟩ := hv
  have hx := B.exec
  have hb := B.bytes
  have hr := B.returns
  have hts := atoms_spec (ws := wsX1_define) B.pre
  have hown : s.vm.findClass RX1 = some m.cls := findClass_of_methodNamed B.named
  have hlocks := B.notSynchronized
  have hK := hEV.1
  have hl := lv_entry ([.ref (a 0), .int (nI x), .int y, .int z, .int u, .int v]) (n := 6) (Nat.le_of_ble_eq_true rfl)
  rw [show entryFrame m args 6 = entryFrame m ([.ref (a 0), .int (nI x), .int y, .int z, .int u, .int v] : List Value).toArray 6 from by rw [hargs], lg_entry_eq]
  generalize (lg_sl ([.ref (a 0), .int (nI x), .int y, .int z, .int u, .int v]) ++ List.replicate (6 - (lg_sl ([.ref (a 0), .int (nI x), .int y, .int z, .int u, .int v])).length) Slot.unset).toArray = ls at hl ⊢
  have hl : lv_has ls 6 [(0, .ref (a 0)), (1, .int (nI x)), (2, .int y), (3, .int z), (4, .int u), (5, .int v)] := hl
  subst hsz
  have hD := hD0.self (sz := s.heap.size)
  generalize hAe : va_A (wH cI a h) s.heap.size = A at hD ⊢
  have hA : ∀ q : Nat, s.heap.size ≤ q → A q := fun q h9 => by rw [← hAe]; exact Or.inr h9
  have hS : va_S A s.heap s.heap [] := va_S.rf
  rw [p_X1_define] at hE
  refine lv_aload_n hx hb dX1_define_0 rfl (lv_at hl 0 rfl) ?_
  refine lv_dup hx hb dX1_define_1 rfl ?_
  refine va_get (D := D) (ci := 1) (v := .int (h 8 0)) (C := RX1) (T := TX1) (N := 10) hx hb hts (fun w9 h9 => List.mem_cons_of_mem _ (inT_X1 w9 h9)) hown hK hP 0 rfl rfl 0 (by decide) (hts (.fieldLink RX1 40 "LinkPredictor$Hierarchy" "there" "I") (List.mem_cons_of_mem _ mw_1_71)) (fun _ h9 => h9) rfl dX1_define_2 ?_
  refine lv_iload_n hx hb dX1_define_5 rfl (lv_at hl 1 rfl) ?_
  refine ro_SN [.int (nI x)] [.int (h 8 0), .ref (a 0)] ⟨hx, hb, hml, hown, hts⟩ (c_X4_bit l D cI cZ cB cR x (by omega)) (va_cnB (host := "LinkPredictor") 1 hts (goodC mw_1_33) rfl rfl rfl (hEV.2 (.methodLinkNest RX1 36 yX4_bit "LinkPredictor") (by decide +kernel)) (hts (.initialized RX4) (List.mem_cons_of_mem _ mw_1_1)) (by decide +kernel) ⟨Nat.le_of_ble_eq_true rfl, Nat.le_of_ble_eq_true rfl⟩) (hts (.static yX4_bit) (List.mem_cons_of_mem _ mw_1_32)) hEV va_P0 rfl hl.1 rfl (Nat.le_of_ble_eq_true rfl) dX1_define_6 ⟨Nat.zero_le _, Nat.zero_le _⟩ ?_
  refine lv_ior hx hb dX1_define_9 ?_
  refine va_put (D := D) (ci := 1) (v := .int ((h 8 0) ||| (bm x))) (ty := .int) (C := RX1) (T := TX1) (N := 10) hx hb hts (fun w9 h9 => List.mem_cons_of_mem _ (inT_X1 w9 h9)) tyX1 tyX1_ok nmX1 hown hK hP hD hS 0 rfl rfl 0 (by decide) (hts (.fieldLink RX1 40 "LinkPredictor$Hierarchy" "there" "I") (List.mem_cons_of_mem _ mw_1_71)) (fun _ h9 => h9) rfl (by decide +kernel) rfl rfl (Nat.le_of_ble_eq_true rfl) dX1_define_10 (fun H locs hP hD hS => ?_)
  have hP : va_P D vwCl (wH cI a (st2 h 8 0 ((h 8 0) ||| (bm x)))) _ := hP
  have hD : va_D A (wH cI a (st2 h 8 0 ((h 8 0) ||| (bm x)))) := hD
  refine lv_aload_n hx hb dX1_define_13 rfl (lv_at hl 0 rfl) ?_
  refine va_get (D := D) (ci := 1) (v := .ref (a 1)) (C := RX1) (T := TX1) (N := 10) hx hb hts (fun w9 h9 => List.mem_cons_of_mem _ (inT_X1 w9 h9)) hown hK hP 0 rfl rfl 1 (by decide) (hts (.fieldLink RX1 9 "LinkPredictor$Hierarchy" "flags" "[I") (List.mem_cons_of_mem _ mw_1_72)) (fun _ h9 => h9) rfl dX1_define_14 ?_
  refine lv_iload_n hx hb dX1_define_17 rfl (lv_at hl 1 rfl) ?_
  refine lv_iload_n hx hb dX1_define_18 rfl (lv_at hl 2 rfl) ?_
  refine mu_ast hx hb hEV hP hD hS 1 (j := x) (v := y) (w2 := wH cI a (st2 (st2 h 8 0 ((h 8 0) ||| (bm x))) 0 x y)) rfl (by omega) (by decide) rfl dX1_define_19 (fun H locs hP hD hS => ?_)
  refine lv_aload_n hx hb dX1_define_20 rfl (lv_at hl 0 rfl) ?_
  refine va_get (D := D) (ci := 1) (v := .ref (a 2)) (C := RX1) (T := TX1) (N := 10) hx hb hts (fun w9 h9 => List.mem_cons_of_mem _ (inT_X1 w9 h9)) hown hK hP 0 rfl rfl 2 (by decide) (hts (.fieldLink RX1 15 "LinkPredictor$Hierarchy" "packs" "[I") (List.mem_cons_of_mem _ mw_1_73)) (fun _ h9 => h9) rfl dX1_define_21 ?_
  refine lv_iload_n hx hb dX1_define_24 rfl (lv_at hl 1 rfl) ?_
  refine lv_iload_n hx hb dX1_define_25 rfl (lv_at hl 3 rfl) ?_
  refine mu_ast hx hb hEV hP hD hS 2 (j := x) (v := z) (w2 := wH cI a (st2 (st2 (st2 h 8 0 ((h 8 0) ||| (bm x))) 0 x y) 1 x z)) rfl (by omega) (by decide) rfl dX1_define_26 (fun H locs hP hD hS => ?_)
  refine lv_aload_n hx hb dX1_define_27 rfl (lv_at hl 0 rfl) ?_
  refine va_get (D := D) (ci := 1) (v := .ref (a 3)) (C := RX1) (T := TX1) (N := 10) hx hb hts (fun w9 h9 => List.mem_cons_of_mem _ (inT_X1 w9 h9)) hown hK hP 0 rfl rfl 3 (by decide) (hts (.fieldLink RX1 18 "LinkPredictor$Hierarchy" "supers" "[I") (List.mem_cons_of_mem _ mw_1_74)) (fun _ h9 => h9) rfl dX1_define_28 ?_
  refine lv_iload_n hx hb dX1_define_31 rfl (lv_at hl 1 rfl) ?_
  refine lv_iload hx hb dX1_define_32 (lv_at hl 4 rfl) ?_
  refine mu_ast hx hb hEV hP hD hS 3 (j := x) (v := u) (w2 := wH cI a (st2 (st2 (st2 (st2 h 8 0 ((h 8 0) ||| (bm x))) 0 x y) 1 x z) 2 x u)) rfl (by omega) (by decide) rfl dX1_define_34 (fun H locs hP hD hS => ?_)
  refine lv_aload_n hx hb dX1_define_35 rfl (lv_at hl 0 rfl) ?_
  refine va_get (D := D) (ci := 1) (v := .ref (a 4)) (C := RX1) (T := TX1) (N := 10) hx hb hts (fun w9 h9 => List.mem_cons_of_mem _ (inT_X1 w9 h9)) hown hK hP 0 rfl rfl 4 (by decide) (hts (.fieldLink RX1 21 "LinkPredictor$Hierarchy" "directFaces" "[I") (List.mem_cons_of_mem _ mw_1_75)) (fun _ h9 => h9) rfl dX1_define_36 ?_
  refine lv_iload_n hx hb dX1_define_39 rfl (lv_at hl 1 rfl) ?_
  refine lv_iload hx hb dX1_define_40 (lv_at hl 5 rfl) ?_
  refine mu_ast hx hb hEV hP hD hS 4 (j := x) (v := v) (w2 := wH cI a (st2 (st2 (st2 (st2 (st2 h 8 0 ((h 8 0) ||| (bm x))) 0 x y) 1 x z) 2 x u) 3 x v)) rfl (by omega) (by decide) rfl dX1_define_42 (fun H locs hP hD hS => ?_)
  refine lv_aload_n hx hb dX1_define_43 rfl (lv_at hl 0 rfl) ?_
  refine va_get (D := D) (ci := 1) (v := .ref (a 5)) (C := RX1) (T := TX1) (N := 10) hx hb hts (fun w9 h9 => List.mem_cons_of_mem _ (inT_X1 w9 h9)) hown hK hP 0 rfl rfl 5 (by decide) (hts (.fieldLink RX1 24 "LinkPredictor$Hierarchy" "hosts" "[I") (List.mem_cons_of_mem _ mw_1_76)) (fun _ h9 => h9) rfl dX1_define_44 ?_
  refine lv_iload_n hx hb dX1_define_47 rfl (lv_at hl 1 rfl) ?_
  refine lv_iload_n hx hb dX1_define_48 rfl (lv_at hl 1 rfl) ?_
  refine mu_ast hx hb hEV hP hD hS 5 (j := x) (v := nI x) (w2 := wH cI a (st2 (st2 (st2 (st2 (st2 (st2 h 8 0 ((h 8 0) ||| (bm x))) 0 x y) 1 x z) 2 x u) 3 x v) 4 x (nI x))) rfl (by omega) (by decide) rfl dX1_define_49 (fun H locs hP hD hS => ?_)
  refine lv_aload_n hx hb dX1_define_50 rfl (lv_at hl 0 rfl) ?_
  refine mu_Vv [] [] ⟨hx, hb, hml, hown, hts⟩ (c_X1_settle l D cI cZ cB cR a (st2 (st2 (st2 (st2 (st2 (st2 h 8 0 ((h 8 0) ||| (bm x))) 0 x y) 1 x z) 2 x u) 3 x v) 4 x (nI x)) (vwH (st2 (st2 (st2 (st2 (st2 (st2 h 8 0 ((h 8 0) ||| (bm x))) 0 x y) 1 x z) 2 x u) 3 x v) 4 x (nI x))) rfl wf) (cwV (C := RX1) 0 hts (goodP (ps := [.methodLink RX1 44 yX1_settle, .instanceMethod yX1_settle, .selects RX1 yX1_settle yX1_settle, .initialized RX1]) (all4 mw_1_34 mw_1_36 ms_0 mw_1_3) mw_1_37) rfl rfl rfl (by decide +kernel) ⟨Nat.le_of_ble_eq_true rfl, Nat.le_of_ble_eq_true rfl⟩) hEV hP hD hS hA 0 rfl rfl rfl hl.1 rfl (Nat.le_of_ble_eq_true rfl) dX1_define_51 ⟨Nat.zero_le _, Nat.zero_le _⟩ (fun u9 H1 locs hw hP1 hk1 hS => ?_)
  have hP : va_P D vwCl (wH cI a (p_X1_settle (vwH (st2 (st2 (st2 (st2 (st2 (st2 h 8 0 ((h 8 0) ||| (bm x))) 0 x y) 1 x z) 2 x u) 3 x v) 4 x (nI x))) (st2 (st2 (st2 (st2 (st2 (st2 h 8 0 ((h 8 0) ||| (bm x))) 0 x y) 1 x z) 2 x u) 3 x v) 4 x (nI x)))) H1 := hP1
  have hD : va_D A (wH cI a (p_X1_settle (vwH (st2 (st2 (st2 (st2 (st2 (st2 h 8 0 ((h 8 0) ||| (bm x))) 0 x y) 1 x z) 2 x u) 3 x v) 4 x (nI x))) (st2 (st2 (st2 (st2 (st2 (st2 h 8 0 ((h 8 0) ||| (bm x))) 0 x y) 1 x z) 2 x u) 3 x v) 4 x (nI x)))) := hD.adr rfl
  generalize H1 = H at hP hS ⊢
  exact W.vret hx hb hr (fun t9 ht9 _ => ⟨⟨(), rfl, trivial, by show va_P D vwCl _ t9.heap; rw [ht9, ← hE]; exact hP⟩, hS.F ht9⟩) hS.2.2 dX1_define_54
def p_X1_putHost (τ : Nat → Nat → Int32) (x : Nat) (y : Int32) (h : (Nat → Nat → Int32)) : Int32 × (Nat → Nat → Int32) := if (thB τ x) = true then (((1 : Int32), st2 h 4 x y)) else (((0 : Int32), h))
set_option maxHeartbeats 4000000 in
set_option maxRecDepth 100000 in
theorem c_X1_putHost (l : Launch) (D : va_G) (cI cZ cB cR : ClassId) (a : Nat → Nat) (h τ : Nat → Nat → Int32) (x : Nat) (y : Int32) (ok : OKB h τ) (hnx : x < 12) : MUi l yX1_putHost wsX1_putHost ({ frames := 2, cells := 0, slots := 0, locals := 42 } : Room) D cI cZ cB cR (wH cI a h) [.ref (a 0), .int (nI x), .int y] (fun (_ : Unit) => wH cI a ((p_X1_putHost τ x y h).2)) (fun r _ => r = (p_X1_putHost τ x y h).1) := by
  generalize hE : p_X1_putHost τ x y h = tgt
  intro sz
  refine Met.ofW (cc := cX1_putHost) (maxL := 3) (ret := (some .boolean)) (by decide) rfl ?_
  intro p e s m args below meth c s₁ B hml hv
  obtain ⟨hargs, hsz, hP, hEV, hD0⟩ := hv
  have hx := B.exec
  have hb := B.bytes
  have hr := B.returns
  have hts := atoms_spec (ws := wsX1_putHost) B.pre
  have hown : s.vm.findClass RX1 = some m.cls := findClass_of_methodNamed B.named
  have hlocks := B.notSynchronized
  have hK := hEV.1
  have hl := lv_entry ([.ref (a 0), .int (nI x), .int y]) (n := 3) (Nat.le_of_ble_eq_true rfl)
  rw [show entryFrame m args 3 = entryFrame m ([.ref (a 0), .int (nI x), .int y] : List Value).toArray 3 from by rw [hargs], lg_entry_eq]
  generalize (lg_sl ([.ref (a 0), .int (nI x), .int y]) ++ List.replicate (3 - (lg_sl ([.ref (a 0), .int (nI x), .int y])).length) Slot.unset).toArray = ls at hl ⊢
  have hl : lv_has ls 3 [(0, .ref (a 0)), (1, .int (nI x)), (2, .int y)] := hl
  subst hsz
  have hD := hD0.self (sz := s.heap.size)
  generalize hAe : va_A (wH cI a h) s.heap.size = A at hD ⊢
  have hA : ∀ q : Nat, s.heap.size ≤ q → A q := fun q h9 => by rw [← hAe]; exact Or.inr h9
  have hS : va_S A s.heap s.heap [] := va_S.rf
  rw [p_X1_putHost] at hE
  refine lv_aload_n hx hb dX1_putHost_0 rfl (lv_at hl 0 rfl) ?_
  refine lv_iload_n hx hb dX1_putHost_1 rfl (lv_at hl 1 rfl) ?_
  refine ro_V [.int (nI x)] [] ⟨hx, hb, hml, hown, hts⟩ (c_X1_isThere l D cI cZ cB cR a h τ x ok (by omega)) (cwV (C := RX1) 1 hts (goodP (ps := [.methodLink RX1 47 yX1_isThere, .instanceMethod yX1_isThere, .selects RX1 yX1_isThere yX1_isThere, .initialized RX1]) (all4 mw_1_42 mw_1_43 mw_1_44 mw_1_3) mw_1_45) rfl rfl rfl (by decide +kernel) ⟨Nat.le_of_ble_eq_true rfl, Nat.le_of_ble_eq_true rfl⟩) hEV hP 0 rfl rfl rfl hl.1 rfl (Nat.le_of_ble_eq_true rfl) dX1_putHost_2 ⟨Nat.zero_le _, Nat.zero_le _⟩ ?_
  refine lv_if_ne (tgt := 10) hx hb dX1_putHost_5 (by decide) (fun c_5 => ?_) (fun c_5 => ?_)
  · have c_5 : (thB τ x) = true := b2i_t c_5
    have hE := (if_pos c_5).symm.trans hE
    refine lv_aload_n hx hb dX1_putHost_10 rfl (lv_at hl 0 rfl) ?_
    refine va_get (D := D) (ci := 1) (v := .ref (a 5)) (C := RX1) (T := TX1) (N := 10) hx hb hts (fun w9 h9 => List.mem_cons_of_mem _ (inT_X1 w9 h9)) hown hK hP 0 rfl rfl 5 (by decide) (hts (.fieldLink RX1 24 "LinkPredictor$Hierarchy" "hosts" "[I") (List.mem_cons_of_mem _ mw_1_76)) (fun _ h9 => h9) rfl dX1_putHost_11 ?_
    refine lv_iload_n hx hb dX1_putHost_14 rfl (lv_at hl 1 rfl) ?_
    refine lv_iload_n hx hb dX1_putHost_15 rfl (lv_at hl 2 rfl) ?_
    refine mu_ast hx hb hEV hP hD hS 5 (j := x) (v := y) (w2 := wH cI a (st2 h 4 x y)) rfl (by omega) (by decide) rfl dX1_putHost_16 (fun H locs hP hD hS => ?_)
    refine lv_iconst (v := (1 : Int32)) hx hb dX1_putHost_17 (by decide) ?_
    exact W.zret hx hb hr rfl (fun t9 ht9 _ => ⟨⟨_, (), rfl, congrArg Prod.fst hE, by show va_P D vwCl _ t9.heap; rw [ht9, ← congrArg Prod.snd hE]; exact hP⟩, hS.F ht9⟩) hS.2.2 dX1_putHost_18
  · have c_5 : ¬ ((thB τ x) = true) := b2i_f c_5
    have hE := (if_neg c_5).symm.trans hE
    refine lv_iconst (v := (0 : Int32)) hx hb dX1_putHost_8 (by decide) ?_
    exact W.zret hx hb hr rfl (fun t9 ht9 _ => ⟨⟨_, (), rfl, congrArg Prod.fst hE, by show va_P D vwCl _ t9.heap; rw [ht9, ← congrArg Prod.snd hE]; exact hP⟩, hS.F ht9⟩) hS.2.2 dX1_putHost_9
noncomputable def p_X1_takeAway (τ : Nat → Nat → Int32) (x : Nat) (h : (Nat → Nat → Int32)) : Int32 × (Nat → Nat → Int32) := if (thB τ x) = true then (((1 : Int32), p_X1_settle (vwH (st2 h 8 0 ((h 8 0) &&& ((bm x) ^^^ (-1 : Int32))))) (st2 h 8 0 ((h 8 0) &&& ((bm x) ^^^ (-1 : Int32)))))) else (((0 : Int32), h))
set_option maxHeartbeats 4000000 in
set_option maxRecDepth 100000 in
theorem c_X1_takeAway (l : Launch) (D : va_G) (cI cZ cB cR : ClassId) (a : Nat → Nat) (h τ : Nat → Nat → Int32) (x : Nat) (ok : OKB h τ) (wf : WFT (vwH (htF x h))) (hnx : x < 12) : MUi l yX1_takeAway wsX1_takeAway ({ frames := 38, cells := 0, slots := 0, locals := 1024 } : Room) D cI cZ cB cR (wH cI a h) [.ref (a 0), .int (nI x)] (fun (_ : Unit) => wH cI a ((p_X1_takeAway τ x h).2)) (fun r _ => r = (p_X1_takeAway τ x h).1) := by
  generalize hE : p_X1_takeAway τ x h = tgt
  intro sz
  refine Met.ofW (cc := cX1_takeAway) (maxL := 2) (ret := (some .boolean)) (by decide) rfl ?_
  intro p e s m args below meth c s₁ B hml hv
  obtain ⟨hargs, hsz, hP, hEV, hD0⟩ := hv
  have hx := B.exec
  have hb := B.bytes
  have hr := B.returns
  have hts := atoms_spec (ws := wsX1_takeAway) B.pre
  have hown : s.vm.findClass RX1 = some m.cls := findClass_of_methodNamed B.named
  have hlocks := B.notSynchronized
  have hK := hEV.1
  have hl := lv_entry ([.ref (a 0), .int (nI x)]) (n := 2) (Nat.le_of_ble_eq_true rfl)
  rw [show entryFrame m args 2 = entryFrame m ([.ref (a 0), .int (nI x)] : List Value).toArray 2 from by rw [hargs], lg_entry_eq]
  generalize (lg_sl ([.ref (a 0), .int (nI x)]) ++ List.replicate (2 - (lg_sl ([.ref (a 0), .int (nI x)])).length) Slot.unset).toArray = ls at hl ⊢
  have hl : lv_has ls 2 [(0, .ref (a 0)), (1, .int (nI x))] := hl
  subst hsz
  have hD := hD0.self (sz := s.heap.size)
  generalize hAe : va_A (wH cI a h) s.heap.size = A at hD ⊢
  have hA : ∀ q : Nat, s.heap.size ≤ q → A q := fun q h9 => by rw [← hAe]; exact Or.inr h9
  have hS : va_S A s.heap s.heap [] := va_S.rf
  rw [p_X1_takeAway] at hE
  refine lv_aload_n hx hb dX1_takeAway_0 rfl (lv_at hl 0 rfl) ?_
  refine lv_iload_n hx hb dX1_takeAway_1 rfl (lv_at hl 1 rfl) ?_
  refine ro_V [.int (nI x)] [] ⟨hx, hb, hml, hown, hts⟩ (c_X1_isThere l D cI cZ cB cR a h τ x ok (by omega)) (cwV (C := RX1) 1 hts (goodP (ps := [.methodLink RX1 47 yX1_isThere, .instanceMethod yX1_isThere, .selects RX1 yX1_isThere yX1_isThere, .initialized RX1]) (all4 mw_1_42 mw_1_43 mw_1_44 mw_1_3) mw_1_45) rfl rfl rfl (by decide +kernel) ⟨Nat.le_of_ble_eq_true rfl, Nat.le_of_ble_eq_true rfl⟩) hEV hP 0 rfl rfl rfl hl.1 rfl (Nat.le_of_ble_eq_true rfl) dX1_takeAway_2 ⟨Nat.zero_le _, Nat.zero_le _⟩ ?_
  refine lv_if_ne (tgt := 10) hx hb dX1_takeAway_5 (by decide) (fun c_5 => ?_) (fun c_5 => ?_)
  · have c_5 : (thB τ x) = true := b2i_t c_5
    have hE := (if_pos c_5).symm.trans hE
    refine lv_aload_n hx hb dX1_takeAway_10 rfl (lv_at hl 0 rfl) ?_
    refine lv_dup hx hb dX1_takeAway_11 rfl ?_
    refine va_get (D := D) (ci := 1) (v := .int (h 8 0)) (C := RX1) (T := TX1) (N := 10) hx hb hts (fun w9 h9 => List.mem_cons_of_mem _ (inT_X1 w9 h9)) hown hK hP 0 rfl rfl 0 (by decide) (hts (.fieldLink RX1 40 "LinkPredictor$Hierarchy" "there" "I") (List.mem_cons_of_mem _ mw_1_71)) (fun _ h9 => h9) rfl dX1_takeAway_12 ?_
    refine lv_iload_n hx hb dX1_takeAway_15 rfl (lv_at hl 1 rfl) ?_
    refine ro_SN [.int (nI x)] [.int (h 8 0), .ref (a 0)] ⟨hx, hb, hml, hown, hts⟩ (c_X4_bit l D cI cZ cB cR x (by omega)) (va_cnB (host := "LinkPredictor") 1 hts (goodC mw_1_33) rfl rfl rfl (hEV.2 (.methodLinkNest RX1 36 yX4_bit "LinkPredictor") (by decide +kernel)) (hts (.initialized RX4) (List.mem_cons_of_mem _ mw_1_1)) (by decide +kernel) ⟨Nat.le_of_ble_eq_true rfl, Nat.le_of_ble_eq_true rfl⟩) (hts (.static yX4_bit) (List.mem_cons_of_mem _ mw_1_32)) hEV va_P0 rfl hl.1 rfl (Nat.le_of_ble_eq_true rfl) dX1_takeAway_16 ⟨Nat.zero_le _, Nat.zero_le _⟩ ?_
    refine lv_iconst (v := (-1 : Int32)) hx hb dX1_takeAway_19 (by decide) ?_
    refine lv_ixor hx hb dX1_takeAway_20 ?_
    refine lv_iand hx hb dX1_takeAway_21 ?_
    refine va_put (D := D) (ci := 1) (v := .int ((h 8 0) &&& ((bm x) ^^^ (-1 : Int32)))) (ty := .int) (C := RX1) (T := TX1) (N := 10) hx hb hts (fun w9 h9 => List.mem_cons_of_mem _ (inT_X1 w9 h9)) tyX1 tyX1_ok nmX1 hown hK hP hD hS 0 rfl rfl 0 (by decide) (hts (.fieldLink RX1 40 "LinkPredictor$Hierarchy" "there" "I") (List.mem_cons_of_mem _ mw_1_71)) (fun _ h9 => h9) rfl (by decide +kernel) rfl rfl (Nat.le_of_ble_eq_true rfl) dX1_takeAway_22 (fun H locs hP hD hS => ?_)
    have hP : va_P D vwCl (wH cI a (st2 h 8 0 ((h 8 0) &&& ((bm x) ^^^ (-1 : Int32))))) _ := hP
    have hD : va_D A (wH cI a (st2 h 8 0 ((h 8 0) &&& ((bm x) ^^^ (-1 : Int32))))) := hD
    refine lv_aload_n hx hb dX1_takeAway_25 rfl (lv_at hl 0 rfl) ?_
    refine mu_Vv [] [] ⟨hx, hb, hml, hown, hts⟩ (c_X1_settle l D cI cZ cB cR a (st2 h 8 0 ((h 8 0) &&& ((bm x) ^^^ (-1 : Int32)))) (vwH (st2 h 8 0 ((h 8 0) &&& ((bm x) ^^^ (-1 : Int32))))) rfl wf) (cwV (C := RX1) 0 hts (goodP (ps := [.methodLink RX1 44 yX1_settle, .instanceMethod yX1_settle, .selects RX1 yX1_settle yX1_settle, .initialized RX1]) (all4 mw_1_34 mw_1_36 ms_0 mw_1_3) mw_1_37) rfl rfl rfl (by decide +kernel) ⟨Nat.le_of_ble_eq_true rfl, Nat.le_of_ble_eq_true rfl⟩) hEV hP hD hS hA 0 rfl rfl rfl hl.1 rfl (Nat.le_of_ble_eq_true rfl) dX1_takeAway_26 ⟨Nat.zero_le _, Nat.zero_le _⟩ (fun u9 H1 locs hw hP1 hk1 hS => ?_)
    have hP : va_P D vwCl (wH cI a (p_X1_settle (vwH (st2 h 8 0 ((h 8 0) &&& ((bm x) ^^^ (-1 : Int32))))) (st2 h 8 0 ((h 8 0) &&& ((bm x) ^^^ (-1 : Int32)))))) H1 := hP1
    have hD : va_D A (wH cI a (p_X1_settle (vwH (st2 h 8 0 ((h 8 0) &&& ((bm x) ^^^ (-1 : Int32))))) (st2 h 8 0 ((h 8 0) &&& ((bm x) ^^^ (-1 : Int32)))))) := hD.adr rfl
    generalize H1 = H at hP hS ⊢
    refine lv_iconst (v := (1 : Int32)) hx hb dX1_takeAway_29 (by decide) ?_
    exact W.zret hx hb hr rfl (fun t9 ht9 _ => ⟨⟨_, (), rfl, congrArg Prod.fst hE, by show va_P D vwCl _ t9.heap; rw [ht9, ← congrArg Prod.snd hE]; exact hP⟩, hS.F ht9⟩) hS.2.2 dX1_takeAway_30
  · have c_5 : ¬ ((thB τ x) = true) := b2i_f c_5
    have hE := (if_neg c_5).symm.trans hE
    refine lv_iconst (v := (0 : Int32)) hx hb dX1_takeAway_8 (by decide) ?_
    exact W.zret hx hb hr rfl (fun t9 ht9 _ => ⟨⟨_, (), rfl, congrArg Prod.fst hE, by show va_P D vwCl _ t9.heap; rw [ht9, ← congrArg Prod.snd hE]; exact hP⟩, hS.F ht9⟩) hS.2.2 dX1_takeAway_9
def p_X2_append (γ : Nat → Nat → Int32) (n : Nat) (x : Int32) (y : Bool) (z u v : Int32) (g : (Nat → Nat → Int32)) : Int32 × (Nat → Nat → Int32) := if n < 30 then ((nI n, st2 (st2 (st2 (st2 (st2 g 4 0 (nI (n + 1))) 0 n x) 1 n (kyF y z)) 2 n u) 3 n v)) else (((-3 : Int32), g))
set_option maxHeartbeats 4000000 in
set_option maxRecDepth 100000 in
theorem c_X2_append (l : Launch) (D : va_G) (cI cZ cB cR : ClassId) (a : Nat → Nat) (g γ : Nat → Nat → Int32) (n : Nat) (x : Int32) (y : Bool) (z u v : Int32) (ok : OKM g γ n) : MUi l yX2_append wsX2_append ({ frames := 1, cells := 0, slots := 0, locals := 21 } : Room) D cI cZ cB cR (wM cI a g) [.ref (a 0), .int x, .int (b2i y), .int z, .int u, .int v] (fun (_ : Unit) => wM cI a ((p_X2_append γ n x y z u v g).2)) (fun r _ => r = (p_X2_append γ n x y z u v g).1) := by
  generalize hE : p_X2_append γ n x y z u v g = tgt
  intro sz
  refine Met.ofW (cc := cX2_append) (maxL := 7) (ret := (some .int)) (by decide) rfl ?_
  intro p e s m args below meth c s₁ B hml hv
  obtain ⟨hargs, hsz, hP, hEV, hD0⟩ := hv
  have hx := B.exec
  have hb := B.bytes
  have hr := B.returns
  have hts := atoms_spec (ws := wsX2_append) B.pre
  have hown : s.vm.findClass RX2 = some m.cls := findClass_of_methodNamed B.named
  have hlocks := B.notSynchronized
  have hK := hEV.1
  have hl := lv_entry ([.ref (a 0), .int x, .int (b2i y), .int z, .int u, .int v]) (n := 7) (Nat.le_of_ble_eq_true rfl)
  rw [show entryFrame m args 7 = entryFrame m ([.ref (a 0), .int x, .int (b2i y), .int z, .int u, .int v] : List Value).toArray 7 from by rw [hargs], lg_entry_eq]
  generalize (lg_sl ([.ref (a 0), .int x, .int (b2i y), .int z, .int u, .int v]) ++ List.replicate (7 - (lg_sl ([.ref (a 0), .int x, .int (b2i y), .int z, .int u, .int v])).length) Slot.unset).toArray = ls at hl ⊢
  have hl : lv_has ls 7 [(0, .ref (a 0)), (1, .int x), (2, .int (b2i y)), (3, .int z), (4, .int u), (5, .int v)] := hl
  subst hsz
  have hD := hD0.self (sz := s.heap.size)
  generalize hAe : va_A (wM cI a g) s.heap.size = A at hD ⊢
  have hA : ∀ q : Nat, s.heap.size ≤ q → A q := fun q h9 => by rw [← hAe]; exact Or.inr h9
  have hS : va_S A s.heap s.heap [] := va_S.rf
  rw [p_X2_append] at hE
  have hn30 := ok.2.1
  refine lv_aload_n hx hb dX2_append_0 rfl (lv_at hl 0 rfl) ?_
  refine va_get (D := D) (ci := 2) (v := .int (g 4 0)) (C := RX2) (T := TX2) (N := 6) hx hb hts (fun w9 h9 => List.mem_cons_of_mem _ (inT_X2 w9 h9)) hown hK hP 0 rfl rfl 0 (by decide) (hts (.fieldLink RX2 24 "LinkPredictor$Members" "size" "I") (List.mem_cons_of_mem _ mw_1_109)) (fun _ h9 => h9) rfl dX2_append_1 ?_
  refine top_eq (ok.1) ?_
  refine lv_bipush (v := (30 : Int32)) hx hb dX2_append_4 (by decide) ?_
  refine lv_icmp_lt (tgt := 12) hx hb dX2_append_6 (by decide) (fun c_6 => ?_) (fun c_6 => ?_)
  · have c_6 : n < 30 := (nI_ltI (a := n) (b := 30) (by omega) (by omega)).mp c_6
    have hE := (if_pos c_6).symm.trans hE
    refine lv_aload_n hx hb dX2_append_12 rfl (lv_at hl 0 rfl) ?_
    refine va_get (D := D) (ci := 2) (v := .int (g 4 0)) (C := RX2) (T := TX2) (N := 6) hx hb hts (fun w9 h9 => List.mem_cons_of_mem _ (inT_X2 w9 h9)) hown hK hP 0 rfl rfl 0 (by decide) (hts (.fieldLink RX2 24 "LinkPredictor$Members" "size" "I") (List.mem_cons_of_mem _ mw_1_109)) (fun _ h9 => h9) rfl dX2_append_13 ?_
    refine top_eq (ok.1) ?_
    refine lv_istore (lv' := [(6, .int (nI n)), (0, .ref (a 0)), (1, .int x), (2, .int (b2i y)), (3, .int z), (4, .int u), (5, .int v)]) hx hb dX2_append_16 hl (by decide) rfl (fun ls hl => ?_)
    refine lv_aload_n hx hb dX2_append_18 rfl (lv_at hl 1 rfl) ?_
    refine lv_dup hx hb dX2_append_19 rfl ?_
    refine va_get (D := D) (ci := 2) (v := .int (g 4 0)) (C := RX2) (T := TX2) (N := 6) hx hb hts (fun w9 h9 => List.mem_cons_of_mem _ (inT_X2 w9 h9)) hown hK hP 0 rfl rfl 0 (by decide) (hts (.fieldLink RX2 24 "LinkPredictor$Members" "size" "I") (List.mem_cons_of_mem _ mw_1_109)) (fun _ h9 => h9) rfl dX2_append_20 ?_
    refine top_eq (ok.1) ?_
    refine lv_iconst (v := (1 : Int32)) hx hb dX2_append_23 (by decide) ?_
    refine lv_iadd hx hb dX2_append_24 ?_
    refine top_eq (nI_add n 1) ?_
    refine va_put (D := D) (ci := 2) (v := .int (nI (n + 1))) (ty := .int) (C := RX2) (T := TX2) (N := 6) hx hb hts (fun w9 h9 => List.mem_cons_of_mem _ (inT_X2 w9 h9)) tyX2 tyX2_ok nmX2 hown hK hP hD hS 0 rfl rfl 0 (by decide) (hts (.fieldLink RX2 24 "LinkPredictor$Members" "size" "I") (List.mem_cons_of_mem _ mw_1_109)) (fun _ h9 => h9) rfl (by decide +kernel) rfl rfl (Nat.le_of_ble_eq_true rfl) dX2_append_25 (fun H locs hP hD hS => ?_)
    have hP : va_P D vwCl (wM cI a (st2 g 4 0 (nI (n + 1)))) _ := hP
    have hD : va_D A (wM cI a (st2 g 4 0 (nI (n + 1)))) := hD
    refine lv_aload_n hx hb dX2_append_28 rfl (lv_at hl 1 rfl) ?_
    refine va_get (D := D) (ci := 2) (v := .ref (a 1)) (C := RX2) (T := TX2) (N := 6) hx hb hts (fun w9 h9 => List.mem_cons_of_mem _ (inT_X2 w9 h9)) hown hK hP 0 rfl rfl 2 (by decide) (hts (.fieldLink RX2 9 "LinkPredictor$Members" "owners" "[I") (List.mem_cons_of_mem _ mw_1_111)) (fun _ h9 => h9) rfl dX2_append_29 ?_
    refine lv_iload hx hb dX2_append_32 (lv_at hl 0 rfl) ?_
    refine lv_iload_n hx hb dX2_append_34 rfl (lv_at hl 2 rfl) ?_
    refine mu_ast hx hb hEV hP hD hS 1 (j := n) (v := x) (w2 := wM cI a (st2 (st2 g 4 0 (nI (n + 1))) 0 n x)) rfl (by omega) (by decide) rfl dX2_append_35 (fun H locs hP hD hS => ?_)
    refine lv_aload_n hx hb dX2_append_36 rfl (lv_at hl 1 rfl) ?_
    refine va_get (D := D) (ci := 2) (v := .ref (a 2)) (C := RX2) (T := TX2) (N := 6) hx hb hts (fun w9 h9 => List.mem_cons_of_mem _ (inT_X2 w9 h9)) hown hK hP 0 rfl rfl 3 (by decide) (hts (.fieldLink RX2 15 "LinkPredictor$Members" "keys" "[I") (List.mem_cons_of_mem _ mw_1_112)) (fun _ h9 => h9) rfl dX2_append_37 ?_
    refine lv_iload hx hb dX2_append_40 (lv_at hl 0 rfl) ?_
    refine lv_iload_n hx hb dX2_append_42 rfl (lv_at hl 3 rfl) ?_
    refine lv_iload_n hx hb dX2_append_43 rfl (lv_at hl 4 rfl) ?_
    refine ro_S [.int (b2i y), .int z] [.int (nI n), .ref (a 2)] ⟨hx, hb, hml, hown, hts⟩ (c_X2_keyOf l D cI cZ cB cR y z) (va_cwS 2 hts (goodP (ps := [.methodLink RX2 28 yX2_keyOf, .static yX2_keyOf, .initialized RX2]) (all3 mw_1_226 mw_1_227 mw_1_4) mw_1_228) rfl rfl rfl (by decide +kernel) ⟨Nat.le_of_ble_eq_true rfl, Nat.le_of_ble_eq_true rfl⟩) hEV va_P0 rfl hl.1 rfl (Nat.le_of_ble_eq_true rfl) dX2_append_44 ⟨Nat.zero_le _, Nat.zero_le _⟩ ?_
    refine mu_ast hx hb hEV hP hD hS 2 (j := n) (v := kyF y z) (w2 := wM cI a (st2 (st2 (st2 g 4 0 (nI (n + 1))) 0 n x) 1 n (kyF y z))) rfl (by omega) (by decide) rfl dX2_append_47 (fun H locs hP hD hS => ?_)
    refine lv_aload_n hx hb dX2_append_48 rfl (lv_at hl 1 rfl) ?_
    refine va_get (D := D) (ci := 2) (v := .ref (a 3)) (C := RX2) (T := TX2) (N := 6) hx hb hts (fun w9 h9 => List.mem_cons_of_mem _ (inT_X2 w9 h9)) hown hK hP 0 rfl rfl 4 (by decide) (hts (.fieldLink RX2 18 "LinkPredictor$Members" "accesses" "[I") (List.mem_cons_of_mem _ mw_1_113)) (fun _ h9 => h9) rfl dX2_append_49 ?_
    refine lv_iload hx hb dX2_append_52 (lv_at hl 0 rfl) ?_
    refine lv_iload hx hb dX2_append_54 (lv_at hl 5 rfl) ?_
    refine mu_ast hx hb hEV hP hD hS 3 (j := n) (v := u) (w2 := wM cI a (st2 (st2 (st2 (st2 g 4 0 (nI (n + 1))) 0 n x) 1 n (kyF y z)) 2 n u)) rfl (by omega) (by decide) rfl dX2_append_56 (fun H locs hP hD hS => ?_)
    refine lv_aload_n hx hb dX2_append_57 rfl (lv_at hl 1 rfl) ?_
    refine va_get (D := D) (ci := 2) (v := .ref (a 4)) (C := RX2) (T := TX2) (N := 6) hx hb hts (fun w9 h9 => List.mem_cons_of_mem _ (inT_X2 w9 h9)) hown hK hP 0 rfl rfl 5 (by decide) (hts (.fieldLink RX2 21 "LinkPredictor$Members" "flags" "[I") (List.mem_cons_of_mem _ mw_1_114)) (fun _ h9 => h9) rfl dX2_append_58 ?_
    refine lv_iload hx hb dX2_append_61 (lv_at hl 0 rfl) ?_
    refine lv_iload hx hb dX2_append_63 (lv_at hl 6 rfl) ?_
    refine mu_ast hx hb hEV hP hD hS 4 (j := n) (v := v) (w2 := wM cI a (st2 (st2 (st2 (st2 (st2 g 4 0 (nI (n + 1))) 0 n x) 1 n (kyF y z)) 2 n u) 3 n v)) rfl (by omega) (by decide) rfl dX2_append_65 (fun H locs hP hD hS => ?_)
    refine lv_iload hx hb dX2_append_66 (lv_at hl 0 rfl) ?_
    exact W.iret hx hb hr (fun t9 ht9 _ => ⟨⟨_, (), rfl, congrArg Prod.fst hE, by show va_P D vwCl _ t9.heap; rw [ht9, ← congrArg Prod.snd hE]; exact hP⟩, hS.F ht9⟩) hS.2.2 dX2_append_68
  · have c_6 : ¬ (n < 30) := fun q9 => c_6 ((nI_ltI (a := n) (b := 30) (by omega) (by omega)).mpr q9)
    have hE := (if_neg c_6).symm.trans hE
    refine lv_bipush (v := (-3 : Int32)) hx hb dX2_append_9 (by decide) ?_
    exact W.iret hx hb hr (fun t9 ht9 _ => ⟨⟨_, (), rfl, congrArg Prod.fst hE, by show va_P D vwCl _ t9.heap; rw [ht9, ← congrArg Prod.snd hE]; exact hP⟩, hS.F ht9⟩) hS.2.2 dX2_append_11
theorem wi_sN9 {v : Int32} {b : Nat} (hb : b < 2 ^ 31) (h : wi v (nI b) = true) : sN v < b ∧ v = nI (sN v) := by
  obtain ⟨j, hj, e⟩ := wi_of hb h
  rw [e, sN_nI (by omega)]
  exact ⟨hj, rfl⟩
def p_X2_change (γ : Nat → Nat → Int32) (n : Nat) (x y z : Int32) (g : (Nat → Nat → Int32)) : Int32 × (Nat → Nat → Int32) := if (wi x (nI n) && !(goB γ (sN x))) = true then (((1 : Int32), st2 (st2 g 2 (sN x) y) 3 (sN x) z)) else (((0 : Int32), g))
set_option maxHeartbeats 4000000 in
set_option maxRecDepth 100000 in
theorem c_X2_change (l : Launch) (D : va_G) (cI cZ cB cR : ClassId) (a : Nat → Nat) (g γ : Nat → Nat → Int32) (n : Nat) (x y z : Int32) (ok : OKM g γ n) : MUi l yX2_change wsX2_change ({ frames := 2, cells := 0, slots := 0, locals := 42 } : Room) D cI cZ cB cR (wM cI a g) [.ref (a 0), .int x, .int y, .int z] (fun (_ : Unit) => wM cI a ((p_X2_change γ n x y z g).2)) (fun r _ => r = (p_X2_change γ n x y z g).1) := by
  generalize hE : p_X2_change γ n x y z g = tgt
  intro sz
  refine Met.ofW (cc := cX2_change) (maxL := 4) (ret := (some .boolean)) (by decide) rfl ?_
  intro p e s m args below meth c s₁ B hml hv
  obtain ⟨hargs, hsz, hP, hEV, hD0⟩ := hv
  have hx := B.exec
  have hb := B.bytes
  have hr := B.returns
  have hts := atoms_spec (ws := wsX2_change) B.pre
  have hown : s.vm.findClass RX2 = some m.cls := findClass_of_methodNamed B.named
  have hlocks := B.notSynchronized
  have hK := hEV.1
  have hl := lv_entry ([.ref (a 0), .int x, .int y, .int z]) (n := 4) (Nat.le_of_ble_eq_true rfl)
  rw [show entryFrame m args 4 = entryFrame m ([.ref (a 0), .int x, .int y, .int z] : List Value).toArray 4 from by rw [hargs], lg_entry_eq]
  generalize (lg_sl ([.ref (a 0), .int x, .int y, .int z]) ++ List.replicate (4 - (lg_sl ([.ref (a 0), .int x, .int y, .int z])).length) Slot.unset).toArray = ls at hl ⊢
  have hl : lv_has ls 4 [(0, .ref (a 0)), (1, .int x), (2, .int y), (3, .int z)] := hl
  subst hsz
  have hD := hD0.self (sz := s.heap.size)
  generalize hAe : va_A (wM cI a g) s.heap.size = A at hD ⊢
  have hA : ∀ q : Nat, s.heap.size ≤ q → A q := fun q h9 => by rw [← hAe]; exact Or.inr h9
  have hS : va_S A s.heap s.heap [] := va_S.rf
  rw [p_X2_change] at hE
  have hn30 := ok.2.1
  refine lv_aload_n hx hb dX2_change_0 rfl (lv_at hl 0 rfl) ?_
  refine lv_iload_n hx hb dX2_change_1 rfl (lv_at hl 1 rfl) ?_
  refine ro_V [.int x] [] ⟨hx, hb, hml, hown, hts⟩ (c_X2_isPresent l D cI cZ cB cR a g γ n x ok) (cwV (C := RX2) 1 hts (goodP (ps := [.methodLink RX2 32 yX2_isPresent, .instanceMethod yX2_isPresent, .selects RX2 yX2_isPresent yX2_isPresent, .initialized RX2]) (all4 mw_2_2 mw_2_4 ms_5 mw_1_4) mw_2_5) rfl rfl rfl (by decide +kernel) ⟨Nat.le_of_ble_eq_true rfl, Nat.le_of_ble_eq_true rfl⟩) hEV hP 0 rfl rfl rfl hl.1 rfl (Nat.le_of_ble_eq_true rfl) dX2_change_2 ⟨Nat.zero_le _, Nat.zero_le _⟩ ?_
  refine lv_if_ne (tgt := 10) hx hb dX2_change_5 (by decide) (fun c_5 => ?_) (fun c_5 => ?_)
  · have c_5 : (wi x (nI n) && !(goB γ (sN x))) = true := b2i_t c_5
    have hE := (if_pos c_5).symm.trans hE
    have hp9 := Bool.and_eq_true_iff.mp c_5
    have hx9 := wi_sN9 (b := n) (by omega) hp9.1
    have hx8 := hx9.1
    refine lv_aload_n hx hb dX2_change_10 rfl (lv_at hl 0 rfl) ?_
    refine va_get (D := D) (ci := 2) (v := .ref (a 3)) (C := RX2) (T := TX2) (N := 6) hx hb hts (fun w9 h9 => List.mem_cons_of_mem _ (inT_X2 w9 h9)) hown hK hP 0 rfl rfl 4 (by decide) (hts (.fieldLink RX2 18 "LinkPredictor$Members" "accesses" "[I") (List.mem_cons_of_mem _ mw_1_113)) (fun _ h9 => h9) rfl dX2_change_11 ?_
    refine lv_iload_n hx hb dX2_change_14 rfl (lv_at hl 1 rfl) ?_
    refine top_eq (hx9.2) ?_
    refine lv_iload_n hx hb dX2_change_15 rfl (lv_at hl 2 rfl) ?_
    refine mu_ast hx hb hEV hP hD hS 3 (j := (sN x)) (v := y) (w2 := wM cI a (st2 g 2 (sN x) y)) rfl (by omega) (by decide) rfl dX2_change_16 (fun H locs hP hD hS => ?_)
    refine lv_aload_n hx hb dX2_change_17 rfl (lv_at hl 0 rfl) ?_
    refine va_get (D := D) (ci := 2) (v := .ref (a 4)) (C := RX2) (T := TX2) (N := 6) hx hb hts (fun w9 h9 => List.mem_cons_of_mem _ (inT_X2 w9 h9)) hown hK hP 0 rfl rfl 5 (by decide) (hts (.fieldLink RX2 21 "LinkPredictor$Members" "flags" "[I") (List.mem_cons_of_mem _ mw_1_114)) (fun _ h9 => h9) rfl dX2_change_18 ?_
    refine lv_iload_n hx hb dX2_change_21 rfl (lv_at hl 1 rfl) ?_
    refine top_eq (hx9.2) ?_
    refine lv_iload_n hx hb dX2_change_22 rfl (lv_at hl 3 rfl) ?_
    refine mu_ast hx hb hEV hP hD hS 4 (j := (sN x)) (v := z) (w2 := wM cI a (st2 (st2 g 2 (sN x) y) 3 (sN x) z)) rfl (by omega) (by decide) rfl dX2_change_23 (fun H locs hP hD hS => ?_)
    refine lv_iconst (v := (1 : Int32)) hx hb dX2_change_24 (by decide) ?_
    exact W.zret hx hb hr rfl (fun t9 ht9 _ => ⟨⟨_, (), rfl, congrArg Prod.fst hE, by show va_P D vwCl _ t9.heap; rw [ht9, ← congrArg Prod.snd hE]; exact hP⟩, hS.F ht9⟩) hS.2.2 dX2_change_25
  · have c_5 : ¬ ((wi x (nI n) && !(goB γ (sN x))) = true) := b2i_f c_5
    have hE := (if_neg c_5).symm.trans hE
    refine lv_iconst (v := (0 : Int32)) hx hb dX2_change_8 (by decide) ?_
    exact W.zret hx hb hr rfl (fun t9 ht9 _ => ⟨⟨_, (), rfl, congrArg Prod.fst hE, by show va_P D vwCl _ t9.heap; rw [ht9, ← congrArg Prod.snd hE]; exact hP⟩, hS.F ht9⟩) hS.2.2 dX2_change_9
def p_X2_discard (γ : Nat → Nat → Int32) (n : Nat) (x : Int32) (g : (Nat → Nat → Int32)) : Int32 × (Nat → Nat → Int32) := if (wi x (nI n) && !(goB γ (sN x))) = true then (((1 : Int32), st2 g 4 1 ((g 4 1) ||| (bm (sN x))))) else (((0 : Int32), g))
set_option maxHeartbeats 4000000 in
set_option maxRecDepth 100000 in
theorem c_X2_discard (l : Launch) (D : va_G) (cI cZ cB cR : ClassId) (a : Nat → Nat) (g γ : Nat → Nat → Int32) (n : Nat) (x : Int32) (ok : OKM g γ n) : MUi l yX2_discard wsX2_discard ({ frames := 2, cells := 0, slots := 0, locals := 42 } : Room) D cI cZ cB cR (wM cI a g) [.ref (a 0), .int x] (fun (_ : Unit) => wM cI a ((p_X2_discard γ n x g).2)) (fun r _ => r = (p_X2_discard γ n x g).1) := by
  generalize hE : p_X2_discard γ n x g = tgt
  intro sz
  refine Met.ofW (cc := cX2_discard) (maxL := 2) (ret := (some .boolean)) (by decide) rfl ?_
  intro p e s m args below meth c s₁ B hml hv
  obtain ⟨hargs, hsz, hP, hEV, hD0⟩ := hv
  have hx := B.exec
  have hb := B.bytes
  have hr := B.returns
  have hts := atoms_spec (ws := wsX2_discard) B.pre
  have hown : s.vm.findClass RX2 = some m.cls := findClass_of_methodNamed B.named
  have hlocks := B.notSynchronized
  have hK := hEV.1
  have hl := lv_entry ([.ref (a 0), .int x]) (n := 2) (Nat.le_of_ble_eq_true rfl)
  rw [show entryFrame m args 2 = entryFrame m ([.ref (a 0), .int x] : List Value).toArray 2 from by rw [hargs], lg_entry_eq]
  generalize (lg_sl ([.ref (a 0), .int x]) ++ List.replicate (2 - (lg_sl ([.ref (a 0), .int x])).length) Slot.unset).toArray = ls at hl ⊢
  have hl : lv_has ls 2 [(0, .ref (a 0)), (1, .int x)] := hl
  subst hsz
  have hD := hD0.self (sz := s.heap.size)
  generalize hAe : va_A (wM cI a g) s.heap.size = A at hD ⊢
  have hA : ∀ q : Nat, s.heap.size ≤ q → A q := fun q h9 => by rw [← hAe]; exact Or.inr h9
  have hS : va_S A s.heap s.heap [] := va_S.rf
  rw [p_X2_discard] at hE
  have hn30 := ok.2.1
  refine lv_aload_n hx hb dX2_discard_0 rfl (lv_at hl 0 rfl) ?_
  refine lv_iload_n hx hb dX2_discard_1 rfl (lv_at hl 1 rfl) ?_
  refine ro_V [.int x] [] ⟨hx, hb, hml, hown, hts⟩ (c_X2_isPresent l D cI cZ cB cR a g γ n x ok) (cwV (C := RX2) 1 hts (goodP (ps := [.methodLink RX2 32 yX2_isPresent, .instanceMethod yX2_isPresent, .selects RX2 yX2_isPresent yX2_isPresent, .initialized RX2]) (all4 mw_2_2 mw_2_4 ms_5 mw_1_4) mw_2_5) rfl rfl rfl (by decide +kernel) ⟨Nat.le_of_ble_eq_true rfl, Nat.le_of_ble_eq_true rfl⟩) hEV hP 0 rfl rfl rfl hl.1 rfl (Nat.le_of_ble_eq_true rfl) dX2_discard_2 ⟨Nat.zero_le _, Nat.zero_le _⟩ ?_
  refine lv_if_ne (tgt := 10) hx hb dX2_discard_5 (by decide) (fun c_5 => ?_) (fun c_5 => ?_)
  · have c_5 : (wi x (nI n) && !(goB γ (sN x))) = true := b2i_t c_5
    have hE := (if_pos c_5).symm.trans hE
    have hp9 := Bool.and_eq_true_iff.mp c_5
    have hx9 := wi_sN9 (b := n) (by omega) hp9.1
    have hx8 := hx9.1
    refine lv_aload_n hx hb dX2_discard_10 rfl (lv_at hl 0 rfl) ?_
    refine lv_dup hx hb dX2_discard_11 rfl ?_
    refine va_get (D := D) (ci := 2) (v := .int (g 4 1)) (C := RX2) (T := TX2) (N := 6) hx hb hts (fun w9 h9 => List.mem_cons_of_mem _ (inT_X2 w9 h9)) hown hK hP 0 rfl rfl 1 (by decide) (hts (.fieldLink RX2 36 "LinkPredictor$Members" "gone" "I") (List.mem_cons_of_mem _ mw_1_110)) (fun _ h9 => h9) rfl dX2_discard_12 ?_
    refine lv_iload_n hx hb dX2_discard_15 rfl (lv_at hl 1 rfl) ?_
    refine top_eq (hx9.2) ?_
    refine ro_SN [.int (nI (sN x))] [.int (g 4 1), .ref (a 0)] ⟨hx, hb, hml, hown, hts⟩ (c_X4_bit l D cI cZ cB cR (sN x) (by omega)) (va_cnB (host := "LinkPredictor") 1 hts (goodC mw_1_33) rfl rfl rfl (hEV.2 (.methodLinkNest RX2 39 yX4_bit "LinkPredictor") (by decide +kernel)) (hts (.initialized RX4) (List.mem_cons_of_mem _ mw_1_1)) (by decide +kernel) ⟨Nat.le_of_ble_eq_true rfl, Nat.le_of_ble_eq_true rfl⟩) (hts (.static yX4_bit) (List.mem_cons_of_mem _ mw_1_32)) hEV va_P0 rfl hl.1 rfl (Nat.le_of_ble_eq_true rfl) dX2_discard_16 ⟨Nat.zero_le _, Nat.zero_le _⟩ ?_
    refine lv_ior hx hb dX2_discard_19 ?_
    refine va_put (D := D) (ci := 2) (v := .int ((g 4 1) ||| (bm (sN x)))) (ty := .int) (C := RX2) (T := TX2) (N := 6) hx hb hts (fun w9 h9 => List.mem_cons_of_mem _ (inT_X2 w9 h9)) tyX2 tyX2_ok nmX2 hown hK hP hD hS 0 rfl rfl 1 (by decide) (hts (.fieldLink RX2 36 "LinkPredictor$Members" "gone" "I") (List.mem_cons_of_mem _ mw_1_110)) (fun _ h9 => h9) rfl (by decide +kernel) rfl rfl (Nat.le_of_ble_eq_true rfl) dX2_discard_20 (fun H locs hP hD hS => ?_)
    have hP : va_P D vwCl (wM cI a (st2 g 4 1 ((g 4 1) ||| (bm (sN x))))) _ := hP
    have hD : va_D A (wM cI a (st2 g 4 1 ((g 4 1) ||| (bm (sN x))))) := hD
    refine lv_iconst (v := (1 : Int32)) hx hb dX2_discard_23 (by decide) ?_
    exact W.zret hx hb hr rfl (fun t9 ht9 _ => ⟨⟨_, (), rfl, congrArg Prod.fst hE, by show va_P D vwCl _ t9.heap; rw [ht9, ← congrArg Prod.snd hE]; exact hP⟩, hS.F ht9⟩) hS.2.2 dX2_discard_24
  · have c_5 : ¬ ((wi x (nI n) && !(goB γ (sN x))) = true) := b2i_f c_5
    have hE := (if_neg c_5).symm.trans hE
    refine lv_iconst (v := (0 : Int32)) hx hb dX2_discard_8 (by decide) ?_
    exact W.zret hx hb hr rfl (fun t9 ht9 _ => ⟨⟨_, (), rfl, congrArg Prod.fst hE, by show va_P D vwCl _ t9.heap; rw [ht9, ← congrArg Prod.snd hE]; exact hP⟩, hS.F ht9⟩) hS.2.2 dX2_discard_9
def p_X2_discardAllOf_2 (n : Nat) (x : Int32) : Nat → Nat → (Nat → Nat → Int32) → (Nat → Nat → Int32)
  | 0, _, g => g
  | k + 1, n2, g => if n ≤ n2 then (g) else (if (g 0 n2) = x then (p_X2_discardAllOf_2 n x k (n2 + 1) (st2 g 4 1 ((g 4 1) ||| (bm n2)))) else (p_X2_discardAllOf_2 n x k (n2 + 1) g))
def p_X2_discardAllOf (n : Nat) (x : Int32) (g : (Nat → Nat → Int32)) : (Nat → Nat → Int32) := p_X2_discardAllOf_2 n x 31 0 g
set_option maxHeartbeats 4000000 in
set_option maxRecDepth 100000 in
theorem c_X2_discardAllOf (l : Launch) (D : va_G) (cI cZ cB cR : ClassId) (a : Nat → Nat) (g : Nat → Nat → Int32) (n : Nat) (x : Int32) (hz : g 4 0 = nI n) (hn30 : n ≤ 30) : MUv l yX2_discardAllOf wsX2_discardAllOf ({ frames := 1, cells := 0, slots := 0, locals := 20 } : Room) D cI cZ cB cR (wM cI a g) [.ref (a 0), .int x] (fun (_ : Unit) => wM cI a ((p_X2_discardAllOf n x g))) (fun _ => True) := by
  generalize hE : p_X2_discardAllOf n x g = tgt
  intro sz
  refine Met.ofW (cc := cX2_discardAllOf) (maxL := 3) (ret := none) (by decide) rfl ?_
  intro p e s m args below meth c s₁ B hml hv
  obtain ⟨hargs, hsz, hP, hEV, hD0⟩ := hv
  have hx := B.exec
  have hb := B.bytes
  have hr := B.returns
  have hts := atoms_spec (ws := wsX2_discardAllOf) B.pre
  have hown : s.vm.findClass RX2 = some m.cls := findClass_of_methodNamed B.named
  have hlocks := B.notSynchronized
  have hK := hEV.1
  have hl := lv_entry ([.ref (a 0), .int x]) (n := 3) (Nat.le_of_ble_eq_true rfl)
  rw [show entryFrame m args 3 = entryFrame m ([.ref (a 0), .int x] : List Value).toArray 3 from by rw [hargs], lg_entry_eq]
  generalize (lg_sl ([.ref (a 0), .int x]) ++ List.replicate (3 - (lg_sl ([.ref (a 0), .int x])).length) Slot.unset).toArray = ls at hl ⊢
  have hl : lv_has ls 3 [(0, .ref (a 0)), (1, .int x)] := hl
  subst hsz
  have hD := hD0.self (sz := s.heap.size)
  generalize hAe : va_A (wM cI a g) s.heap.size = A at hD ⊢
  have hA : ∀ q : Nat, s.heap.size ≤ q → A q := fun q h9 => by rw [← hAe]; exact Or.inr h9
  have hS : va_S A s.heap s.heap [] := va_S.rf
  rw [p_X2_discardAllOf] at hE
  have key_2 : ∀ (k_2 : Nat) (n2 : Nat) (g : (Nat → Nat → Int32)) (ls : Array Slot) (H : Heap) (locs : List Loc) (hP : va_P D vwCl (wM cI a g) H) (hD : va_D A (wM cI a g)) (hS : va_S A s.heap H locs), (n - n2) < k_2 → g 4 0 = nI n → n2 ≤ n → lv_has ls 3 [(2, .int (nI n2)), (0, .ref (a 0)), (1, .int x)] → p_X2_discardAllOf_2 n x k_2 n2 g = tgt → W p l e (headSpec wsX2_discardAllOf ({ frames := 1, cells := 0, slots := 0, locals := 20 } : Room)).room s m args below meth c H locs 0 0 (MQ below (va_Qv (fun (_ : Unit) => True) (fun _ t => va_P D vwCl (wM cI a tgt) t.heap) A) args s 0 0 A) (F0 m 2 ls []) := by
    intro k_2
    induction k_2 with
    | zero => intro n2 g ls H locs hP hD hS hm; exact absurd hm (Nat.not_lt_zero _)
    | succ k_2 ih_2 =>
      intro n2 g ls H locs hP hD hS hm_2 hi_2_0 hi_2_1 hl hE
      rw [p_X2_discardAllOf_2] at hE
      refine lv_iload_n hx hb dX2_discardAllOf_2 rfl (lv_at hl 0 rfl) ?_
      refine lv_aload_n hx hb dX2_discardAllOf_3 rfl (lv_at hl 1 rfl) ?_
      refine va_get (D := D) (ci := 2) (v := .int (g 4 0)) (C := RX2) (T := TX2) (N := 6) hx hb hts (fun w9 h9 => List.mem_cons_of_mem _ (inT_X2 w9 h9)) hown hK hP 0 rfl rfl 0 (by decide) (hts (.fieldLink RX2 24 "LinkPredictor$Members" "size" "I") (List.mem_cons_of_mem _ mw_1_109)) (fun _ h9 => h9) rfl dX2_discardAllOf_4 ?_
      refine top_eq (hi_2_0) ?_
      refine lv_icmp_ge (tgt := 39) hx hb dX2_discardAllOf_7 (by decide) (fun c_7 => ?_) (fun c_7 => ?_)
      · have c_7 : n ≤ n2 := (nI_leI (a := n) (b := n2) (by omega) (by omega)).mp c_7
        have hE := (if_pos c_7).symm.trans hE
        exact W.vret hx hb hr (fun t9 ht9 _ => ⟨⟨(), rfl, trivial, by show va_P D vwCl _ t9.heap; rw [ht9, ← hE]; exact hP⟩, hS.F ht9⟩) hS.2.2 dX2_discardAllOf_39
      · have c_7 : ¬ (n ≤ n2) := fun q9 => c_7 ((nI_leI (a := n) (b := n2) (by omega) (by omega)).mpr q9)
        have hE := (if_neg c_7).symm.trans hE
        refine lv_aload_n hx hb dX2_discardAllOf_10 rfl (lv_at hl 1 rfl) ?_
        refine va_get (D := D) (ci := 2) (v := .ref (a 1)) (C := RX2) (T := TX2) (N := 6) hx hb hts (fun w9 h9 => List.mem_cons_of_mem _ (inT_X2 w9 h9)) hown hK hP 0 rfl rfl 2 (by decide) (hts (.fieldLink RX2 9 "LinkPredictor$Members" "owners" "[I") (List.mem_cons_of_mem _ mw_1_111)) (fun _ h9 => h9) rfl dX2_discardAllOf_11 ?_
        refine lv_iload_n hx hb dX2_discardAllOf_14 rfl (lv_at hl 0 rfl) ?_
        refine ro_ald hx hb hEV hP 1 (j := n2) rfl (by omega) (by decide) dX2_discardAllOf_15 ?_
        refine lv_iload_n hx hb dX2_discardAllOf_16 rfl (lv_at hl 2 rfl) ?_
        refine lv_icmp_ne (tgt := 33) hx hb dX2_discardAllOf_17 (by decide) (fun c_17 => ?_) (fun c_17 => ?_)
        · skip
          have hE := (if_neg c_17).symm.trans hE
          refine lv_iinc (v := nI (n2 + 1)) (lv' := [(2, .int (nI (n2 + 1))), (0, .ref (a 0)), (1, .int x)]) hx hb dX2_discardAllOf_33 hl (k := 0) rfl (nI_1 _) (by decide) rfl (fun ls hl => ?_)
          refine lv_goto (tgt := 2) hx hb dX2_discardAllOf_36 (by decide) ?_
          exact ih_2 (n2 + 1) g ls _ _ hP hD hS (by omega) (by first | omega | exact hz | exact hi_2_0) (by first | omega | exact hz | exact hi_2_0) (lv_sub hl [0, 1, 2] rfl) hE
        · skip
          have hE := (if_pos c_17).symm.trans hE
          refine lv_aload_n hx hb dX2_discardAllOf_20 rfl (lv_at hl 1 rfl) ?_
          refine lv_dup hx hb dX2_discardAllOf_21 rfl ?_
          refine va_get (D := D) (ci := 2) (v := .int (g 4 1)) (C := RX2) (T := TX2) (N := 6) hx hb hts (fun w9 h9 => List.mem_cons_of_mem _ (inT_X2 w9 h9)) hown hK hP 0 rfl rfl 1 (by decide) (hts (.fieldLink RX2 36 "LinkPredictor$Members" "gone" "I") (List.mem_cons_of_mem _ mw_1_110)) (fun _ h9 => h9) rfl dX2_discardAllOf_22 ?_
          refine lv_iload_n hx hb dX2_discardAllOf_25 rfl (lv_at hl 0 rfl) ?_
          refine ro_SN [.int (nI n2)] [.int (g 4 1), .ref (a 0)] ⟨hx, hb, hml, hown, hts⟩ (c_X4_bit l D cI cZ cB cR n2 (by omega)) (va_cnB (host := "LinkPredictor") 1 hts (goodC mw_1_33) rfl rfl rfl (hEV.2 (.methodLinkNest RX2 39 yX4_bit "LinkPredictor") (by decide +kernel)) (hts (.initialized RX4) (List.mem_cons_of_mem _ mw_1_1)) (by decide +kernel) ⟨Nat.le_of_ble_eq_true rfl, Nat.le_of_ble_eq_true rfl⟩) (hts (.static yX4_bit) (List.mem_cons_of_mem _ mw_1_32)) hEV va_P0 rfl hl.1 rfl (Nat.le_of_ble_eq_true rfl) dX2_discardAllOf_26 ⟨Nat.zero_le _, Nat.zero_le _⟩ ?_
          refine lv_ior hx hb dX2_discardAllOf_29 ?_
          refine va_put (D := D) (ci := 2) (v := .int ((g 4 1) ||| (bm n2))) (ty := .int) (C := RX2) (T := TX2) (N := 6) hx hb hts (fun w9 h9 => List.mem_cons_of_mem _ (inT_X2 w9 h9)) tyX2 tyX2_ok nmX2 hown hK hP hD hS 0 rfl rfl 1 (by decide) (hts (.fieldLink RX2 36 "LinkPredictor$Members" "gone" "I") (List.mem_cons_of_mem _ mw_1_110)) (fun _ h9 => h9) rfl (by decide +kernel) rfl rfl (Nat.le_of_ble_eq_true rfl) dX2_discardAllOf_30 (fun H locs hP hD hS => ?_)
          have hP : va_P D vwCl (wM cI a (st2 g 4 1 ((g 4 1) ||| (bm n2)))) _ := hP
          have hD : va_D A (wM cI a (st2 g 4 1 ((g 4 1) ||| (bm n2)))) := hD
          refine lv_iinc (v := nI (n2 + 1)) (lv' := [(2, .int (nI (n2 + 1))), (0, .ref (a 0)), (1, .int x)]) hx hb dX2_discardAllOf_33 hl (k := 0) rfl (nI_1 _) (by decide) rfl (fun ls hl => ?_)
          refine lv_goto (tgt := 2) hx hb dX2_discardAllOf_36 (by decide) ?_
          exact ih_2 (n2 + 1) (st2 g 4 1 ((g 4 1) ||| (bm n2))) ls _ _ hP hD hS (by omega) (by first | omega | exact hz | exact hi_2_0) (by first | omega | exact hz | exact hi_2_0) (lv_sub hl [0, 1, 2] rfl) hE
  refine lv_iconst (v := (0 : Int32)) hx hb dX2_discardAllOf_0 (by decide) ?_
  refine lv_istore_n (lv' := [(2, .int (0 : Int32)), (0, .ref (a 0)), (1, .int x)]) hx hb dX2_discardAllOf_1 rfl hl (by decide) rfl (fun ls hl => ?_)
  exact key_2 31 0 g ls _ _ hP hD hS (by omega) (by first | omega | exact hz | exact hi_2_0) (by first | omega | exact hz | exact hi_2_0) (lv_sub hl [0, 1, 2] rfl) hE
