/-! ===== LinkPredictor's world ===== -/
/-- tables (2 w types, 2 w + 1 members of build w), searched, references, their number, the build written -/
abbrev LSt : Type := (Nat → Nat → Nat → Int32) × (Nat → Int32) × (Nat → Nat → Nat) × Int32 × Int32
def wRs (ad : Nat → Nat) (Φ : Nat → Nat → Nat) : va_W := (List.range 16).map (fun i => (ad (33 + i), .inr (3, [.int (nI (Φ i 0)), .int (nI (Φ i 1)), .int (nI (Φ i 2)), .int (nI (Φ i 3))])))
def aHw (ad : Nat → Nat) (w : Nat) : Nat → Nat := fun k => ad (4 + 15 * w + k)
def aMw (ad : Nat → Nat) (w : Nat) : Nat → Nat := fun k => ad (13 + 15 * w + k)
def wBw (cI : ClassId) (ad : Nat → Nat) (S : LSt) (w : Nat) : va_W := wB cI (ad (3 + 15 * w)) (aHw ad w) (aMw ad w) (S.1 (2 * w)) (S.1 (2 * w + 1)) (S.2.1 w)
def wLh (cB cR : ClassId) (ad : Nat → Nat) (c v : Int32) : va_W := [(ad 0, .inr (4, [.ref (ad 1), .ref (ad 2), .int c, .int v])), (ad 1, .inl (cB, 2, .inr (.inr (.inr (.inr (fun i => some (ad (3 + 15 * i)))))))), (ad 2, .inl (cR, 16, .inr (.inr (.inr (.inr (fun i => some (ad (33 + i))))))))]
def wL (cI cB cR : ClassId) (ad : Nat → Nat) (S : LSt) : va_W := wLh cB cR ad S.2.2.2.1 S.2.2.2.2 ++ (wBw cI ad S 0 ++ (wBw cI ad S 1 ++ wRs ad S.2.2.1))
def seU (se : Nat → Int32) (w : Nat) (v : Int32) : Nat → Int32 := fun q => if q = w then v else se q
def phU (Φ : Nat → Nat → Nat) (i : Nat) (φ : Nat → Nat) : Nat → Nat → Nat := fun q => if q = i then φ else Φ q
def lsT (S : LSt) (k : Nat) (f : Nat → Nat → Int32) : LSt := (upS S.1 k f, S.2)
def lsS (S : LSt) (w : Nat) (v : Int32) : LSt := (S.1, seU S.2.1 w v, S.2.2)
def lsR (S : LSt) (i : Nat) (φ : Nat → Nat) : LSt := (S.1, S.2.1, phU S.2.2.1 i φ, S.2.2.2)
def lsC (S : LSt) (c : Int32) : LSt := (S.1, S.2.1, S.2.2.1, c, S.2.2.2.2)
def lsW (S : LSt) (v : Int32) : LSt := (S.1, S.2.1, S.2.2.1, S.2.2.2.1, v)
theorem lt2 {w : Nat} (h : w < 2) : w = 0 ∨ w = 1 := by omega
section WL
variable {D : va_G} {A : Nat → Prop} {cI cB cR : ClassId} {ad : Nat → Nat} {S S' : LSt} {H H1 : Heap} {w i : Nat}
theorem wL_b (hw : w < 2) : (wL cI cB cR ad S)[3 + 15 * w]? = some (ad (3 + 15 * w), .inr (0, [.ref (aHw ad w 0), .ref (aMw ad w 0), .int (S.2.1 w)])) := by
  rcases lt2 hw with e | e <;> subst e <;> rfl
theorem wL_mB (hw : w < 2) {q : Nat × va_E} (h : q ∈ wBw cI ad S w) : q ∈ wL cI cB cR ad S := by
  unfold wL
  rcases lt2 hw with e | e <;> subst e
  · exact List.mem_append_right _ (List.mem_append_left _ h)
  · exact List.mem_append_right _ (List.mem_append_right _ (List.mem_append_left _ h))
theorem wL_mR {q : Nat × va_E} (h : q ∈ wRs ad S.2.2.1) : q ∈ wL cI cB cR ad S := List.mem_append_right _ (List.mem_append_right _ (List.mem_append_right _ h))
theorem wL_mR1 (hi : i < 16) {Φ : Nat → Nat → Nat} {q : Nat × va_E} (h : q ∈ wR (ad (33 + i)) (Φ i)) : q ∈ wRs ad Φ := by
  rw [wR, List.mem_singleton] at h
  exact List.mem_map.mpr ⟨i, List.mem_range.mpr hi, h.symm⟩
theorem wL_B (hw : w < 2) (hP : va_P D vwCl (wL cI cB cR ad S) H) : va_P D vwCl (wB cI (ad (3 + 15 * w)) (aHw ad w) (aMw ad w) (S.1 (2 * w)) (S.1 (2 * w + 1)) (S.2.1 w)) H := va_P_mem hP (fun _ h => wL_mB hw h)
theorem wL_H (hw : w < 2) (hP : va_P D vwCl (wL cI cB cR ad S) H) : va_P D vwCl (wH cI (aHw ad w) (S.1 (2 * w))) H := wB_H (wL_B hw hP)
theorem wL_M (hw : w < 2) (hP : va_P D vwCl (wL cI cB cR ad S) H) : va_P D vwCl (wM cI (aMw ad w) (S.1 (2 * w + 1))) H := wB_M (wL_B hw hP)
theorem wL_BR (hw : w < 2) (hi : i < 16) (hP : va_P D vwCl (wL cI cB cR ad S) H) : va_P D vwCl (wBR cI (ad (3 + 15 * w)) (aHw ad w) (aMw ad w) (S.1 (2 * w)) (S.1 (2 * w + 1)) (S.2.1 w) (ad (33 + i)) (S.2.2.1 i)) H := va_P_mem hP (fun q h => by
  rcases List.mem_append.mp h with h | h
  · exact wL_mB hw h
  · exact wL_mR (wL_mR1 hi h))
theorem wL_R (hi : i < 16) (hP : va_P D vwCl (wL cI cB cR ad S) H) : va_P D vwCl (wR (ad (33 + i)) (S.2.2.1 i)) H := va_P_mem hP (fun q h => wL_mR (wL_mR1 hi h))
theorem wL_DB (hw : w < 2) (hD : va_D A (wL cI cB cR ad S)) : va_D A (wB cI (ad (3 + 15 * w)) (aHw ad w) (aMw ad w) (S.1 (2 * w)) (S.1 (2 * w + 1)) (S.2.1 w)) := by
  rcases lt2 hw with e | e <;> subst e
  · exact va_D_l (va_D_r hD)
  · exact va_D_l (va_D_r (va_D_r hD))
theorem wL_DR1 (hi : i < 16) (hD : va_D A (wL cI cB cR ad S)) : va_D A (wR (ad (33 + i)) (S.2.2.1 i)) := by
  refine ⟨fun j k p q hp hq _ => ?_, fun k q hk => ?_⟩
  · have h1 : j < 1 := (List.getElem?_eq_some_iff.mp hp).1
    have h2 : k < 1 := (List.getElem?_eq_some_iff.mp hq).1
    omega
  · obtain ⟨j, hj⟩ := List.getElem?_of_mem (wL_mR (cI := cI) (cB := cB) (cR := cR) (wL_mR1 hi (List.mem_of_getElem? hk)))
    exact hD.2 j q hj
theorem wL_dBR (hw : w < 2) (hD : va_D A (wL cI cB cR ad S)) {p q : Nat × va_E} (hp : p ∈ wBw cI ad S w) (hq : q ∈ wRs ad S.2.2.1) : p.1 ≠ q.1 := by
  rcases lt2 hw with e | e <;> subst e
  · exact va_D_disj (va_D_r hD) hp (List.mem_append_right _ hq)
  · exact va_D_disj (va_D_r (va_D_r hD)) hp hq
theorem wL_DBR (hw : w < 2) (hi : i < 16) (hD : va_D A (wL cI cB cR ad S)) : va_D A (wBR cI (ad (3 + 15 * w)) (aHw ad w) (aMw ad w) (S.1 (2 * w)) (S.1 (2 * w + 1)) (S.2.1 w) (ad (33 + i)) (S.2.2.1 i)) :=
  va_D.app (wL_DB hw hD) (wL_DR1 hi hD) (fun j k p q hp hq => wL_dBR hw hD (List.mem_of_getElem? hp) (wL_mR1 hi (List.mem_of_getElem? hq)))
theorem wL_dhd (hD : va_D A (wL cI cB cR ad S)) {p q : Nat × va_E} (hp : p ∈ wLh cB cR ad S.2.2.2.1 S.2.2.2.2) (hq : q ∈ wBw cI ad S w ∨ q ∈ wRs ad S.2.2.1) (hw : w < 2) : p.1 ≠ q.1 := by
  refine va_D_disj hD hp ?_
  rcases hq with hq | hq
  · rcases lt2 hw with e | e <;> subst e
    · exact List.mem_append_left _ hq
    · exact List.mem_append_right _ (List.mem_append_left _ hq)
  · exact List.mem_append_right _ (List.mem_append_right _ hq)
/-- a call has written build w (and perhaps looked at references X) -/
theorem wL_put (hw : w < 2) (hP : va_P D vwCl (wL cI cB cR ad S) H) (hD : va_D A (wL cI cB cR ad S)) {B' X : va_W} (hX : ∀ q, q ∈ X → q ∈ wRs ad S.2.2.1) (hP1 : va_P D vwCl (B' ++ X) H1) (hk : ∀ q : Nat, q < H.size → ¬ va_A (wBw cI ad S w ++ X) H.size q → H1[q]? = H[q]?)
    (h1 : wBw cI ad S' w = B') (h2 : ∀ v, v < 2 → v ≠ w → wBw cI ad S' v = wBw cI ad S v) (h3 : S'.2.2 = S.2.2) : va_P D vwCl (wL cI cB cR ad S') H1 := by
  refine va_repl hP hD (w2 := wBw cI ad S w ++ X) (fun q h => ?_) hP1 hk (fun q h => ?_)
  · rcases List.mem_append.mp h with h | h
    · exact wL_mB hw h
    · exact wL_mR (hX q h)
  · have bb : ∀ v, v < 2 → q ∈ wBw cI ad S' v → q ∈ B' ++ X ∨ (q ∈ wL cI cB cR ad S ∧ ¬ q ∈ wBw cI ad S w ++ X) := by
      intro v hv hq
      by_cases e : v = w
      · subst e; rw [h1] at hq; exact Or.inl (List.mem_append_left _ hq)
      · rw [h2 v hv e] at hq
        refine Or.inr ⟨wL_mB hv hq, fun z => ?_⟩
        rcases List.mem_append.mp z with z | z
        · have hd : ∀ p q : Nat × va_E, p ∈ wBw cI ad S 0 → q ∈ wBw cI ad S 1 → p.1 ≠ q.1 := fun p q hp hq => va_D_disj (va_D_r hD) hp (List.mem_append_left _ hq)
          rcases lt2 hw with e1 | e1 <;> rcases lt2 hv with e2 | e2 <;> subst e1 <;> subst e2
          · exact e rfl
          · exact hd q q z hq rfl
          · exact hd q q hq z rfl
          · exact e rfl
        · exact wL_dBR hv hD hq (hX q z) rfl
    unfold wL at h
    rw [h3] at h
    rcases List.mem_append.mp h with h | h
    · refine Or.inr ⟨List.mem_append_left _ h, fun z => ?_⟩
      rcases List.mem_append.mp z with z | z
      · exact wL_dhd hD h (Or.inl z) hw rfl
      · exact wL_dhd hD h (Or.inr (hX q z)) hw rfl
    · rcases List.mem_append.mp h with h | h
      · exact bb 0 (by omega) h
      · rcases List.mem_append.mp h with h | h
        · exact bb 1 (by omega) h
        · by_cases z : q ∈ X
          · exact Or.inl (List.mem_append_right _ z)
          · refine Or.inr ⟨wL_mR h, fun y => ?_⟩
            rcases List.mem_append.mp y with y | y
            · exact wL_dBR hw hD y h rfl
            · exact z y
theorem va_A_mono {u v : va_W} {sz q : Nat} (h : ∀ p, p ∈ u → p ∈ v) (hq : va_A u sz q) : va_A v sz q := by
  rcases hq with ⟨k, e, hk⟩ | hq
  · obtain ⟨j, hj⟩ := List.getElem?_of_mem (h _ (List.mem_of_getElem? hk))
    exact Or.inl ⟨j, e, hj⟩
  · exact Or.inr hq
theorem wL_swS {v : Int32} (hw : w < 2) (hi : i < 16) (hP : va_P D vwCl (wL cI cB cR ad S) H) (hD : va_D A (wL cI cB cR ad S)) (hP1 : va_P D vwCl (wBR cI (ad (3 + 15 * w)) (aHw ad w) (aMw ad w) (S.1 (2 * w)) (S.1 (2 * w + 1)) v (ad (33 + i)) (S.2.2.1 i)) H1) (hk : ∀ q : Nat, q < H.size → ¬ va_A (wBR cI (ad (3 + 15 * w)) (aHw ad w) (aMw ad w) (S.1 (2 * w)) (S.1 (2 * w + 1)) (S.2.1 w) (ad (33 + i)) (S.2.2.1 i)) H.size q → H1[q]? = H[q]?) : va_P D vwCl (wL cI cB cR ad (lsS S w v)) H1 := by
  refine wL_put hw hP hD (X := wR (ad (33 + i)) (S.2.2.1 i)) (fun q h => wL_mR1 hi h) hP1 hk ?_ (fun u hu hne => ?_) rfl
  · unfold wBw lsS seU; simp
  · unfold wBw lsS seU; simp [hne]
theorem wL_swB {h' g' : Nat → Nat → Int32} (hw : w < 2) (hP : va_P D vwCl (wL cI cB cR ad S) H) (hD : va_D A (wL cI cB cR ad S)) (hP1 : va_P D vwCl (wB cI (ad (3 + 15 * w)) (aHw ad w) (aMw ad w) h' g' (S.2.1 w)) H1) (hk : ∀ q : Nat, q < H.size → ¬ va_A (wBw cI ad S w) H.size q → H1[q]? = H[q]?) : va_P D vwCl (wL cI cB cR ad (lsT (lsT S (2 * w) h') (2 * w + 1) g')) H1 := by
  refine wL_put hw hP hD (X := []) (fun q h => absurd h List.not_mem_nil) (by rw [List.append_nil]; exact hP1) (by rw [List.append_nil]; exact hk) ?_ (fun u hu hne => ?_) rfl
  · unfold wBw lsT upS
    simp
  · unfold wBw lsT upS
    have e1 : ¬ 2 * u = 2 * w + 1 := by omega
    have e2 : ¬ 2 * u = 2 * w := by omega
    have e3 : ¬ 2 * u + 1 = 2 * w + 1 := by omega
    have e4 : ¬ 2 * u + 1 = 2 * w := by omega
    simp [e1, e2, e3, e4, hne]
theorem wL_swH {h' : Nat → Nat → Int32} (hw : w < 2) (hP : va_P D vwCl (wL cI cB cR ad S) H) (hD : va_D A (wL cI cB cR ad S)) (hP1 : va_P D vwCl (wH cI (aHw ad w) h') H1) (hk : ∀ q : Nat, q < H.size → ¬ va_A (wH cI (aHw ad w) (S.1 (2 * w))) H.size q → H1[q]? = H[q]?) : va_P D vwCl (wL cI cB cR ad (lsT S (2 * w) h')) H1 := by
  have hB := va_swap (w1 := [(ad (3 + 15 * w), .inr (0, [.ref (aHw ad w 0), .ref (aMw ad w 0), .int (S.2.1 w)]))]) (w2 := wH cI (aHw ad w) (S.1 (2 * w))) (w3 := wM cI (aMw ad w) (S.1 (2 * w + 1))) (wL_B hw hP) (wL_DB hw hD) hP1 hk
  have hk2 : ∀ q : Nat, q < H.size → ¬ va_A (wBw cI ad S w) H.size q → H1[q]? = H[q]? := fun q h1 h2 => hk q h1 (fun z => h2 (va_A_mono (fun p hp => List.mem_cons_of_mem _ (List.mem_append_left _ hp)) z))
  have h := wL_swB hw hP hD (h' := h') (g' := S.1 (2 * w + 1)) hB hk2
  have e : lsT (lsT S (2 * w) h') (2 * w + 1) (S.1 (2 * w + 1)) = lsT S (2 * w) h' := by
    unfold lsT upS
    refine Prod.ext ?_ rfl
    funext q
    by_cases c : q = 2 * w + 1
    · subst c; simp
    · simp [c]
  rw [e] at h
  exact h
theorem wL_swM {g' : Nat → Nat → Int32} (hw : w < 2) (hP : va_P D vwCl (wL cI cB cR ad S) H) (hD : va_D A (wL cI cB cR ad S)) (hP1 : va_P D vwCl (wM cI (aMw ad w) g') H1) (hk : ∀ q : Nat, q < H.size → ¬ va_A (wM cI (aMw ad w) (S.1 (2 * w + 1))) H.size q → H1[q]? = H[q]?) : va_P D vwCl (wL cI cB cR ad (lsT S (2 * w + 1) g')) H1 := by
  have hB := va_swap (w1 := (ad (3 + 15 * w), .inr (0, [.ref (aHw ad w 0), .ref (aMw ad w 0), .int (S.2.1 w)])) :: wH cI (aHw ad w) (S.1 (2 * w))) (w2 := wM cI (aMw ad w) (S.1 (2 * w + 1))) (w3 := []) (w2' := wM cI (aMw ad w) g') (wL_B hw hP) (wL_DB hw hD) hP1 hk
  have hk2 : ∀ q : Nat, q < H.size → ¬ va_A (wBw cI ad S w) H.size q → H1[q]? = H[q]? := fun q h1 h2 => hk q h1 (fun z => h2 (va_A_mono (fun p hp => List.mem_cons_of_mem _ (List.mem_append_right _ hp)) z))
  have h := wL_swB hw hP hD (h' := S.1 (2 * w)) (g' := g') hB hk2
  have e : lsT (lsT S (2 * w) (S.1 (2 * w))) (2 * w + 1) g' = lsT S (2 * w + 1) g' := by
    unfold lsT upS
    refine Prod.ext ?_ rfl
    funext q
    by_cases c : q = 2 * w + 1
    · subst c; simp
    · by_cases c2 : q = 2 * w
      · subst c2; simp
      · simp [c, c2]
  rw [e] at h
  exact h
theorem wL_getR (hi : i < 16) : (wL cI cB cR ad S)[33 + i]? = some (ad (33 + i), .inr (3, [.int (nI (S.2.2.1 i 0)), .int (nI (S.2.2.1 i 1)), .int (nI (S.2.2.1 i 2)), .int (nI (S.2.2.1 i 3))])) := by
  have e : wL cI cB cR ad S = (wLh cB cR ad S.2.2.2.1 S.2.2.2.2 ++ (wBw cI ad S 0 ++ wBw cI ad S 1)) ++ wRs ad S.2.2.1 := by unfold wL; simp only [List.append_assoc]
  have hl : (wLh cB cR ad S.2.2.2.1 S.2.2.2.2 ++ (wBw cI ad S 0 ++ wBw cI ad S 1)).length = 33 := rfl
  rw [e, List.getElem?_append_right (by rw [hl]; omega), hl, Nat.add_sub_cancel_left]
  unfold wRs
  rw [List.getElem?_map, List.getElem?_range hi]
  rfl
theorem wL_swR {φ : Nat → Nat} (hi : i < 16) (hP : va_P D vwCl (wL cI cB cR ad S) H) (hD : va_D A (wL cI cB cR ad S)) (hP1 : va_P D vwCl (wR (ad (33 + i)) φ) H1) (hk : ∀ q : Nat, q < H.size → ¬ va_A (wR (ad (33 + i)) (S.2.2.1 i)) H.size q → H1[q]? = H[q]?) : va_P D vwCl (wL cI cB cR ad (lsR S i φ)) H1 := by
  refine va_repl hP hD (w2 := wR (ad (33 + i)) (S.2.2.1 i)) (fun q h => wL_mR (wL_mR1 hi h)) hP1 hk (fun q h => ?_)
  have hq1 : ∀ q, q ∈ wR (ad (33 + i)) (S.2.2.1 i) → q ∈ wRs ad S.2.2.1 := fun q h => wL_mR1 hi h
  rcases List.mem_append.mp h with h | h
  · exact Or.inr ⟨List.mem_append_left _ h, fun z => wL_dhd (w := 0) hD h (Or.inr (hq1 q z)) (by omega) rfl⟩
  · rcases List.mem_append.mp h with h | h
    · exact Or.inr ⟨wL_mB (w := 0) (by omega) h, fun z => wL_dBR (w := 0) (by omega) hD h (hq1 q z) rfl⟩
    · rcases List.mem_append.mp h with h | h
      · exact Or.inr ⟨wL_mB (w := 1) (by omega) h, fun z => wL_dBR (w := 1) (by omega) hD h (hq1 q z) rfl⟩
      · obtain ⟨j, hj, e⟩ := List.mem_map.mp h
        have hj2 : j < 16 := List.mem_range.mp hj
        by_cases c : j = i
        · subst c
          left
          rw [wR, List.mem_singleton, ← e]
          simp [lsR, phU]
        · right
          have e2 : (ad (33 + j), (.inr (3, [.int (nI (S.2.2.1 j 0)), .int (nI (S.2.2.1 j 1)), .int (nI (S.2.2.1 j 2)), .int (nI (S.2.2.1 j 3))]) : va_E)) = q := by rw [← e]; simp [lsR, phU, c]
          refine ⟨wL_mR (List.mem_map.mpr ⟨j, hj, e2⟩), fun z => ?_⟩
          rw [wR, List.mem_singleton] at z
          have ha : ad (33 + j) = ad (33 + i) := by have := congrArg Prod.fst (e2.trans z); exact this
          have := hD.1 (33 + j) (33 + i) _ _ (wL_getR hj2) (wL_getR hi) ha
          omega
end WL
section AAL
variable {p : Program} {l : Launch} {e : Env} {R : Room} {s : State} {m : MethodId} {args : Array Value} {below : List Frame} {meth : Method} {c : Code} {H : Heap} {locs : List Loc} {cells slots : Nat} {Q : State → Prop}
  {cc : ByteArray} {pc : Nat} {ls : Array Slot} {rest : List Value} {D : va_G} {cI cZ cB cR cA : ClassId} {w : va_W} {a : Nat}
theorem ro_aal (hx : p.tables.exec = Jvm.exec) (hb : c.code = cc) (hEV : EV D cI cZ cB cR s) (hP : va_P D vwCl w H) (q0 t0 : Nat) {n j v : Nat} {C : String} {f : Nat → Option Nat} (ha : w[q0]? = some (a, .inl (cA, n, .inr (.inr (.inr (.inr f)))))) (ht : (tysA cI cZ cB cR)[t0]? = some (cA, .object C)) (hf : f j = some v) (hj : j < n) (hn : n < 2 ^ 31) (hdg : decode cc pc = .ok (.aaload, 1))
    (kk : W p l e R s m args below meth c H locs cells slots Q (F0 m (pc + 1) ls (.ref v :: rest))) : W p l e R s m args below meth c H locs cells slots Q (F0 m pc ls (.int (nI j) :: .ref a :: rest)) := by
  refine va_aldq hx hb hEV.1 hP q0 t0 ha ht (vp_in_nI hj hn) hdg ?_
  rw [nI_clamp (by omega), hf]
  exact kk
end AAL
