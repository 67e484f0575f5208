/-! THE PURE PART: the snapshot. -/
theorem cl0 : (0 : Int32).toNatClampNeg = 0 := by decide
theorem cl4 : (4 : Int32).toNatClampNeg = 4 := by decide
theorem cl10 : (10 : Int32).toNatClampNeg = 10 := by decide
theorem cl24 : (24 : Int32).toNatClampNeg = 24 := by decide
theorem pcpy4 (st : ax_S) (o1 o2 : Nat) (g : ax_S → ax_R) : ax_cpy st o1 4 o2 4 0 0 4 g = g (ax_sA st o2 (va_cpy (st.2 o1) (st.2 o2) 0 0 4)) := by
  unfold ax_cpy
  rw [cl0, cl4, if_pos ⟨by decide, by decide, by decide, by decide, by decide⟩]
theorem pcpy10 (st : ax_S) (o1 o2 : Nat) (g : ax_S → ax_R) : ax_cpy st o1 10 o2 10 0 0 10 g = g (ax_sA st o2 (va_cpy (st.2 o1) (st.2 o2) 0 0 10)) := by
  unfold ax_cpy
  rw [cl0, cl10, if_pos ⟨by decide, by decide, by decide, by decide, by decide⟩]
theorem pcpy24 (st : ax_S) (o1 o2 : Nat) (g : ax_S → ax_R) : ax_cpy st o1 24 o2 24 0 0 24 g = g (ax_sA st o2 (va_cpy (st.2 o1) (st.2 o2) 0 0 24)) := by
  unfold ax_cpy
  rw [cl0, cl24, if_pos ⟨by decide, by decide, by decide, by decide, by decide⟩]
theorem pcpyr (f g : Nat → Int32) {m j : Nat} (h : j < m) : va_cpy f g 0 0 m j = f j := by
  unfold va_cpy
  rw [if_pos ⟨by omega, by omega⟩]
  congr 1
  omega
theorem narb {k : Nat} (h : k < 2) : vp_nar .boolean (nI k) = nI k := by
  rcases (show k = 0 ∨ k = 1 by omega) with rfl | rfl
  · exact nar0
  · exact nar1
theorem cpcrS : ∀ (d m i : Nat) (s : ax_S), i + d = 4 → d < m → (∀ t, t < 4 → ∃ k, k < 2 ∧ s.2 18 t = nI k) → ∃ u, fX0_copyHistory_L197 m (nI i) s = some (0, u) ∧ u.1 = s.1 ∧ (∀ o, o ≠ 39 → u.2 o = s.2 o) ∧ (∀ t, t < i → u.2 39 t = s.2 39 t) ∧ (∀ t, i ≤ t → t < 4 → u.2 39 t = s.2 18 t) := by
  intro d
  induction d with
  | zero =>
    intro m i s hi hm _
    obtain ⟨m, rfl⟩ : ∃ k, m = k + 1 := ⟨m - 1, by omega⟩
    refine ⟨s, ?_, rfl, fun _ _ => rfl, fun _ _ => rfl, fun t h1 h2 => by omega⟩
    rw [fX0_copyHistory_L197, if_pos ((qle_4 (by omega)).mpr (by omega))]
  | succ d ih =>
    intro m i s hi hm hs
    obtain ⟨m, rfl⟩ : ∃ k, m = k + 1 := ⟨m - 1, by omega⟩
    obtain ⟨k, hk, hsk⟩ := hs i (by omega)
    obtain ⟨u, g1, g2, g3, g4, g5⟩ := ih m (i + 1) (ax_sE s 39 i (nI k)) (by omega) (by omega) (fun t ht => by
      rw [pE2n _ _ _ (by decide)]; exact hs t ht)
    refine ⟨u, ?_, ?_, fun o h1 => ?_, fun t ht => ?_, fun t h1 h2 => ?_⟩
    · rw [fX0_copyHistory_L197, if_neg (fun hh => absurd ((qle_4 (by omega)).mp hh) (by omega)), pld (by omega) (by decide), hsk, psto (by omega) (by decide), narb hk, nI_1]
      exact g1
    · rw [g2, pE1]
    · rw [g3 o h1, pE2n _ _ _ h1]
    · rw [g4 t (by omega), pE2, if_pos rfl, if_neg (by omega)]
    · by_cases hti : t = i
      · subst hti
        rw [g4 t (by omega), pE2, if_pos rfl, if_pos rfl, hsk]
      · rw [g5 t (by omega) h2, pE2n _ _ _ (by decide)]
theorem cpXS {s : ax_S} {n : vN} {a : vA} {c : vC} (hX : RX 1 s n a c) (hR : GdR a) : ∃ u, fX4_copyFrom s = some (0, u) ∧ RX 22 u n a c ∧ (∀ o, (o < 23 ∨ 42 < o) → u.1 o = s.1 o ∧ u.2 o = s.2 o) := by
  have e0 : s.1 2 0 = nI (n 0) := hX.1.1
  have e1 : s.1 5 4 = nI (n 1) := hX.1.2.1
  have e2 : s.1 5 0 = nI (n 2) := hX.1.2.2.1
  have e3 : s.1 20 0 = nI (n 3) := hX.1.2.2.2
  have f4 := hX.2.1
  have f10 := hX.2.2.1
  have f24 := hX.2.2.2
  obtain ⟨u, g1, g2, g3, g4, g5⟩ := cpcrS 4 4000 0 (ax_sA (ax_sA (ax_sA (ax_sA (ax_sA (ax_sA (ax_sA (ax_sA (ax_sA (ax_sI (ax_sA (ax_sA (ax_sA (ax_sI (ax_sA (ax_sA (ax_sI s 23 0 (nI (n 0))) 24 (va_cpy (s.2 3) (s.2 24) 0 0 4)) 25 (va_cpy (s.2 4) (s.2 25) 0 0 4)) 26 0 (nI (n 2))) 27 (va_cpy (s.2 6) (s.2 27) 0 0 24)) 28 (va_cpy (s.2 7) (s.2 28) 0 0 24)) 29 (va_cpy (s.2 8) (s.2 29) 0 0 24)) 26 4 (nI (n 1))) 30 (va_cpy (s.2 9) (s.2 30) 0 0 10)) 31 (va_cpy (s.2 10) (s.2 31) 0 0 10)) 32 (va_cpy (s.2 11) (s.2 32) 0 0 10)) 33 (va_cpy (s.2 12) (s.2 33) 0 0 10)) 34 (va_cpy (s.2 13) (s.2 34) 0 0 10)) 35 (va_cpy (s.2 14) (s.2 35) 0 0 10)) 36 (va_cpy (s.2 15) (s.2 36) 0 0 10)) 37 (va_cpy (s.2 16) (s.2 37) 0 0 10)) 38 (va_cpy (s.2 17) (s.2 38) 0 0 4)) (by omega) (by omega) (fun t ht => by
    simp only [pA2, pI2, pA1]
    refine ⟨a 18 t, (hR t).2.2.2.2.2.2.2.2.2.2, ?_⟩
    simpa using (f4 t ht).2.2.2)
  rw [nI_0] at g1
  have g5' : ∀ t, t < 4 → u.2 39 t = s.2 18 t := fun t ht => by
    rw [g5 t (by omega) ht]
    simp only [pA2, pI2, pA1]
    simp
  have g2' : u.1 20 0 = nI (n 3) := by
    rw [g2]
    simp only [pA1, pI1]
    simpa using e3
  have g6' : u.2 21 = s.2 21 := by
    rw [g3 _ (by decide)]
    simp only [pA2, pI2]
    simp
  refine ⟨ax_sA (ax_sI u 41 0 (nI (n 3))) 42 (va_cpy (s.2 21) (u.2 42) 0 0 10), ?_, ?_, ?_⟩
  · unfold fX4_copyFrom fX1_copyObjects fX0_copyHistory fX2_copyOrder
    simp only [pt, pb, pcpy4, pcpy10, pcpy24]
    simp [pA1, pA2, pI1, pI2, e0, e1, e2, pcpy4, pcpy10, pcpy24]
    rw [g1, pb]
    simp [g2', g6', pI2, pb, pcpy10]
  · have k4 : ∀ (f g : Nat → Int32) (j : Nat), j < 4 → va_cpy f g 0 0 4 j = f j := fun f g j h => pcpyr f g h
    have k10 : ∀ (f g : Nat → Int32) (j : Nat), j < 10 → va_cpy f g 0 0 10 j = f j := fun f g j h => pcpyr f g h
    have k24 : ∀ (f g : Nat → Int32) (j : Nat), j < 24 → va_cpy f g 0 0 24 j = f j := fun f g j h => pcpyr f g h
    refine ⟨?_, fun j hj => ?_, fun j hj => ?_, fun j hj => ?_⟩
    · simp [pA1, pI1, g2]
    · have := f4 j hj
      simp at this
      simp [pA2, pI2, g3, k4, hj, g5', this]
    · have := f10 j hj
      simp at this
      simp [pA2, pI2, g3, k10, hj, this]
    · have := f24 j hj
      simp at this
      simp [pA2, pI2, g3, k24, hj, this]
      exact this.2.2
  · intro o ho
    constructor
    · rw [pA1, pI1n _ _ _ (by omega), g2]
      simp only [pA1]
      simp (disch := omega) only [pI1n, pA1]
    · rw [pA2n _ _ (by omega), pI2, g3 o (by omega)]
      simp (disch := omega) only [pI2, pA2n]
theorem cpcrR : ∀ (d m i : Nat) (s : ax_S), i + d = 4 → d < m → (∀ t, t < 4 → ∃ k, k < 2 ∧ s.2 39 t = nI k) → ∃ u, fX0_copyHistory_5_26_L197 m (nI i) s = some (0, u) ∧ u.1 = s.1 ∧ (∀ o, o ≠ 18 → u.2 o = s.2 o) ∧ (∀ t, t < i → u.2 18 t = s.2 18 t) ∧ (∀ t, i ≤ t → t < 4 → u.2 18 t = s.2 39 t) := by
  intro d
  induction d with
  | zero =>
    intro m i s hi hm _
    obtain ⟨m, rfl⟩ : ∃ k, m = k + 1 := ⟨m - 1, by omega⟩
    refine ⟨s, ?_, rfl, fun _ _ => rfl, fun _ _ => rfl, fun t h1 h2 => by omega⟩
    rw [fX0_copyHistory_5_26_L197, if_pos ((qle_4 (by omega)).mpr (by omega))]
  | succ d ih =>
    intro m i s hi hm hs
    obtain ⟨m, rfl⟩ : ∃ k, m = k + 1 := ⟨m - 1, by omega⟩
    obtain ⟨k, hk, hsk⟩ := hs i (by omega)
    obtain ⟨u, g1, g2, g3, g4, g5⟩ := ih m (i + 1) (ax_sE s 18 i (nI k)) (by omega) (by omega) (fun t ht => by
      rw [pE2n _ _ _ (by decide)]; exact hs t ht)
    refine ⟨u, ?_, ?_, fun o h1 => ?_, fun t ht => ?_, fun t h1 h2 => ?_⟩
    · rw [fX0_copyHistory_5_26_L197, if_neg (fun hh => absurd ((qle_4 (by omega)).mp hh) (by omega)), pld (by omega) (by decide), hsk, psto (by omega) (by decide), narb hk, nI_1]
      exact g1
    · rw [g2, pE1]
    · rw [g3 o h1, pE2n _ _ _ h1]
    · rw [g4 t (by omega), pE2, if_pos rfl, if_neg (by omega)]
    · by_cases hti : t = i
      · subst hti
        rw [g4 t (by omega), pE2, if_pos rfl, if_pos rfl, hsk]
      · rw [g5 t (by omega) h2, pE2n _ _ _ (by decide)]
theorem cpXR {s : ax_S} {n : vN} {a : vA} {c : vC} (hX : RX 22 s n a c) (hR : GdR a) : ∃ u, fX4_copyFrom_1_22 s = some (0, u) ∧ RX 1 u n a c ∧ (∀ o, (o < 2 ∨ 21 < o) → u.1 o = s.1 o ∧ u.2 o = s.2 o) := by
  have e0 : s.1 23 0 = nI (n 0) := hX.1.1
  have e1 : s.1 26 4 = nI (n 1) := hX.1.2.1
  have e2 : s.1 26 0 = nI (n 2) := hX.1.2.2.1
  have e3 : s.1 41 0 = nI (n 3) := hX.1.2.2.2
  have f4 := hX.2.1
  have f10 := hX.2.2.1
  have f24 := hX.2.2.2
  obtain ⟨u, g1, g2, g3, g4, g5⟩ := cpcrR 4 4000 0 (ax_sA (ax_sA (ax_sA (ax_sA (ax_sA (ax_sA (ax_sA (ax_sA (ax_sA (ax_sI (ax_sA (ax_sA (ax_sA (ax_sI (ax_sA (ax_sA (ax_sI s 2 0 (nI (n 0))) 3 (va_cpy (s.2 24) (s.2 3) 0 0 4)) 4 (va_cpy (s.2 25) (s.2 4) 0 0 4)) 5 0 (nI (n 2))) 6 (va_cpy (s.2 27) (s.2 6) 0 0 24)) 7 (va_cpy (s.2 28) (s.2 7) 0 0 24)) 8 (va_cpy (s.2 29) (s.2 8) 0 0 24)) 5 4 (nI (n 1))) 9 (va_cpy (s.2 30) (s.2 9) 0 0 10)) 10 (va_cpy (s.2 31) (s.2 10) 0 0 10)) 11 (va_cpy (s.2 32) (s.2 11) 0 0 10)) 12 (va_cpy (s.2 33) (s.2 12) 0 0 10)) 13 (va_cpy (s.2 34) (s.2 13) 0 0 10)) 14 (va_cpy (s.2 35) (s.2 14) 0 0 10)) 15 (va_cpy (s.2 36) (s.2 15) 0 0 10)) 16 (va_cpy (s.2 37) (s.2 16) 0 0 10)) 17 (va_cpy (s.2 38) (s.2 17) 0 0 4)) (by omega) (by omega) (fun t ht => by
    simp only [pA2, pI2, pA1]
    refine ⟨a 18 t, (hR t).2.2.2.2.2.2.2.2.2.2, ?_⟩
    simpa using (f4 t ht).2.2.2)
  rw [nI_0] at g1
  have g5' : ∀ t, t < 4 → u.2 18 t = s.2 39 t := fun t ht => by
    rw [g5 t (by omega) ht]
    simp only [pA2, pI2, pA1]
    simp
  have g2' : u.1 41 0 = nI (n 3) := by
    rw [g2]
    simp only [pA1, pI1]
    simpa using e3
  have g6' : u.2 42 = s.2 42 := by
    rw [g3 _ (by decide)]
    simp only [pA2, pI2]
    simp
  refine ⟨ax_sA (ax_sI u 20 0 (nI (n 3))) 21 (va_cpy (s.2 42) (u.2 21) 0 0 10), ?_, ?_, ?_⟩
  · unfold fX4_copyFrom_1_22 fX1_copyObjects_2_23 fX0_copyHistory_5_26 fX2_copyOrder_20_41
    simp only [pt, pb, pcpy4, pcpy10, pcpy24]
    simp [pA1, pA2, pI1, pI2, e0, e1, e2, pcpy4, pcpy10, pcpy24]
    rw [g1, pb]
    simp [g2', g6', pI2, pb, pcpy10]
  · have k4 : ∀ (f g : Nat → Int32) (j : Nat), j < 4 → va_cpy f g 0 0 4 j = f j := fun f g j h => pcpyr f g h
    have k10 : ∀ (f g : Nat → Int32) (j : Nat), j < 10 → va_cpy f g 0 0 10 j = f j := fun f g j h => pcpyr f g h
    have k24 : ∀ (f g : Nat → Int32) (j : Nat), j < 24 → va_cpy f g 0 0 24 j = f j := fun f g j h => pcpyr f g h
    refine ⟨?_, fun j hj => ?_, fun j hj => ?_, fun j hj => ?_⟩
    · simp [pA1, pI1, g2]
    · have := f4 j hj
      simp at this
      simp [pA2, pI2, g3, k4, hj, g5', this]
    · have := f10 j hj
      simp at this
      simp [pA2, pI2, g3, k10, hj, this]
    · have := f24 j hj
      simp at this
      simp [pA2, pI2, g3, k24, hj, this]
      exact this.2.2
  · intro o ho
    constructor
    · rw [pA1, pI1n _ _ _ (by omega), g2]
      simp only [pA1]
      simp (disch := omega) only [pI1n, pA1]
    · rw [pA2n _ _ (by omega), pI2, g3 o (by omega)]
      simp (disch := omega) only [pI2, pA2n]
theorem cpMS {q n1 : Nat} (hq : q ≠ 27) (hn1 : n1 < 200) : ∀ (d m k p : Nat) (s : ax_S), k + d = n1 → d < m → s.1 0 43 = nI p → p + d ≤ 174 → ∃ u, fX9_copy_L2 q n1 m 0 (nI k) s = some (0, u) ∧ u.1 0 43 = nI (p + d) ∧ (∀ j, j ≠ 43 → u.1 0 j = s.1 0 j) ∧ (∀ o, o ≠ 27 → u.2 o = s.2 o) ∧ (∀ j, u.2 27 j = if p ≤ j ∧ j < p + d then s.2 q (k + (j - p)) else s.2 27 j) := by
  intro d
  induction d with
  | zero =>
    intro m k p s hk hm hp hp2
    obtain ⟨m, rfl⟩ : ∃ k, m = k + 1 := ⟨m - 1, by omega⟩
    refine ⟨s, ?_, hp, fun _ _ => rfl, fun _ _ => rfl, fun j => by rw [if_neg (by omega)]⟩
    rw [fX9_copy_L2]
    show (if nI n1 ≤ nI k then some (0, s) else _) = _
    rw [if_pos (nI_le (by omega) (by omega))]
  | succ d ih =>
    intro m k p s hk hm hp hp2
    obtain ⟨m, rfl⟩ : ∃ k, m = k + 1 := ⟨m - 1, by omega⟩
    obtain ⟨u, g1, g2, g3, g4, g5⟩ := ih m (k + 1) (p + 1) (ax_sI (ax_sE s 27 p (s.2 q k)) 0 43 (nI (p + 1))) (by omega) (by omega) (by simp [pI1]) (by omega)
    refine ⟨u, ?_, ?_, fun j hj => ?_, fun o ho => ?_, fun j => ?_⟩
    · rw [fX9_copy_L2]
      show (if nI n1 ≤ nI k then some (0, s) else _) = _
      rw [if_neg (nI_ge (by omega) (by omega)), if_pos rfl, pld (by omega) (by omega), hp, psto (by omega) (by decide), fX9_copy_b39, pt, pE1, hp, nI_1, nI_1]
      exact g1
    · rw [g2]; congr 1; omega
    · rw [g3 j hj, pI1, if_neg (by omega), pE1]
    · rw [g4 o ho, pI2, pE2n _ _ _ ho]
    · rw [g5 j, pI2, pE2, pE2, if_neg hq, if_pos rfl]
      by_cases hjp : j = p
      · subst hjp
        rw [if_neg (by omega), if_pos rfl, if_pos (by omega), Nat.sub_self, Nat.add_zero]
      · by_cases h1 : p + 1 ≤ j ∧ j < p + 1 + d
        · rw [if_pos h1, if_pos (by omega), show k + 1 + (j - (p + 1)) = k + (j - p) by omega]
        · rw [if_neg h1, if_neg hjp, if_neg (by omega)]
theorem cpMR {q n1 : Nat} (hq : q ≠ 27) (hn1 : n1 < 200) : ∀ (d m k p : Nat) (s : ax_S), k + d = n1 → d < m → s.1 0 43 = nI p → p + d ≤ 174 → ∃ u, fX9_copy_L2 q n1 m 1 (nI k) s = some (0, u) ∧ u.1 0 43 = nI (p + d) ∧ (∀ j, j ≠ 43 → u.1 0 j = s.1 0 j) ∧ (∀ o, o ≠ q → u.2 o = s.2 o) ∧ (∀ j, u.2 q j = if k ≤ j ∧ j < n1 then s.2 27 (p + (j - k)) else s.2 q j) := by
  intro d
  induction d with
  | zero =>
    intro m k p s hk hm hp hp2
    obtain ⟨m, rfl⟩ : ∃ k, m = k + 1 := ⟨m - 1, by omega⟩
    refine ⟨s, ?_, hp, fun _ _ => rfl, fun _ _ => rfl, fun j => by rw [if_neg (by omega)]⟩
    rw [fX9_copy_L2]
    show (if nI n1 ≤ nI k then some (0, s) else _) = _
    rw [if_pos (nI_le (by omega) (by omega))]
  | succ d ih =>
    intro m k p s hk hm hp hp2
    obtain ⟨m, rfl⟩ : ∃ k, m = k + 1 := ⟨m - 1, by omega⟩
    obtain ⟨u, g1, g2, g3, g4, g5⟩ := ih m (k + 1) (p + 1) (ax_sI (ax_sE s q k (s.2 27 p)) 0 43 (nI (p + 1))) (by omega) (by omega) (by simp [pI1]) (by omega)
    refine ⟨u, ?_, ?_, fun j hj => ?_, fun o ho => ?_, fun j => ?_⟩
    · rw [fX9_copy_L2]
      show (if nI n1 ≤ nI k then some (0, s) else _) = _
      rw [if_neg (nI_ge (by omega) (by omega)), if_neg (by decide), hp, pld (by omega) (by decide), psto (by omega) (by omega), fX9_copy_b39, pt, pE1, hp, nI_1, nI_1]
      exact g1
    · rw [g2]; congr 1; omega
    · rw [g3 j hj, pI1, if_neg (by omega), pE1]
    · rw [g4 o ho, pI2, pE2n _ _ _ ho]
    · rw [g5 j, pI2, pE2n _ _ _ (fun hh => hq hh.symm), pE2, if_pos rfl]
      by_cases hjp : j = k
      · subst hjp
        rw [if_neg (by omega), if_pos rfl, if_pos (by omega), Nat.sub_self, Nat.add_zero]
      · by_cases h1 : k + 1 ≤ j ∧ j < n1
        · rw [if_pos h1, if_pos (by omega), show p + 1 + (j - (k + 1)) = p + (j - k) by omega]
        · rw [if_neg h1, if_neg hjp, if_neg (by omega)]
theorem cpaS (s : ax_S) : ∃ u, fX9_copyAll 0 s = some (0, u) ∧ (∀ j, j ≠ 43 → u.1 0 j = s.1 0 j) ∧ (∀ o, o ≠ 27 → u.2 o = s.2 o) ∧ (∀ j, j < 4 → u.2 27 j = s.2 27 j) ∧ (∀ j, j < 4 → u.2 27 (4 + j) = s.2 1 j) ∧ (∀ j, j < 4 → u.2 27 (8 + j) = s.2 2 j) ∧ (∀ j, j < 10 → u.2 27 (12 + j) = s.2 3 j) ∧ (∀ j, j < 10 → u.2 27 (22 + j) = s.2 4 j) ∧ (∀ j, j < 10 → u.2 27 (32 + j) = s.2 5 j) ∧ (∀ j, j < 10 → u.2 27 (42 + j) = s.2 6 j) ∧ (∀ j, j < 10 → u.2 27 (52 + j) = s.2 7 j) ∧ (∀ j, j < 10 → u.2 27 (62 + j) = s.2 8 j) ∧ (∀ j, j < 10 → u.2 27 (72 + j) = s.2 9 j) ∧ (∀ j, j < 10 → u.2 27 (82 + j) = s.2 10 j) ∧ (∀ j, j < 24 → u.2 27 (92 + j) = s.2 11 j) ∧ (∀ j, j < 24 → u.2 27 (116 + j) = s.2 12 j) ∧ (∀ j, j < 24 → u.2 27 (140 + j) = s.2 13 j) ∧ (∀ j, j < 10 → u.2 27 (164 + j) = s.2 14 j) := by
  have e : (ax_sI s 0 43 4).1 0 43 = nI 4 := by simp [pI1]; rfl
  obtain ⟨u0, a0, b0, c0, d0, e0⟩ := cpMS (q := 1) (n1 := 4) (by decide) (by decide) 4 4000 0 4 (ax_sI s 0 43 4) (by decide) (by decide) e (by decide)
  rw [nI_0] at a0
  obtain ⟨u1, a1, b1, c1, d1, e1⟩ := cpMS (q := 2) (n1 := 4) (by decide) (by decide) 4 4000 0 8 u0 (by decide) (by decide) b0 (by decide)
  rw [nI_0] at a1
  obtain ⟨u2, a2, b2, c2, d2, e2⟩ := cpMS (q := 3) (n1 := 10) (by decide) (by decide) 10 4000 0 12 u1 (by decide) (by decide) b1 (by decide)
  rw [nI_0] at a2
  obtain ⟨u3, a3, b3, c3, d3, e3⟩ := cpMS (q := 4) (n1 := 10) (by decide) (by decide) 10 4000 0 22 u2 (by decide) (by decide) b2 (by decide)
  rw [nI_0] at a3
  obtain ⟨u4, a4, b4, c4, d4, e4⟩ := cpMS (q := 5) (n1 := 10) (by decide) (by decide) 10 4000 0 32 u3 (by decide) (by decide) b3 (by decide)
  rw [nI_0] at a4
  obtain ⟨u5, a5, b5, c5, d5, e5⟩ := cpMS (q := 6) (n1 := 10) (by decide) (by decide) 10 4000 0 42 u4 (by decide) (by decide) b4 (by decide)
  rw [nI_0] at a5
  obtain ⟨u6, a6, b6, c6, d6, e6⟩ := cpMS (q := 7) (n1 := 10) (by decide) (by decide) 10 4000 0 52 u5 (by decide) (by decide) b5 (by decide)
  rw [nI_0] at a6
  obtain ⟨u7, a7, b7, c7, d7, e7⟩ := cpMS (q := 8) (n1 := 10) (by decide) (by decide) 10 4000 0 62 u6 (by decide) (by decide) b6 (by decide)
  rw [nI_0] at a7
  obtain ⟨u8, a8, b8, c8, d8, e8⟩ := cpMS (q := 9) (n1 := 10) (by decide) (by decide) 10 4000 0 72 u7 (by decide) (by decide) b7 (by decide)
  rw [nI_0] at a8
  obtain ⟨u9, a9, b9, c9, d9, e9⟩ := cpMS (q := 10) (n1 := 10) (by decide) (by decide) 10 4000 0 82 u8 (by decide) (by decide) b8 (by decide)
  rw [nI_0] at a9
  obtain ⟨u10, a10, b10, c10, d10, e10⟩ := cpMS (q := 11) (n1 := 24) (by decide) (by decide) 24 4000 0 92 u9 (by decide) (by decide) b9 (by decide)
  rw [nI_0] at a10
  obtain ⟨u11, a11, b11, c11, d11, e11⟩ := cpMS (q := 12) (n1 := 24) (by decide) (by decide) 24 4000 0 116 u10 (by decide) (by decide) b10 (by decide)
  rw [nI_0] at a11
  obtain ⟨u12, a12, b12, c12, d12, e12⟩ := cpMS (q := 13) (n1 := 24) (by decide) (by decide) 24 4000 0 140 u11 (by decide) (by decide) b11 (by decide)
  rw [nI_0] at a12
  obtain ⟨u13, a13, b13, c13, d13, e13⟩ := cpMS (q := 14) (n1 := 10) (by decide) (by decide) 10 4000 0 164 u12 (by decide) (by decide) b12 (by decide)
  rw [nI_0] at a13
  have dd : ∀ o, o ≠ 27 → u13.2 o = s.2 o := fun o ho => by rw [d13 o ho, d12 o ho, d11 o ho, d10 o ho, d9 o ho, d8 o ho, d7 o ho, d6 o ho, d5 o ho, d4 o ho, d3 o ho, d2 o ho, d1 o ho, d0 o ho, pI2]
  refine ⟨u13, ?_, fun j hj => ?_, dd, fun j hj => ?_, fun j hj => ?_, fun j hj => ?_, fun j hj => ?_, fun j hj => ?_, fun j hj => ?_, fun j hj => ?_, fun j hj => ?_, fun j hj => ?_, fun j hj => ?_, fun j hj => ?_, fun j hj => ?_, fun j hj => ?_, fun j hj => ?_, fun j hj => ?_⟩
  · unfold fX9_copyAll fX9_copy
    rw [pt, a0, pb, a1, pb, a2, pb, a3, pb, a4, pb, a5, pb, a6, pb, a7, pb, a8, pb, a9, pb, a10, pb, a11, pb, a12, pb, a13, pb]
  · rw [c13 j hj, c12 j hj, c11 j hj, c10 j hj, c9 j hj, c8 j hj, c7 j hj, c6 j hj, c5 j hj, c4 j hj, c3 j hj, c2 j hj, c1 j hj, c0 j hj, pI1, if_neg (by omega)]
  · rw [e13, if_neg (by omega), e12, if_neg (by omega), e11, if_neg (by omega), e10, if_neg (by omega), e9, if_neg (by omega), e8, if_neg (by omega), e7, if_neg (by omega), e6, if_neg (by omega), e5, if_neg (by omega), e4, if_neg (by omega), e3, if_neg (by omega), e2, if_neg (by omega), e1, if_neg (by omega), e0, if_neg (by omega), pI2]
  · rw [e13, if_neg (by omega), e12, if_neg (by omega), e11, if_neg (by omega), e10, if_neg (by omega), e9, if_neg (by omega), e8, if_neg (by omega), e7, if_neg (by omega), e6, if_neg (by omega), e5, if_neg (by omega), e4, if_neg (by omega), e3, if_neg (by omega), e2, if_neg (by omega), e1, if_neg (by omega), e0, if_pos (by omega), pI2, show 0 + (4 + j - 4) = j by omega]
  · rw [e13, if_neg (by omega), e12, if_neg (by omega), e11, if_neg (by omega), e10, if_neg (by omega), e9, if_neg (by omega), e8, if_neg (by omega), e7, if_neg (by omega), e6, if_neg (by omega), e5, if_neg (by omega), e4, if_neg (by omega), e3, if_neg (by omega), e2, if_neg (by omega), e1, if_pos (by omega), d0 2 (by decide), pI2, show 0 + (8 + j - 8) = j by omega]
  · rw [e13, if_neg (by omega), e12, if_neg (by omega), e11, if_neg (by omega), e10, if_neg (by omega), e9, if_neg (by omega), e8, if_neg (by omega), e7, if_neg (by omega), e6, if_neg (by omega), e5, if_neg (by omega), e4, if_neg (by omega), e3, if_neg (by omega), e2, if_pos (by omega), d1 3 (by decide), d0 3 (by decide), pI2, show 0 + (12 + j - 12) = j by omega]
  · rw [e13, if_neg (by omega), e12, if_neg (by omega), e11, if_neg (by omega), e10, if_neg (by omega), e9, if_neg (by omega), e8, if_neg (by omega), e7, if_neg (by omega), e6, if_neg (by omega), e5, if_neg (by omega), e4, if_neg (by omega), e3, if_pos (by omega), d2 4 (by decide), d1 4 (by decide), d0 4 (by decide), pI2, show 0 + (22 + j - 22) = j by omega]
  · rw [e13, if_neg (by omega), e12, if_neg (by omega), e11, if_neg (by omega), e10, if_neg (by omega), e9, if_neg (by omega), e8, if_neg (by omega), e7, if_neg (by omega), e6, if_neg (by omega), e5, if_neg (by omega), e4, if_pos (by omega), d3 5 (by decide), d2 5 (by decide), d1 5 (by decide), d0 5 (by decide), pI2, show 0 + (32 + j - 32) = j by omega]
  · rw [e13, if_neg (by omega), e12, if_neg (by omega), e11, if_neg (by omega), e10, if_neg (by omega), e9, if_neg (by omega), e8, if_neg (by omega), e7, if_neg (by omega), e6, if_neg (by omega), e5, if_pos (by omega), d4 6 (by decide), d3 6 (by decide), d2 6 (by decide), d1 6 (by decide), d0 6 (by decide), pI2, show 0 + (42 + j - 42) = j by omega]
  · rw [e13, if_neg (by omega), e12, if_neg (by omega), e11, if_neg (by omega), e10, if_neg (by omega), e9, if_neg (by omega), e8, if_neg (by omega), e7, if_neg (by omega), e6, if_pos (by omega), d5 7 (by decide), d4 7 (by decide), d3 7 (by decide), d2 7 (by decide), d1 7 (by decide), d0 7 (by decide), pI2, show 0 + (52 + j - 52) = j by omega]
  · rw [e13, if_neg (by omega), e12, if_neg (by omega), e11, if_neg (by omega), e10, if_neg (by omega), e9, if_neg (by omega), e8, if_neg (by omega), e7, if_pos (by omega), d6 8 (by decide), d5 8 (by decide), d4 8 (by decide), d3 8 (by decide), d2 8 (by decide), d1 8 (by decide), d0 8 (by decide), pI2, show 0 + (62 + j - 62) = j by omega]
  · rw [e13, if_neg (by omega), e12, if_neg (by omega), e11, if_neg (by omega), e10, if_neg (by omega), e9, if_neg (by omega), e8, if_pos (by omega), d7 9 (by decide), d6 9 (by decide), d5 9 (by decide), d4 9 (by decide), d3 9 (by decide), d2 9 (by decide), d1 9 (by decide), d0 9 (by decide), pI2, show 0 + (72 + j - 72) = j by omega]
  · rw [e13, if_neg (by omega), e12, if_neg (by omega), e11, if_neg (by omega), e10, if_neg (by omega), e9, if_pos (by omega), d8 10 (by decide), d7 10 (by decide), d6 10 (by decide), d5 10 (by decide), d4 10 (by decide), d3 10 (by decide), d2 10 (by decide), d1 10 (by decide), d0 10 (by decide), pI2, show 0 + (82 + j - 82) = j by omega]
  · rw [e13, if_neg (by omega), e12, if_neg (by omega), e11, if_neg (by omega), e10, if_pos (by omega), d9 11 (by decide), d8 11 (by decide), d7 11 (by decide), d6 11 (by decide), d5 11 (by decide), d4 11 (by decide), d3 11 (by decide), d2 11 (by decide), d1 11 (by decide), d0 11 (by decide), pI2, show 0 + (92 + j - 92) = j by omega]
  · rw [e13, if_neg (by omega), e12, if_neg (by omega), e11, if_pos (by omega), d10 12 (by decide), d9 12 (by decide), d8 12 (by decide), d7 12 (by decide), d6 12 (by decide), d5 12 (by decide), d4 12 (by decide), d3 12 (by decide), d2 12 (by decide), d1 12 (by decide), d0 12 (by decide), pI2, show 0 + (116 + j - 116) = j by omega]
  · rw [e13, if_neg (by omega), e12, if_pos (by omega), d11 13 (by decide), d10 13 (by decide), d9 13 (by decide), d8 13 (by decide), d7 13 (by decide), d6 13 (by decide), d5 13 (by decide), d4 13 (by decide), d3 13 (by decide), d2 13 (by decide), d1 13 (by decide), d0 13 (by decide), pI2, show 0 + (140 + j - 140) = j by omega]
  · rw [e13, if_pos (by omega), d12 14 (by decide), d11 14 (by decide), d10 14 (by decide), d9 14 (by decide), d8 14 (by decide), d7 14 (by decide), d6 14 (by decide), d5 14 (by decide), d4 14 (by decide), d3 14 (by decide), d2 14 (by decide), d1 14 (by decide), d0 14 (by decide), pI2, show 0 + (164 + j - 164) = j by omega]
theorem cpaR (s : ax_S) : ∃ u, fX9_copyAll 1 s = some (0, u) ∧ (∀ j, j ≠ 43 → u.1 0 j = s.1 0 j) ∧ (∀ o, 14 < o ∨ o = 0 → u.2 o = s.2 o) ∧ (∀ j, j < 4 → u.2 1 j = s.2 27 (4 + j)) ∧ (∀ j, j < 4 → u.2 2 j = s.2 27 (8 + j)) ∧ (∀ j, j < 10 → u.2 3 j = s.2 27 (12 + j)) ∧ (∀ j, j < 10 → u.2 4 j = s.2 27 (22 + j)) ∧ (∀ j, j < 10 → u.2 5 j = s.2 27 (32 + j)) ∧ (∀ j, j < 10 → u.2 6 j = s.2 27 (42 + j)) ∧ (∀ j, j < 10 → u.2 7 j = s.2 27 (52 + j)) ∧ (∀ j, j < 10 → u.2 8 j = s.2 27 (62 + j)) ∧ (∀ j, j < 10 → u.2 9 j = s.2 27 (72 + j)) ∧ (∀ j, j < 10 → u.2 10 j = s.2 27 (82 + j)) ∧ (∀ j, j < 24 → u.2 11 j = s.2 27 (92 + j)) ∧ (∀ j, j < 24 → u.2 12 j = s.2 27 (116 + j)) ∧ (∀ j, j < 24 → u.2 13 j = s.2 27 (140 + j)) ∧ (∀ j, j < 10 → u.2 14 j = s.2 27 (164 + j)) := by
  have e : (ax_sI s 0 43 4).1 0 43 = nI 4 := by simp [pI1]; rfl
  obtain ⟨u0, a0, b0, c0, d0, e0⟩ := cpMR (q := 1) (n1 := 4) (by decide) (by decide) 4 4000 0 4 (ax_sI s 0 43 4) (by decide) (by decide) e (by decide)
  rw [nI_0] at a0
  obtain ⟨u1, a1, b1, c1, d1, e1⟩ := cpMR (q := 2) (n1 := 4) (by decide) (by decide) 4 4000 0 8 u0 (by decide) (by decide) b0 (by decide)
  rw [nI_0] at a1
  obtain ⟨u2, a2, b2, c2, d2, e2⟩ := cpMR (q := 3) (n1 := 10) (by decide) (by decide) 10 4000 0 12 u1 (by decide) (by decide) b1 (by decide)
  rw [nI_0] at a2
  obtain ⟨u3, a3, b3, c3, d3, e3⟩ := cpMR (q := 4) (n1 := 10) (by decide) (by decide) 10 4000 0 22 u2 (by decide) (by decide) b2 (by decide)
  rw [nI_0] at a3
  obtain ⟨u4, a4, b4, c4, d4, e4⟩ := cpMR (q := 5) (n1 := 10) (by decide) (by decide) 10 4000 0 32 u3 (by decide) (by decide) b3 (by decide)
  rw [nI_0] at a4
  obtain ⟨u5, a5, b5, c5, d5, e5⟩ := cpMR (q := 6) (n1 := 10) (by decide) (by decide) 10 4000 0 42 u4 (by decide) (by decide) b4 (by decide)
  rw [nI_0] at a5
  obtain ⟨u6, a6, b6, c6, d6, e6⟩ := cpMR (q := 7) (n1 := 10) (by decide) (by decide) 10 4000 0 52 u5 (by decide) (by decide) b5 (by decide)
  rw [nI_0] at a6
  obtain ⟨u7, a7, b7, c7, d7, e7⟩ := cpMR (q := 8) (n1 := 10) (by decide) (by decide) 10 4000 0 62 u6 (by decide) (by decide) b6 (by decide)
  rw [nI_0] at a7
  obtain ⟨u8, a8, b8, c8, d8, e8⟩ := cpMR (q := 9) (n1 := 10) (by decide) (by decide) 10 4000 0 72 u7 (by decide) (by decide) b7 (by decide)
  rw [nI_0] at a8
  obtain ⟨u9, a9, b9, c9, d9, e9⟩ := cpMR (q := 10) (n1 := 10) (by decide) (by decide) 10 4000 0 82 u8 (by decide) (by decide) b8 (by decide)
  rw [nI_0] at a9
  obtain ⟨u10, a10, b10, c10, d10, e10⟩ := cpMR (q := 11) (n1 := 24) (by decide) (by decide) 24 4000 0 92 u9 (by decide) (by decide) b9 (by decide)
  rw [nI_0] at a10
  obtain ⟨u11, a11, b11, c11, d11, e11⟩ := cpMR (q := 12) (n1 := 24) (by decide) (by decide) 24 4000 0 116 u10 (by decide) (by decide) b10 (by decide)
  rw [nI_0] at a11
  obtain ⟨u12, a12, b12, c12, d12, e12⟩ := cpMR (q := 13) (n1 := 24) (by decide) (by decide) 24 4000 0 140 u11 (by decide) (by decide) b11 (by decide)
  rw [nI_0] at a12
  obtain ⟨u13, a13, b13, c13, d13, e13⟩ := cpMR (q := 14) (n1 := 10) (by decide) (by decide) 10 4000 0 164 u12 (by decide) (by decide) b12 (by decide)
  rw [nI_0] at a13
  refine ⟨u13, ?_, fun j hj => ?_, fun o ho => ?_, fun j hj => ?_, fun j hj => ?_, fun j hj => ?_, fun j hj => ?_, fun j hj => ?_, fun j hj => ?_, fun j hj => ?_, fun j hj => ?_, fun j hj => ?_, fun j hj => ?_, fun j hj => ?_, fun j hj => ?_, fun j hj => ?_, fun j hj => ?_⟩
  · unfold fX9_copyAll fX9_copy
    rw [pt, a0, pb, a1, pb, a2, pb, a3, pb, a4, pb, a5, pb, a6, pb, a7, pb, a8, pb, a9, pb, a10, pb, a11, pb, a12, pb, a13, pb]
  · rw [c13 j hj, c12 j hj, c11 j hj, c10 j hj, c9 j hj, c8 j hj, c7 j hj, c6 j hj, c5 j hj, c4 j hj, c3 j hj, c2 j hj, c1 j hj, c0 j hj, pI1, if_neg (by omega)]
  · rw [d13 o (by omega), d12 o (by omega), d11 o (by omega), d10 o (by omega), d9 o (by omega), d8 o (by omega), d7 o (by omega), d6 o (by omega), d5 o (by omega), d4 o (by omega), d3 o (by omega), d2 o (by omega), d1 o (by omega), d0 o (by omega), pI2]
  · rw [d13 1 (by decide), d12 1 (by decide), d11 1 (by decide), d10 1 (by decide), d9 1 (by decide), d8 1 (by decide), d7 1 (by decide), d6 1 (by decide), d5 1 (by decide), d4 1 (by decide), d3 1 (by decide), d2 1 (by decide), d1 1 (by decide), e0, if_pos (by omega), pI2, Nat.sub_zero]
  · rw [d13 2 (by decide), d12 2 (by decide), d11 2 (by decide), d10 2 (by decide), d9 2 (by decide), d8 2 (by decide), d7 2 (by decide), d6 2 (by decide), d5 2 (by decide), d4 2 (by decide), d3 2 (by decide), d2 2 (by decide), e1, if_pos (by omega), d0 27 (by decide), pI2, Nat.sub_zero]
  · rw [d13 3 (by decide), d12 3 (by decide), d11 3 (by decide), d10 3 (by decide), d9 3 (by decide), d8 3 (by decide), d7 3 (by decide), d6 3 (by decide), d5 3 (by decide), d4 3 (by decide), d3 3 (by decide), e2, if_pos (by omega), d1 27 (by decide), d0 27 (by decide), pI2, Nat.sub_zero]
  · rw [d13 4 (by decide), d12 4 (by decide), d11 4 (by decide), d10 4 (by decide), d9 4 (by decide), d8 4 (by decide), d7 4 (by decide), d6 4 (by decide), d5 4 (by decide), d4 4 (by decide), e3, if_pos (by omega), d2 27 (by decide), d1 27 (by decide), d0 27 (by decide), pI2, Nat.sub_zero]
  · rw [d13 5 (by decide), d12 5 (by decide), d11 5 (by decide), d10 5 (by decide), d9 5 (by decide), d8 5 (by decide), d7 5 (by decide), d6 5 (by decide), d5 5 (by decide), e4, if_pos (by omega), d3 27 (by decide), d2 27 (by decide), d1 27 (by decide), d0 27 (by decide), pI2, Nat.sub_zero]
  · rw [d13 6 (by decide), d12 6 (by decide), d11 6 (by decide), d10 6 (by decide), d9 6 (by decide), d8 6 (by decide), d7 6 (by decide), d6 6 (by decide), e5, if_pos (by omega), d4 27 (by decide), d3 27 (by decide), d2 27 (by decide), d1 27 (by decide), d0 27 (by decide), pI2, Nat.sub_zero]
  · rw [d13 7 (by decide), d12 7 (by decide), d11 7 (by decide), d10 7 (by decide), d9 7 (by decide), d8 7 (by decide), d7 7 (by decide), e6, if_pos (by omega), d5 27 (by decide), d4 27 (by decide), d3 27 (by decide), d2 27 (by decide), d1 27 (by decide), d0 27 (by decide), pI2, Nat.sub_zero]
  · rw [d13 8 (by decide), d12 8 (by decide), d11 8 (by decide), d10 8 (by decide), d9 8 (by decide), d8 8 (by decide), e7, if_pos (by omega), d6 27 (by decide), d5 27 (by decide), d4 27 (by decide), d3 27 (by decide), d2 27 (by decide), d1 27 (by decide), d0 27 (by decide), pI2, Nat.sub_zero]
  · rw [d13 9 (by decide), d12 9 (by decide), d11 9 (by decide), d10 9 (by decide), d9 9 (by decide), e8, if_pos (by omega), d7 27 (by decide), d6 27 (by decide), d5 27 (by decide), d4 27 (by decide), d3 27 (by decide), d2 27 (by decide), d1 27 (by decide), d0 27 (by decide), pI2, Nat.sub_zero]
  · rw [d13 10 (by decide), d12 10 (by decide), d11 10 (by decide), d10 10 (by decide), e9, if_pos (by omega), d8 27 (by decide), d7 27 (by decide), d6 27 (by decide), d5 27 (by decide), d4 27 (by decide), d3 27 (by decide), d2 27 (by decide), d1 27 (by decide), d0 27 (by decide), pI2, Nat.sub_zero]
  · rw [d13 11 (by decide), d12 11 (by decide), d11 11 (by decide), e10, if_pos (by omega), d9 27 (by decide), d8 27 (by decide), d7 27 (by decide), d6 27 (by decide), d5 27 (by decide), d4 27 (by decide), d3 27 (by decide), d2 27 (by decide), d1 27 (by decide), d0 27 (by decide), pI2, Nat.sub_zero]
  · rw [d13 12 (by decide), d12 12 (by decide), e11, if_pos (by omega), d10 27 (by decide), d9 27 (by decide), d8 27 (by decide), d7 27 (by decide), d6 27 (by decide), d5 27 (by decide), d4 27 (by decide), d3 27 (by decide), d2 27 (by decide), d1 27 (by decide), d0 27 (by decide), pI2, Nat.sub_zero]
  · rw [d13 13 (by decide), e12, if_pos (by omega), d11 27 (by decide), d10 27 (by decide), d9 27 (by decide), d8 27 (by decide), d7 27 (by decide), d6 27 (by decide), d5 27 (by decide), d4 27 (by decide), d3 27 (by decide), d2 27 (by decide), d1 27 (by decide), d0 27 (by decide), pI2, Nat.sub_zero]
  · rw [e13, if_pos (by omega), d12 27 (by decide), d11 27 (by decide), d10 27 (by decide), d9 27 (by decide), d8 27 (by decide), d7 27 (by decide), d6 27 (by decide), d5 27 (by decide), d4 27 (by decide), d3 27 (by decide), d2 27 (by decide), d1 27 (by decide), d0 27 (by decide), pI2, Nat.sub_zero]
theorem s_saveSnapshot : Sim1 fX8_saveSnapshot fX9_saveSnapshot := by
  intro sx sm h
  obtain ⟨⟨n, a, c, hG, hX, hM⟩, -, ⟨T, h5, h6, h7, h8⟩, h9⟩ := h
  obtain ⟨u, g1, g2, g3⟩ := cpXS hX hG.r
  obtain ⟨v, v1, v2, v3, v4, w1, w2, w3, w4, w5, w6, w7, w8, w9, w10, w11, w12, w13, w14⟩ := cpaS (ax_sE (ax_sE (ax_sE (ax_sE (ax_sI sm 0 41 1) 27 0 (nI (n 0))) 27 1 (nI (n 1))) 27 2 (nI (n 2))) 27 3 (nI (n 3)))
  have y1 : ∀ j, j ≠ 43 → j ≠ 41 → v.1 0 j = sm.1 0 j := fun j h1 h2 => by
    rw [v2 j h1, pE1, pE1, pE1, pE1, pI1, if_neg (by omega)]
  have y2 : ∀ o, o ≠ 27 → v.2 o = sm.2 o := fun o h1 => by
    rw [v3 o h1, pE2n _ _ _ h1, pE2n _ _ _ h1, pE2n _ _ _ h1, pE2n _ _ _ h1, pI2]
  have hM1 : RM v n a c := by
    unfold RM at hM ⊢
    rw [y1 0 (by decide) (by decide), y1 3 (by decide) (by decide), y1 12 (by decide) (by decide), y1 16 (by decide) (by decide)]
    simp only [y2 1 (by decide), y2 2 (by decide), y2 3 (by decide), y2 4 (by decide), y2 5 (by decide), y2 6 (by decide), y2 7 (by decide), y2 8 (by decide), y2 9 (by decide), y2 10 (by decide), y2 11 (by decide), y2 12 (by decide), y2 13 (by decide), y2 14 (by decide)]
    exact hM
  refine ⟨nI (n 2), ax_sI u 0 5 1, v, ?_, ?_, ⟨n, a, c, hG, ?_, hM1⟩, Or.inr ⟨?_, ?_, n, a, c, hG, ?_, ?_⟩, ⟨T, h5, ?_, ?_, ?_⟩, ?_⟩
  · unfold fX8_saveSnapshot
    rw [g1, pb, ppz1, pI1, if_neg (by decide)]
    have : u.1 26 0 = nI (n 2) := g2.1.2.2.1
    rw [this]
  · unfold fX9_saveSnapshot
    have q1 : (0 : Int32) = nI 0 := rfl
    have q2 : (2 : Int32) = nI 2 := rfl
    have q3 : (3 : Int32) = nI 3 := rfl
    have z0 : ax_sto (ax_sI sm 0 41 1) 27 174 (0 : Int32) ((ax_sI sm 0 41 1).1 0 0) = fun g => g (ax_sE (ax_sI sm 0 41 1) 27 0 (nI (n 0))) := by
      funext g
      rw [show ax_sto (ax_sI sm 0 41 1) 27 174 (0 : Int32) _ g = _ from psto (j := 0) (by decide) (by decide)]
      simp [pI1, M_n0 hM]
    have z1 : ∀ (s : ax_S) (x : Int32) (g : ax_S → ax_R), ax_sto s 27 174 (1 : Int32) x g = g (ax_sE s 27 1 x) := fun s x g => psto (j := 1) (by decide) (by decide)
    have z2 : ∀ (s : ax_S) (x : Int32) (g : ax_S → ax_R), ax_sto s 27 174 (2 : Int32) x g = g (ax_sE s 27 2 x) := fun s x g => psto (j := 2) (by decide) (by decide)
    have z3 : ∀ (s : ax_S) (x : Int32) (g : ax_S → ax_R), ax_sto s 27 174 (3 : Int32) x g = g (ax_sE s 27 3 x) := fun s x g => psto (j := 3) (by decide) (by decide)
    rw [ppz1, z0]
    simp only [z1, z2, z3, pE1, pI1]
    simp only [M_n1 hM, M_n2 hM, M_n3 hM]
    simp [v1, pb, M_n1 hM, M_n2 hM, M_n3 hM, M_n2 hM1]
  · exact RX_fr (fun o h1 h2 h3 => ⟨by rw [pI1n _ _ _ (by omega), (g3 o (by omega)).1], by rw [pI2, (g3 o (by omega)).2]⟩) hX
  · simp [pI1]
  · rw [v2 41 (by decide), pE1, pE1, pE1, pE1, pI1, if_pos (by decide)]
  · exact RX_fr (fun o h1 h2 h3 => ⟨pI1n _ _ _ (by omega), by rw [pI2]⟩) g2
  · refine ⟨⟨?_, ?_, ?_, ?_⟩, fun j hj => ?_, fun j hj => ?_, fun j hj => ?_⟩
    · rw [v4 0 (by decide)]; simp [pE2]
    · rw [v4 1 (by decide)]; simp [pE2]
    · rw [v4 2 (by decide)]; simp [pE2]
    · rw [v4 3 (by decide)]; simp [pE2]
    · rw [w1 j hj, w2 j hj]
      simp [pE2, pI2, M_ty hM, M_in hM, hj]
    · rw [w3 j hj, w4 j hj, w5 j hj, w6 j hj, w7 j hj, w8 j hj, w9 j hj, w10 j hj, w14 j hj]
      simp [pE2, pI2, M_kd hM, M_th hM, M_ob hM, M_fa hM, M_sa hM, M_iv hM, M_rs hM, M_re hM, M_od hM, hj]
    · rw [w11 j hj, w12 j hj, w13 j hj]
      simp [pE2, pI2, M_fo hM, M_te hM, hj]
      exact fun q1 q2 => M_oe hM hj q1 q2
  · rw [pI1n _ _ _ (by decide), (g3 61 (by decide)).1]; exact h6
  · rw [y1 36 (by decide) (by decide)]; exact h7
  · rw [pI2, (g3 62 (by decide)).2, y2 25 (by decide)]; exact h8
  · unfold Rnam at h9 ⊢
    rw [y2 24 (by decide)]; exact h9
theorem s_restoreSnapshot : Sim1 fX8_restoreSnapshot fX9_restoreSnapshot := by
  intro sx sm h
  have hh := h
  obtain ⟨-, hS, ⟨T, h5, h6, h7, h8⟩, h9⟩ := h
  unfold fX8_restoreSnapshot fX9_restoreSnapshot
  rcases hS with ⟨k1, k2⟩ | ⟨k1, k2, n, a, c, hG, hX, hS⟩
  · rw [if_pos k1, if_pos k2]
    exact ⟨_, _, _, rfl, rfl, hh⟩
  · rw [if_neg (by rw [k1]; decide), if_neg (by rw [k2]; decide)]
    obtain ⟨u, g1, g2, g3⟩ := cpXR hX hG.r
    obtain ⟨v, v1, v2, v3, w1, w2, w3, w4, w5, w6, w7, w8, w9, w10, w11, w12, w13, w14⟩ := cpaR (ax_sI (ax_sI (ax_sI (ax_sI sm 0 0 (nI (n 0))) 0 3 (nI (n 1))) 0 12 (nI (n 2))) 0 16 (nI (n 3)))
    simp only [pI2] at v3 w1 w2 w3 w4 w5 w6 w7 w8 w9 w10 w11 w12 w13 w14
    have hM1 : RM v n a c := by
      refine ⟨⟨?_, ?_, ?_, ?_⟩, fun j hj => ?_, fun j hj => ?_, fun j hj => ?_⟩
      · rw [v2 0 (by decide)]; simp [pI1]
      · rw [v2 3 (by decide)]; simp [pI1]
      · rw [v2 12 (by decide)]; simp [pI1]
      · rw [v2 16 (by decide)]; simp [pI1]
      · rw [w1 j hj, w2 j hj]
        exact hS.2.1 j hj
      · rw [w3 j hj, w4 j hj, w5 j hj, w6 j hj, w7 j hj, w8 j hj, w9 j hj, w10 j hj, w14 j hj]
        exact hS.2.2.1 j hj
      · rw [w11 j hj, w12 j hj, w13 j hj]
        exact hS.2.2.2 j hj
    have y1 : ∀ j, j = 36 ∨ j = 41 → v.1 0 j = sm.1 0 j := fun j h1 => by
      rw [v2 j (by omega), pI1, if_neg (by omega), pI1, if_neg (by omega), pI1, if_neg (by omega), pI1, if_neg (by omega)]
    refine ⟨nI (n 2), u, v, ?_, ?_, ⟨n, a, c, hG, g2, hM1⟩, Or.inr ⟨?_, ?_, n, a, c, hG, ?_, ?_⟩, ⟨T, h5, ?_, ?_, ?_⟩, ?_⟩
    · rw [g1, pb, X_n2 g2]
    · have z0 : ∀ (s : ax_S) (g : Int32 → ax_R), ax_ld s 27 174 (0 : Int32) g = g (s.2 27 0) := fun s g => pld (j := 0) (by decide) (by decide)
      have z1 : ∀ (s : ax_S) (g : Int32 → ax_R), ax_ld s 27 174 (1 : Int32) g = g (s.2 27 1) := fun s g => pld (j := 1) (by decide) (by decide)
      have z2 : ∀ (s : ax_S) (g : Int32 → ax_R), ax_ld s 27 174 (2 : Int32) g = g (s.2 27 2) := fun s g => pld (j := 2) (by decide) (by decide)
      have z3 : ∀ (s : ax_S) (g : Int32 → ax_R), ax_ld s 27 174 (3 : Int32) g = g (s.2 27 3) := fun s g => pld (j := 3) (by decide) (by decide)
      simp only [z0, z1, z2, z3, pt, pI2, hS.1.1, hS.1.2.1, hS.1.2.2.1, hS.1.2.2.2, v1, pb, M_n2 hM1]
    · rw [(g3 0 (by decide)).1]; exact k1
    · rw [y1 41 (by decide)]; exact k2
    · exact RX_fr (fun o h1 h2 h3 => g3 o (by omega)) hX
    · exact RS_fr (v3 27 (by decide)) hS
    · rw [(g3 61 (by decide)).1]; exact h6
    · rw [y1 36 (by decide)]; exact h7
    · rw [(g3 62 (by decide)).2, v3 25 (by decide)]; exact h8
    · unfold Rnam at h9 ⊢
      rw [v3 24 (by decide)]; exact h9