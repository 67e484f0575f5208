/-! THE PURE PART: before a search. -/
def QX (s t : ax_S) : Prop := ∀ o, (o < 43 ∨ 60 < o) → t.1 o = s.1 o ∧ t.2 o = s.2 o
theorem QX.rf (s : ax_S) : QX s s := fun _ _ => ⟨rfl, rfl⟩
theorem QX.tr {s t u : ax_S} (h : QX s t) (g : QX t u) : QX s u := fun o ho => ⟨(g o ho).1.trans (h o ho).1, (g o ho).2.trans (h o ho).2⟩
theorem QX.fx {s t : ax_S} (h : QX s t) : FX s t := fun o ho => h o (by omega)
theorem QX.I (s : ax_S) (k : Nat) (v : Int32) : QX s (ax_sI s 43 k v) := fun o ho => ⟨pI1n _ _ _ (by omega), by rw [pI2]⟩
theorem QX.E (s : ax_S) {q : Nat} (hq : 43 ≤ q ∧ q ≤ 60) (i : Nat) (x : Int32) : QX s (ax_sE s q i x) := fun o ho => ⟨by rw [pE1], by rw [pE2n _ _ _ (by omega)]⟩
theorem SFX.q {s t : ax_S} (h : SFX s t) : QX s t := fun o ho => ⟨h.1 o ho, h.2.2 o (by omega)⟩
theorem FrQ.Q {s t : ax_S} {o : Nat} (ho : o < 4) (h : FrQ (49 + 3 * o) s t) : QX s t := fun p hp => ⟨h.1 p (by omega), h.2 p (by omega) (by omega)⟩
def thX (a : vA) (lim : Nat) (ob : Int32) (p : Nat) : Prop := a 8 p < lim ∧ (ob = -1 ∨ nI (a 5 p) = ob)
theorem prepL {s0 : ax_S} {n : vN} {a : vA} {c : vC} (hX : RX 1 s0 n a c) (hG : Good n a c) {lim : Nat} (hl : lim ≤ 24) (ob : Int32) : ∀ (d m i : Nat) (st : ax_S), i + d = n 1 → d < m → QX s0 st → (∀ j, bt (st.1 43 3) j = true ↔ (j < i ∧ thX a lim ob j)) → (∀ j, bt (st.1 43 4) j = true ↔ (j < i ∧ thX a lim ob j ∧ cpM a lim j)) → (∀ j, j < i → thX a lim ob j → cpM a lim j → st.2 45 j = c 10 j) → st.1 43 12 = -1 → ∃ s1, fX5_prepare_L17 m (nI lim) ob (nI i) st = fX5_prepare_L150 4000 0 s1 ∧ QX s0 s1 ∧ (∀ j, bt (s1.1 43 3) j = true ↔ (j < n 1 ∧ thX a lim ob j)) ∧ (∀ j, bt (s1.1 43 4) j = true ↔ (j < n 1 ∧ thX a lim ob j ∧ cpM a lim j)) ∧ (∀ j, j < n 1 → thX a lim ob j → cpM a lim j → s1.2 45 j = c 10 j) ∧ s1.1 43 12 = -1 ∧ s1.1 43 5 = s1.1 43 4 := by
  have hb := hG.b
  intro d
  induction d with
  | zero =>
    intro m i st hi hm hQ h3 h4 h45 h12
    obtain ⟨m, rfl⟩ : ∃ k, m = k + 1 := ⟨m - 1, by omega⟩
    have hi : i = n 1 := by omega
    subst hi
    refine ⟨ax_sI st 43 5 (st.1 43 4), ?_, hQ.tr (QX.I _ _ _), fun j => ?_, fun j => ?_, fun j h1 h2 h5 => ?_, ?_, ?_⟩
    · rw [fX5_prepare_L17, X_n1 (RX1_fr hQ.fx hX), if_pos (nI_le (by omega) (by omega)), pt]
    · rw [pI1, if_neg (by omega)]; exact h3 j
    · rw [pI1, if_neg (by omega)]; exact h4 j
    · rw [pI2]; exact h45 j h1 h2 h5
    · rw [pI1, if_neg (by omega)]; exact h12
    · rw [pI1, pI1, if_pos ⟨rfl, rfl⟩, if_neg (by omega)]
  | succ d ih =>
    intro m i st hi hm hQ h3 h4 h45 h12
    obtain ⟨m, rfl⟩ : ∃ k, m = k + 1 := ⟨m - 1, by omega⟩
    have hX1 := RX1_fr hQ.fx hX
    have hr := hG.r i
    have hi10 : i < 10 := by omega
    have e1 : (1 : Int32) <<< (nI i &&& 31) = b1 i := rfl
    have skip : ¬ thX a lim ob i → ∃ s1, fX5_prepare_L17 m (nI lim) ob (nI (i + 1)) st = fX5_prepare_L150 4000 0 s1 ∧ QX s0 s1 ∧ (∀ j, bt (s1.1 43 3) j = true ↔ (j < n 1 ∧ thX a lim ob j)) ∧ (∀ j, bt (s1.1 43 4) j = true ↔ (j < n 1 ∧ thX a lim ob j ∧ cpM a lim j)) ∧ (∀ j, j < n 1 → thX a lim ob j → cpM a lim j → s1.2 45 j = c 10 j) ∧ s1.1 43 12 = -1 ∧ s1.1 43 5 = s1.1 43 4 := fun hn => by
      refine ih m (i + 1) st (by omega) (by omega) hQ (fun j => ?_) (fun j => ?_) (fun j h1 h2 h5 => ?_) h12
      · rw [h3 j]
        refine ⟨fun h => ⟨by omega, h.2⟩, fun h => ⟨?_, h.2⟩⟩
        have : j ≠ i := fun hh => hn (hh ▸ h.2)
        omega
      · rw [h4 j]
        refine ⟨fun h => ⟨by omega, h.2⟩, fun h => ⟨?_, h.2⟩⟩
        have : j ≠ i := fun hh => hn (hh ▸ h.2.1)
        omega
      · have : j ≠ i := fun hh => hn (hh ▸ h2)
        exact h45 j (by omega) h2 h5
    have take : a 8 i < lim → (ob = -1 ∨ nI (a 5 i) = ob) → ∃ s1, fX5_prepare_b51 (fX5_prepare_L17 m) (nI lim) ob (nI i) 1 st = fX5_prepare_L150 4000 0 s1 ∧ QX s0 s1 ∧ (∀ j, bt (s1.1 43 3) j = true ↔ (j < n 1 ∧ thX a lim ob j)) ∧ (∀ j, bt (s1.1 43 4) j = true ↔ (j < n 1 ∧ thX a lim ob j ∧ cpM a lim j)) ∧ (∀ j, j < n 1 → thX a lim ob j → cpM a lim j → s1.2 45 j = c 10 j) ∧ s1.1 43 12 = -1 ∧ s1.1 43 5 = s1.1 43 4 := fun hlt hob => by
      have hth : thX a lim ob i := ⟨hlt, hob⟩
      unfold fX5_prepare_b51 fX5_prepare_b134
      rw [if_neg (by decide), pld hi10 (by decide), X_iv hX1 hi10, if_neg (nI_ge hlt (by omega)), pt, e1, nI_1]
      have hQ1 : QX s0 (ax_sI st 43 3 (st.1 43 3 ||| b1 i)) := hQ.tr (QX.I _ _ _)
      have hX2 := RX1_fr hQ1.fx hX
      have n3 : ∀ j, bt ((ax_sI st 43 3 (st.1 43 3 ||| b1 i)).1 43 3) j = true ↔ (j < i + 1 ∧ thX a lim ob j) := fun j => by
        rw [pI1, if_pos ⟨rfl, rfl⟩, bt_or, bt_b1 hi10, Bool.or_eq_true, h3 j, decide_eq_true_eq]
        constructor
        · rintro (h | h)
          · exact ⟨by omega, h.2⟩
          · rw [h]; exact ⟨by omega, hth⟩
        · intro h
          by_cases hji : j = i
          · exact Or.inr hji
          · exact Or.inl ⟨by omega, h.2⟩
      have n4 : (ax_sI st 43 3 (st.1 43 3 ||| b1 i)).1 43 4 = st.1 43 4 := by rw [pI1, if_neg (by omega)]
      have n12 : (ax_sI st 43 3 (st.1 43 3 ||| b1 i)).1 43 12 = -1 := by rw [pI1, if_neg (by omega)]; exact h12
      have nA : (ax_sI st 43 3 (st.1 43 3 ||| b1 i)).2 = st.2 := by rw [pI2]
      generalize ax_sI st 43 3 (st.1 43 3 ||| b1 i) = s2 at *
      rw [isPendX hX2 hG.r hi10, pb]
      have nocp : ¬ cpM a lim i → ∃ s1, fX5_prepare_L17 m (nI lim) ob (nI (i + 1)) s2 = fX5_prepare_L150 4000 0 s1 ∧ QX s0 s1 ∧ (∀ j, bt (s1.1 43 3) j = true ↔ (j < n 1 ∧ thX a lim ob j)) ∧ (∀ j, bt (s1.1 43 4) j = true ↔ (j < n 1 ∧ thX a lim ob j ∧ cpM a lim j)) ∧ (∀ j, j < n 1 → thX a lim ob j → cpM a lim j → s1.2 45 j = c 10 j) ∧ s1.1 43 12 = -1 ∧ s1.1 43 5 = s1.1 43 4 := fun hn => by
        refine ih m (i + 1) s2 (by omega) (by omega) hQ1 n3 (fun j => ?_) (fun j h1 h2 h5 => ?_) n12
        · rw [n4, h4 j]
          refine ⟨fun h => ⟨by omega, h.2⟩, fun h => ⟨?_, h.2⟩⟩
          have : j ≠ i := fun hh => hn (hh ▸ h.2.2)
          omega
        · have : j ≠ i := fun hh => hn (hh ▸ h5)
          rw [nA]
          exact h45 j (by omega) h2 h5
      by_cases h9 : a 9 i = 0
      · rw [if_pos h9, if_neg (by decide)]
        exact nocp (fun hh => hh.1 h9)
      · rw [if_neg h9, if_pos rfl, pld hi10 (by decide), X_rs hX2 hi10]
        by_cases h9l : a 9 i ≤ lim
        · have hcp : cpM a lim i := ⟨h9, h9l⟩
          rw [if_neg (fun hh => absurd ((pu_rs (by omega) (by omega)).mp hh) (by omega)), pt, n4, pld hi10 (by decide), pI2, X_re hX2 hi10, psto hi10 (by decide)]
          refine ih m (i + 1) _ (by omega) (by omega) ((hQ1.tr (QX.I _ _ _)).tr (QX.E _ (by decide) _ _)) (fun j => ?_) (fun j => ?_) (fun j h1 h2 h5 => ?_) ?_
          · rw [pE1, pI1, if_neg (by omega)]; exact n3 j
          · rw [pE1, pI1, if_pos ⟨rfl, rfl⟩, bt_or, bt_b1 hi10, Bool.or_eq_true, h4 j, decide_eq_true_eq]
            constructor
            · rintro (h | h)
              · exact ⟨by omega, h.2⟩
              · rw [h]; exact ⟨by omega, hth, hcp⟩
            · intro h
              by_cases hji : j = i
              · exact Or.inr hji
              · exact Or.inl ⟨by omega, h.2⟩
          · rw [pE2, if_pos rfl]
            by_cases hji : j = i
            · rw [if_pos hji, hji]
            · rw [if_neg hji, pI2, nA]; exact h45 j (by omega) h2 h5
          · rw [pE1, pI1, if_neg (by omega)]; exact n12
        · rw [if_pos ((pu_rs (by omega) (by omega)).mpr (by omega))]
          exact nocp (fun hh => h9l hh.2)
    rw [fX5_prepare_L17, X_n1 hX1, if_neg (nI_ge (by omega) (by omega))]
    by_cases hob : ob = -1
    · rw [if_pos hob]
      unfold fX5_prepare_b46
      by_cases hlt : a 8 i < lim
      · exact take hlt (Or.inl hob)
      · unfold fX5_prepare_b51 fX5_prepare_b134
        rw [if_neg (by decide), pld hi10 (by decide), X_iv hX1 hi10, if_pos (nI_le (by omega) (by omega)), nI_1]
        exact skip (fun hh => hlt hh.1)
    · rw [if_neg hob, pld hi10 (by decide), X_ob hX1 hi10]
      by_cases h5 : nI (a 5 i) = ob
      · rw [if_pos h5]
        unfold fX5_prepare_b46
        by_cases hlt : a 8 i < lim
        · exact take hlt (Or.inr h5)
        · unfold fX5_prepare_b51 fX5_prepare_b134
          rw [if_neg (by decide), pld hi10 (by decide), X_iv hX1 hi10, if_pos (nI_le (by omega) (by omega)), nI_1]
          exact skip (fun hh => hlt hh.1)
      · rw [if_neg h5]
        unfold fX5_prepare_b51 fX5_prepare_b134
        rw [if_pos rfl, nI_1]
        exact skip (fun hh => hh.2.elim hob h5)
def z0 (v : Int32) : oT := (v, 0, 0, fun _ => 0, fun _ => false)
def sI0 (c : vC) : oS := fun o => z0 (c 2 o)
theorem IV0 {a : vA} {c : vC} (h : GdC a c) : IV (sI0 c) 0 := fun o => ⟨Nat.le_refl 0, Nat.le_refl 0, ⟨by have := (h o).1; show -99 * ((0 : Nat) + 1 : Int) ≤ (c 2 o).toInt; omega, by have := (h o).1; show (c 2 o).toInt ≤ 99 * ((0 : Nat) + 1 : Int); omega⟩, fun j hj => by cases hj⟩
theorem startL {q : Nat} : ∀ (d m i : Nat) (st : ax_S), i + d = 100 → d < m → ∃ s1, fX6_start_L17 q m (nI i) st = some (0, s1) ∧ s1.1 = st.1 ∧ (∀ p, p ≠ q + 2 → s1.2 p = st.2 p) ∧ (∀ j, j < i → s1.2 (q + 2) j = st.2 (q + 2) j) ∧ (∀ j, i ≤ j → j < 100 → s1.2 (q + 2) j = 0) := by
  intro d
  induction d with
  | zero =>
    intro m i st hi hm
    obtain ⟨m, rfl⟩ : ∃ k, m = k + 1 := ⟨m - 1, by omega⟩
    refine ⟨st, ?_, rfl, fun _ _ => rfl, fun _ _ => rfl, fun j h1 h2 => by omega⟩
    rw [fX6_start_L17, if_pos ((qlt_99 (by omega)).mpr (by omega))]
  | succ d ih =>
    intro m i st hi hm
    obtain ⟨m, rfl⟩ : ∃ k, m = k + 1 := ⟨m - 1, by omega⟩
    obtain ⟨s1, g1, g2, g3, g4, g5⟩ := ih m (i + 1) (ax_sE st (q + 2) i 0) (by omega) (by omega)
    refine ⟨s1, ?_, by rw [g2, pE1], fun p hp => by rw [g3 p hp, pE2n _ _ _ hp], fun j hj => ?_, fun j h1 h2 => ?_⟩
    · rw [fX6_start_L17, if_neg (fun hh => absurd ((qlt_99 (by omega)).mp hh) (by omega)), psto (by omega) (by decide), nar0, nI_1]
      exact g1
    · rw [g4 j (by omega), pE2, if_pos rfl, if_neg (by omega)]
    · by_cases hji : j = i
      · subst hji
        rw [g4 j (by omega), pE2, if_pos rfl, if_pos rfl]
      · exact g5 j (by omega) h2
theorem startX (q : Nat) (v : Int32) (st : ax_S) : ∃ s1, fX6_start q v st = some (0, s1) ∧ RoQ s1 q (z0 v) ∧ FrQ q st s1 := by
  unfold fX6_start
  rw [pt, pt, pt]
  obtain ⟨s1, g1, g2, g3, g4, g5⟩ := startL (q := q) 100 4000 0 (ax_sI (ax_sI (ax_sI st q 0 v) q 2 0) q 3 0) (by omega) (by omega)
  rw [nI_0] at g1
  refine ⟨s1, g1, ⟨?_, ?_, ?_, fun j hj => (by cases hj), fun j hj => ?_⟩, ⟨fun p hp => ?_, fun p h1 h2 => ?_⟩⟩
  · rw [g2]; simp [pI1, z0]
  · rw [g2]; simp [pI1, z0, nI_0]
  · rw [g2]; simp [pI1, z0, nI_0]
  · rw [g5 j (by omega) hj]; rfl
  · rw [g2, pI1n _ _ _ hp, pI1n _ _ _ hp, pI1n _ _ _ hp]
  · rw [g3 p h2, pI2, pI2, pI2]
theorem objsL {s0 : ax_S} {n : vN} {a : vA} {c : vC} (hX : RX 1 s0 n a c) (hG : Good n a c) : ∀ (d m i : Nat) (st : ax_S), i + d = n 0 → d < m → QX s0 st → (∀ o, o < i → RoQ st (49 + 3 * o) (z0 (c 2 o))) → ∃ s1, fX5_prepare_L150 m (nI i) st = some (0, s1) ∧ QX s0 s1 ∧ RpX (n 0) s1 (sI0 c) ∧ s1.1 43 = st.1 43 ∧ s1.2 45 = st.2 45 := by
  have hb := hG.b
  intro d
  induction d with
  | zero =>
    intro m i st hi hm hQ hR
    obtain ⟨m, rfl⟩ : ∃ k, m = k + 1 := ⟨m - 1, by omega⟩
    refine ⟨st, ?_, hQ, fun o ho => hR o (by omega), rfl, rfl⟩
    rw [fX5_prepare_L150, X_n0 (RX1_fr hQ.fx hX), if_pos (nI_le (by omega) (by omega))]
  | succ d ih =>
    intro m i st hi hm hQ hR
    obtain ⟨m, rfl⟩ : ∃ k, m = k + 1 := ⟨m - 1, by omega⟩
    have hX1 := RX1_fr hQ.fx hX
    obtain ⟨s1, g1, g2, g3⟩ := startX (49 + 3 * i) (c 2 i) st
    obtain ⟨s2, k1, k2, k3, k4, k5⟩ := ih m (i + 1) s1 (by omega) (by omega) (hQ.tr (g3.Q (by omega))) (fun o ho => by
      by_cases hoi : o = i
      · rw [hoi]; exact g2
      · exact RoQ_fr (g3.1 _ (by omega)) (g3.2 _ (by omega) (by omega)) (g3.2 _ (by omega) (by omega)) (hR o (by omega)))
    refine ⟨s2, ?_, k2, k3, by rw [k4, g3.1 43 (by omega)], by rw [k5, g3.2 45 (by omega) (by omega)]⟩
    rw [fX5_prepare_L150, X_n0 hX1, if_neg (nI_ge (by omega) (by omega)), pldq (by show i < 4; omega) (by decide), getq (by omega), pld (by omega) (by decide), X_in hX1 (by omega), g1, pb, nI_1]
    exact k1
/-- what stands ready for a search -/
def PpX (s0 : ax_S) (n : vN) (a : vA) (c : vC) (lim : Nat) (ob : Int32) (st : ax_S) : Prop := QX s0 st ∧ RpX (n 0) st (sI0 c) ∧ (∀ j, bt (st.1 43 3) j = true ↔ (j < n 1 ∧ thX a lim ob j)) ∧ (∀ j, bt (st.1 43 4) j = true ↔ (j < n 1 ∧ thX a lim ob j ∧ cpM a lim j)) ∧ (∀ j, j < n 1 → thX a lim ob j → cpM a lim j → st.2 45 j = c 10 j) ∧ st.1 43 12 = -1 ∧ st.1 43 5 = st.1 43 4
theorem prepX {s0 : ax_S} {n : vN} {a : vA} {c : vC} (hX : RX 1 s0 n a c) (hG : Good n a c) {lim : Nat} (hl : lim ≤ 24) (ob : Int32) : ∃ s1, fX5_prepare (nI lim) ob s0 = some (0, s1) ∧ PpX s0 n a c lim ob s1 := by
  have hb := hG.b
  unfold fX5_prepare
  rw [pt, pt, pt]
  obtain ⟨s1, g1, g2, g3, g4, g5, g6, g7⟩ := prepL hX hG hl ob (n 1) 4000 0 (ax_sI (ax_sI (ax_sI s0 43 3 0) 43 4 0) 43 12 (-1)) (by omega) (by omega) (((QX.I _ _ _).tr (QX.I _ _ _)).tr (QX.I _ _ _)) (fun j => by simp [pI1, bt_0]) (fun j => by simp [pI1, bt_0]) (fun j hj => by omega) (by simp [pI1])
  rw [nI_0] at g1
  obtain ⟨s2, k1, k2, k3, k4, k5⟩ := objsL hX hG (n 0) 4000 0 s1 (by omega) (by omega) g2 (fun o ho => by omega)
  rw [nI_0] at k1
  rw [g1]
  refine ⟨s2, k1, k2, k3, ?_, ?_, ?_, ?_, ?_⟩
  · rw [k4]; exact g3
  · rw [k4]; exact g4
  · rw [k5]; exact g5
  · rw [k4]; exact g6
  · rw [k4]; exact g7
theorem PpX_46 {s0 s t : ax_S} {n : vN} {a : vA} {c : vC} {lim : Nat} {ob : Int32} (hG : Good n a c) (h1 : t.1 = s.1) (h2 : ∀ p, p ≠ 46 → t.2 p = s.2 p) (h : PpX s0 n a c lim ob s) : PpX s0 n a c lim ob t := by
  obtain ⟨g1, g2, g3, g4, g5, g6, g7⟩ := h
  refine ⟨fun o ho => ⟨by rw [h1]; exact (g1 o ho).1, by rw [h2 o (by omega)]; exact (g1 o ho).2⟩, RpX_fr hG.b.1 (fun q q1 q2 => ⟨by rw [h1], h2 q (by omega)⟩) g2, ?_, ?_, ?_, ?_, ?_⟩
  · rw [h1]; exact g3
  · rw [h1]; exact g4
  · rw [h2 45 (by decide)]; exact g5
  · rw [h1]; exact g6
  · rw [h1]; exact g7
theorem kpRI {s0 : ax_S} {n : vN} {a : vA} {c : vC} (hX : RX 1 s0 n a c) (hG : Good n a c) {al : Int32} {i : Nat} (hi : i < n 1) {rec2 : Int32 → ax_S → ax_R} : ∀ (d m e : Nat) (st : ax_S), e + d = i → d < m → QX s0 st → st.1 43 3 = al → (∀ j, bt (st.2 46 i) j = true ↔ (j < e ∧ bfr a j i ∧ bt al j = true)) → ∃ s1, fX5_keepRealTimeOrder_L22 rec2 m (nI i) (nI e) st = rec2 (nI (i + 1)) s1 ∧ QX s0 s1 ∧ s1.1 = st.1 ∧ (∀ p, p ≠ 46 → s1.2 p = st.2 p) ∧ (∀ k, k ≠ i → s1.2 46 k = st.2 46 k) ∧ (∀ j, bt (s1.2 46 i) j = true ↔ (j < i ∧ bfr a j i ∧ bt al j = true)) := by
  have hb := hG.b
  intro d
  induction d with
  | zero =>
    intro m e st he hm hQ h3 h46
    obtain ⟨m, rfl⟩ : ∃ k, m = k + 1 := ⟨m - 1, by omega⟩
    have he : e = i := by omega
    subst he
    refine ⟨st, ?_, hQ, rfl, fun _ _ => rfl, fun _ _ => rfl, h46⟩
    rw [fX5_keepRealTimeOrder_L22, if_pos (nI_le (by omega) (by omega)), nI_1]
  | succ d ih =>
    intro m e st he hm hQ h3 h46
    obtain ⟨m, rfl⟩ : ∃ k, m = k + 1 := ⟨m - 1, by omega⟩
    have hX1 := RX1_fr hQ.fx hX
    have e1 : (1 : Int32) <<< (nI e &&& 31) = b1 e := rfl
    have no : ¬ bfr a e i → ∃ s1, fX5_keepRealTimeOrder_L22 rec2 m (nI i) (nI (e + 1)) st = rec2 (nI (i + 1)) s1 ∧ QX s0 s1 ∧ s1.1 = st.1 ∧ (∀ p, p ≠ 46 → s1.2 p = st.2 p) ∧ (∀ k, k ≠ i → s1.2 46 k = st.2 46 k) ∧ (∀ j, bt (s1.2 46 i) j = true ↔ (j < i ∧ bfr a j i ∧ bt al j = true)) := fun hn => by
      refine ih m (e + 1) st (by omega) (by omega) hQ h3 (fun j => ?_)
      rw [h46 j]
      refine ⟨fun h => ⟨by omega, h.2⟩, fun h => ⟨?_, h.2⟩⟩
      have : j ≠ e := fun hh => hn (hh ▸ h.2.1)
      omega
    have yes : bfr a e i → ∃ s1, fX5_keepRealTimeOrder_L22 rec2 m (nI i) (nI (e + 1)) (ax_sE st 46 i (st.2 46 i ||| al &&& b1 e)) = rec2 (nI (i + 1)) s1 ∧ QX s0 s1 ∧ s1.1 = st.1 ∧ (∀ p, p ≠ 46 → s1.2 p = st.2 p) ∧ (∀ k, k ≠ i → s1.2 46 k = st.2 46 k) ∧ (∀ j, bt (s1.2 46 i) j = true ↔ (j < i ∧ bfr a j i ∧ bt al j = true)) := fun hf => by
      obtain ⟨s1, k1, k2, k3, k4, k5, k6⟩ := ih m (e + 1) (ax_sE st 46 i (st.2 46 i ||| al &&& b1 e)) (by omega) (by omega) (hQ.tr (QX.E _ (by decide) _ _)) (by rw [pE1]; exact h3) (fun j => by
        rw [pE2, if_pos rfl, if_pos rfl, bt_or, bt_and, bt_b1 (by omega), Bool.or_eq_true, h46 j, Bool.and_eq_true, decide_eq_true_eq]
        constructor
        · rintro (h | h)
          · exact ⟨by omega, h.2⟩
          · obtain ⟨h, rfl⟩ := h
            exact ⟨by omega, hf, h⟩
        · intro h
          by_cases hje : j = e
          · exact Or.inr ⟨h.2.2, hje⟩
          · exact Or.inl ⟨by omega, h.2⟩)
      exact ⟨s1, k1, k2, by rw [k3, pE1], fun p hp => by rw [k4 p hp, pE2n _ _ _ hp], fun k hk => by rw [k5 k hk, pE2, if_pos rfl, if_neg hk], k6⟩
    obtain ⟨r, g1, g2⟩ := bfrX hX1 hG.r (i := e) (j := i) (by omega) (by omega)
    rw [fX5_keepRealTimeOrder_L22, if_neg (nI_ge (by omega) (by omega)), g1, pb]
    unfold fX5_keepRealTimeOrder_b56
    rw [nI_1]
    rcases g2 with ⟨hr, hf⟩ | ⟨hr, hf⟩
    · rw [hr, if_neg (by decide), pld (by omega) (by decide), h3, e1, psto (by omega) (by decide)]
      exact yes hf
    · rw [hr, if_pos rfl]
      exact no hf
theorem kpRO {s0 : ax_S} {n : vN} {a : vA} {c : vC} (hX : RX 1 s0 n a c) (hG : Good n a c) {al : Int32} : ∀ (d m i : Nat) (st : ax_S), i + d = n 1 → d < m → QX s0 st → st.1 43 3 = al → (∀ k, k < i → ∀ j, bt (st.2 46 k) j = true ↔ (j < k ∧ bfr a j k ∧ bt al j = true)) → ∃ s1, fX5_keepRealTimeOrder_L2 m (nI i) st = some (0, s1) ∧ QX s0 s1 ∧ s1.1 = st.1 ∧ (∀ p, p ≠ 46 → s1.2 p = st.2 p) ∧ (∀ k, k < n 1 → ∀ j, bt (s1.2 46 k) j = true ↔ (j < k ∧ bfr a j k ∧ bt al j = true)) := by
  have hb := hG.b
  intro d
  induction d with
  | zero =>
    intro m i st hi hm hQ h3 h46
    obtain ⟨m, rfl⟩ : ∃ k, m = k + 1 := ⟨m - 1, by omega⟩
    have hi : i = n 1 := by omega
    subst hi
    refine ⟨st, ?_, hQ, rfl, fun _ _ => rfl, h46⟩
    rw [fX5_keepRealTimeOrder_L2, X_n1 (RX1_fr hQ.fx hX), if_pos (nI_le (by omega) (by omega))]
  | succ d ih =>
    intro m i st hi hm hQ h3 h46
    obtain ⟨m, rfl⟩ : ∃ k, m = k + 1 := ⟨m - 1, by omega⟩
    obtain ⟨s1, k1, k2, k3, k4, k5, k6⟩ := kpRI hX hG (al := al) (i := i) (by omega) (rec2 := fX5_keepRealTimeOrder_L2 m) i 4000 0 (ax_sE st 46 i 0) (by omega) (by omega) (hQ.tr (QX.E _ (by decide) _ _)) (by rw [pE1]; exact h3) (fun j => by
      rw [pE2, if_pos rfl, if_pos rfl, bt_0]
      exact ⟨fun h => (by cases h), fun h => by omega⟩)
    rw [nI_0] at k1
    obtain ⟨s2, v1, v2, v3, v4, v5⟩ := ih m (i + 1) s1 (by omega) (by omega) k2 (by rw [k3, pE1]; exact h3) (fun k hk j => by
      by_cases hki : k = i
      · rw [hki]; exact k6 j
      · rw [k5 k hki, pE2, if_pos rfl, if_neg hki]; exact h46 k (by omega) j)
    refine ⟨s2, ?_, v2, by rw [v3, k3, pE1], fun p hp => by rw [v4 p hp, k4 p hp, pE2n _ _ _ hp], v5⟩
    rw [fX5_keepRealTimeOrder_L2, X_n1 (RX1_fr hQ.fx hX), if_neg (nI_ge (by omega) (by omega)), psto (by omega) (by decide), k1]
    exact v1
theorem kpTI {s0 : ax_S} {n : vN} {a : vA} {c : vC} (hX : RX 1 s0 n a c) (hG : Good n a c) {al : Int32} {i : Nat} (hi : i < n 1) {rec2 : Int32 → ax_S → ax_R} : ∀ (d m e : Nat) (st : ax_S), e + d = i → d < m → QX s0 st → st.1 43 3 = al → (∀ j, bt (st.2 46 i) j = true ↔ (j < e ∧ a 4 j = a 4 i ∧ bt al j = true)) → ∃ s1, fX5_keepThreadOrder_L22 rec2 m (nI i) (nI e) st = rec2 (nI (i + 1)) s1 ∧ QX s0 s1 ∧ s1.1 = st.1 ∧ (∀ p, p ≠ 46 → s1.2 p = st.2 p) ∧ (∀ k, k ≠ i → s1.2 46 k = st.2 46 k) ∧ (∀ j, bt (s1.2 46 i) j = true ↔ (j < i ∧ a 4 j = a 4 i ∧ bt al j = true)) := by
  have hb := hG.b
  intro d
  induction d with
  | zero =>
    intro m e st he hm hQ h3 h46
    obtain ⟨m, rfl⟩ : ∃ k, m = k + 1 := ⟨m - 1, by omega⟩
    have he : e = i := by omega
    subst he
    refine ⟨st, ?_, hQ, rfl, fun _ _ => rfl, fun _ _ => rfl, h46⟩
    rw [fX5_keepThreadOrder_L22, if_pos (nI_le (by omega) (by omega)), nI_1]
  | succ d ih =>
    intro m e st he hm hQ h3 h46
    obtain ⟨m, rfl⟩ : ∃ k, m = k + 1 := ⟨m - 1, by omega⟩
    have hX1 := RX1_fr hQ.fx hX
    have e1 : (1 : Int32) <<< (nI e &&& 31) = b1 e := rfl
    have no : ¬ a 4 e = a 4 i → ∃ s1, fX5_keepThreadOrder_L22 rec2 m (nI i) (nI (e + 1)) st = rec2 (nI (i + 1)) s1 ∧ QX s0 s1 ∧ s1.1 = st.1 ∧ (∀ p, p ≠ 46 → s1.2 p = st.2 p) ∧ (∀ k, k ≠ i → s1.2 46 k = st.2 46 k) ∧ (∀ j, bt (s1.2 46 i) j = true ↔ (j < i ∧ a 4 j = a 4 i ∧ bt al j = true)) := fun hn => by
      refine ih m (e + 1) st (by omega) (by omega) hQ h3 (fun j => ?_)
      rw [h46 j]
      refine ⟨fun h => ⟨by omega, h.2⟩, fun h => ⟨?_, h.2⟩⟩
      have : j ≠ e := fun hh => hn (hh ▸ h.2.1)
      omega
    have yes : a 4 e = a 4 i → ∃ s1, fX5_keepThreadOrder_L22 rec2 m (nI i) (nI (e + 1)) (ax_sE st 46 i (st.2 46 i ||| al &&& b1 e)) = rec2 (nI (i + 1)) s1 ∧ QX s0 s1 ∧ s1.1 = st.1 ∧ (∀ p, p ≠ 46 → s1.2 p = st.2 p) ∧ (∀ k, k ≠ i → s1.2 46 k = st.2 46 k) ∧ (∀ j, bt (s1.2 46 i) j = true ↔ (j < i ∧ a 4 j = a 4 i ∧ bt al j = true)) := fun hf => by
      obtain ⟨s1, k1, k2, k3, k4, k5, k6⟩ := ih m (e + 1) (ax_sE st 46 i (st.2 46 i ||| al &&& b1 e)) (by omega) (by omega) (hQ.tr (QX.E _ (by decide) _ _)) (by rw [pE1]; exact h3) (fun j => by
        rw [pE2, if_pos rfl, if_pos rfl, bt_or, bt_and, bt_b1 (by omega), Bool.or_eq_true, h46 j, Bool.and_eq_true, decide_eq_true_eq]
        constructor
        · rintro (h | h)
          · exact ⟨by omega, h.2⟩
          · obtain ⟨h, rfl⟩ := h
            exact ⟨by omega, hf, h⟩
        · intro h
          by_cases hje : j = e
          · exact Or.inr ⟨h.2.2, hje⟩
          · exact Or.inl ⟨by omega, h.2⟩)
      exact ⟨s1, k1, k2, by rw [k3, pE1], fun p hp => by rw [k4 p hp, pE2n _ _ _ hp], fun k hk => by rw [k5 k hk, pE2, if_pos rfl, if_neg hk], k6⟩
    have hre := hG.r e
    have hri := hG.r i
    rw [fX5_keepThreadOrder_L22, if_neg (nI_ge (by omega) (by omega)), pld (by omega) (by decide), X_th hX1 (by omega), pld (by omega) (by decide), X_th hX1 (by omega)]
    unfold fX5_keepThreadOrder_b65
    rw [nI_1]
    by_cases hf : a 4 e = a 4 i
    · rw [if_pos ((qeq (by omega) (by omega)).mpr hf), pld (by omega) (by decide), h3, e1, psto (by omega) (by decide)]
      exact yes hf
    · rw [if_neg (fun hh => hf ((qeq (by omega) (by omega)).mp hh))]
      exact no hf
theorem kpTO {s0 : ax_S} {n : vN} {a : vA} {c : vC} (hX : RX 1 s0 n a c) (hG : Good n a c) {al : Int32} : ∀ (d m i : Nat) (st : ax_S), i + d = n 1 → d < m → QX s0 st → st.1 43 3 = al → (∀ k, k < i → ∀ j, bt (st.2 46 k) j = true ↔ (j < k ∧ a 4 j = a 4 k ∧ bt al j = true)) → ∃ s1, fX5_keepThreadOrder_L2 m (nI i) st = some (0, s1) ∧ QX s0 s1 ∧ s1.1 = st.1 ∧ (∀ p, p ≠ 46 → s1.2 p = st.2 p) ∧ (∀ k, k < n 1 → ∀ j, bt (s1.2 46 k) j = true ↔ (j < k ∧ a 4 j = a 4 k ∧ bt al j = true)) := by
  have hb := hG.b
  intro d
  induction d with
  | zero =>
    intro m i st hi hm hQ h3 h46
    obtain ⟨m, rfl⟩ : ∃ k, m = k + 1 := ⟨m - 1, by omega⟩
    have hi : i = n 1 := by omega
    subst hi
    refine ⟨st, ?_, hQ, rfl, fun _ _ => rfl, h46⟩
    rw [fX5_keepThreadOrder_L2, X_n1 (RX1_fr hQ.fx hX), if_pos (nI_le (by omega) (by omega))]
  | succ d ih =>
    intro m i st hi hm hQ h3 h46
    obtain ⟨m, rfl⟩ : ∃ k, m = k + 1 := ⟨m - 1, by omega⟩
    obtain ⟨s1, k1, k2, k3, k4, k5, k6⟩ := kpTI hX hG (al := al) (i := i) (by omega) (rec2 := fX5_keepThreadOrder_L2 m) i 4000 0 (ax_sE st 46 i 0) (by omega) (by omega) (hQ.tr (QX.E _ (by decide) _ _)) (by rw [pE1]; exact h3) (fun j => by
      rw [pE2, if_pos rfl, if_pos rfl, bt_0]
      exact ⟨fun h => (by cases h), fun h => by omega⟩)
    rw [nI_0] at k1
    obtain ⟨s2, v1, v2, v3, v4, v5⟩ := ih m (i + 1) s1 (by omega) (by omega) k2 (by rw [k3, pE1]; exact h3) (fun k hk j => by
      by_cases hki : k = i
      · rw [hki]; exact k6 j
      · rw [k5 k hki, pE2, if_pos rfl, if_neg hki]; exact h46 k (by omega) j)
    refine ⟨s2, ?_, v2, by rw [v3, k3, pE1], fun p hp => by rw [v4 p hp, k4 p hp, pE2n _ _ _ hp], v5⟩
    rw [fX5_keepThreadOrder_L2, X_n1 (RX1_fr hQ.fx hX), if_neg (nI_ge (by omega) (by omega)), psto (by omega) (by decide), k1]
    exact v1
theorem keepR {s0 st : ax_S} {n : vN} {a : vA} {c : vC} (hX : RX 1 s0 n a c) (hG : Good n a c) {lim : Nat} {ob : Int32} (hP : PpX s0 n a c lim ob st) : ∃ s1, fX5_keepRealTimeOrder st = some (0, s1) ∧ PpX s0 n a c lim ob s1 ∧ ∀ k, k < n 1 → ∀ j, bt (s1.2 46 k) j = true ↔ (j < k ∧ bfr a j k ∧ bt (s1.1 43 3) j = true) := by
  have hb := hG.b
  obtain ⟨s1, g1, g2, g3, g4, g5⟩ := kpRO hX hG (al := st.1 43 3) (n 1) 4000 0 st (by omega) (by omega) hP.1 rfl (fun k hk => by omega)
  rw [nI_0] at g1
  exact ⟨s1, g1, PpX_46 hG g3 g4 hP, by rw [g3]; exact g5⟩
theorem keepT {s0 st : ax_S} {n : vN} {a : vA} {c : vC} (hX : RX 1 s0 n a c) (hG : Good n a c) {lim : Nat} {ob : Int32} (hP : PpX s0 n a c lim ob st) : ∃ s1, fX5_keepThreadOrder st = some (0, s1) ∧ PpX s0 n a c lim ob s1 ∧ ∀ k, k < n 1 → ∀ j, bt (s1.2 46 k) j = true ↔ (j < k ∧ a 4 j = a 4 k ∧ bt (s1.1 43 3) j = true) := by
  have hb := hG.b
  obtain ⟨s1, g1, g2, g3, g4, g5⟩ := kpTO hX hG (al := st.1 43 3) (n 1) 4000 0 st (by omega) (by omega) hP.1 rfl (fun k hk => by omega)
  rw [nI_0] at g1
  exact ⟨s1, g1, PpX_46 hG g3 g4 hP, by rw [g3]; exact g5⟩
