/-! THE PURE PART: a search from its start, on both sides. -/
theorem SX0 {s t : ax_S} (n : vN) (a : vA) (c : vC) (wt f : Nat) (u : Int32) (z : oS) (w : Int32) (h3 : t.1 43 3 = s.1 43 3) (h4 : t.1 43 4 = s.1 43 4) (h5 : t.1 43 5 = s.1 43 5) (h45 : t.2 45 = s.2 45) (h46 : t.2 46 = s.2 46) : SX t n a c wt f u z w = SX s n a c wt f u z w := by
  have e1 : rdX t = rdX s := by
    funext p u
    unfold rdX
    rw [h3, h46]
  have e2 : okX t = okX s := by
    funext p r
    unfold okX
    rw [h5, h45]
  have e3 : flX t = flX s := by
    funext u
    unfold flX
    rw [h4]
  unfold SX
  rw [e1, e2, e3]
theorem runX {st : ax_S} {n : vN} {a : vA} {c : vC} {of : Bool} {wt : Nat} (hG : Good n a c) (hX : RX 1 st n a c) (hR : RpX (n 0) st (sI0 c)) (hw : (wt < 10 ∧ st.1 43 12 = nI wt) ∨ (wt = 99 ∧ st.1 43 12 = -1)) (hwr : wt < 10 → bt (st.1 43 4) wt = true) (hmk : wt < 10 → ∀ r, r < 1999 → st.2 48 r = 0) : ∃ s1, fX5_extend 12 0 0 (ax_sI (ax_sI st 43 11 (if of then 1 else 0)) 43 10 0) = some (0, s1) ∧ QX st s1 ∧ accX of wt s1 (cut of (SX st n a c wt 10 0 (sI0 c) 0)) := by
  have hQ : QX st (ax_sI (ax_sI st 43 11 (if of then 1 else 0)) 43 10 0) := (QX.I _ _ _).tr (QX.I _ _ _)
  have c11 : (ax_sI (ax_sI st 43 11 (if of then 1 else 0)) 43 10 0).1 43 11 = (if of then 1 else 0) := by simp [pI1]
  have c10 : (ax_sI (ax_sI st 43 11 (if of then 1 else 0)) 43 10 0).1 43 10 = 0 := by simp [pI1]
  have ck : ∀ k, k ≠ 10 → k ≠ 11 → (ax_sI (ax_sI st 43 11 (if of then 1 else 0)) 43 10 0).1 43 k = st.1 43 k := fun k h1 h2 => by rw [pI1, if_neg (by omega), pI1, if_neg (by omega)]
  have cA : (ax_sI (ax_sI st 43 11 (if of then 1 else 0)) 43 10 0).2 = st.2 := by rw [pI2, pI2]
  have cq : ∀ q, 49 ≤ q → (ax_sI (ax_sI st 43 11 (if of then 1 else 0)) 43 10 0).1 q = st.1 q := fun q hq => by rw [pI1n _ _ _ (by omega), pI1n _ _ _ (by omega)]
  generalize ax_sI (ax_sI st 43 11 (if of then 1 else 0)) 43 10 0 = s2 at *
  have hC : CtX s2 n a c of wt := by
    refine ⟨hG, RX1_fr hQ.fx hX, ?_, c11, fun h => by rw [ck 4 (by decide) (by decide)]; exact hwr h⟩
    rw [ck 12 (by decide) (by decide)]
    exact hw
  have hst : StX s2 n of wt [] 0 0 s2 (sI0 c) [] := by
    refine ⟨SFX.rf _, RpX_fr hG.b.1 (fun q h1 _ => ⟨cq q h1, by rw [cA]⟩) hR, fun i hi => (by cases hi), fun h => (by rw [bt_0] at h; cases h), fun _ => Or.inl ⟨rfl, c10⟩, fun _ => ⟨by rw [c10]; rfl, fun h r hr => Or.inr ⟨by rw [cA]; exact hmk h r hr, fun p hp => (by cases hp)⟩⟩⟩
  obtain ⟨s1, g1, g2, g3, g4, g5, g6⟩ := extX hC 10 12 (by decide) s2 0 (sI0 c) 0 [] [] rfl hst (IV0 hG.cc) (fun _ => rfl)
  refine ⟨s1, g1, hQ.tr g2.q, ?_⟩
  rw [SX0 (s := st) n a c wt 10 0 (sI0 c) 0 (ck 3 (by decide) (by decide)) (ck 4 (by decide) (by decide)) (ck 5 (by decide) (by decide)) (by rw [cA]) (by rw [cA])] at g6
  have e : pm [] (SX st n a c wt 10 0 (sI0 c) 0) = SX st n a c wt 10 0 (sI0 c) 0 := by simp [pm]
  rw [e, List.nil_append] at g6
  exact g6
/-! the reference's start -/
theorem seenL : ∀ (d m i : Nat) (st : ax_S), i + d = 2200 → d < m → ∃ s1, fX9_searches_L40 m (nI i) st = (ax_bind (fX9_start s1) fun _ st9 => ax_bind (fX9_search 12 0 0 0 st9) fun _ st11 => some (st11.1 0 29, st11)) ∧ s1.1 = st.1 ∧ (∀ q, q ≠ 23 → s1.2 q = st.2 q) ∧ (∀ j, j < i → s1.2 23 j = st.2 23 j) ∧ (∀ j, i ≤ j → j < 2200 → s1.2 23 j = 0) := by
  intro d
  induction d with
  | zero =>
    intro m i st hi hm
    obtain ⟨m, rfl⟩ : ∃ k, m = k + 1 := ⟨m - 1, by omega⟩
    refine ⟨st, ?_, rfl, fun _ _ => rfl, fun _ _ => rfl, fun j h1 h2 => by omega⟩
    rw [fX9_searches_L40, if_pos ((qle_2200 (by omega)).mpr (by omega))]
  | succ d ih =>
    intro m i st hi hm
    obtain ⟨m, rfl⟩ : ∃ k, m = k + 1 := ⟨m - 1, by omega⟩
    obtain ⟨s1, g1, g2, g3, g4, g5⟩ := ih m (i + 1) (ax_sE st 23 i 0) (by omega) (by omega)
    refine ⟨s1, ?_, by rw [g2, pE1], fun p hp => by rw [g3 p hp, pE2n _ _ _ hp], fun j hj => ?_, fun j h1 h2 => ?_⟩
    · rw [fX9_searches_L40, if_neg (fun hh => absurd ((qle_2200 (by omega)).mp hh) (by omega)), psto (by omega) (by decide), nar0, nI_1]
      exact g1
    · rw [g4 j (by omega), pE2, if_pos rfl, if_neg (by omega)]
    · by_cases hji : j = i
      · subst hji
        rw [g4 j (by omega), pE2, if_pos rfl, if_pos rfl]
      · exact g5 j (by omega) h2
theorem membL : ∀ (d m i : Nat) (st : ax_S), i + d = 400 → d < m → ∃ s1, fX9_start_L41 m (nI i) st = some (0, s1) ∧ s1.1 = st.1 ∧ (∀ q, q ≠ 20 → s1.2 q = st.2 q) ∧ (∀ j, j < i → s1.2 20 j = st.2 20 j) ∧ (∀ j, i ≤ j → j < 400 → s1.2 20 j = 0) := by
  intro d
  induction d with
  | zero =>
    intro m i st hi hm
    obtain ⟨m, rfl⟩ : ∃ k, m = k + 1 := ⟨m - 1, by omega⟩
    refine ⟨st, ?_, rfl, fun _ _ => rfl, fun _ _ => rfl, fun j h1 h2 => by omega⟩
    rw [fX9_start_L41, if_pos ((qle_400 (by omega)).mpr (by omega))]
  | succ d ih =>
    intro m i st hi hm
    obtain ⟨m, rfl⟩ : ∃ k, m = k + 1 := ⟨m - 1, by omega⟩
    obtain ⟨s1, g1, g2, g3, g4, g5⟩ := ih m (i + 1) (ax_sE st 20 i 0) (by omega) (by omega)
    refine ⟨s1, ?_, by rw [g2, pE1], fun p hp => by rw [g3 p hp, pE2n _ _ _ hp], fun j hj => ?_, fun j h1 h2 => ?_⟩
    · rw [fX9_start_L41, if_neg (fun hh => absurd ((qle_400 (by omega)).mp hh) (by omega)), psto (by omega) (by decide), nar0, nI_1]
      exact g1
    · rw [g4 j (by omega), pE2, if_pos rfl, if_neg (by omega)]
    · by_cases hji : j = i
      · subst hji
        rw [g4 j (by omega), pE2, if_pos rfl, if_pos rfl]
      · exact g5 j (by omega) h2
theorem strtL {c : vC} : ∀ (d m i : Nat) (st : ax_S), i + d = 4 → d < m → (∀ j, j < 4 → st.2 2 j = c 2 j) → ∃ s1, fX9_start_L2 m (nI i) st = fX9_start_L41 4000 0 s1 ∧ s1.1 = st.1 ∧ (∀ q, q ≠ 16 → q ≠ 18 → q ≠ 19 → s1.2 q = st.2 q) ∧ (∀ j, j < i → s1.2 16 j = st.2 16 j ∧ s1.2 18 j = st.2 18 j ∧ s1.2 19 j = st.2 19 j) ∧ (∀ j, i ≤ j → j < 4 → s1.2 16 j = c 2 j ∧ s1.2 18 j = 0 ∧ s1.2 19 j = 0) := by
  intro d
  induction d with
  | zero =>
    intro m i st hi hm _
    obtain ⟨m, rfl⟩ : ∃ k, m = k + 1 := ⟨m - 1, by omega⟩
    refine ⟨st, ?_, rfl, fun _ _ _ _ => rfl, fun _ _ => ⟨rfl, rfl, rfl⟩, fun j h1 h2 => by omega⟩
    rw [fX9_start_L2, if_pos ((qle_4 (by omega)).mpr (by omega))]
  | succ d ih =>
    intro m i st hi hm h2
    obtain ⟨m, rfl⟩ : ∃ k, m = k + 1 := ⟨m - 1, by omega⟩
    obtain ⟨s1, g1, g2, g3, g4, g5⟩ := ih m (i + 1) (ax_sE (ax_sE (ax_sE st 16 i (c 2 i)) 18 i 0) 19 i 0) (by omega) (by omega) (fun j hj => by
      rw [pE2n _ _ _ (by decide), pE2n _ _ _ (by decide), pE2n _ _ _ (by decide)]; exact h2 j hj)
    refine ⟨s1, ?_, by rw [g2, pE1, pE1, pE1], fun p q1 q2 q3 => by rw [g3 p q1 q2 q3, pE2n _ _ _ q3, pE2n _ _ _ q2, pE2n _ _ _ q1], fun j hj => ?_, fun j q1 q2 => ?_⟩
    · rw [fX9_start_L2, if_neg (fun hh => absurd ((qle_4 (by omega)).mp hh) (by omega)), pld (by omega) (by decide), h2 i (by omega), psto (by omega) (by decide), psto (by omega) (by decide), psto (by omega) (by decide), nI_1]
      exact g1
    · obtain ⟨k1, k2, k3⟩ := g4 j (by omega)
      rw [k1, k2, k3]
      have : j ≠ i := by omega
      simp [pE2, this]
    · by_cases hji : j = i
      · subst hji
        obtain ⟨k1, k2, k3⟩ := g4 j (by omega)
        rw [k1, k2, k3]
        simp [pE2]
      · exact g5 j (by omega) q2
theorem startM {st : ax_S} {n : vN} {a : vA} {c : vC} (hM : RM st n a c) : ∃ s1, fX9_start st = some (0, s1) ∧ RpM 4 s1 (sI0 c) ∧ s1.1 = st.1 ∧ (∀ q, (q < 16 ∨ 20 < q) → s1.2 q = st.2 q) := by
  obtain ⟨s1, g1, g2, g3, g4, g5⟩ := strtL (c := c) 4 4000 0 st (by omega) (by omega) (fun j hj => M_in hM hj)
  obtain ⟨s2, k1, k2, k3, k4, k5⟩ := membL 400 4000 0 s1 (by omega) (by omega)
  rw [nI_0] at g1 k1
  unfold fX9_start
  refine ⟨s2, g1.trans k1, fun o ho => ?_, k2.trans g2, fun q hq => by rw [k3 q (by omega), g3 q (by omega) (by omega) (by omega)]⟩
  obtain ⟨q1, q2, q3⟩ := g5 o (by omega) ho
  refine ⟨?_, ?_, ?_, fun j hj => (by cases hj), fun j hj => ?_⟩
  · rw [k3 16 (by decide), q1]; rfl
  · rw [k3 18 (by decide), q2]; rfl
  · rw [k3 19 (by decide), q3]; rfl
  · rw [k5 _ (by omega) (by omega)]; rfl
theorem runM {st : ax_S} {n : vN} {a : vA} {c : vC} (of : Bool) {wt lim : Nat} (oo : Int32) (pg : Bool) {wi : Int32} (hG : Good n a c) (hM : RM st n a c) (hl : lim ≤ 24) (hw : (wt < 10 ∧ wi = nI wt) ∨ (wt = 99 ∧ wi = -10)) : ∃ s1, fX9_searches (nI lim) oo (if pg then 1 else 0) (if of then 0 else 1) wi st = some (s1.1 0 29, s1) ∧ FM st s1 ∧ accM of wt s1 (cut of (SM n a c lim oo pg wt 10 0 (sI0 c) 0)) := by
  have z26 : ∀ (s : ax_S) (g : ax_S → ax_R), ax_putz s 0 26 (if pg then 1 else 0) g = g (ax_sI s 0 26 (if pg then 1 else 0)) := fun s g => by
    cases pg
    · exact ppz0 s 0 26 g
    · exact ppz1 s 0 26 g
  have z27 : ∀ (s : ax_S) (g : ax_S → ax_R), ax_putz s 0 27 (if of then 0 else 1) g = g (ax_sI s 0 27 (if of then 0 else 1)) := fun s g => by
    cases of
    · exact ppz1 s 0 27 g
    · exact ppz0 s 0 27 g
  unfold fX9_searches
  rw [pt, pt, z26, z27, pt, pt, pt]
  have c24 : (ax_sI (ax_sI (ax_sI (ax_sI (ax_sI (ax_sI (ax_sI st 0 24 (nI lim)) 0 25 oo) 0 26 (if pg then 1 else 0)) 0 27 (if of then 0 else 1)) 0 28 wi) 0 29 0) 0 30 0).1 0 24 = nI lim := by simp [pI1]
  have c25 : (ax_sI (ax_sI (ax_sI (ax_sI (ax_sI (ax_sI (ax_sI st 0 24 (nI lim)) 0 25 oo) 0 26 (if pg then 1 else 0)) 0 27 (if of then 0 else 1)) 0 28 wi) 0 29 0) 0 30 0).1 0 25 = oo := by simp [pI1]
  have c26 : (ax_sI (ax_sI (ax_sI (ax_sI (ax_sI (ax_sI (ax_sI st 0 24 (nI lim)) 0 25 oo) 0 26 (if pg then 1 else 0)) 0 27 (if of then 0 else 1)) 0 28 wi) 0 29 0) 0 30 0).1 0 26 = (if pg then 1 else 0) := by simp [pI1]
  have c27 : (ax_sI (ax_sI (ax_sI (ax_sI (ax_sI (ax_sI (ax_sI st 0 24 (nI lim)) 0 25 oo) 0 26 (if pg then 1 else 0)) 0 27 (if of then 0 else 1)) 0 28 wi) 0 29 0) 0 30 0).1 0 27 = (if of then 0 else 1) := by simp [pI1]
  have c28 : (ax_sI (ax_sI (ax_sI (ax_sI (ax_sI (ax_sI (ax_sI st 0 24 (nI lim)) 0 25 oo) 0 26 (if pg then 1 else 0)) 0 27 (if of then 0 else 1)) 0 28 wi) 0 29 0) 0 30 0).1 0 28 = wi := by simp [pI1]
  have c29 : (ax_sI (ax_sI (ax_sI (ax_sI (ax_sI (ax_sI (ax_sI st 0 24 (nI lim)) 0 25 oo) 0 26 (if pg then 1 else 0)) 0 27 (if of then 0 else 1)) 0 28 wi) 0 29 0) 0 30 0).1 0 29 = 0 := by simp [pI1]
  have cF : FM st (ax_sI (ax_sI (ax_sI (ax_sI (ax_sI (ax_sI (ax_sI st 0 24 (nI lim)) 0 25 oo) 0 26 (if pg then 1 else 0)) 0 27 (if of then 0 else 1)) 0 28 wi) 0 29 0) 0 30 0) := ⟨fun k hk => by
    rw [pI1, if_neg (by omega), pI1, if_neg (by omega), pI1, if_neg (by omega), pI1, if_neg (by omega), pI1, if_neg (by omega), pI1, if_neg (by omega), pI1, if_neg (by omega)], fun o _ => by simp only [pI2]⟩
  generalize ax_sI (ax_sI (ax_sI (ax_sI (ax_sI (ax_sI (ax_sI st 0 24 (nI lim)) 0 25 oo) 0 26 (if pg then 1 else 0)) 0 27 (if of then 0 else 1)) 0 28 wi) 0 29 0) 0 30 0 = s2 at *
  obtain ⟨s3, g1, g2, g3, g4, g5⟩ := seenL 2200 4000 0 s2 (by omega) (by omega)
  rw [nI_0] at g1
  have hF3 : FM st s3 := cF.tr ⟨fun k _ => by rw [g2], fun o ho => g3 o (by omega)⟩
  obtain ⟨s4, k1, k2, k3, k4⟩ := startM (RM_fr hF3 hM)
  have hF4 : FM st s4 := hF3.tr ⟨fun k _ => by rw [k3], fun o ho => k4 o (by omega)⟩
  have e1 : s4.1 = s2.1 := k3.trans g2
  have hC : CtM s4 n a c of wt lim oo pg := by
    refine ⟨hG, RM_fr hF4 hM, ?_, by rw [e1]; exact c27, ⟨by rw [e1]; exact c24, hl⟩, by rw [e1]; exact c25, by rw [e1]; exact c26⟩
    rw [e1, c28]
    exact hw
  have hst : StM s4 n of wt [] 0 0 s4 (sI0 c) [] := by
    refine ⟨SFM.rf _, fun o ho => k2 o (by have := hG.b.1; omega), fun i hi => (by cases hi), ⟨fun i => ?_, fun i hi => (by cases hi), fun i j _ hj => (by cases hj), fun h => (by rw [bt_0] at h; cases h)⟩, fun _ => Or.inl ⟨rfl, by rw [e1]; exact c29⟩, fun _ => ⟨by rw [e1, c29]; rfl, fun h r hr => Or.inr ⟨by rw [k4 23 (by decide), g5 r (by omega) hr], fun p hp => (by cases hp)⟩⟩⟩
    rw [bt_0]
    exact ⟨fun h => (by cases h), fun h => (by cases h)⟩
  obtain ⟨s5, v1, v2, v3, v4, v5⟩ := extM hC 10 12 (by decide) s4 0 (sI0 c) 0 [] [] rfl hst (IV0 hG.cc) (fun _ => rfl)
  have v1 : fX9_search 12 0 0 0 s4 = some (0, s5) := v1
  have e : pm [] (SM n a c lim oo pg wt 10 0 (sI0 c) 0) = SM n a c lim oo pg wt 10 0 (sI0 c) 0 := by simp [pm]
  rw [e, List.nil_append] at v5
  refine ⟨s5, ?_, hF4.tr v2.fm, v5⟩
  rw [g1, k1, pb, v1, pb]
/-! the same list on both sides -/
theorem thOO {a : vA} (hR : GdR a) {lim : Nat} {ob oo : Int32} (h : (ob = -1 ∧ oo = -10) ∨ ∃ o, o < 4 ∧ ob = nI o ∧ oo = nI o) (p : Nat) : thX a lim ob p ↔ thM a lim oo p := by
  have hr := hR p
  unfold thX thM
  rcases h with ⟨h1, h2⟩ | ⟨o, ho, h1, h2⟩
  · simp [h1, h2]
  · have e1 : ¬ ob = -1 := fun hh => by rw [h1, qnem1 (by omega)] at hh; exact hh
    have e2 : ¬ oo = -10 := fun hh => by rw [h2, qnem10 (by omega)] at hh; exact hh
    rw [h1] at e1 ⊢
    rw [h2] at e2 ⊢
    simp [e1, e2]
theorem bfr_lt {n : vN} {a : vA} {c : vC} (hG : Good n a c) {i j : Nat} (hi : i < n 1) (hj : j < n 1) (h : bfr a i j) : i < j ∧ a 8 i < a 8 j := by
  have h1 := (hG.o i hi).2.2.2.2 h.1
  have h2 := h.2
  have h3 : a 8 i < a 8 j := by omega
  refine ⟨?_, h3⟩
  rcases Nat.lt_trichotomy i j with h4 | h4 | h4
  · exact h4
  · rw [h4] at h3; omega
  · have := (hG.t j i h4 hi).1
    omega
theorem sameL {s0 st : ax_S} {n : vN} {a : vA} {c : vC} (hG : Good n a c) {lim : Nat} {ob oo : Int32} (pg : Bool) (hoo : (ob = -1 ∧ oo = -10) ∨ ∃ o, o < 4 ∧ ob = nI o ∧ oo = nI o) (hP : PpX s0 n a c lim ob st) (hk : ∀ k, k < n 1 → ∀ j, bt (st.2 46 k) j = true ↔ (j < k ∧ (if pg then a 4 j = a 4 k else bfr a j k) ∧ bt (st.1 43 3) j = true)) : (∀ p u r, p < n 1 → ((rdX st p u ∧ okX st p r) ↔ (rdM n a lim oo pg p u ∧ okM a c lim p r))) ∧ (∀ u, flX st u ↔ flM n a lim oo u) := by
  have hb := hG.b
  obtain ⟨-, -, g3, g4, g5, -, g7⟩ := hP
  have ht := fun p => thOO (lim := lim) hG.r hoo p
  refine ⟨fun p u r hp => ?_, fun u => ?_⟩
  · have hrd : rdX st p u ↔ rdM n a lim oo pg p u := by
      unfold rdX rdM
      rw [g3 p, ht p]
      constructor
      · rintro ⟨⟨-, h1⟩, h2, h3⟩
        refine ⟨h2, h1, fun i hi hf hth => h3 i (by omega) ((hk p hp i).mpr ?_)⟩
        unfold fsM at hf
        cases pg with
        | true =>
          simp only [if_true] at hf ⊢
          exact ⟨hf.2, hf.1, (g3 i).mpr ⟨hi, (ht i).mpr hth⟩⟩
        | false =>
          simp only [Bool.false_eq_true, if_false] at hf ⊢
          exact ⟨(bfr_lt hG hi hp hf).1, hf, (g3 i).mpr ⟨hi, (ht i).mpr hth⟩⟩
      · rintro ⟨h2, h1, h3⟩
        refine ⟨⟨hp, h1⟩, h2, fun i hi hbt => ?_⟩
        obtain ⟨k1, k2, k3⟩ := (hk p hp i).mp hbt
        obtain ⟨k4, k5⟩ := (g3 i).mp k3
        refine h3 i k4 ?_ ((ht i).mp k5)
        unfold fsM
        cases pg with
        | true =>
          simp only [if_true] at k2 ⊢
          exact ⟨k2, k1⟩
        | false =>
          simp only [Bool.false_eq_true, if_false] at k2 ⊢
          exact k2
    constructor
    · rintro ⟨h1, h2⟩
      have h1' := hrd.mp h1
      refine ⟨h1', ?_⟩
      have hth : thX a lim ob p := (ht p).mpr h1'.2.1
      unfold okX at h2
      unfold okM
      by_cases hcp : cpM a lim p
      · right
        have hb4 := (g4 p).mpr ⟨hp, hth, hcp⟩
        rw [g7, hb4, g5 p hp hth hcp] at h2
        rcases h2 with h2 | h2
        · cases h2
        · exact h2.symm
      · exact Or.inl hcp
    · rintro ⟨h1, h2⟩
      have h1' := hrd.mpr h1
      refine ⟨h1', ?_⟩
      have hth : thX a lim ob p := (ht p).mpr h1.2.1
      unfold okX
      unfold okM at h2
      by_cases hcp : cpM a lim p
      · right
        rw [g5 p hp hth hcp]
        exact (h2.resolve_left (fun h => h hcp)).symm
      · left
        rw [g7]
        cases hbt : bt (st.1 43 4) p with
        | false => rfl
        | true => exact absurd ((g4 p).mp hbt).2.2 hcp
  · unfold flX flM
    constructor
    · intro h i hi h1 h2
      exact h i (by omega) ((g4 i).mpr ⟨hi, (ht i).mpr h1, h2⟩)
    · intro h i _ hbt
      obtain ⟨k1, k2, k3⟩ := (g4 i).mp hbt
      exact h i k1 ((ht i).mp k2) k3
