/-! THE PURE PART: the text's characters, the most pending, the longest chain. -/
theorem chr16 : ∀ ch, ch < 127 → vp_nar .char (ax_c16 (nI ch)) = nI ch := by decide +kernel
theorem Rl_txt {sx sm tx tm : ax_S} (h : Rl sx sm) (hx : ∀ o, o ≤ 60 → tx.1 o = sx.1 o ∧ tx.2 o = sx.2 o) (hm : ∀ k, k ≠ 36 → k ≠ 37 → k ≠ 38 → k ≠ 39 → tm.1 0 k = sm.1 0 k) (hm2 : ∀ o, o ≠ 25 → o ≠ 26 → tm.2 o = sm.2 o) (ht : Rtxt tx tm) : Rl tx tm := by
  obtain ⟨⟨n, a, c, h1, h2, h3⟩, h4, -, h9⟩ := h
  refine ⟨⟨n, a, c, h1, RX_fr (fun o _ _ _ => hx o (by omega)) h2, ?_⟩, ?_, ht, ?_⟩
  · unfold RM at h3 ⊢
    rw [hm 0 (by omega) (by omega) (by omega) (by omega), hm 3 (by omega) (by omega) (by omega) (by omega), hm 12 (by omega) (by omega) (by omega) (by omega), hm 16 (by omega) (by omega) (by omega) (by omega)]
    simp only [hm2 1 (by decide) (by decide), hm2 2 (by decide) (by decide), hm2 3 (by decide) (by decide), hm2 4 (by decide) (by decide), hm2 5 (by decide) (by decide), hm2 6 (by decide) (by decide), hm2 7 (by decide) (by decide), hm2 8 (by decide) (by decide), hm2 9 (by decide) (by decide), hm2 10 (by decide) (by decide), hm2 11 (by decide) (by decide), hm2 12 (by decide) (by decide), hm2 13 (by decide) (by decide), hm2 14 (by decide) (by decide)]
    exact h3
  · unfold Rsav at h4 ⊢
    rw [(hx 0 (by omega)).1, hm 41 (by omega) (by omega) (by omega) (by omega)]
    rcases h4 with g | ⟨g1, g2, n, a, c, g3, g4, g5⟩
    · exact Or.inl g
    · exact Or.inr ⟨g1, g2, n, a, c, g3, RX_fr (fun o _ _ _ => hx o (by omega)) g4, RS_fr (hm2 27 (by omega) (by omega)) g5⟩
  · unfold Rnam at h9 ⊢
    rw [hm2 24 (by omega) (by omega)]; exact h9
theorem s_clearText : Sim1 fX8_clearText fX9_clearText := by
  intro sx sm h
  obtain ⟨T, h5, h6, h7, h8⟩ := h.2.2.1
  refine ⟨nI T, ax_sI sx 61 0 0, ax_sI sm 0 36 0, ?_, ?_, ?_⟩
  · rw [fX8_clearText, fX7_empty, pt, pb, h6]
  · rw [fX9_clearText, pt, h7]
  · refine Rl_txt h (fun o ho => ⟨pI1n _ _ _ (by omega), by rw [pI2]⟩) (fun k hk _ _ _ => by rw [pI1, if_neg (by omega)]) (fun o ho _ => by rw [pI2]) ⟨0, by omega, by simp [pI1, nI_0], by simp [pI1, nI_0], fun j hj => by omega⟩
theorem s_appendCharacter (x : Int32) : Sim1 (fX8_appendCharacter x) (fX9_appendCharacter x) := by
  intro sx sm h
  obtain ⟨T, h5, h6, h7, h8⟩ := h.2.2.1
  unfold fX8_appendCharacter fX9_appendCharacter fX7_append fX7_append_b29
  rw [pbtwX, pbtwM, pb, pb]
  by_cases hx : (32 : Int32) ≤ x ∧ x ≤ 126
  · have hr := rng _ _ _ hx
    have e1 : (32 : Int32).toInt = 32 := by decide
    have e2 : (126 : Int32).toInt = 126 := by decide
    obtain ⟨ch, hc, rfl⟩ : ∃ ch, ch < 127 ∧ x = nI ch := ⟨x.toInt.toNat, by omega, by
      apply Int32.toInt_inj.mp
      rw [nI_toInt (by omega)]
      omega⟩
    rw [if_pos hx]
    simp only [i10, if_false]
    rw [h6, h7]
    by_cases hT : T < 120
    · rw [if_pos ((qgt_120 (by omega)).mpr hT), if_neg (fun hh => absurd ((qeq_120 (by omega)).mp hh) (by omega)), if_neg (fun hh => absurd ((qle_120 (by omega)).mp hh) (by omega)), chr16 ch hc]
      refine ⟨nI (T + 1), ax_sI (ax_sE sx 62 T (nI ch)) 61 0 (nI (T + 1)), ax_sI (ax_sE sm 25 T (nI ch)) 0 36 (nI (T + 1)), ?_, ?_, ?_⟩
      · simp (disch := omega) only [pb, pt, psto, pE1, h6, nI_1]
        simp [pI1]
      · simp (disch := omega) only [pb, pt, psto, pE1, h7, nI_1]
        simp [pI1]
      · refine Rl_txt h (fun o ho => ?_) (fun k hk _ _ _ => ?_) (fun o ho _ => ?_) ⟨T + 1, by omega, by simp [pI1], by simp [pI1], fun j hj => ?_⟩
        · simp (disch := omega) only [pI1n, pI2, pE1, pE2n, and_self]
        · rw [pI1, if_neg (by omega), pE1]
        · simp (disch := omega) only [pI2, pE2n]
        · by_cases hjT : j = T
          · exact ⟨ch, hc, by simp [pI2, pE2, hjT], by simp [pI2, pE2, hjT]⟩
          · obtain ⟨d, g1, g2, g3⟩ := h8 j (by omega)
            exact ⟨d, g1, by simp [pI2, pE2, hjT, g2], by simp [pI2, pE2, hjT, g3]⟩
    · rw [if_neg (fun hh => hT ((qgt_120 (by omega)).mp hh)), if_pos ((qeq_120 (by omega)).mpr (by omega))]
      exact ⟨_, _, _, rfl, rfl, h⟩
  · rw [if_neg hx, if_pos rfl, if_pos rfl]
    exact ⟨_, _, _, rfl, rfl, h⟩
theorem mostL {sx sm : ax_S} {n : vN} {a : vA} {c : vC} (hX : RX 1 sx n a c) (hM : RM sm n a c) (hG : Good n a c) : ∀ (d m1 m2 i : Nat) (x y : Int32), i + d = n 2 → d < m1 → d < m2 → ∃ r, fX0_mostPending_L6 m1 x y (nI i) sx = some (r, sx) ∧ fX9_maxPending_L6 m2 x y (nI i) sm = some (r, sm) := by
  have hb := hG.b
  intro d
  induction d with
  | zero =>
    intro m1 m2 i x y hi h1 h2
    obtain ⟨m1, rfl⟩ : ∃ k, m1 = k + 1 := ⟨m1 - 1, by omega⟩
    obtain ⟨m2, rfl⟩ : ∃ k, m2 = k + 1 := ⟨m2 - 1, by omega⟩
    refine ⟨y, ?_, ?_⟩
    · rw [fX0_mostPending_L6, X_n2 hX, if_pos (nI_le (by omega) (by omega))]
    · rw [fX9_maxPending_L6, M_n2 hM, if_pos (nI_le (by omega) (by omega))]
  | succ d ih =>
    intro m1 m2 i x y hi h1 h2
    obtain ⟨m1, rfl⟩ : ∃ k, m1 = k + 1 := ⟨m1 - 1, by omega⟩
    obtain ⟨m2, rfl⟩ : ∃ k, m2 = k + 1 := ⟨m2 - 1, by omega⟩
    have hr := hG.r i
    rw [fX0_mostPending_L6, X_n2 hX, if_neg (nI_ge (by omega) (by omega))]
    rw [fX9_maxPending_L6, M_n2 hM, if_neg (nI_ge (by omega) (by omega))]
    simp (disch := omega) only [pld, X_fo hX, M_fo hM]
    by_cases h0 : a 11 i = 0
    · have e := (qeq_0 (a := a 11 i) (by omega)).mpr h0
      rw [if_pos e, if_pos e]
      unfold fX0_mostPending_b42 fX9_maxPending_b43
      rw [nI_1]
      exact ih m1 m2 (i + 1) _ _ (by omega) (by omega) (by omega)
    · have e : ¬ nI (a 11 i) = 0 := fun hh => h0 ((qeq_0 (by omega)).mp hh)
      rw [if_neg e, if_neg e]
      unfold fX0_mostPending_b42 fX9_maxPending_b43
      rw [nI_1]
      by_cases h3 : a 11 i = 1
      · have e := (qeq_1 (a := a 11 i) (by omega)).mpr h3
        rw [if_pos e, if_pos e]
        exact ih m1 m2 (i + 1) _ _ (by omega) (by omega) (by omega)
      · have e : ¬ nI (a 11 i) = 1 := fun hh => h3 ((qeq_1 (by omega)).mp hh)
        rw [if_neg e, if_neg e, Int32.add_zero]
        exact ih m1 m2 (i + 1) _ _ (by omega) (by omega) (by omega)
theorem s_maxPending : Sim1 fX8_maxPending fX9_maxPending := by
  intro sx sm h
  obtain ⟨n, a, c, hG, hX, hM⟩ := h.1
  have hb := hG.b
  obtain ⟨r, g1, g2⟩ := mostL hX hM hG (n 2) 4000 4000 0 0 0 (by omega) (by omega) (by omega)
  exact ⟨r, sx, sm, by rw [fX8_maxPending, fX0_mostPending]; rw [nI_0] at g1; rw [g1, pb], by rw [fX9_maxPending]; rw [nI_0] at g2; exact g2, h⟩
/-! the longest chain -/
theorem FX19 {s : ax_S} (i : Nat) (x : Int32) : FX s (ax_sE s 19 i x) := fun o ho => ⟨by rw [pE1], by rw [pE2n _ _ _ (by omega)]⟩
theorem FM15 {s : ax_S} (i : Nat) (x : Int32) : FM s (ax_sE s 15 i x) := ⟨fun k _ => by rw [pE1], fun o ho => by rw [pE2n _ _ _ (by omega)]⟩
theorem chainI {sx sm : ax_S} {n : vN} {a : vA} {c : vC} (hX : RX 1 sx n a c) (hM : RM sm n a c) (hG : Good n a c) {i : Nat} (hi : i < n 1) {recX recM : Int32 → Int32 → ax_S → ax_R}
    (hrec : ∀ (v : Int32) (s t : ax_S), FX sx s → FM sm t → (∀ j, j < i + 1 → s.2 19 j = t.2 15 j) → ∃ r s' t', recX v (nI (i + 1)) s = some (r, s') ∧ recM v (nI (i + 1)) t = some (r, t') ∧ FX sx s' ∧ FM sm t') :
    ∀ (d m1 m2 e : Nat) (x : Int32) (s t : ax_S), e + d = i → d < m1 → d < m2 → FX sx s → FM sm t → (∀ j, j < i + 1 → s.2 19 j = t.2 15 j) → ∃ r s' t', fX0_chainLength_L21 recX m1 x (nI i) (nI e) s = some (r, s') ∧ fX9_longestChain_L21 recM m2 x (nI i) (nI e) t = some (r, t') ∧ FX sx s' ∧ FM sm t' := by
  have hb := hG.b
  intro d
  induction d with
  | zero =>
    intro m1 m2 e x s t he h1 h2 hs ht hst
    obtain ⟨m1, rfl⟩ : ∃ k, m1 = k + 1 := ⟨m1 - 1, by omega⟩
    obtain ⟨m2, rfl⟩ : ∃ k, m2 = k + 1 := ⟨m2 - 1, by omega⟩
    rw [fX0_chainLength_L21, if_pos (nI_le (by omega) (by omega)), pld (by omega) (by decide), nI_1]
    rw [fX9_longestChain_L21, if_pos (nI_le (by omega) (by omega)), pld (by omega) (by decide), nI_1, ← hst i (by omega)]
    exact hrec _ s t hs ht hst
  | succ d ih =>
    intro m1 m2 e x s t he h1 h2 hs ht hst
    obtain ⟨m1, rfl⟩ : ∃ k, m1 = k + 1 := ⟨m1 - 1, by omega⟩
    obtain ⟨m2, rfl⟩ : ∃ k, m2 = k + 1 := ⟨m2 - 1, by omega⟩
    obtain ⟨r, g1, g2⟩ := bfrX (RX1_fr hs hX) hG.r (i := e) (j := i) (by omega) (by omega)
    obtain ⟨q, g3, g4⟩ := bfrM (RM_fr ht hM) hG.r (i := e) (j := i) (by omega) (by omega)
    have hrq : q = r := by
      rcases g2 with ⟨e1, e2⟩ | ⟨e1, e2⟩ <;> rcases g4 with ⟨f1, f2⟩ | ⟨f1, f2⟩
      · rw [e1, f1]
      · exact absurd e2 f2
      · exact absurd f2 e2
      · rw [e1, f1]
    subst hrq
    rw [fX0_chainLength_L21, if_neg (nI_ge (by omega) (by omega)), g1, pb]
    rw [fX9_longestChain_L21, if_neg (nI_ge (by omega) (by omega)), g3, pb]
    unfold fX0_chainLength_b58 fX9_longestChain_b58
    rw [nI_1]
    by_cases hq : q = 0
    · rw [if_pos hq, if_pos hq]
      exact ih m1 m2 (e + 1) x s t (by omega) (by omega) (by omega) hs ht hst
    · rw [if_neg hq, if_neg hq]
      rw [pld (by omega) (by decide), pld (by omega) (by decide), psto (by omega) (by decide), pld (by omega) (by decide), pld (by omega) (by decide), psto (by omega) (by decide)]
      refine ih m1 m2 (e + 1) x _ _ (by omega) (by omega) (by omega) (hs.tr (FX19 _ _)) (ht.tr (FM15 _ _)) (fun j hj => ?_)
      rw [pE2, pE2, if_pos rfl, if_pos rfl, hst i (by omega), hst e (by omega), hst j hj]
theorem chainO {sx sm : ax_S} {n : vN} {a : vA} {c : vC} (hX : RX 1 sx n a c) (hM : RM sm n a c) (hG : Good n a c) : ∀ (d m1 m2 i : Nat) (x : Int32) (s t : ax_S), i + d = n 1 → d < m1 → d < m2 → FX sx s → FM sm t → (∀ j, j < i → s.2 19 j = t.2 15 j) → ∃ r s' t', fX0_chainLength_L4 m1 x (nI i) s = some (r, s') ∧ fX9_longestChain_L4 m2 x (nI i) t = some (r, t') ∧ FX sx s' ∧ FM sm t' := by
  have hb := hG.b
  intro d
  induction d with
  | zero =>
    intro m1 m2 i x s t hi h1 h2 hs ht hst
    obtain ⟨m1, rfl⟩ : ∃ k, m1 = k + 1 := ⟨m1 - 1, by omega⟩
    obtain ⟨m2, rfl⟩ : ∃ k, m2 = k + 1 := ⟨m2 - 1, by omega⟩
    refine ⟨x, s, t, ?_, ?_, hs, ht⟩
    · rw [fX0_chainLength_L4, X_n1 (RX1_fr hs hX), if_pos (nI_le (by omega) (by omega))]
    · rw [fX9_longestChain_L4, M_n1 (RM_fr ht hM), if_pos (nI_le (by omega) (by omega))]
  | succ d ih =>
    intro m1 m2 i x s t hi h1 h2 hs ht hst
    obtain ⟨m1, rfl⟩ : ∃ k, m1 = k + 1 := ⟨m1 - 1, by omega⟩
    obtain ⟨m2, rfl⟩ : ∃ k, m2 = k + 1 := ⟨m2 - 1, by omega⟩
    rw [fX0_chainLength_L4, X_n1 (RX1_fr hs hX), if_neg (nI_ge (by omega) (by omega)), psto (by omega) (by decide)]
    rw [fX9_longestChain_L4, M_n1 (RM_fr ht hM), if_neg (nI_ge (by omega) (by omega)), psto (by omega) (by decide)]
    rw [← nI_0]
    refine chainI hX hM hG (i := i) (by omega) (fun v s t h3 h4 h5 => ih m1 m2 (i + 1) v s t (by omega) (by omega) (by omega) h3 h4 h5) i 4000 4000 0 x _ _ (by omega) (by omega) (by omega) (hs.tr (FX19 _ _)) (ht.tr (FM15 _ _)) (fun j hj => ?_)
    rw [pE2, pE2, if_pos rfl, if_pos rfl]
    by_cases hji : j = i
    · rw [if_pos hji, if_pos hji]
    · rw [if_neg hji, if_neg hji, hst j (by omega)]
theorem s_longestChain : Sim1 fX8_longestChain fX9_longestChain := by
  intro sx sm h
  obtain ⟨n, a, c, hG, hX, hM⟩ := h.1
  have hb := hG.b
  obtain ⟨r, s', t', g1, g2, g3, g4⟩ := chainO hX hM hG (n 1) 4000 4000 0 0 sx sm (by omega) (by omega) (by omega) (FX.rf _) (FM.rf _) (fun j hj => by omega)
  rw [nI_0] at g1 g2
  exact ⟨r, s', t', by rw [fX8_longestChain, fX0_chainLength, g1, pb], by rw [fX9_longestChain]; exact g2, Rl_fr h g3 g4⟩
