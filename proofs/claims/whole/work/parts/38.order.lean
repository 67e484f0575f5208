/-! THE PURE PART: the order, the text, the most pending, the longest chain. -/
theorem pig : ∀ (k m : Nat) (f : Nat → Nat), (∀ i, i < m → f i < k) → (∀ i j, i < j → j < m → f i ≠ f j) → m ≤ k := by
  intro k
  induction k with
  | zero =>
    intro m f h1 _
    rcases m with - | m
    · omega
    · have := h1 0 (by omega)
      omega
  | succ k ih =>
    intro m f h1 h2
    rcases m with - | m
    · omega
    · have := ih m (fun i => if f i = k then f m else f i) (fun i hi => by
        have g1 := h1 i (by omega)
        have g2 := h1 m (by omega)
        have g3 := h2 i m hi (by omega)
        show (if f i = k then f m else f i) < k
        split <;> omega) (fun i j hij hj => by
        have g1 := h2 i j hij (by omega)
        have g2 := h2 i m (by omega) (by omega)
        have g3 := h2 j m hj (by omega)
        show (if f i = k then f m else f i) ≠ (if f j = k then f m else f j)
        split <;> split <;> omega)
      omega
theorem posL {sx sm : ax_S} {n : vN} {a : vA} {c : vC} (hX : RX 1 sx n a c) (hM : RM sm n a c) (hG : Good n a c) {p : Nat} (hp : p < 10) : ∀ (d m1 m2 i : Nat), i + d = n 3 → d < m1 → d < m2 → (∀ j, j < i → a 14 j ≠ p) → (∃ q, q < n 3 ∧ a 14 q = p ∧ fX2_positionOf_L2 m1 (nI p) (nI i) sx = some (nI q, sx) ∧ fX9_positionOf_L2 m2 (nI p) (nI i) sm = some (nI q, sm)) ∨ ((∀ j, j < n 3 → a 14 j ≠ p) ∧ fX2_positionOf_L2 m1 (nI p) (nI i) sx = some (-1, sx) ∧ fX9_positionOf_L2 m2 (nI p) (nI i) sm = some (-10, sm)) := by
  have hb := hG.b
  intro d
  induction d with
  | zero =>
    intro m1 m2 i hi h1 h2 hall
    obtain ⟨m1, rfl⟩ : ∃ k, m1 = k + 1 := ⟨m1 - 1, by omega⟩
    obtain ⟨m2, rfl⟩ : ∃ k, m2 = k + 1 := ⟨m2 - 1, by omega⟩
    refine Or.inr ⟨fun j hj => hall j (by omega), ?_, ?_⟩
    · rw [fX2_positionOf_L2, X_n3 hX, if_pos (nI_le (by omega) (by omega))]
    · rw [fX9_positionOf_L2, M_n3 hM, if_pos (nI_le (by omega) (by omega))]
  | succ d ih =>
    intro m1 m2 i hi h1 h2 hall
    obtain ⟨m1, rfl⟩ : ∃ k, m1 = k + 1 := ⟨m1 - 1, by omega⟩
    obtain ⟨m2, rfl⟩ : ∃ k, m2 = k + 1 := ⟨m2 - 1, by omega⟩
    have hr := hG.r i
    rw [fX2_positionOf_L2, X_n3 hX, if_neg (nI_ge (by omega) (by omega)), pld (by omega) (by decide), X_od hX (by omega)]
    rw [fX9_positionOf_L2, M_n3 hM, if_neg (nI_ge (by omega) (by omega)), pld (by omega) (by decide), M_od hM (by omega)]
    by_cases hq : a 14 i = p
    · refine Or.inl ⟨i, by omega, hq, ?_, ?_⟩
      · rw [if_pos ((qeq (by omega) (by omega)).mpr hq)]
      · rw [if_pos ((qeq (by omega) (by omega)).mpr hq)]
    · have hne : ¬ nI (a 14 i) = nI p := fun hh => hq ((qeq (by omega) (by omega)).mp hh)
      rw [if_neg hne, if_neg hne, nI_1]
      exact ih m1 m2 (i + 1) (by omega) (by omega) (by omega) (fun j hj => by
        by_cases hji : j = i
        · rw [hji]; exact hq
        · exact hall j (by omega))
theorem pos0 {sx sm : ax_S} {n : vN} {a : vA} {c : vC} (hX : RX 1 sx n a c) (hM : RM sm n a c) (hG : Good n a c) {p : Nat} (hp : p < 10) : (∃ q, q < n 3 ∧ a 14 q = p ∧ fX2_positionOf (nI p) sx = some (nI q, sx) ∧ fX9_positionOf (nI p) sm = some (nI q, sm)) ∨ ((∀ j, j < n 3 → a 14 j ≠ p) ∧ fX2_positionOf (nI p) sx = some (-1, sx) ∧ fX9_positionOf (nI p) sm = some (-10, sm)) :=
  posL hX hM hG hp (n 3) 4000 4000 0 (by omega) (by have := hG.b; omega) (by have := hG.b; omega) (fun j hj => by omega)
def aApp (n : vN) (a : vA) (p : Nat) : vA := sV a 14 (n 3) p
def nApp (n : vN) : vN := sN n 3 (n 3 + 1)
theorem Good_app {n : vN} {a : vA} {c : vC} (h : Good n a c) {p : Nat} (hp : p < n 1) (hn : ∀ j, j < n 3 → a 14 j ≠ p) : n 3 < n 1 ∧ Good (nApp n) (aApp n a p) c := by
  have hb := h.b
  have h1 : n 3 + 1 ≤ n 1 := pig (n 1) (n 3 + 1) (fun i => if i = n 3 then p else a 14 i) (fun i hi => by
      show (if i = n 3 then p else a 14 i) < n 1
      split
      · exact hp
      · exact h.s.1 i (by omega)) (fun i j hij hj => by
      show (if i = n 3 then p else a 14 i) ≠ (if j = n 3 then p else a 14 j)
      rw [if_neg (by omega)]
      split
      · exact hn i (by omega)
      · exact h.s.2 i j hij (by omega))
  refine ⟨by omega, ⟨?_, ?_, ?_, ?_⟩, ?_, ?_, h.o, h.t, h.e, h.x, h.p, h.q, ?_, ?_⟩
  · simp [nApp, sN]; omega
  · simp [nApp, sN]; omega
  · exact h.1.2.2.1
  · simp [nApp, sN]; omega
  · intro j
    have := h.r j
    simp only [aApp, sV]
    grind
  · intro j
    have := h.cc j
    simp only [aApp, sV]
    grind
  · intro i hi
    have hi : i < n 3 + 1 := hi
    show (if 14 = 14 ∧ i = n 3 then p else a 14 i) < n 1
    by_cases hin : i = n 3
    · rw [if_pos ⟨rfl, hin⟩]; exact hp
    · rw [if_neg (fun hh => hin hh.2)]; exact h.s.1 i (by omega)
  · intro i j hij hj
    have hj : j < n 3 + 1 := hj
    show (if 14 = 14 ∧ i = n 3 then p else a 14 i) ≠ (if 14 = 14 ∧ j = n 3 then p else a 14 j)
    rw [if_neg (fun hh => by omega)]
    by_cases hjn : j = n 3
    · rw [if_pos ⟨rfl, hjn⟩]; exact hn i (by omega)
    · rw [if_neg (fun hh => hjn hh.2)]; exact h.s.2 i j hij (by omega)
theorem s_appendToOrder (x : Int32) : Sim1 (fX8_appendToOrder x) (fX9_appendToOrder x) := by
  intro sx sm h
  obtain ⟨n, a, c, hG, hX, hM⟩ := h.1
  have hb := hG.b
  unfold fX8_appendToOrder fX9_appendToOrder fX2_append fX2_append_b29
  rcases Classical.em (∃ j, j < n 1 ∧ x = nI j) with ⟨p, hp, rfl⟩ | hn
  · rw [hasX_p (X_n1 hX) (by omega) hp, hasM_p (M_n1 hM) (by omega) hp, pb, pb, if_neg (by decide), if_neg (by decide)]
    rcases pos0 hX hM hG (p := p) (by omega) with ⟨q, g1, g2, g3, g4⟩ | ⟨g1, g3, g4⟩
    · rw [g3, g4, pb, pb, if_neg (fun hh => by rw [qnem1 (by omega)] at hh; exact hh), if_neg (fun hh => by rw [qnem10 (by omega)] at hh; exact hh)]
      exact ⟨_, _, _, rfl, rfl, h⟩
    · obtain ⟨hlt, hg⟩ := Good_app hG hp g1
      rw [g3, g4, pb, pb, if_pos rfl, if_pos rfl]
      refine ⟨nI (n 3 + 1), ax_sI (ax_sE sx 21 (n 3) (nI p)) 20 0 (nI (n 3 + 1)), ax_sI (ax_sE sm 14 (n 3) (nI p)) 0 16 (nI (n 3 + 1)), ?_, ?_, ?_⟩
      · simp (disch := omega) only [pb, pt, psto, pE1, X_n3 hX, qle_10, if_neg, nI_1]
        simp [pI1]
      · simp (disch := omega) only [pb, pt, psto, pE1, M_n3 hM, nI_1]
        simp [pI1]
      · refine Rl_cur h (fun o ho => ?_) ⟨fun k hk => ?_, fun o ho => ?_⟩ ⟨_, _, _, hg, ?_, ?_⟩
        · simp (disch := omega) only [pI1n, pI2, pE1, pE2n, and_self]
        · rw [pI1, if_neg (by omega)]; rfl
        · simp (disch := omega) only [pI2, pE2n]
        · refine ⟨?_, fun j hj => ?_, fun j hj => ?_, fun j hj => ?_⟩
          · simp [pI1, pE1, nApp, sN, X_n0 hX, X_n1 hX, X_n2 hX, X_n3 hX]
          · simp [pI2, pE2, aApp, sV, hj, X_n0 hX, X_n1 hX, X_n2 hX, X_n3 hX, X_ty hX, X_in hX, X_pn hX, X_cr hX, X_kd hX, X_th hX, X_ob hX, X_fa hX, X_sa hX, X_iv hX, X_rs hX, X_re hX, X_od hX, X_fo hX, X_te hX]
          · by_cases e1 : j = n 3 <;> simp [pI2, pE2, aApp, sV, hj, e1, X_n0 hX, X_n1 hX, X_n2 hX, X_n3 hX, X_ty hX, X_in hX, X_pn hX, X_cr hX, X_kd hX, X_th hX, X_ob hX, X_fa hX, X_sa hX, X_iv hX, X_rs hX, X_re hX, X_od hX, X_fo hX, X_te hX]
            simp (disch := omega) only [X_n0 hX, X_n1 hX, X_n2 hX, X_n3 hX, X_ty hX, X_in hX, X_pn hX, X_cr hX, X_kd hX, X_th hX, X_ob hX, X_fa hX, X_sa hX, X_iv hX, X_rs hX, X_re hX, X_od hX, X_fo hX, X_te hX, and_self]
          · simp [pI2, pE2, nApp, aApp, sN, sV, hj, X_n0 hX, X_n1 hX, X_n2 hX, X_n3 hX, X_ty hX, X_in hX, X_pn hX, X_cr hX, X_kd hX, X_th hX, X_ob hX, X_fa hX, X_sa hX, X_iv hX, X_rs hX, X_re hX, X_od hX, X_fo hX, X_te hX]
            exact fun h1 h2 => X_oe hX (by omega) h1 h2
        · refine ⟨?_, fun j hj => ?_, fun j hj => ?_, fun j hj => ?_⟩
          · simp [pI1, pE1, nApp, sN, M_n0 hM, M_n1 hM, M_n2 hM, M_n3 hM]
          · simp [pI2, pE2, aApp, sV, hj, M_n0 hM, M_n1 hM, M_n2 hM, M_n3 hM, M_ty hM, M_in hM, M_kd hM, M_th hM, M_ob hM, M_fa hM, M_sa hM, M_iv hM, M_rs hM, M_re hM, M_od hM, M_fo hM, M_te hM]
          · by_cases e1 : j = n 3 <;> simp [pI2, pE2, aApp, sV, hj, e1, M_n0 hM, M_n1 hM, M_n2 hM, M_n3 hM, M_ty hM, M_in hM, M_kd hM, M_th hM, M_ob hM, M_fa hM, M_sa hM, M_iv hM, M_rs hM, M_re hM, M_od hM, M_fo hM, M_te hM]
            simp (disch := omega) only [M_n0 hM, M_n1 hM, M_n2 hM, M_n3 hM, M_ty hM, M_in hM, M_kd hM, M_th hM, M_ob hM, M_fa hM, M_sa hM, M_iv hM, M_rs hM, M_re hM, M_od hM, M_fo hM, M_te hM, and_self]
          · simp [pI2, pE2, nApp, aApp, sN, sV, hj, M_n0 hM, M_n1 hM, M_n2 hM, M_n3 hM, M_ty hM, M_in hM, M_kd hM, M_th hM, M_ob hM, M_fa hM, M_sa hM, M_iv hM, M_rs hM, M_re hM, M_od hM, M_fo hM, M_te hM]
            exact fun h1 h2 => M_oe hM (by omega) h1 h2
  · rw [hasX_n (X_n1 hX) (by omega) hn, hasM_n (M_n1 hM) (by omega) hn, pb, pb, if_pos rfl, if_pos rfl]
    exact ⟨_, _, _, rfl, rfl, h⟩
theorem remX {S : Nat} (hS9 : S < 10) : ∀ (d m i : Nat) (s : ax_S), i + d = S → d < m → s.1 20 0 = nI S → ∃ u, fX2_removeAt_L27 m (nI i) s = some (0, u) ∧ u.1 = s.1 ∧ (∀ o, o ≠ 21 → u.2 o = s.2 o) ∧ ∀ j, u.2 21 j = if i ≤ j ∧ j < S then s.2 21 (j + 1) else s.2 21 j := by
  intro d
  induction d with
  | zero =>
    intro m i s hi hm hS
    obtain ⟨m, rfl⟩ : ∃ k, m = k + 1 := ⟨m - 1, by omega⟩
    refine ⟨s, ?_, rfl, fun _ _ => rfl, fun j => by rw [if_neg (by omega)]⟩
    rw [fX2_removeAt_L27, hS, if_pos (nI_le (by omega) (by omega))]
  | succ d ih =>
    intro m i s hi hm hS
    obtain ⟨m, rfl⟩ : ∃ k, m = k + 1 := ⟨m - 1, by omega⟩
    obtain ⟨u, g1, g2, g3, g4⟩ := ih m (i + 1) (ax_sE s 21 i (s.2 21 (i + 1))) (by omega) (by omega) (by rw [pE1]; exact hS)
    refine ⟨u, ?_, by rw [g2, pE1], fun o ho => by rw [g3 o ho, pE2n _ _ _ ho], fun j => ?_⟩
    · rw [fX2_removeAt_L27, hS, if_neg (nI_ge (by omega) (by omega)), nI_1, pld (by omega) (by decide), psto (by omega) (by decide)]
      exact g1
    · rw [g4 j]
      by_cases hji : j = i
      · subst hji
        rw [if_neg (by omega), if_pos (by omega)]
        simp [pE2]
      · by_cases h1 : i + 1 ≤ j ∧ j < S
        · rw [if_pos h1, if_pos (by omega)]
          have : ¬ (j + 1 = i) := by omega
          simp [pE2, this]
        · rw [if_neg h1, if_neg (by omega)]
          simp [pE2, hji]
theorem remM (x2 : Int32) {S : Nat} (hS9 : S < 10) : ∀ (d m i : Nat) (s : ax_S), i + d = S → d < m → s.1 0 16 = nI S → ∃ u, fX9_removeFromOrder_L35 m x2 (nI i) s = some (x2, u) ∧ u.1 = s.1 ∧ (∀ o, o ≠ 14 → u.2 o = s.2 o) ∧ ∀ j, u.2 14 j = if i ≤ j ∧ j < S then s.2 14 (j + 1) else s.2 14 j := by
  intro d
  induction d with
  | zero =>
    intro m i s hi hm hS
    obtain ⟨m, rfl⟩ : ∃ k, m = k + 1 := ⟨m - 1, by omega⟩
    refine ⟨s, ?_, rfl, fun _ _ => rfl, fun j => by rw [if_neg (by omega)]⟩
    rw [fX9_removeFromOrder_L35, hS, if_pos (nI_le (by omega) (by omega)), fX9_removeFromOrder_b63]
  | succ d ih =>
    intro m i s hi hm hS
    obtain ⟨m, rfl⟩ : ∃ k, m = k + 1 := ⟨m - 1, by omega⟩
    obtain ⟨u, g1, g2, g3, g4⟩ := ih m (i + 1) (ax_sE s 14 i (s.2 14 (i + 1))) (by omega) (by omega) (by rw [pE1]; exact hS)
    refine ⟨u, ?_, by rw [g2, pE1], fun o ho => by rw [g3 o ho, pE2n _ _ _ ho], fun j => ?_⟩
    · rw [fX9_removeFromOrder_L35, hS, if_neg (nI_ge (by omega) (by omega)), nI_1, pld (by omega) (by decide), psto (by omega) (by decide)]
      exact g1
    · rw [g4 j]
      by_cases hji : j = i
      · subst hji
        rw [if_neg (by omega), if_pos (by omega)]
        simp [pE2]
      · by_cases h1 : i + 1 ≤ j ∧ j < S
        · rw [if_pos h1, if_pos (by omega)]
          have : ¬ (j + 1 = i) := by omega
          simp [pE2, this]
        · rw [if_neg h1, if_neg (by omega)]
          simp [pE2, hji]
def aRem (n : vN) (a : vA) (p : Nat) : vA := fun o j => if o = 14 ∧ p ≤ j ∧ j < n 3 - 1 then a 14 (j + 1) else a o j
def nRem (n : vN) : vN := sN n 3 (n 3 - 1)
theorem Good_rem {n : vN} {a : vA} {c : vC} (h : Good n a c) (p : Nat) : Good (nRem n) (aRem n a p) c := by
  have hb := h.b
  refine ⟨⟨?_, ?_, ?_, ?_⟩, ?_, ?_, h.o, h.t, h.e, h.x, h.p, h.q, ?_, ?_⟩
  · simp [nRem, sN]; omega
  · simp [nRem, sN]; omega
  · exact h.1.2.2.1
  · simp [nRem, sN]; omega
  · intro j
    have := h.r j
    have := h.r (j + 1)
    simp only [aRem]
    grind
  · intro j
    have := h.cc j
    simp only [aRem]
    grind
  · intro i hi
    have hi : i < n 3 - 1 := hi
    have g1 := h.s.1 i (by omega)
    have g2 := h.s.1 (i + 1) (by omega)
    simp only [aRem, nRem, sN]
    grind
  · intro i j hij hj
    have hj : j < n 3 - 1 := hj
    have g1 := h.s.2 i j hij (by omega)
    have g2 := h.s.2 (i + 1) (j + 1) (by omega) (by omega)
    have g3 := h.s.2 i (j + 1) (by omega) (by omega)
    simp only [aRem]
    grind
theorem s_removeFromOrder (x : Int32) : Sim1 (fX8_removeFromOrder x) (fX9_removeFromOrder x) := by
  intro sx sm h
  obtain ⟨n, a, c, hG, hX, hM⟩ := h.1
  have hb := hG.b
  unfold fX8_removeFromOrder fX9_removeFromOrder fX9_removeFromOrder_b63 fX2_removeAt
  rcases Classical.em (∃ j, j < n 1 ∧ x = nI j) with ⟨p, hp, rfl⟩ | hn
  · rw [hasX_p (X_n1 hX) (by omega) hp, hasM_p (M_n1 hM) (by omega) hp, pb, pb, if_neg (by decide), if_neg (by decide)]
    rcases pos0 hX hM hG (p := p) (by omega) with ⟨q, g1, g2, g3, g4⟩ | ⟨g1, g3, g4⟩
    · rw [g3, g4, pb, pb, if_neg (fun hh => by rw [qnem1 (by omega)] at hh; exact hh), if_neg (fun hh => by rw [qnem10 (by omega)] at hh; exact hh)]
      rw [pbtwX, pb, X_n3 hX, M_n3 hM, if_pos ((pu_has (by omega)).mpr ⟨q, g1, rfl⟩), if_neg (by decide), pt, pt, pu_sub1 (by omega)]
      obtain ⟨u, u1, u2, u3, u4⟩ := remX (S := n 3 - 1) (by omega) (n 3 - 1 - q) 4000 q (ax_sI sx 20 0 (nI (n 3 - 1))) (by omega) (by omega) (by simp [pI1])
      obtain ⟨v, v1, v2, v3, v4⟩ := remM (nI q) (S := n 3 - 1) (by omega) (n 3 - 1 - q) 4000 q (ax_sI sm 0 16 (nI (n 3 - 1))) (by omega) (by omega) (by simp [pI1])
      refine ⟨nI q, u, v, by rw [u1, pb], v1, ?_⟩
      have w3 : ∀ o, o ≠ 21 → u.2 o = sx.2 o := fun o ho => by rw [u3 o ho, pI2]
      have y3 : ∀ o, o ≠ 14 → v.2 o = sm.2 o := fun o ho => by rw [v3 o ho, pI2]
      rw [pI2] at u4 v4
      refine Rl_cur h (fun o ho => ?_) ⟨fun k hk => ?_, fun o ho => ?_⟩ ⟨_, _, _, Good_rem hG q, ?_, ?_⟩
      · rw [u2, pI1n _ _ _ (by omega), w3 o (by omega)]; exact ⟨rfl, rfl⟩
      · rw [v2, pI1, if_neg (by omega)]
      · rw [y3 o (by omega)]
      · refine ⟨?_, fun j hj => ?_, fun j hj => ?_, fun j hj => ?_⟩
        · simp [u2, pI1, nRem, sN, X_n0 hX, X_n1 hX, X_n2 hX, X_n3 hX]
        · simp [w3, aRem, hj, X_n0 hX, X_n1 hX, X_n2 hX, X_n3 hX, X_ty hX, X_in hX, X_pn hX, X_cr hX, X_kd hX, X_th hX, X_ob hX, X_fa hX, X_sa hX, X_iv hX, X_rs hX, X_re hX, X_od hX, X_fo hX, X_te hX]
        · refine ⟨?_, ?_, ?_, ?_, ?_, ?_, ?_, ?_, ?_⟩
          all_goals first
            | (show u.2 21 j = nI (aRem n a q 14 j)
               rw [u4 j, aRem]
               by_cases h1 : q ≤ j ∧ j < n 3 - 1
               · rw [if_pos h1, if_pos ⟨rfl, h1⟩, X_od hX (by omega)]
               · rw [if_neg h1, if_neg (fun hh => h1 hh.2), X_od hX (by omega)])
            | simp [w3, aRem, hj, X_n0 hX, X_n1 hX, X_n2 hX, X_n3 hX, X_ty hX, X_in hX, X_pn hX, X_cr hX, X_kd hX, X_th hX, X_ob hX, X_fa hX, X_sa hX, X_iv hX, X_rs hX, X_re hX, X_od hX, X_fo hX, X_te hX]
        · simp [w3, aRem, nRem, sN, hj, X_n0 hX, X_n1 hX, X_n2 hX, X_n3 hX, X_ty hX, X_in hX, X_pn hX, X_cr hX, X_kd hX, X_th hX, X_ob hX, X_fa hX, X_sa hX, X_iv hX, X_rs hX, X_re hX, X_od hX, X_fo hX, X_te hX]
          exact fun h1 h2 => X_oe hX (by omega) h1 h2
      · refine ⟨?_, fun j hj => ?_, fun j hj => ?_, fun j hj => ?_⟩
        · simp [v2, pI1, nRem, sN, M_n0 hM, M_n1 hM, M_n2 hM, M_n3 hM]
        · simp [y3, aRem, hj, M_n0 hM, M_n1 hM, M_n2 hM, M_n3 hM, M_ty hM, M_in hM, M_kd hM, M_th hM, M_ob hM, M_fa hM, M_sa hM, M_iv hM, M_rs hM, M_re hM, M_od hM, M_fo hM, M_te hM]
        · refine ⟨?_, ?_, ?_, ?_, ?_, ?_, ?_, ?_, ?_⟩
          all_goals first
            | (show v.2 14 j = nI (aRem n a q 14 j)
               rw [v4 j, aRem]
               by_cases h1 : q ≤ j ∧ j < n 3 - 1
               · rw [if_pos h1, if_pos ⟨rfl, h1⟩, M_od hM (by omega)]
               · rw [if_neg h1, if_neg (fun hh => h1 hh.2), M_od hM (by omega)])
            | simp [y3, aRem, hj, M_n0 hM, M_n1 hM, M_n2 hM, M_n3 hM, M_ty hM, M_in hM, M_kd hM, M_th hM, M_ob hM, M_fa hM, M_sa hM, M_iv hM, M_rs hM, M_re hM, M_od hM, M_fo hM, M_te hM]
        · simp [y3, aRem, nRem, sN, hj, M_n0 hM, M_n1 hM, M_n2 hM, M_n3 hM, M_ty hM, M_in hM, M_kd hM, M_th hM, M_ob hM, M_fa hM, M_sa hM, M_iv hM, M_rs hM, M_re hM, M_od hM, M_fo hM, M_te hM]
          exact fun h1 h2 => M_oe hM (by omega) h1 h2
    · rw [g3, g4, pb, pb, if_pos rfl, if_pos rfl]
      exact ⟨_, _, _, rfl, rfl, h⟩
  · rw [hasX_n (X_n1 hX) (by omega) hn, hasM_n (M_n1 hM) (by omega) hn, pb, pb, if_pos rfl, if_pos rfl]
    exact ⟨_, _, _, rfl, rfl, h⟩