/-! THE PURE PART: what changes a recording. -/
theorem isCrashedL {st : ax_S} {n : vN} {a : vA} {c : vC} (hM : RM st n a c) (hG : Good n a c) {t : Nat} (ht : t < 4) : ∀ (d m i acc : Nat), i + d = n 2 → d < m → acc < 2 → ∃ r, fX9_isCrashed_L4 m (nI t) (nI acc) (nI i) st = some (nI r, st) ∧ r < 2 ∧ (r = 1 ↔ (acc = 1 ∨ ∃ e, i ≤ e ∧ e < n 2 ∧ a 11 e = 2 ∧ a 12 e = t)) := by
  have hb := hG.b
  intro d
  induction d with
  | zero =>
    intro m i acc hi hm hacc
    obtain ⟨m, rfl⟩ : ∃ k, m = k + 1 := ⟨m - 1, by omega⟩
    refine ⟨acc, ?_, hacc, ⟨fun h => Or.inl h, fun h => ?_⟩⟩
    · rw [fX9_isCrashed_L4, M_n2 hM, if_pos (nI_le (by omega) (by omega))]
      rcases (show acc = 0 ∨ acc = 1 by omega) with rfl | rfl
      · exact prz0 st
      · exact prz1 st
    · rcases h with h | ⟨e, h1, h2, -⟩
      · exact h
      · omega
  | succ d ih =>
    intro m i acc hi hm hacc
    obtain ⟨m, rfl⟩ : ∃ k, m = k + 1 := ⟨m - 1, by omega⟩
    rw [fX9_isCrashed_L4, M_n2 hM, if_neg (nI_ge (by omega) (by omega))]
    have hr := hG.r i
    rcases (show acc = 0 ∨ acc = 1 by omega) with rfl | rfl
    · rw [if_pos nI_0, pld (by omega) (by decide), M_fo hM (by omega)]
      by_cases h2 : a 11 i = 2
      · rw [if_pos ((qeq_2 (by omega)).mpr h2), pld (by omega) (by decide), M_te hM (by omega)]
        by_cases h3 : a 12 i = t
        · rw [if_pos ((qeq (by omega) (by omega)).mpr h3), fX9_isCrashed_b36, fX9_isCrashed_b41, nI_1]
          obtain ⟨r, g1, g2, g3⟩ := ih m (i + 1) 1 (by omega) (by omega) (by omega)
          exact ⟨r, g1, g2, ⟨fun _ => Or.inr ⟨i, by omega, by omega, h2, h3⟩, fun _ => g3.mpr (Or.inl rfl)⟩⟩
        · rw [if_neg (fun hh => h3 ((qeq (by omega) (by omega)).mp hh)), fX9_isCrashed_b40, fX9_isCrashed_b41, nI_1]
          obtain ⟨r, g1, g2, g3⟩ := ih m (i + 1) 0 (by omega) (by omega) (by omega)
          refine ⟨r, g1, g2, ⟨fun g => ?_, fun g => ?_⟩⟩
          · rcases g3.mp g with g | ⟨e, q1, q2, q3⟩
            · exact Or.inl g
            · exact Or.inr ⟨e, by omega, q2, q3⟩
          · rcases g with g | ⟨e, q1, q2, q3, q4⟩
            · exact g3.mpr (Or.inl g)
            · refine g3.mpr (Or.inr ⟨e, ?_, q2, q3, q4⟩)
              have : e ≠ i := by
                intro h5
                rw [h5] at q4
                exact h3 q4
              omega
      · rw [if_neg (fun hh => h2 ((qeq_2 (by omega)).mp hh)), fX9_isCrashed_b40, fX9_isCrashed_b41, nI_1]
        obtain ⟨r, g1, g2, g3⟩ := ih m (i + 1) 0 (by omega) (by omega) (by omega)
        refine ⟨r, g1, g2, ⟨fun g => ?_, fun g => ?_⟩⟩
        · rcases g3.mp g with g | ⟨e, q1, q2, q3⟩
          · exact Or.inl g
          · exact Or.inr ⟨e, by omega, q2, q3⟩
        · rcases g with g | ⟨e, q1, q2, q3, q4⟩
          · exact g3.mpr (Or.inl g)
          · refine g3.mpr (Or.inr ⟨e, ?_, q2, q3, q4⟩)
            have : e ≠ i := by
              intro h5
              rw [h5] at q3
              exact h2 q3
            omega
    · rw [if_neg (by decide), fX9_isCrashed_b36, fX9_isCrashed_b41, nI_1]
      obtain ⟨r, g1, g2, g3⟩ := ih m (i + 1) 1 (by omega) (by omega) (by omega)
      exact ⟨r, g1, g2, ⟨fun _ => Or.inl rfl, fun _ => g3.mpr (Or.inl rfl)⟩⟩
theorem isCrashedM {st : ax_S} {n : vN} {a : vA} {c : vC} (hM : RM st n a c) (hG : Good n a c) {t : Nat} (ht : t < 4) : fX9_isCrashed (nI t) st = some (nI (a 18 t), st) := by
  have hb := hG.b
  have hr := hG.r t
  obtain ⟨r, g1, g2, g3⟩ := isCrashedL hM hG ht (n 2) 4000 0 0 (by omega) (by omega) (by omega)
  have : a 18 t = r := by
    by_cases h1 : a 18 t = 1
    · obtain ⟨e, q1, q2, q3⟩ := (hG.p t ht).1 h1
      rw [h1, g3.mpr (Or.inr ⟨e, by omega, q1, q2, q3⟩)]
    · by_cases h2 : r = 1
      · rcases g3.mp h2 with h3 | ⟨e, q0, q1, q2, q3⟩
        · omega
        · have := (hG.e e q1).2.2 q2
          rw [q3] at this
          exact absurd this h1
      · omega
  rw [this]
  exact g1
theorem pendL {st : ax_S} {n : vN} {a : vA} {c : vC} (hM : RM st n a c) (hG : Good n a c) {t : Nat} (ht : t < 4) : ∀ (d m i : Nat), i + d = n 1 → d < m → (∀ j, j < i → a 4 j = t → a 9 j ≠ 0) → fX9_pendingOf_L2 m (nI t) (nI i) st = some (if a 17 t = 0 then -10 else nI (a 17 t - 1), st) := by
  have hb := hG.b
  intro d
  induction d with
  | zero =>
    intro m i hi hm hall
    obtain ⟨m, rfl⟩ : ∃ k, m = k + 1 := ⟨m - 1, by omega⟩
    rw [fX9_pendingOf_L2, M_n1 hM, if_pos (nI_le (by omega) (by omega))]
    by_cases h0 : a 17 t = 0
    · rw [if_pos h0]
    · have h1 := (hG.p t ht).2 h0
      exact absurd h1.2.2 (hall _ (by omega) h1.2.1)
  | succ d ih =>
    intro m i hi hm hall
    obtain ⟨m, rfl⟩ : ∃ k, m = k + 1 := ⟨m - 1, by omega⟩
    have hr := hG.r i
    rw [fX9_pendingOf_L2, M_n1 hM, if_neg (nI_ge (by omega) (by omega)), pld (by omega) (by decide), M_th hM (by omega)]
    by_cases h1 : a 4 i = t
    · rw [if_pos ((qeq (by omega) (by omega)).mpr h1), pld (by omega) (by decide), M_rs hM (by omega)]
      by_cases h2 : a 9 i = 0
      · rw [if_pos ((pu_m1 (by omega)).mpr h2)]
        have h3 := hG.q i (by omega) h2
        rw [h1] at h3
        rw [h3, if_neg (by omega)]
        rfl
      · rw [if_neg (fun hh => h2 ((pu_m1 (by omega)).mp hh)), fX9_pendingOf_b32, nI_1]
        refine ih m (i + 1) (by omega) (by omega) (fun j hj hjt => ?_)
        by_cases hji : j = i
        · subst hji; exact h2
        · exact hall j (by omega) hjt
    · rw [if_neg (fun hh => h1 ((qeq (by omega) (by omega)).mp hh)), fX9_pendingOf_b32, nI_1]
      refine ih m (i + 1) (by omega) (by omega) (fun j hj hjt => ?_)
      by_cases hji : j = i
      · subst hji; exact absurd hjt h1
      · exact hall j (by omega) hjt
theorem pendM {st : ax_S} {n : vN} {a : vA} {c : vC} (hM : RM st n a c) (hG : Good n a c) {t : Nat} (ht : t < 4) : fX9_pendingOf (nI t) st = some (if a 17 t = 0 then -10 else nI (a 17 t - 1), st) :=
  pendL hM hG ht (n 1) 4000 0 (by omega) (by have := hG.b; omega) (fun j hj => by omega)

def nCre (n : vN) : vN := sN (sN n 0 (n 0 + 1)) 3 0
def cCre (n : vN) (c : vC) (ty x : Int32) : vC := sC (sC c 1 (n 0) ty) 2 (n 0) x
theorem Good_cre {n : vN} {a : vA} {c : vC} (h : Good n a c) {ty x : Int32} (hn : n 0 < 4) (hx : -99 ≤ x.toInt ∧ x.toInt ≤ 99) : Good (nCre n) a (cCre n c ty x) := by
  have hb := h.b
  refine ⟨⟨?_, ?_, ?_, ?_⟩, h.r, ?_, ?_, ?_, h.e, h.x, h.p, h.q, ?_⟩
  · simp [nCre, sN]; omega
  · simp [nCre, sN]; omega
  · exact h.1.2.2.1
  · simp [nCre, sN]
  · intro j
    have := h.cc j
    simp only [cCre, sC]
    grind
  · intro i hi
    have h1 : i < n 1 := hi
    have h2 := h.o i h1
    simp [nCre, sN]
    exact ⟨by omega, h2.2⟩
  · exact h.t
  · refine ⟨fun i hi => ?_, fun i j _ hj => ?_⟩
    · simp [nCre, sN] at hi
    · simp [nCre, sN] at hj
theorem s_create {sx sm : ax_S} (h : Rl sx sm) (ty x : Int32) (hx : -99 ≤ x.toInt ∧ x.toInt ≤ 99) : ∃ (r : Int32) (sx1 sm1 : ax_S), fX8_createObject ty x sx = some (r, sx1) ∧ fX9_create ty x sm = some (r, sm1) ∧ Rl sx1 sm1 := by
  obtain ⟨n, a, c, hG, hX, hM⟩ := h.1
  have hb := hG.b
  by_cases hn : n 0 < 4
  · refine ⟨nI (n 0), ax_sI (ax_sI (ax_sE (ax_sE sx 3 (n 0) ty) 4 (n 0) x) 2 0 (nI (n 0 + 1))) 20 0 0, ax_sI (ax_sI (ax_sE (ax_sE sm 1 (n 0) ty) 2 (n 0) x) 0 0 (nI (n 0 + 1))) 0 16 0, ?_, ?_, ?_⟩
    · simp (disch := omega) only [fX8_createObject, fX1_append, fX1_append_b38, fX2_empty, pb, pt, psto, pE1, X_n0 hX, qgt_4, qle_4, if_pos, if_neg, nI_1]
    · simp (disch := omega) only [fX9_create, pb, pt, psto, pE1, pI1, M_n0 hM, qeq_4, if_pos, if_neg, nI_1, nI_pred]
      simp [nI_pred]
    · refine Rl_cur h (fun o ho => ?_) ⟨fun k hk => ?_, fun o ho => ?_⟩ ⟨nCre n, a, cCre n c ty x, Good_cre hG hn hx, ?_, ?_⟩
      · simp (disch := omega) only [pI1n, pI2, pE1, pE2n, and_self]
      · rw [pI1, if_neg (by omega), pI1, if_neg (by omega)]
        rfl
      · simp (disch := omega) only [pI2, pE2n]
      · refine ⟨?_, fun j hj => ?_, fun j hj => ?_, fun j hj => ?_⟩
        · simp [pI1, pE1, nI_0, nCre, sN, X_n0 hX, X_n1 hX, X_n2 hX, X_n3 hX]
        · by_cases e1 : j = n 0 <;> simp [pI2, pE2, nCre, sN, cCre, sC, hj, e1, hn, X_n0 hX, X_n1 hX, X_n2 hX, X_n3 hX, X_ty hX, X_in hX, X_pn hX, X_cr hX, X_kd hX, X_th hX, X_ob hX, X_fa hX, X_sa hX, X_iv hX, X_rs hX, X_re hX, X_od hX, X_fo hX, X_te hX, X_oe hX]
        · simp [pI2, pE2, nCre, sN, cCre, sC, hj, X_n0 hX, X_n1 hX, X_n2 hX, X_n3 hX, X_ty hX, X_in hX, X_pn hX, X_cr hX, X_kd hX, X_th hX, X_ob hX, X_fa hX, X_sa hX, X_iv hX, X_rs hX, X_re hX, X_od hX, X_fo hX, X_te hX, X_oe hX]
        · simp [pI2, pE2, nCre, sN, cCre, sC, hj, X_n0 hX, X_n1 hX, X_n2 hX, X_n3 hX, X_ty hX, X_in hX, X_pn hX, X_cr hX, X_kd hX, X_th hX, X_ob hX, X_fa hX, X_sa hX, X_iv hX, X_rs hX, X_re hX, X_od hX, X_fo hX, X_te hX, X_oe hX]
          exact fun h1 h2 => X_oe hX (by omega) h1 h2
      · refine ⟨?_, fun j hj => ?_, fun j hj => ?_, fun j hj => ?_⟩
        · simp [pI1, pE1, nI_0, nCre, sN, M_n0 hM, M_n1 hM, M_n2 hM, M_n3 hM]
        · by_cases e1 : j = n 0 <;> simp [pI2, pE2, nCre, sN, cCre, sC, hj, e1, hn, M_n0 hM, M_n1 hM, M_n2 hM, M_n3 hM, M_ty hM, M_in hM, M_kd hM, M_th hM, M_ob hM, M_fa hM, M_sa hM, M_iv hM, M_rs hM, M_re hM, M_od hM, M_fo hM, M_te hM, M_oe hM]
        · simp [pI2, pE2, nCre, sN, cCre, sC, hj, M_n0 hM, M_n1 hM, M_n2 hM, M_n3 hM, M_ty hM, M_in hM, M_kd hM, M_th hM, M_ob hM, M_fa hM, M_sa hM, M_iv hM, M_rs hM, M_re hM, M_od hM, M_fo hM, M_te hM, M_oe hM]
        · simp [pI2, pE2, nCre, sN, cCre, sC, hj, M_n0 hM, M_n1 hM, M_n2 hM, M_n3 hM, M_ty hM, M_in hM, M_kd hM, M_th hM, M_ob hM, M_fa hM, M_sa hM, M_iv hM, M_rs hM, M_re hM, M_od hM, M_fo hM, M_te hM, M_oe hM]
          exact fun h1 h2 => M_oe hM (by omega) h1 h2
  · refine ⟨-8, sx, sm, ?_, ?_, h⟩
    · simp (disch := omega) only [fX8_createObject, X_n0 hX, qgt_4, if_neg]
    · simp (disch := omega) only [fX9_create, M_n0 hM, qeq_4, if_pos]
theorem rng (x lo hi : Int32) (h : lo ≤ x ∧ x ≤ hi) : lo.toInt ≤ x.toInt ∧ x.toInt ≤ hi.toInt := ⟨Int32.le_iff_toInt_le.mp h.1, Int32.le_iff_toInt_le.mp h.2⟩
theorem s_createRegister (x : Int32) : Sim1 (fX8_createRegister x) (fX9_createRegister x) := by
  intro sx sm h
  unfold fX8_createRegister fX9_createRegister fX9_createRegister_b21
  rw [pbtwX, pbtwM, pb, pb]
  by_cases hx : (0 : Int32) ≤ x ∧ x ≤ 99
  · have hr := rng _ _ _ hx
    have e1 : (0 : Int32).toInt = 0 := by decide
    have e2 : (99 : Int32).toInt = 99 := by decide
    obtain ⟨r, sx1, sm1, g1, g2, g3⟩ := s_create h 0 x (by omega)
    exact ⟨r, sx1, sm1, by rw [if_pos hx, if_neg (by decide), g1, pb], by rw [if_pos hx, if_neg (by decide), g2, pb], g3⟩
  · exact ⟨-4, sx, sm, by rw [if_neg hx, if_pos rfl], by rw [if_neg hx, if_pos rfl], h⟩
theorem s_createCounter (x : Int32) : Sim1 (fX8_createCounter x) (fX9_createCounter x) := by
  intro sx sm h
  unfold fX8_createCounter fX9_createCounter fX9_createCounter_b22
  rw [pbtwX, pbtwM, pb, pb]
  by_cases hx : (-99 : Int32) ≤ x ∧ x ≤ 99
  · have hr := rng _ _ _ hx
    have e1 : (-99 : Int32).toInt = -99 := by decide
    have e2 : (99 : Int32).toInt = 99 := by decide
    obtain ⟨r, sx1, sm1, g1, g2, g3⟩ := s_create h 1 x (by omega)
    exact ⟨r, sx1, sm1, by rw [if_pos hx, if_neg (by decide), g1, pb], by rw [if_pos hx, if_neg (by decide), g2, pb], g3⟩
  · exact ⟨-4, sx, sm, by rw [if_neg hx, if_pos rfl], by rw [if_neg hx, if_pos rfl], h⟩
theorem s_createQueue : Sim1 fX8_createQueue fX9_createQueue := by
  intro sx sm h
  obtain ⟨r, sx1, sm1, g1, g2, g3⟩ := s_create h 2 0 (by decide)
  exact ⟨r, sx1, sm1, by rw [fX8_createQueue, g1, pb], by rw [fX9_createQueue, g2, pb], g3⟩
theorem s_createSet : Sim1 fX8_createSet fX9_createSet := by
  intro sx sm h
  obtain ⟨r, sx1, sm1, g1, g2, g3⟩ := s_create h 3 0 (by decide)
  exact ⟨r, sx1, sm1, by rw [fX8_createSet, g1, pb], by rw [fX9_createSet, g2, pb], g3⟩
