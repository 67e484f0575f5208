/-! THE PURE PART: a step back, reset, order, text. -/
def xUn0 (s : ax_S) (z k t : Nat) : ax_S := ax_sI (ax_sE (ax_sI (ax_sI s 5 0 (nI z)) 5 4 (nI k)) 17 t (-1)) 20 0 0
def mUn0 (s : ax_S) (z k : Nat) : ax_S := ax_sI (ax_sI (ax_sI s 0 12 (nI z)) 0 16 0) 0 3 (nI k)
def xUn1 (s : ax_S) (z t i : Nat) : ax_S := ax_sI (ax_sE (ax_sE (ax_sI s 5 0 (nI z)) 17 t (nI i)) 15 i (-1)) 20 0 0
def mUn1 (s : ax_S) (z i : Nat) : ax_S := ax_sE (ax_sI (ax_sI s 0 12 (nI z)) 0 16 0) 9 i (-1)
def xUn2 (s : ax_S) (z t : Nat) : ax_S := ax_sI (ax_sE (ax_sI s 5 0 (nI z)) 18 t 0) 20 0 0
def mUn2 (s : ax_S) (z : Nat) : ax_S := ax_sI (ax_sI s 0 12 (nI z)) 0 16 0
theorem RX_un0 {s : ax_S} {n : vN} {a : vA} {c : vC} (hX : RX 1 s n a c) {z t i : Nat} (hz : n 2 = z + 1) (hz4 : z < 24) (ht : t < 4) (hi : i < 10) : RX 1 (xUn0 s z (n 1 - 1) t) (nUn0 n) (sV a 17 t 0) c := by
  refine ⟨?_, fun j hj => ?_, fun j hj => ?_, fun j hj => ?_⟩
  · simp [pI1, pI2, pE1, pE2, nI_0, nI_l1, nI_l2, nI_pred, nI_1, xUn0, nUn0, sN, sV, hz, X_n0 hX, X_n1 hX, X_n2 hX, X_n3 hX]
  · by_cases q1 : j = t <;> simp [pI1, pI2, pE1, pE2, nI_0, nI_l1, nI_l2, nI_pred, nI_1, xUn0, nUn0, sN, sV, hj, q1, ht, X_n0 hX, X_n1 hX, X_n2 hX, X_n3 hX, X_ty hX, X_in hX, X_pn hX, X_cr hX, X_kd hX, X_th hX, X_ob hX, X_fa hX, X_sa hX, X_iv hX, X_rs hX, X_re hX, X_od hX, X_fo hX, X_te hX]
  · simp [pI1, pI2, pE1, pE2, nI_0, nI_l1, nI_l2, nI_pred, nI_1, xUn0, nUn0, sN, sV, hj, X_n0 hX, X_n1 hX, X_n2 hX, X_n3 hX, X_ty hX, X_in hX, X_pn hX, X_cr hX, X_kd hX, X_th hX, X_ob hX, X_fa hX, X_sa hX, X_iv hX, X_rs hX, X_re hX, X_od hX, X_fo hX, X_te hX]
  · simp [pI1, pI2, pE1, pE2, nI_0, nI_l1, nI_l2, nI_pred, nI_1, xUn0, nUn0, sN, sV, hj, X_n0 hX, X_n1 hX, X_n2 hX, X_n3 hX, X_ty hX, X_in hX, X_pn hX, X_cr hX, X_kd hX, X_th hX, X_ob hX, X_fa hX, X_sa hX, X_iv hX, X_rs hX, X_re hX, X_od hX, X_fo hX, X_te hX]
    intro g1 g2
    exact X_oe hX (by omega) (by omega) g2
theorem RM_un0 {s : ax_S} {n : vN} {a : vA} {c : vC} (hM : RM s n a c) {z t i : Nat} (hz : n 2 = z + 1) (hz4 : z < 24) (hi : i < 10) : RM (mUn0 s z (n 1 - 1)) (nUn0 n) (sV a 17 t 0) c := by
  refine ⟨?_, fun j hj => ?_, fun j hj => ?_, fun j hj => ?_⟩
  · simp [pI1, pI2, pE1, pE2, nI_0, nI_l1, nI_l2, nI_pred, nI_1, mUn0, nUn0, sN, sV, hz, M_n0 hM, M_n1 hM, M_n2 hM, M_n3 hM]
  · simp [pI1, pI2, pE1, pE2, nI_0, nI_l1, nI_l2, nI_pred, nI_1, mUn0, nUn0, sN, sV, hj, M_n0 hM, M_n1 hM, M_n2 hM, M_n3 hM, M_ty hM, M_in hM, M_kd hM, M_th hM, M_ob hM, M_fa hM, M_sa hM, M_iv hM, M_rs hM, M_re hM, M_od hM, M_fo hM, M_te hM]
  · simp [pI1, pI2, pE1, pE2, nI_0, nI_l1, nI_l2, nI_pred, nI_1, mUn0, nUn0, sN, sV, hj, M_n0 hM, M_n1 hM, M_n2 hM, M_n3 hM, M_ty hM, M_in hM, M_kd hM, M_th hM, M_ob hM, M_fa hM, M_sa hM, M_iv hM, M_rs hM, M_re hM, M_od hM, M_fo hM, M_te hM]
  · simp [pI1, pI2, pE1, pE2, nI_0, nI_l1, nI_l2, nI_pred, nI_1, mUn0, nUn0, sN, sV, hj, M_n0 hM, M_n1 hM, M_n2 hM, M_n3 hM, M_ty hM, M_in hM, M_kd hM, M_th hM, M_ob hM, M_fa hM, M_sa hM, M_iv hM, M_rs hM, M_re hM, M_od hM, M_fo hM, M_te hM]
    intro g1 g2
    exact M_oe hM (by omega) (by omega) g2
theorem RX_un1 {s : ax_S} {n : vN} {a : vA} {c : vC} (hX : RX 1 s n a c) {z t i : Nat} (hz : n 2 = z + 1) (hz4 : z < 24) (ht : t < 4) (hi : i < 10) : RX 1 (xUn1 s z t i) (nUn1 n) (sV (sV a 9 i 0) 17 t (i + 1)) c := by
  refine ⟨?_, fun j hj => ?_, fun j hj => ?_, fun j hj => ?_⟩
  · simp [pI1, pI2, pE1, pE2, nI_0, nI_l1, nI_l2, nI_pred, nI_1, xUn1, nUn1, sN, sV, hz, X_n0 hX, X_n1 hX, X_n2 hX, X_n3 hX]
  · by_cases q1 : j = t <;> simp [pI1, pI2, pE1, pE2, nI_0, nI_l1, nI_l2, nI_pred, nI_1, xUn1, nUn1, sN, sV, hj, q1, ht, X_n0 hX, X_n1 hX, X_n2 hX, X_n3 hX, X_ty hX, X_in hX, X_pn hX, X_cr hX, X_kd hX, X_th hX, X_ob hX, X_fa hX, X_sa hX, X_iv hX, X_rs hX, X_re hX, X_od hX, X_fo hX, X_te hX]
  · by_cases q1 : j = i <;> simp [pI1, pI2, pE1, pE2, nI_0, nI_l1, nI_l2, nI_pred, nI_1, xUn1, nUn1, sN, sV, hj, q1, hi, X_n0 hX, X_n1 hX, X_n2 hX, X_n3 hX, X_ty hX, X_in hX, X_pn hX, X_cr hX, X_kd hX, X_th hX, X_ob hX, X_fa hX, X_sa hX, X_iv hX, X_rs hX, X_re hX, X_od hX, X_fo hX, X_te hX]
  · simp [pI1, pI2, pE1, pE2, nI_0, nI_l1, nI_l2, nI_pred, nI_1, xUn1, nUn1, sN, sV, hj, X_n0 hX, X_n1 hX, X_n2 hX, X_n3 hX, X_ty hX, X_in hX, X_pn hX, X_cr hX, X_kd hX, X_th hX, X_ob hX, X_fa hX, X_sa hX, X_iv hX, X_rs hX, X_re hX, X_od hX, X_fo hX, X_te hX]
    intro g1 g2
    exact X_oe hX (by omega) (by omega) g2
theorem RM_un1 {s : ax_S} {n : vN} {a : vA} {c : vC} (hM : RM s n a c) {z t i : Nat} (hz : n 2 = z + 1) (hz4 : z < 24) (hi : i < 10) : RM (mUn1 s z i) (nUn1 n) (sV (sV a 9 i 0) 17 t (i + 1)) c := by
  refine ⟨?_, fun j hj => ?_, fun j hj => ?_, fun j hj => ?_⟩
  · simp [pI1, pI2, pE1, pE2, nI_0, nI_l1, nI_l2, nI_pred, nI_1, mUn1, nUn1, sN, sV, hz, M_n0 hM, M_n1 hM, M_n2 hM, M_n3 hM]
  · simp [pI1, pI2, pE1, pE2, nI_0, nI_l1, nI_l2, nI_pred, nI_1, mUn1, nUn1, sN, sV, hj, M_n0 hM, M_n1 hM, M_n2 hM, M_n3 hM, M_ty hM, M_in hM, M_kd hM, M_th hM, M_ob hM, M_fa hM, M_sa hM, M_iv hM, M_rs hM, M_re hM, M_od hM, M_fo hM, M_te hM]
  · by_cases q1 : j = i <;> simp [pI1, pI2, pE1, pE2, nI_0, nI_l1, nI_l2, nI_pred, nI_1, mUn1, nUn1, sN, sV, hj, q1, hi, M_n0 hM, M_n1 hM, M_n2 hM, M_n3 hM, M_ty hM, M_in hM, M_kd hM, M_th hM, M_ob hM, M_fa hM, M_sa hM, M_iv hM, M_rs hM, M_re hM, M_od hM, M_fo hM, M_te hM]
  · simp [pI1, pI2, pE1, pE2, nI_0, nI_l1, nI_l2, nI_pred, nI_1, mUn1, nUn1, sN, sV, hj, M_n0 hM, M_n1 hM, M_n2 hM, M_n3 hM, M_ty hM, M_in hM, M_kd hM, M_th hM, M_ob hM, M_fa hM, M_sa hM, M_iv hM, M_rs hM, M_re hM, M_od hM, M_fo hM, M_te hM]
    intro g1 g2
    exact M_oe hM (by omega) (by omega) g2
theorem RX_un2 {s : ax_S} {n : vN} {a : vA} {c : vC} (hX : RX 1 s n a c) {z t i : Nat} (hz : n 2 = z + 1) (hz4 : z < 24) (ht : t < 4) (hi : i < 10) : RX 1 (xUn2 s z t) (nUn1 n) (sV a 18 t 0) c := by
  refine ⟨?_, fun j hj => ?_, fun j hj => ?_, fun j hj => ?_⟩
  · simp [pI1, pI2, pE1, pE2, nI_0, nI_l1, nI_l2, nI_pred, nI_1, xUn2, nUn1, sN, sV, hz, X_n0 hX, X_n1 hX, X_n2 hX, X_n3 hX]
  · by_cases q1 : j = t <;> simp [pI1, pI2, pE1, pE2, nI_0, nI_l1, nI_l2, nI_pred, nI_1, xUn2, nUn1, sN, sV, hj, q1, ht, X_n0 hX, X_n1 hX, X_n2 hX, X_n3 hX, X_ty hX, X_in hX, X_pn hX, X_cr hX, X_kd hX, X_th hX, X_ob hX, X_fa hX, X_sa hX, X_iv hX, X_rs hX, X_re hX, X_od hX, X_fo hX, X_te hX]
  · simp [pI1, pI2, pE1, pE2, nI_0, nI_l1, nI_l2, nI_pred, nI_1, xUn2, nUn1, sN, sV, hj, X_n0 hX, X_n1 hX, X_n2 hX, X_n3 hX, X_ty hX, X_in hX, X_pn hX, X_cr hX, X_kd hX, X_th hX, X_ob hX, X_fa hX, X_sa hX, X_iv hX, X_rs hX, X_re hX, X_od hX, X_fo hX, X_te hX]
  · simp [pI1, pI2, pE1, pE2, nI_0, nI_l1, nI_l2, nI_pred, nI_1, xUn2, nUn1, sN, sV, hj, X_n0 hX, X_n1 hX, X_n2 hX, X_n3 hX, X_ty hX, X_in hX, X_pn hX, X_cr hX, X_kd hX, X_th hX, X_ob hX, X_fa hX, X_sa hX, X_iv hX, X_rs hX, X_re hX, X_od hX, X_fo hX, X_te hX]
    intro g1 g2
    exact X_oe hX (by omega) (by omega) g2
theorem RM_un2 {s : ax_S} {n : vN} {a : vA} {c : vC} (hM : RM s n a c) {z t i : Nat} (hz : n 2 = z + 1) (hz4 : z < 24) (hi : i < 10) : RM (mUn2 s z) (nUn1 n) (sV a 18 t 0) c := by
  refine ⟨?_, fun j hj => ?_, fun j hj => ?_, fun j hj => ?_⟩
  · simp [pI1, pI2, pE1, pE2, nI_0, nI_l1, nI_l2, nI_pred, nI_1, mUn2, nUn1, sN, sV, hz, M_n0 hM, M_n1 hM, M_n2 hM, M_n3 hM]
  · simp [pI1, pI2, pE1, pE2, nI_0, nI_l1, nI_l2, nI_pred, nI_1, mUn2, nUn1, sN, sV, hj, M_n0 hM, M_n1 hM, M_n2 hM, M_n3 hM, M_ty hM, M_in hM, M_kd hM, M_th hM, M_ob hM, M_fa hM, M_sa hM, M_iv hM, M_rs hM, M_re hM, M_od hM, M_fo hM, M_te hM]
  · simp [pI1, pI2, pE1, pE2, nI_0, nI_l1, nI_l2, nI_pred, nI_1, mUn2, nUn1, sN, sV, hj, M_n0 hM, M_n1 hM, M_n2 hM, M_n3 hM, M_ty hM, M_in hM, M_kd hM, M_th hM, M_ob hM, M_fa hM, M_sa hM, M_iv hM, M_rs hM, M_re hM, M_od hM, M_fo hM, M_te hM]
  · simp [pI1, pI2, pE1, pE2, nI_0, nI_l1, nI_l2, nI_pred, nI_1, mUn2, nUn1, sN, sV, hj, M_n0 hM, M_n1 hM, M_n2 hM, M_n3 hM, M_ty hM, M_in hM, M_kd hM, M_th hM, M_ob hM, M_fa hM, M_sa hM, M_iv hM, M_rs hM, M_re hM, M_od hM, M_fo hM, M_te hM]
    intro g1 g2
    exact M_oe hM (by omega) (by omega) g2
theorem s_undo : Sim1 fX8_undo fX9_undo := by
  intro sx sm h
  obtain ⟨n, a, c, hG, hX, hM⟩ := h.1
  have hb := hG.b
  unfold fX8_undo fX9_undo fX0_removeLastEvent fX0_removeLastEvent_b124 fX9_undo_b78 fX2_empty
  rw [X_n2 hX, M_n2 hM]
  by_cases h0 : n 2 = 0
  · rw [if_pos ((qeq_0 (by omega)).mpr h0), if_pos ((qeq_0 (by omega)).mpr h0)]
    exact ⟨_, _, _, rfl, rfl, h⟩
  · obtain ⟨z, hz⟩ : ∃ z, n 2 = z + 1 := ⟨n 2 - 1, by omega⟩
    have hz1 : n 2 - 1 = z := by omega
    have hr := hG.r z
    have hne : ¬ (nI (n 2) = 0) := fun hh => h0 ((qeq_0 (by omega)).mp hh)
    rw [if_neg hne, if_neg hne, if_neg hne, hz, nI_pred]
    have e1 : (ax_sI sx 5 0 (nI z)).1 5 0 = nI z := by simp [pI1]
    have e2 : (ax_sI (ax_sI sm 0 12 (nI z)) 0 16 0).1 0 12 = nI z := by simp [pI1]
    simp (disch := omega) only [pt, e1, e2, pI2, pld, X_te hX, X_fo hX, M_fo hM]
    have hgx : ∀ (u : ax_S), (∀ o, (o = 0 ∨ 22 ≤ o) → u.1 o = sx.1 o ∧ u.2 o = sx.2 o) → GX sx u := fun u hu => hu
    rcases (show a 11 z = 0 ∨ a 11 z = 1 ∨ a 11 z = 2 by omega) with hf | hf | hf
    · obtain ⟨hk, hg⟩ := Good_un0 hG h0 (by rw [hz1]; exact hf)
      rw [hz1] at hg
      refine ⟨nI z, xUn0 sx z (n 1 - 1) (a 12 z), mUn0 sm z (n 1 - 1), ?_, ?_, ?_⟩
      · unfold xUn0
        rw [hf, if_pos nI_0]
        simp (disch := omega) only [pt, pb, psto, pI1, pI2, X_n1 hX, pu_sub1]
        simp [pI1, pE1, X_n1 hX, pu_sub1 (show 1 ≤ n 1 by omega)]
      · unfold mUn0
        rw [hf, if_pos nI_0]
        simp (disch := omega) only [pt, pb, pI1, pI2, M_n1 hM, pu_sub1]
        simp [pI1, M_n1 hM, pu_sub1 (show 1 ≤ n 1 by omega)]
      · refine Rl_cur h (fun p hp => ?_) ⟨fun p hp => ?_, fun p hp => ?_⟩ ⟨_, _, _, hg, RX_un0 hX hz (by omega) (by omega) (i := 0) (by decide), RM_un0 hM hz (by omega) (i := 0) (by decide)⟩
        · unfold xUn0
          simp (disch := omega) only [pI1n, pI2, pE1, pE2n, and_self]
        · unfold mUn0
          rw [pI1, if_neg (by omega), pI1, if_neg (by omega), pI1, if_neg (by omega)]
        · rfl
    · obtain ⟨hk, hg⟩ := Good_un1 hG h0 (by rw [hz1]; exact hf)
      rw [hz1] at hg hk
      refine ⟨nI z, xUn1 sx z (a 12 z) (a 13 z), mUn1 sm z (a 13 z), ?_, ?_, ?_⟩
      · unfold xUn1
        rw [hf, if_neg (by decide), if_pos nI_l1, X_oe hX (by omega) (by omega) (by omega), psto (by omega) (by decide)]
        simp only [pE1, e1]
        rw [pld (by omega) (by decide), pE2]
        simp only [pI2]
        rw [if_neg (by decide), X_oe hX (by omega) (by omega) (by omega), psto (by omega) (by decide), pb, pb]
        simp [pI1, pE1]
      · unfold mUn1
        rw [hf, if_neg (by decide), if_pos nI_l1, M_oe hM (by omega) (by omega) (by omega), psto (by omega) (by decide)]
        simp [pI1, pE1]
      · refine Rl_cur h (fun p hp => ?_) ⟨fun p hp => ?_, fun p hp => ?_⟩ ⟨_, _, _, hg, RX_un1 hX hz (by omega) (by omega) (by omega), RM_un1 hM hz (by omega) (by omega)⟩
        · unfold xUn1
          simp (disch := omega) only [pI1n, pI2, pE1, pE2n, and_self]
        · unfold mUn1
          rw [pE1, pI1, if_neg (by omega), pI1, if_neg (by omega)]
        · unfold mUn1
          simp (disch := omega) only [pI2, pE2n]
    · have hg := Good_un2 hG h0 (by rw [hz1]; exact hf)
      rw [hz1] at hg
      refine ⟨nI z, xUn2 sx z (a 12 z), mUn2 sm z, ?_, ?_, ?_⟩
      · unfold xUn2
        rw [hf, if_neg (by decide), if_neg (by decide), nar0, psto (by omega) (by decide), pb, pb]
        simp [pI1, pE1]
      · unfold mUn2
        rw [hf, if_neg (by decide), if_neg (by decide)]
      · refine Rl_cur h (fun p hp => ?_) ⟨fun p hp => ?_, fun p hp => ?_⟩ ⟨_, _, _, hg, RX_un2 hX hz (by omega) (by omega) (i := 0) (by decide), RM_un2 hM hz (by omega) (i := 0) (by decide)⟩
        · unfold xUn2
          simp (disch := omega) only [pI1n, pI2, pE1, pE2n, and_self]
        · unfold mUn2
          rw [pI1, if_neg (by omega), pI1, if_neg (by omega)]
        · rfl
/-! reset -/
theorem clearL : ∀ (d m i : Nat) (s : ax_S), i + d = 4 → d < m → ∃ u, fX0_clearHistory_L12 m (nI i) s = some (0, u) ∧ u.1 = s.1 ∧ (∀ o, o ≠ 17 → o ≠ 18 → u.2 o = s.2 o) ∧ (∀ t, t < i → u.2 17 t = s.2 17 t ∧ u.2 18 t = s.2 18 t) ∧ (∀ t, i ≤ t → t < 4 → u.2 17 t = -1 ∧ u.2 18 t = 0) := by
  intro d
  induction d with
  | zero =>
    intro m i s hi hm
    obtain ⟨m, rfl⟩ : ∃ k, m = k + 1 := ⟨m - 1, by omega⟩
    refine ⟨s, ?_, rfl, fun _ _ _ => rfl, fun _ _ => ⟨rfl, rfl⟩, fun t h1 h2 => by omega⟩
    rw [fX0_clearHistory_L12, if_pos ((qle_4 (by omega)).mpr (by omega))]
  | succ d ih =>
    intro m i s hi hm
    obtain ⟨m, rfl⟩ : ∃ k, m = k + 1 := ⟨m - 1, by omega⟩
    obtain ⟨u, g1, g2, g3, g4, g5⟩ := ih m (i + 1) (ax_sE (ax_sE s 17 i (-1)) 18 i 0) (by omega) (by omega)
    refine ⟨u, ?_, ?_, fun o h1 h2 => ?_, fun t ht => ?_, fun t h1 h2 => ?_⟩
    · rw [fX0_clearHistory_L12, if_neg (fun hh => absurd ((qle_4 (by omega)).mp hh) (by omega)), psto (by omega) (by decide), psto (by omega) (by decide), nar0, nI_1]
      exact g1
    · rw [g2]; rfl
    · rw [g3 o h1 h2, pE2n _ _ _ h2, pE2n _ _ _ h1]
    · obtain ⟨q1, q2⟩ := g4 t (by omega)
      rw [q1, q2]
      have : t ≠ i := by omega
      simp [pE2, this]
    · by_cases hti : t = i
      · subst hti
        obtain ⟨q1, q2⟩ := g4 t (by omega)
        rw [q1, q2]
        simp [pE2]
      · exact g5 t (by omega) h2
def aRst (a : vA) : vA := fun o j => if o = 17 ∨ o = 18 then 0 else a o j
def nRst : vN := fun _ => 0
theorem Good_rst {n : vN} {a : vA} {c : vC} (h : Good n a c) : Good nRst (aRst a) c := by
  refine ⟨⟨?_, ?_, ?_, ?_⟩, ?_, ?_, ?_, ?_, ?_, ?_, ?_, ?_, ?_⟩
  · simp [nRst]
  · simp [nRst]
  · simp [nRst, vcnt, aRst]
  · simp [nRst]
  · intro j
    have := h.r j
    simp [aRst]
    omega
  · intro j
    have := h.cc j
    simpa [aRst] using this
  · intro i hi
    simp [nRst] at hi
  · intro i j _ hj
    simp [nRst] at hj
  · intro e he
    simp [nRst] at he
  · intro e f _ he
    simp [nRst] at he
  · intro t _
    simp [aRst]
  · intro i hi
    simp [nRst] at hi
  · exact ⟨fun i hi => by simp [nRst] at hi, fun i j _ hj => by simp [nRst] at hj⟩
theorem s_reset : Sim1 fX8_reset fX9_reset := by
  intro sx sm h
  obtain ⟨n, a, c, hG, hX, hM⟩ := h.1
  have hb := hG.b
  obtain ⟨u, g1, g2, g3, g4, g5⟩ := clearL 4 4000 0 (ax_sI (ax_sI (ax_sI sx 2 0 0) 5 0 0) 5 4 0) (by omega) (by omega)
  refine ⟨nI (n 2), ax_sI u 20 0 0, ax_sI (ax_sI (ax_sI (ax_sI sm 0 0 0) 0 3 0) 0 12 0) 0 16 0, ?_, ?_, ?_⟩
  · unfold fX8_reset fX4_clearAll fX0_clearHistory fX2_empty
    rw [nI_0] at g1
    simp only [pt, g1, pb, X_n2 hX]
  · unfold fX9_reset
    simp only [pt, M_n2 hM]
  · refine Rl_cur h (fun p hp => ?_) ⟨fun p hp => ?_, fun p hp => ?_⟩ ⟨nRst, aRst a, c, Good_rst hG, ?_, ?_⟩
    · rw [pI1n _ _ _ (by omega), pI2, g2, g3 p (by omega) (by omega)]
      simp (disch := omega) only [pI1n, pI2, and_self]
    · rw [pI1, if_neg (by omega), pI1, if_neg (by omega), pI1, if_neg (by omega), pI1, if_neg (by omega)]
    · rfl
    · have q2 := fun o (h1 : o ≠ 17) (h2 : o ≠ 18) => g3 o h1 h2
      refine ⟨?_, fun j hj => ?_, fun j hj => ?_, fun j hj => ?_⟩
      · simp [pI1, g2, nRst, nI_0]
      · obtain ⟨q3, q4⟩ := g5 j (by omega) hj
        simp [pI2, q3, q4, g3, aRst, nI_0, hj, X_n0 hX, X_n1 hX, X_n2 hX, X_n3 hX, X_ty hX, X_in hX, X_pn hX, X_cr hX, X_kd hX, X_th hX, X_ob hX, X_fa hX, X_sa hX, X_iv hX, X_rs hX, X_re hX, X_od hX, X_fo hX, X_te hX]
      · simp [pI2, g3, aRst, hj, hj, X_n0 hX, X_n1 hX, X_n2 hX, X_n3 hX, X_ty hX, X_in hX, X_pn hX, X_cr hX, X_kd hX, X_th hX, X_ob hX, X_fa hX, X_sa hX, X_iv hX, X_rs hX, X_re hX, X_od hX, X_fo hX, X_te hX]
      · simp [pI2, g3, aRst, hj, nRst, hj, X_n0 hX, X_n1 hX, X_n2 hX, X_n3 hX, X_ty hX, X_in hX, X_pn hX, X_cr hX, X_kd hX, X_th hX, X_ob hX, X_fa hX, X_sa hX, X_iv hX, X_rs hX, X_re hX, X_od hX, X_fo hX, X_te hX]
    · refine ⟨?_, fun j hj => ?_, fun j hj => ?_, fun j hj => ?_⟩
      · simp [pI1, nRst, nI_0]
      · simp [pI2, aRst, hj, M_n0 hM, M_n1 hM, M_n2 hM, M_n3 hM, M_ty hM, M_in hM, M_kd hM, M_th hM, M_ob hM, M_fa hM, M_sa hM, M_iv hM, M_rs hM, M_re hM, M_od hM, M_fo hM, M_te hM]
      · simp [pI2, aRst, hj, M_n0 hM, M_n1 hM, M_n2 hM, M_n3 hM, M_ty hM, M_in hM, M_kd hM, M_th hM, M_ob hM, M_fa hM, M_sa hM, M_iv hM, M_rs hM, M_re hM, M_od hM, M_fo hM, M_te hM]
      · simp [pI2, aRst, hj, nRst, M_n0 hM, M_n1 hM, M_n2 hM, M_n3 hM, M_ty hM, M_in hM, M_kd hM, M_th hM, M_ob hM, M_fa hM, M_sa hM, M_iv hM, M_rs hM, M_re hM, M_od hM, M_fo hM, M_te hM]
