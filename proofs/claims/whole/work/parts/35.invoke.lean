/-! THE PURE PART: invocations, responses, crashes, steps back, reset. -/
theorem Good.lt1 {n : vN} {a : vA} {c : vC} (h : Good n a c) (hK : n 1 < 10) : n 2 < 24 := by
  have h1 := h.1.2.2.1
  have := vcnt_le (a 9) (n 1)
  have := vcnt_le (a 18) 4
  omega
theorem Good.lt2 {n : vN} {a : vA} {c : vC} (h : Good n a c) {i : Nat} (hi : i < n 1) (h9 : a 9 i = 0) : n 2 < 24 := by
  have h1 := h.1.2.2.1
  have hb := h.b
  have := vcnt_lt hi h9
  have := vcnt_le (a 18) 4
  omega
theorem Good.lt3 {n : vN} {a : vA} {c : vC} (h : Good n a c) {t : Nat} (ht : t < 4) (hcr : a 18 t = 0) : n 2 < 24 := by
  have h1 := h.1.2.2.1
  have hb := h.b
  have := vcnt_lt ht hcr
  have := vcnt_le (a 9) (n 1)
  omega
def tyk (k : Nat) : Int32 := if k ≤ 2 then 0 else if k ≤ 4 then 1 else if k ≤ 6 then 2 else 3
def loR (k : Nat) : Int32 := if k = 3 ∨ k = 4 then -999 else if k = 6 then -1 else 0
def hiR (k : Nat) : Int32 := if k = 0 ∨ k = 6 then 99 else if k = 1 ∨ k = 5 then 0 else if k = 3 ∨ k = 4 then 999 else 1
theorem tyX {k : Nat} (hk : k < 10) (st : ax_S) : fX8_requiredType (nI k) st = some (tyk k, st) := by
  rcases (show k = 0 ∨ k = 1 ∨ k = 2 ∨ k = 3 ∨ k = 4 ∨ k = 5 ∨ k = 6 ∨ k = 7 ∨ k = 8 ∨ k = 9 by omega) with rfl | rfl | rfl | rfl | rfl | rfl | rfl | rfl | rfl | rfl <;> simp [fX8_requiredType, qle_0, qle_1, qle_2, qle_3, qle_4, qle_5, qle_6, qle_7, qle_8, qle_9, qle_10, qlt_2, qlt_4, qlt_6, qeq_0, qeq_1, qeq_2, qeq_3, qeq_4, qeq_5, qeq_6, qeq_7, qeq_8, qeq_9, tyk]
theorem tyM {k : Nat} (hk : k < 10) (st : ax_S) : fX9_typeFor (nI k) st = some (tyk k, st) := by
  rcases (show k = 0 ∨ k = 1 ∨ k = 2 ∨ k = 3 ∨ k = 4 ∨ k = 5 ∨ k = 6 ∨ k = 7 ∨ k = 8 ∨ k = 9 by omega) with rfl | rfl | rfl | rfl | rfl | rfl | rfl | rfl | rfl | rfl <;> simp [fX9_typeFor, fX9_typeFor_b29, qle_0, qle_1, qle_2, qle_3, qle_4, qle_5, qle_6, qle_7, qle_8, qle_9, qle_10, qlt_2, qlt_4, qlt_6, qeq_0, qeq_1, qeq_2, qeq_3, qeq_4, qeq_5, qeq_6, qeq_7, qeq_8, qeq_9, tyk]
theorem loX {k : Nat} (hk : k < 10) (st : ax_S) : fX8_lowestResult (nI k) st = some (loR k, st) := by
  rcases (show k = 0 ∨ k = 1 ∨ k = 2 ∨ k = 3 ∨ k = 4 ∨ k = 5 ∨ k = 6 ∨ k = 7 ∨ k = 8 ∨ k = 9 by omega) with rfl | rfl | rfl | rfl | rfl | rfl | rfl | rfl | rfl | rfl <;> simp [fX8_lowestResult, qle_0, qle_1, qle_2, qle_3, qle_4, qle_5, qle_6, qle_7, qle_8, qle_9, qle_10, qlt_2, qlt_4, qlt_6, qeq_0, qeq_1, qeq_2, qeq_3, qeq_4, qeq_5, qeq_6, qeq_7, qeq_8, qeq_9, loR]
theorem loM {k : Nat} (hk : k < 10) (st : ax_S) : fX9_minResult (nI k) st = some (loR k, st) := by
  rcases (show k = 0 ∨ k = 1 ∨ k = 2 ∨ k = 3 ∨ k = 4 ∨ k = 5 ∨ k = 6 ∨ k = 7 ∨ k = 8 ∨ k = 9 by omega) with rfl | rfl | rfl | rfl | rfl | rfl | rfl | rfl | rfl | rfl <;> simp [fX9_minResult, fX9_minResult_b27, fX9_minResult_b10, qle_0, qle_1, qle_2, qle_3, qle_4, qle_5, qle_6, qle_7, qle_8, qle_9, qle_10, qlt_2, qlt_4, qlt_6, qeq_0, qeq_1, qeq_2, qeq_3, qeq_4, qeq_5, qeq_6, qeq_7, qeq_8, qeq_9, loR]
theorem hiX {k : Nat} (hk : k < 10) (st : ax_S) : fX8_highestResult (nI k) st = some (hiR k, st) := by
  rcases (show k = 0 ∨ k = 1 ∨ k = 2 ∨ k = 3 ∨ k = 4 ∨ k = 5 ∨ k = 6 ∨ k = 7 ∨ k = 8 ∨ k = 9 by omega) with rfl | rfl | rfl | rfl | rfl | rfl | rfl | rfl | rfl | rfl <;> simp [fX8_highestResult, qle_0, qle_1, qle_2, qle_3, qle_4, qle_5, qle_6, qle_7, qle_8, qle_9, qle_10, qlt_2, qlt_4, qlt_6, qeq_0, qeq_1, qeq_2, qeq_3, qeq_4, qeq_5, qeq_6, qeq_7, qeq_8, qeq_9, hiR]
theorem hiM {k : Nat} (hk : k < 10) (st : ax_S) : fX9_maxResult (nI k) st = some (hiR k, st) := by
  rcases (show k = 0 ∨ k = 1 ∨ k = 2 ∨ k = 3 ∨ k = 4 ∨ k = 5 ∨ k = 6 ∨ k = 7 ∨ k = 8 ∨ k = 9 by omega) with rfl | rfl | rfl | rfl | rfl | rfl | rfl | rfl | rfl | rfl <;> simp [fX9_maxResult, qle_0, qle_1, qle_2, qle_3, qle_4, qle_5, qle_6, qle_7, qle_8, qle_9, qle_10, qlt_2, qlt_4, qlt_6, qeq_0, qeq_1, qeq_2, qeq_3, qeq_4, qeq_5, qeq_6, qeq_7, qeq_8, qeq_9, hiR]
def loA (k : Nat) : Int32 := if k = 4 then -99 else 0
theorem argM {k : Nat} (hk : k < 10) (x : Int32) (st : ax_S) : fX9_isArgument (nI k) x st = some (if loA k ≤ x ∧ x ≤ 99 then 1 else 0, st) := by
  unfold fX9_isArgument fX9_isArgument_b23 loA
  by_cases h : k = 4
  · rw [if_pos ((qeq_4 (by omega)).mpr h), pbtwM, pb, przi, if_pos h]
  · rw [if_neg (fun hh => h ((qeq_4 (by omega)).mp hh)), pbtwM, pb, przi, if_neg h]
def xInv (s : ax_S) (n : vN) (k t o : Nat) (x y : Int32) : ax_S := ax_sI (ax_sI (ax_sI (ax_sE (ax_sE (ax_sE (ax_sE (ax_sE (ax_sE (ax_sE (ax_sE (ax_sE (ax_sE (ax_sE s 9 (n 1) (nI k)) 10 (n 1) (nI t)) 11 (n 1) (nI o)) 12 (n 1) x) 13 (n 1) y) 14 (n 1) (nI (n 2))) 15 (n 1) (-1)) 17 t (nI (n 1))) 6 (n 2) 0) 7 (n 2) (nI t)) 8 (n 2) (nI (n 1))) 5 0 (nI (n 2 + 1))) 5 4 (nI (n 1 + 1))) 20 0 0
def mInv (s : ax_S) (n : vN) (k t o : Nat) (x y : Int32) : ax_S := ax_sI (ax_sE (ax_sI (ax_sI (ax_sE (ax_sE (ax_sE (ax_sE (ax_sE (ax_sE (ax_sE (ax_sE (ax_sE s 3 (n 1) (nI k)) 4 (n 1) (nI t)) 5 (n 1) (nI o)) 6 (n 1) x) 7 (n 1) y) 9 (n 1) (-1)) 11 (n 2) 0) 12 (n 2) (nI t)) 13 (n 2) (nI (n 1))) 0 12 (nI (n 2 + 1))) 0 16 0) 8 (n 1) (nI (n 2))) 0 3 (nI (n 1 + 1))
theorem RX_inv {s : ax_S} {n : vN} {a : vA} {c : vC} (hX : RX 1 s n a c) {k t o : Nat} (x y : Int32) (hK : n 1 < 10) (ht : t < 4) : RX 1 (xInv s n k t o x y) (nInv n) (aInv n a k t o) (cInv n c x y) := by
  refine ⟨?_, fun j hj => ?_, fun j hj => ?_, fun j hj => ?_⟩
  · simp [pI1, pI2, pE1, pE2, nI_0, nI_pred, nI_1, xInv, nInv, aInv, cInv, sN, sV, sC, X_n0 hX, X_n1 hX, X_n2 hX, X_n3 hX]
  · by_cases q3 : j = t <;> simp [pI1, pI2, pE1, pE2, nI_0, nI_pred, nI_1, xInv, nInv, aInv, cInv, sN, sV, sC, hj, q3, hK, ht, X_n0 hX, X_n1 hX, X_n2 hX, X_n3 hX, X_ty hX, X_in hX, X_pn hX, X_cr hX, X_kd hX, X_th hX, X_ob hX, X_fa hX, X_sa hX, X_iv hX, X_rs hX, X_re hX, X_od hX, X_fo hX, X_te hX]
  · by_cases q1 : j = n 1 <;> simp [pI1, pI2, pE1, pE2, nI_0, nI_pred, nI_1, xInv, nInv, aInv, cInv, sN, sV, sC, hj, q1, hK, ht, X_n0 hX, X_n1 hX, X_n2 hX, X_n3 hX, X_ty hX, X_in hX, X_pn hX, X_cr hX, X_kd hX, X_th hX, X_ob hX, X_fa hX, X_sa hX, X_iv hX, X_rs hX, X_re hX, X_od hX, X_fo hX, X_te hX]
  · by_cases q2 : j = n 2 <;> simp [pI1, pI2, pE1, pE2, nI_0, nI_pred, nI_1, xInv, nInv, aInv, cInv, sN, sV, sC, hj, q2, hK, ht, X_n0 hX, X_n1 hX, X_n2 hX, X_n3 hX, X_ty hX, X_in hX, X_pn hX, X_cr hX, X_kd hX, X_th hX, X_ob hX, X_fa hX, X_sa hX, X_iv hX, X_rs hX, X_re hX, X_od hX, X_fo hX, X_te hX]
    intro g1 g2
    exact X_oe hX (by omega) (by omega) g2
theorem RM_inv {s : ax_S} {n : vN} {a : vA} {c : vC} (hM : RM s n a c) {k t o : Nat} (x y : Int32) (hK : n 1 < 10) (ht : t < 4) : RM (mInv s n k t o x y) (nInv n) (aInv n a k t o) (cInv n c x y) := by
  refine ⟨?_, fun j hj => ?_, fun j hj => ?_, fun j hj => ?_⟩
  · simp [pI1, pI2, pE1, pE2, nI_0, nI_pred, nI_1, mInv, nInv, aInv, cInv, sN, sV, sC, M_n0 hM, M_n1 hM, M_n2 hM, M_n3 hM]
  · simp [pI1, pI2, pE1, pE2, nI_0, nI_pred, nI_1, mInv, nInv, aInv, cInv, sN, sV, sC, hj, M_n0 hM, M_n1 hM, M_n2 hM, M_n3 hM, M_ty hM, M_in hM, M_kd hM, M_th hM, M_ob hM, M_fa hM, M_sa hM, M_iv hM, M_rs hM, M_re hM, M_od hM, M_fo hM, M_te hM]
  · by_cases q1 : j = n 1 <;> simp [pI1, pI2, pE1, pE2, nI_0, nI_pred, nI_1, mInv, nInv, aInv, cInv, sN, sV, sC, hj, q1, hK, ht, M_n0 hM, M_n1 hM, M_n2 hM, M_n3 hM, M_ty hM, M_in hM, M_kd hM, M_th hM, M_ob hM, M_fa hM, M_sa hM, M_iv hM, M_rs hM, M_re hM, M_od hM, M_fo hM, M_te hM]
  · by_cases q2 : j = n 2 <;> simp [pI1, pI2, pE1, pE2, nI_0, nI_pred, nI_1, mInv, nInv, aInv, cInv, sN, sV, sC, hj, q2, hK, ht, M_n0 hM, M_n1 hM, M_n2 hM, M_n3 hM, M_ty hM, M_in hM, M_kd hM, M_th hM, M_ob hM, M_fa hM, M_sa hM, M_iv hM, M_rs hM, M_re hM, M_od hM, M_fo hM, M_te hM]
    intro g1 g2
    exact M_oe hM (by omega) (by omega) g2
theorem frX_inv (s : ax_S) (n : vN) (k t o : Nat) (x y : Int32) : GX s (xInv s n k t o x y) := fun p hp => by
  unfold xInv
  simp (disch := omega) only [pI1n, pI2, pE1, pE2n, and_self]
theorem frM_inv (s : ax_S) (n : vN) (k t o : Nat) (x y : Int32) : GM s (mInv s n k t o x y) := ⟨fun p hp => by
  unfold mInv
  rw [pI1, if_neg (by omega), pE1, pI1, if_neg (by omega), pI1, if_neg (by omega)]
  rfl, fun p hp => by
  unfold mInv
  simp (disch := omega) only [pI2, pE2n]⟩
theorem addInvX {s : ax_S} {n : vN} {a : vA} {c : vC} (hX : RX 1 s n a c) (hE : n 2 < 24) (k : Nat) {t : Nat} (o : Nat) (x y : Int32) (hK : n 1 < 10) (ht : t < 4) : (ax_bind (fX0_addInvocation (nI k) (nI t) (nI o) x y s) fun _ st4 => ax_bind (fX2_empty st4) fun _ st6 => some ((s.1 5 4), st6)) = some (nI (n 1), xInv s n k t o x y) := by
  unfold xInv
  simp (disch := omega) only [fX0_addInvocation, fX0_addEvent, fX0_addEvent_b49, fX2_empty, pb, pt, psto, pE1, X_n1 hX, X_n2 hX, qgt_10, qle_24, if_pos, if_neg, nI_1, pI1]
theorem s_invoke {sx sm : ax_S} (h : Rl sx sm) {k : Nat} (hk : k < 10) (t o x y : Int32) (hy : k = 4 → y = 0) : ∃ (r : Int32) (sx1 sm1 : ax_S), fX8_invoke (nI k) t o x y sx = some (r, sx1) ∧ fX9_invoke (nI k) t o x y sm = some (r, sm1) ∧ Rl sx1 sm1 ∧ GX sx sx1 ∧ GM sm sm1 := by
  obtain ⟨n, a, c, hG, hX, hM⟩ := h.1
  have hb := hG.b
  unfold fX8_invoke fX9_invoke fX8_invocationError fX8_invocationError_b59 fX8_invocationError_b84 fX9_invoke_b54
  rcases Classical.em (∃ j, j < 4 ∧ t = nI j) with ⟨t, ht, rfl⟩ | hn
  · rw [thrX_p ht, thrM_p ht, pb, pb, if_neg (by decide), if_neg (by decide)]
    rcases Classical.em (∃ j, j < n 0 ∧ o = nI j) with ⟨o, ho, rfl⟩ | hn
    · rw [objX_p (X_n0 hX) (by omega) ho, objM_p (M_n0 hM) (by omega) ho, pb, pb, if_neg (by decide), if_neg (by decide), pld (by omega) (by decide), pld (by omega) (by decide), X_ty hX (by omega), M_ty hM (by omega), tyX hk, tyM hk, pb, pb]
      by_cases hty : c 1 o = tyk k
      · rw [if_pos hty, if_pos hty, argM hk, pb]
        have hlo : (if nI k = 4 then (ax_bind (fX8_isBetween x (-99) 99 sx) fun r8 st9 => if r8 = 0 then some (-4, st9) else ax_bind (fX8_isBetween y 0 99 st9) fun r10 st11 => if r10 = 0 then some (-4, st11) else ax_ld st11 18 4 (nI t) fun v12 => if v12 = 0 then ax_ld st11 17 4 (nI t) fun v13 => if v13 = -1 then (if st11.1 5 4 < 10 then some (0, st11) else some (-8, st11)) else some (-6, st11) else some (-5, st11)) else (ax_bind (fX8_isBetween x 0 99 sx) fun r8 st9 => if r8 = 0 then some (-4, st9) else ax_bind (fX8_isBetween y 0 99 st9) fun r10 st11 => if r10 = 0 then some (-4, st11) else ax_ld st11 18 4 (nI t) fun v12 => if v12 = 0 then ax_ld st11 17 4 (nI t) fun v13 => if v13 = -1 then (if st11.1 5 4 < 10 then some (0, st11) else some (-8, st11)) else some (-6, st11) else some (-5, st11))) = (ax_bind (fX8_isBetween x (loA k) 99 sx) fun r8 st9 => if r8 = 0 then some (-4, st9) else ax_bind (fX8_isBetween y 0 99 st9) fun r10 st11 => if r10 = 0 then some (-4, st11) else ax_ld st11 18 4 (nI t) fun v12 => if v12 = 0 then ax_ld st11 17 4 (nI t) fun v13 => if v13 = -1 then (if st11.1 5 4 < 10 then some (0, st11) else some (-8, st11)) else some (-6, st11) else some (-5, st11)) := by
          unfold loA
          by_cases h4 : k = 4
          · rw [if_pos ((qeq_4 (by omega)).mpr h4), if_pos h4]
          · rw [if_neg (fun hh => h4 ((qeq_4 (by omega)).mp hh)), if_neg h4]
        rw [hlo]
        by_cases hx : loA k ≤ x ∧ x ≤ 99
        · rw [pbtwX, pb, if_pos hx]
          simp only [i10, if_false]
          rw [argM hk, pb, pbtwX, pb]
          by_cases hy2 : (0 : Int32) ≤ y ∧ y ≤ 99
          · have hy3 : loA k ≤ y ∧ y ≤ 99 := by
              by_cases h4 : k = 4
              · rw [hy h4, loA, if_pos h4]; decide
              · rw [loA, if_neg h4]; exact hy2
            rw [if_pos hy2, if_pos hy3]
            simp only [i10, if_false]
            rw [isCrashedM hM hG ht, pb, pld (by omega) (by decide), X_cr hX ht]
            have hr := hG.r t
            by_cases hcr : a 18 t = 0
            · rw [if_pos ((qeq_0 (by omega)).mpr hcr), if_pos ((qeq_0 (by omega)).mpr hcr), pendM hM hG ht, pb, pld (by omega) (by decide), X_pn hX ht]
              by_cases hpn : a 17 t = 0
              · rw [if_pos ((pu_m1 (by omega)).mpr hpn), if_pos hpn]
                simp only [if_true]
                rw [X_n1 hX, M_n1 hM]
                by_cases hK : n 1 < 10
                · have hE := hG.lt1 hK
                  rw [if_pos ((qgt_10 (by omega)).mpr hK), if_neg (fun hh => absurd ((qeq_10 (by omega)).mp hh) (by omega)), pb, if_pos rfl]
                  have rx := rng _ _ _ hx
                  have ry := rng _ _ _ hy2
                  have e0 : (0 : Int32).toInt = 0 := by decide
                  have e1 : (99 : Int32).toInt = 99 := by decide
                  have e2 : (-99 : Int32).toInt = -99 := by decide
                  have hx4 : (loA k).toInt = if k = 4 then -99 else 0 := by
                    unfold loA
                    split <;> decide
                  refine ⟨nI (n 1), xInv sx n k t o x y, mInv sm n k t o x y, ?_, ?_, ?_, frX_inv _ _ _ _ _ _ _, frM_inv _ _ _ _ _ _ _⟩
                  · exact addInvX hX hE k o x y hK ht
                  · unfold mInv
                    simp (disch := omega) only [fX9_append, pb, pt, psto, pE1, M_n1 hM, M_n2 hM, nI_1, pI1, pI2]
                    simp [nI_1, nI_pred, M_n1 hM, M_n2 hM]
                  · refine Rl_cur h (frX_inv _ _ _ _ _ _ _) (frM_inv _ _ _ _ _ _ _) ⟨nInv n, aInv n a k t o, cInv n c x y, Good_inv hG hK hk ht ho ?_ ?_ (by omega) hcr hpn, RX_inv hX x y hK ht, RM_inv hM x y hK ht⟩
                    · split at hx4 <;> omega
                    · intro h5
                      rw [if_neg h5] at hx4
                      omega
                · rw [if_neg (fun hh => hK ((qgt_10 (by omega)).mp hh)), if_pos ((qeq_10 (by omega)).mpr (by omega)), pb, if_neg (by decide)]
                  exact ⟨_, _, _, rfl, rfl, h, GX.rf _, GM.rf _⟩
              · rw [if_neg (fun hh => hpn ((pu_m1 (by omega)).mp hh)), if_neg hpn, if_neg (fun hh => by rw [qnem10 (by omega)] at hh; exact hh), pb, if_neg (by decide)]
                exact ⟨_, _, _, rfl, rfl, h, GX.rf _, GM.rf _⟩
            · rw [if_neg (fun hh => hcr ((qeq_0 (by omega)).mp hh)), if_neg (fun hh => hcr ((qeq_0 (by omega)).mp hh)), pb, if_neg (by decide)]
              exact ⟨_, _, _, rfl, rfl, h, GX.rf _, GM.rf _⟩
          · have hy3 : ¬ (loA k ≤ y ∧ y ≤ 99) := by
              by_cases h4 : k = 4
              · rw [hy h4] at hy2
                exact absurd (by decide) hy2
              · rw [loA, if_neg h4]; exact hy2
            rw [if_neg hy2, if_neg hy3, if_pos rfl, if_pos rfl, pb, if_neg (by decide)]
            exact ⟨_, _, _, rfl, rfl, h, GX.rf _, GM.rf _⟩
        · rw [pbtwX, pb, if_neg hx, if_pos rfl, if_pos rfl, pb, if_neg (by decide)]
          exact ⟨_, _, _, rfl, rfl, h, GX.rf _, GM.rf _⟩
      · rw [if_neg hty, if_neg hty, pb, if_neg (by decide)]
        exact ⟨_, _, _, rfl, rfl, h, GX.rf _, GM.rf _⟩
    · rw [objX_n (X_n0 hX) (by omega) hn, objM_n (M_n0 hM) (by omega) hn, pb, pb, if_pos rfl, if_pos rfl, pb, if_neg (by decide)]
      exact ⟨_, _, _, rfl, rfl, h, GX.rf _, GM.rf _⟩
  · rw [thrX_n hn, thrM_n hn, pb, pb, if_pos rfl, if_pos rfl, pb, if_neg (by decide)]
    exact ⟨_, _, _, rfl, rfl, h, GX.rf _, GM.rf _⟩
theorem s_invokeRead (t o : Int32) : Sim1 (fX8_invokeRead t o) (fX9_invokeRead t o) := by
  intro sx sm h
  obtain ⟨r, sx1, sm1, g1, g2, g3, -⟩ := s_invoke h (k := 0) (by decide) t o 0 0 (by decide)
  exact ⟨r, sx1, sm1, by rw [fX8_invokeRead]; show ax_bind (fX8_invoke (nI 0) t o 0 0 sx) _ = _; rw [g1, pb], by rw [fX9_invokeRead]; show ax_bind (fX9_invoke (nI 0) t o 0 0 sm) _ = _; rw [g2, pb], g3⟩
theorem s_invokeWrite (t o x : Int32) : Sim1 (fX8_invokeWrite t o x) (fX9_invokeWrite t o x) := by
  intro sx sm h
  obtain ⟨r, sx1, sm1, g1, g2, g3, -⟩ := s_invoke h (k := 1) (by decide) t o x 0 (by decide)
  exact ⟨r, sx1, sm1, by rw [fX8_invokeWrite]; show ax_bind (fX8_invoke (nI 1) t o x 0 sx) _ = _; rw [g1, pb], by rw [fX9_invokeWrite]; show ax_bind (fX9_invoke (nI 1) t o x 0 sm) _ = _; rw [g2, pb], g3⟩
theorem s_invokeCompareAndSet (t o x y : Int32) : Sim1 (fX8_invokeCompareAndSet t o x y) (fX9_invokeCompareAndSet t o x y) := by
  intro sx sm h
  obtain ⟨r, sx1, sm1, g1, g2, g3, -⟩ := s_invoke h (k := 2) (by decide) t o x y (fun hh => by omega)
  exact ⟨r, sx1, sm1, by rw [fX8_invokeCompareAndSet]; show ax_bind (fX8_invoke (nI 2) t o x y sx) _ = _; rw [g1, pb], by rw [fX9_invokeCompareAndSet]; show ax_bind (fX9_invoke (nI 2) t o x y sm) _ = _; rw [g2, pb], g3⟩
theorem s_invokeGet (t o : Int32) : Sim1 (fX8_invokeGet t o) (fX9_invokeGet t o) := by
  intro sx sm h
  obtain ⟨r, sx1, sm1, g1, g2, g3, -⟩ := s_invoke h (k := 3) (by decide) t o 0 0 (by decide)
  exact ⟨r, sx1, sm1, by rw [fX8_invokeGet]; show ax_bind (fX8_invoke (nI 3) t o 0 0 sx) _ = _; rw [g1, pb], by rw [fX9_invokeGet]; show ax_bind (fX9_invoke (nI 3) t o 0 0 sm) _ = _; rw [g2, pb], g3⟩
theorem s_invokeAdd (t o x : Int32) : Sim1 (fX8_invokeAdd t o x) (fX9_invokeAdd t o x) := by
  intro sx sm h
  obtain ⟨r, sx1, sm1, g1, g2, g3, -⟩ := s_invoke h (k := 4) (by decide) t o x 0 (by decide)
  exact ⟨r, sx1, sm1, by rw [fX8_invokeAdd]; show ax_bind (fX8_invoke (nI 4) t o x 0 sx) _ = _; rw [g1, pb], by rw [fX9_invokeAdd]; show ax_bind (fX9_invoke (nI 4) t o x 0 sm) _ = _; rw [g2, pb], g3⟩
theorem s_invokeEnqueue (t o x : Int32) : Sim1 (fX8_invokeEnqueue t o x) (fX9_invokeEnqueue t o x) := by
  intro sx sm h
  obtain ⟨r, sx1, sm1, g1, g2, g3, -⟩ := s_invoke h (k := 5) (by decide) t o x 0 (by decide)
  exact ⟨r, sx1, sm1, by rw [fX8_invokeEnqueue]; show ax_bind (fX8_invoke (nI 5) t o x 0 sx) _ = _; rw [g1, pb], by rw [fX9_invokeEnqueue]; show ax_bind (fX9_invoke (nI 5) t o x 0 sm) _ = _; rw [g2, pb], g3⟩
theorem s_invokeDequeue (t o : Int32) : Sim1 (fX8_invokeDequeue t o) (fX9_invokeDequeue t o) := by
  intro sx sm h
  obtain ⟨r, sx1, sm1, g1, g2, g3, -⟩ := s_invoke h (k := 6) (by decide) t o 0 0 (by decide)
  exact ⟨r, sx1, sm1, by rw [fX8_invokeDequeue]; show ax_bind (fX8_invoke (nI 6) t o 0 0 sx) _ = _; rw [g1, pb], by rw [fX9_invokeDequeue]; show ax_bind (fX9_invoke (nI 6) t o 0 0 sm) _ = _; rw [g2, pb], g3⟩
theorem s_invokeInsert (t o x : Int32) : Sim1 (fX8_invokeInsert t o x) (fX9_invokeInsert t o x) := by
  intro sx sm h
  obtain ⟨r, sx1, sm1, g1, g2, g3, -⟩ := s_invoke h (k := 7) (by decide) t o x 0 (by decide)
  exact ⟨r, sx1, sm1, by rw [fX8_invokeInsert]; show ax_bind (fX8_invoke (nI 7) t o x 0 sx) _ = _; rw [g1, pb], by rw [fX9_invokeInsert]; show ax_bind (fX9_invoke (nI 7) t o x 0 sm) _ = _; rw [g2, pb], g3⟩
theorem s_invokeRemove (t o x : Int32) : Sim1 (fX8_invokeRemove t o x) (fX9_invokeRemove t o x) := by
  intro sx sm h
  obtain ⟨r, sx1, sm1, g1, g2, g3, -⟩ := s_invoke h (k := 8) (by decide) t o x 0 (by decide)
  exact ⟨r, sx1, sm1, by rw [fX8_invokeRemove]; show ax_bind (fX8_invoke (nI 8) t o x 0 sx) _ = _; rw [g1, pb], by rw [fX9_invokeRemove]; show ax_bind (fX9_invoke (nI 8) t o x 0 sm) _ = _; rw [g2, pb], g3⟩
theorem s_invokeContains (t o x : Int32) : Sim1 (fX8_invokeContains t o x) (fX9_invokeContains t o x) := by
  intro sx sm h
  obtain ⟨r, sx1, sm1, g1, g2, g3, -⟩ := s_invoke h (k := 9) (by decide) t o x 0 (by decide)
  exact ⟨r, sx1, sm1, by rw [fX8_invokeContains]; show ax_bind (fX8_invoke (nI 9) t o x 0 sx) _ = _; rw [g1, pb], by rw [fX9_invokeContains]; show ax_bind (fX9_invoke (nI 9) t o x 0 sm) _ = _; rw [g2, pb], g3⟩