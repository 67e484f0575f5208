/-! THE PURE PART: responses, crashes, a step back, reset. -/
theorem nI_l1 : nI 1 = (1 : Int32) := rfl
theorem nI_l2 : nI 2 = (2 : Int32) := rfl
theorem waitX {s : ax_S} {n : vN} {a : vA} {c : vC} (hX : RX 1 s n a c) (hG : Good n a c) {t : Nat} (ht : t < 4) : fX8_waitingError (nI t) s = some (if a 18 t = 0 then (if a 17 t = 0 then -7 else 0) else -5, s) := by
  have hb := hG.b
  have hr := hG.r t
  unfold fX8_waitingError
  rw [thrX_p ht, pb, if_neg (by decide), pld (by omega) (by decide), X_cr hX ht]
  by_cases hcr : a 18 t = 0
  · rw [if_pos ((qeq_0 (by omega)).mpr hcr), if_pos hcr, pld (by omega) (by decide), X_pn hX ht]
    by_cases hpn : a 17 t = 0
    · rw [if_pos hpn, hpn, hasX_n (X_n1 hX) (by omega) (fun hh => by
        obtain ⟨j, h1, h2⟩ := hh
        have h3 : (nI j = (-1 : Int32)) = False := qnem1 (by omega)
        rw [← h3, ← h2]; decide), pb, if_pos rfl]
    · have hp := (hG.p t ht).2 hpn
      rw [if_neg hpn, pu_sub1 (by omega), hasX_p (X_n1 hX) (by omega) hp.1, pb, if_neg (by decide)]
  · rw [if_neg (fun hh => hcr ((qeq_0 (by omega)).mp hh)), if_neg hcr]
theorem waitX_n {t : Int32} (h : ¬ ∃ j, j < 4 ∧ t = nI j) (s : ax_S) : fX8_waitingError t s = some (-1, s) := by
  unfold fX8_waitingError
  rw [thrX_n h, pb, if_pos rfl]
theorem mayM {s : ax_S} {n : vN} {a : vA} {c : vC} (hM : RM s n a c) (hG : Good n a c) {t : Nat} (ht : t < 4) : fX9_mayRespond (nI t) s = some (if a 18 t = 0 then (if a 17 t = 0 then -7 else nI (a 17 t - 1)) else -5, s) := by
  have hb := hG.b
  have hr := hG.r t
  unfold fX9_mayRespond fX9_mayRespond_b38
  rw [thrM_p ht, pb, if_neg (by decide), isCrashedM hM hG ht, pb]
  by_cases hcr : a 18 t = 0
  · rw [if_pos ((qeq_0 (by omega)).mpr hcr), if_pos hcr, pendM hM hG ht, pb]
    by_cases hpn : a 17 t = 0
    · rw [if_pos hpn, if_pos hpn, if_pos rfl]
    · rw [if_neg hpn, if_neg hpn, if_neg (fun hh => by rw [qnem10 (by omega)] at hh; exact hh)]
  · rw [if_neg (fun hh => hcr ((qeq_0 (by omega)).mp hh)), if_neg hcr]
theorem mayM_n {t : Int32} (h : ¬ ∃ j, j < 4 ∧ t = nI j) (s : ax_S) : fX9_mayRespond t s = some (-1, s) := by
  unfold fX9_mayRespond fX9_mayRespond_b38
  rw [thrM_n h, pb, if_pos rfl]
/-- a response's error, or 0 where it may be given -/
def eRsp (a : vA) (t : Nat) (x : Int32) : Int32 := if a 18 t = 0 then (if a 17 t = 0 then -7 else if loR (a 3 (a 17 t - 1)) ≤ x ∧ x ≤ hiR (a 3 (a 17 t - 1)) then 0 else -4) else -5
theorem rspX {s : ax_S} {n : vN} {a : vA} {c : vC} (hX : RX 1 s n a c) (hG : Good n a c) {t : Nat} (ht : t < 4) (x : Int32) : fX8_responseError (nI t) x s = some (eRsp a t x, s) := by
  have hb := hG.b
  have hr := hG.r t
  unfold fX8_responseError eRsp
  rw [waitX hX hG ht, pb]
  by_cases hcr : a 18 t = 0
  · rw [if_pos hcr, if_pos hcr]
    by_cases hpn : a 17 t = 0
    · rw [if_pos hpn, if_pos hpn, if_neg (by decide)]
    · have hp := (hG.p t ht).2 hpn
      have hk := (hG.r (a 17 t - 1)).1
      rw [if_neg hpn, if_neg hpn, if_pos rfl, pld (by omega) (by decide), X_pn hX ht, pu_sub1 (by omega), pld (by omega) (by decide), X_kd hX (by omega), loX hk, pb, hiX hk, pb, pbtwX, pb]
      by_cases hx : loR (a 3 (a 17 t - 1)) ≤ x ∧ x ≤ hiR (a 3 (a 17 t - 1))
      · rw [if_pos hx, if_pos hx, if_neg (by decide)]
      · rw [if_neg hx, if_neg hx, if_pos rfl]
  · rw [if_neg hcr, if_neg hcr, if_neg (by decide)]
theorem rspX_n {t : Int32} (h : ¬ ∃ j, j < 4 ∧ t = nI j) (x : Int32) (s : ax_S) : fX8_responseError t x s = some (-1, s) := by
  unfold fX8_responseError
  rw [waitX_n h, pb, if_neg (by decide)]
theorem rspM {s : ax_S} {n : vN} {a : vA} {c : vC} (hM : RM s n a c) (hG : Good n a c) {t : Nat} (ht : t < 4) (x : Int32) : fX9_mayRespondWith (nI t) x s = some (if eRsp a t x = 0 then nI (a 17 t - 1) else eRsp a t x, s) := by
  have hb := hG.b
  have hr := hG.r t
  unfold fX9_mayRespondWith fX9_mayRespondWith_b35 fX9_mayRespondWith_b41 eRsp
  rw [mayM hM hG ht, pb]
  by_cases hcr : a 18 t = 0
  · rw [if_pos hcr, if_pos hcr]
    by_cases hpn : a 17 t = 0
    · rw [if_pos hpn, if_pos hpn, if_pos (by decide), if_neg (by decide)]
    · have hp := (hG.p t ht).2 hpn
      have hk := (hG.r (a 17 t - 1)).1
      rw [if_neg hpn, if_neg hpn, if_neg (nI_pos (by omega)), pld (by omega) (by decide), M_kd hM (by omega), loM hk, pb, pld (by omega) (by decide), M_kd hM (by omega), hiM hk, pb, pbtwM, pb]
      by_cases hx : loR (a 3 (a 17 t - 1)) ≤ x ∧ x ≤ hiR (a 3 (a 17 t - 1))
      · rw [if_pos hx, if_pos hx, if_neg (by decide), if_pos rfl]
      · rw [if_neg hx, if_neg hx, if_pos rfl, if_neg (by decide)]
  · rw [if_neg hcr, if_neg hcr, if_pos (by decide), if_neg (by decide)]
theorem rspM_n {t : Int32} (h : ¬ ∃ j, j < 4 ∧ t = nI j) (x : Int32) (s : ax_S) : fX9_mayRespondWith t x s = some (-1, s) := by
  unfold fX9_mayRespondWith fX9_mayRespondWith_b35 fX9_mayRespondWith_b41
  rw [mayM_n h, pb, if_pos (by decide)]
theorem eRsp_0 {a : vA} {t : Nat} {x : Int32} (h : eRsp a t x = 0) : a 18 t = 0 ∧ a 17 t ≠ 0 ∧ loR (a 3 (a 17 t - 1)) ≤ x ∧ x ≤ hiR (a 3 (a 17 t - 1)) := by
  unfold eRsp at h
  by_cases hcr : a 18 t = 0
  · rw [if_pos hcr] at h
    by_cases hpn : a 17 t = 0
    · rw [if_pos hpn] at h
      exact absurd h (by decide)
    · rw [if_neg hpn] at h
      by_cases hx : loR (a 3 (a 17 t - 1)) ≤ x ∧ x ≤ hiR (a 3 (a 17 t - 1))
      · exact ⟨hcr, hpn, hx⟩
      · rw [if_neg hx] at h
        exact absurd h (by decide)
  · rw [if_neg hcr] at h
    exact absurd h (by decide)
theorem eRsp_neg {a : vA} {t : Nat} {x : Int32} (h : eRsp a t x ≠ 0) : eRsp a t x < 0 := by
  unfold eRsp at h ⊢
  split
  · split
    · decide
    · split
      · rename_i h1 h2 h3
        rw [if_pos h1, if_neg h2, if_pos h3] at h
        exact absurd rfl h
      · decide
  · decide
def xRsp (s : ax_S) (n : vN) (t i : Nat) (x : Int32) : ax_S := ax_sI (ax_sI (ax_sE (ax_sE (ax_sE (ax_sE (ax_sE (ax_sE s 15 i (nI (n 2))) 16 i x) 17 t (-1)) 6 (n 2) 1) 7 (n 2) (nI t)) 8 (n 2) (nI i)) 5 0 (nI (n 2 + 1))) 20 0 0
def mRsp (s : ax_S) (n : vN) (t i : Nat) (x : Int32) : ax_S := ax_sE (ax_sI (ax_sI (ax_sE (ax_sE (ax_sE (ax_sE s 10 i x) 11 (n 2) 1) 12 (n 2) (nI t)) 13 (n 2) (nI i)) 0 12 (nI (n 2 + 1))) 0 16 0) 9 i (nI (n 2))
def cRsp (c : vC) (i : Nat) (x : Int32) : vC := sC c 10 i x
theorem RX_rsp {s : ax_S} {n : vN} {a : vA} {c : vC} (hX : RX 1 s n a c) {t i : Nat} (x : Int32) (hE : n 2 < 24) (ht : t < 4) (hi : i < 10) : RX 1 (xRsp s n t i x) (nRsp n) (aRsp n a t i) (cRsp c i x) := by
  refine ⟨?_, fun j hj => ?_, fun j hj => ?_, fun j hj => ?_⟩
  · simp [pI1, pI2, pE1, pE2, nI_0, nI_l1, nI_l2, nI_pred, nI_1, xRsp, nRsp, aRsp, cRsp, sN, sV, sC, X_n0 hX, X_n1 hX, X_n2 hX, X_n3 hX]
  · by_cases q1 : j = t <;> simp [pI1, pI2, pE1, pE2, nI_0, nI_l1, nI_l2, nI_pred, nI_1, xRsp, nRsp, aRsp, cRsp, sN, sV, sC, hj, q1, ht, X_n0 hX, X_n1 hX, X_n2 hX, X_n3 hX, X_ty hX, X_in hX, X_pn hX, X_cr hX, X_kd hX, X_th hX, X_ob hX, X_fa hX, X_sa hX, X_iv hX, X_rs hX, X_re hX, X_od hX, X_fo hX, X_te hX]
  · by_cases q1 : j = i <;> simp [pI1, pI2, pE1, pE2, nI_0, nI_l1, nI_l2, nI_pred, nI_1, xRsp, nRsp, aRsp, cRsp, sN, sV, sC, hj, q1, hi, X_n0 hX, X_n1 hX, X_n2 hX, X_n3 hX, X_ty hX, X_in hX, X_pn hX, X_cr hX, X_kd hX, X_th hX, X_ob hX, X_fa hX, X_sa hX, X_iv hX, X_rs hX, X_re hX, X_od hX, X_fo hX, X_te hX]
  · by_cases q1 : j = n 2 <;> simp [pI1, pI2, pE1, pE2, nI_0, nI_l1, nI_l2, nI_pred, nI_1, xRsp, nRsp, aRsp, cRsp, sN, sV, sC, hj, q1, hE, X_n0 hX, X_n1 hX, X_n2 hX, X_n3 hX, X_ty hX, X_in hX, X_pn hX, X_cr hX, X_kd hX, X_th hX, X_ob hX, X_fa hX, X_sa hX, X_iv hX, X_rs hX, X_re hX, X_od hX, X_fo hX, X_te hX]
    intro g1 g2
    exact X_oe hX (by omega) (by omega) g2
theorem RM_rsp {s : ax_S} {n : vN} {a : vA} {c : vC} (hM : RM s n a c) {t i : Nat} (x : Int32) (hE : n 2 < 24) (ht : t < 4) (hi : i < 10) : RM (mRsp s n t i x) (nRsp n) (aRsp n a t i) (cRsp c i x) := by
  refine ⟨?_, fun j hj => ?_, fun j hj => ?_, fun j hj => ?_⟩
  · simp [pI1, pI2, pE1, pE2, nI_0, nI_l1, nI_l2, nI_pred, nI_1, mRsp, nRsp, aRsp, cRsp, sN, sV, sC, M_n0 hM, M_n1 hM, M_n2 hM, M_n3 hM]
  · simp [pI1, pI2, pE1, pE2, nI_0, nI_l1, nI_l2, nI_pred, nI_1, mRsp, nRsp, aRsp, cRsp, sN, sV, sC, hj, M_n0 hM, M_n1 hM, M_n2 hM, M_n3 hM, M_ty hM, M_in hM, M_kd hM, M_th hM, M_ob hM, M_fa hM, M_sa hM, M_iv hM, M_rs hM, M_re hM, M_od hM, M_fo hM, M_te hM]
  · by_cases q1 : j = i <;> simp [pI1, pI2, pE1, pE2, nI_0, nI_l1, nI_l2, nI_pred, nI_1, mRsp, nRsp, aRsp, cRsp, sN, sV, sC, hj, q1, hi, M_n0 hM, M_n1 hM, M_n2 hM, M_n3 hM, M_ty hM, M_in hM, M_kd hM, M_th hM, M_ob hM, M_fa hM, M_sa hM, M_iv hM, M_rs hM, M_re hM, M_od hM, M_fo hM, M_te hM]
  · by_cases q1 : j = n 2 <;> simp [pI1, pI2, pE1, pE2, nI_0, nI_l1, nI_l2, nI_pred, nI_1, mRsp, nRsp, aRsp, cRsp, sN, sV, sC, hj, q1, hE, M_n0 hM, M_n1 hM, M_n2 hM, M_n3 hM, M_ty hM, M_in hM, M_kd hM, M_th hM, M_ob hM, M_fa hM, M_sa hM, M_iv hM, M_rs hM, M_re hM, M_od hM, M_fo hM, M_te hM]
    intro g1 g2
    exact M_oe hM (by omega) (by omega) g2
theorem Good_res {n : vN} {a : vA} {c : vC} (h : Good n a c) (i : Nat) (x : Int32) : Good n a (cRsp c i x) :=
  ⟨h.1, h.r, fun j => by have := h.cc j; simpa [cRsp, sC] using this, h.o, h.t, h.e, h.x, h.p, h.q, h.s⟩
theorem s_respondG {sx sm : ax_S} (h : Rl sx sm) (t x : Int32) : ∃ (r : Int32) (sx1 sm1 : ax_S), fX8_respond t x sx = some (r, sx1) ∧ fX9_respond t x sm = some (r, sm1) ∧ Rl sx1 sm1 ∧ GX sx sx1 ∧ GM sm sm1 := by
  obtain ⟨n, a, c, hG, hX, hM⟩ := h.1
  have hb := hG.b
  unfold fX8_respond fX9_respond fX9_respond_b31
  rcases Classical.em (∃ j, j < 4 ∧ t = nI j) with ⟨t, ht, rfl⟩ | hn
  · rw [rspX hX hG ht, rspM hM hG ht, pb, pb]
    have hr := hG.r t
    by_cases he : eRsp a t x = 0
    · obtain ⟨hcr, hpn, -⟩ := eRsp_0 he
      have hp := (hG.p t ht).2 hpn
      have hi : a 17 t - 1 < 10 := by omega
      have hE := hG.lt2 hp.1 hp.2.2
      rw [if_pos he, if_pos he, if_neg (nI_pos (by omega)), pld (by omega) (by decide), X_pn hX ht, pu_sub1 (by omega)]
      refine ⟨nI (a 17 t - 1), xRsp sx n t (a 17 t - 1) x, mRsp sm n t (a 17 t - 1) x, ?_, ?_, ?_⟩
      · unfold xRsp fX0_addResponse fX0_addEvent fX0_addEvent_b49 fX2_empty
        rw [pld (by omega) (by decide), X_pn hX ht, pu_sub1 (by omega), hasX_p (X_n1 hX) (by omega) hp.1, pb, if_neg (by decide)]
        simp (disch := omega) only [pb, pt, psto, pE1, X_n1 hX, X_n2 hX, qle_24, if_pos, if_neg, nI_1, pI1]
      · unfold mRsp fX9_append
        simp (disch := omega) only [pb, pt, psto, pE1, M_n1 hM, M_n2 hM, nI_1, pI1, pI2]
        simp [nI_1, nI_pred, M_n1 hM, M_n2 hM]
      · have gx : GX sx (xRsp sx n t (a 17 t - 1) x) := fun p hp => by
          unfold xRsp
          simp (disch := omega) only [pI1n, pI2, pE1, pE2n, and_self]
        have gm : GM sm (mRsp sm n t (a 17 t - 1) x) := ⟨fun p hp => by
          unfold mRsp
          rw [pE1, pI1, if_neg (by omega), pI1, if_neg (by omega)]
          rfl, fun p hp => by
          unfold mRsp
          simp (disch := omega) only [pI2, pE2n]⟩
        exact ⟨Rl_cur h gx gm ⟨_, _, _, Good_res (Good_rsp hG hp.1 hp.2.2 hp.2.1 hcr) (a 17 t - 1) x, RX_rsp hX x hE ht hi, RM_rsp hM x hE ht hi⟩, gx, gm⟩
    · rw [if_neg he, if_neg he, if_pos (eRsp_neg he)]
      exact ⟨_, _, _, rfl, rfl, h, GX.rf _, GM.rf _⟩
  · rw [rspX_n hn, rspM_n hn, pb, pb, if_neg (by decide), if_pos (by decide)]
    exact ⟨_, _, _, rfl, rfl, h, GX.rf _, GM.rf _⟩
theorem s_respond (t x : Int32) : Sim1 (fX8_respond t x) (fX9_respond t x) := by
  intro sx sm h
  obtain ⟨r, sx1, sm1, g1, g2, g3, -⟩ := s_respondG h t x
  exact ⟨r, sx1, sm1, g1, g2, g3⟩
def xCrs (s : ax_S) (n : vN) (t : Nat) : ax_S := ax_sI (ax_sI (ax_sE (ax_sE (ax_sE (ax_sE s 18 t 1) 6 (n 2) 2) 7 (n 2) (nI t)) 8 (n 2) (-1)) 5 0 (nI (n 2 + 1))) 20 0 0
def mCrs (s : ax_S) (n : vN) (t : Nat) : ax_S := ax_sI (ax_sI (ax_sE (ax_sE (ax_sE s 11 (n 2) 2) 12 (n 2) (nI t)) 13 (n 2) (-10)) 0 12 (nI (n 2 + 1))) 0 16 0

theorem RX_crs {s : ax_S} {n : vN} {a : vA} {c : vC} (hX : RX 1 s n a c) {t : Nat} (hE : n 2 < 24) (ht : t < 4) : RX 1 (xCrs s n t) (nRsp n) (aCrs n a t) c := by
  refine ⟨?_, fun j hj => ?_, fun j hj => ?_, fun j hj => ?_⟩
  · simp [pI1, pI2, pE1, pE2, nI_0, nI_l1, nI_l2, nI_pred, nI_1, xCrs, nRsp, aCrs, sN, sV, X_n0 hX, X_n1 hX, X_n2 hX, X_n3 hX]
  · by_cases q1 : j = t <;> simp [pI1, pI2, pE1, pE2, nI_0, nI_l1, nI_l2, nI_pred, nI_1, xCrs, nRsp, aCrs, sN, sV, hj, q1, ht, X_n0 hX, X_n1 hX, X_n2 hX, X_n3 hX, X_ty hX, X_in hX, X_pn hX, X_cr hX, X_kd hX, X_th hX, X_ob hX, X_fa hX, X_sa hX, X_iv hX, X_rs hX, X_re hX, X_od hX, X_fo hX, X_te hX]
  · simp [pI1, pI2, pE1, pE2, nI_0, nI_l1, nI_l2, nI_pred, nI_1, xCrs, nRsp, aCrs, sN, sV, hj, X_n0 hX, X_n1 hX, X_n2 hX, X_n3 hX, X_ty hX, X_in hX, X_pn hX, X_cr hX, X_kd hX, X_th hX, X_ob hX, X_fa hX, X_sa hX, X_iv hX, X_rs hX, X_re hX, X_od hX, X_fo hX, X_te hX]
  · by_cases q1 : j = n 2 <;> simp [pI1, pI2, pE1, pE2, nI_0, nI_l1, nI_l2, nI_pred, nI_1, xCrs, nRsp, aCrs, sN, sV, hj, q1, hE, X_n0 hX, X_n1 hX, X_n2 hX, X_n3 hX, X_ty hX, X_in hX, X_pn hX, X_cr hX, X_kd hX, X_th hX, X_ob hX, X_fa hX, X_sa hX, X_iv hX, X_rs hX, X_re hX, X_od hX, X_fo hX, X_te hX]
    intro g1 g2
    exact X_oe hX (by omega) (by omega) g2
theorem RM_crs {s : ax_S} {n : vN} {a : vA} {c : vC} (hM : RM s n a c) {t : Nat} (hE : n 2 < 24) (ht : t < 4) : RM (mCrs s n t) (nRsp n) (aCrs n a t) c := by
  refine ⟨?_, fun j hj => ?_, fun j hj => ?_, fun j hj => ?_⟩
  · simp [pI1, pI2, pE1, pE2, nI_0, nI_l1, nI_l2, nI_pred, nI_1, mCrs, nRsp, aCrs, sN, sV, M_n0 hM, M_n1 hM, M_n2 hM, M_n3 hM]
  · simp [pI1, pI2, pE1, pE2, nI_0, nI_l1, nI_l2, nI_pred, nI_1, mCrs, nRsp, aCrs, sN, sV, hj, M_n0 hM, M_n1 hM, M_n2 hM, M_n3 hM, M_ty hM, M_in hM, M_kd hM, M_th hM, M_ob hM, M_fa hM, M_sa hM, M_iv hM, M_rs hM, M_re hM, M_od hM, M_fo hM, M_te hM]
  · simp [pI1, pI2, pE1, pE2, nI_0, nI_l1, nI_l2, nI_pred, nI_1, mCrs, nRsp, aCrs, sN, sV, hj, M_n0 hM, M_n1 hM, M_n2 hM, M_n3 hM, M_ty hM, M_in hM, M_kd hM, M_th hM, M_ob hM, M_fa hM, M_sa hM, M_iv hM, M_rs hM, M_re hM, M_od hM, M_fo hM, M_te hM]
  · by_cases q1 : j = n 2 <;> simp [pI1, pI2, pE1, pE2, nI_0, nI_l1, nI_l2, nI_pred, nI_1, mCrs, nRsp, aCrs, sN, sV, hj, q1, hE, M_n0 hM, M_n1 hM, M_n2 hM, M_n3 hM, M_ty hM, M_in hM, M_kd hM, M_th hM, M_ob hM, M_fa hM, M_sa hM, M_iv hM, M_rs hM, M_re hM, M_od hM, M_fo hM, M_te hM]
    intro g1 g2
    exact M_oe hM (by omega) (by omega) g2
theorem s_crashG {sx sm : ax_S} (h : Rl sx sm) (t : Int32) : ∃ (r : Int32) (sx1 sm1 : ax_S), fX8_crash t sx = some (r, sx1) ∧ fX9_crash t sm = some (r, sm1) ∧ Rl sx1 sm1 ∧ GX sx sx1 ∧ GM sm sm1 := by
  obtain ⟨n, a, c, hG, hX, hM⟩ := h.1
  have hb := hG.b
  unfold fX8_crash fX9_crash fX9_crash_b30
  rcases Classical.em (∃ j, j < 4 ∧ t = nI j) with ⟨t, ht, rfl⟩ | hn
  · have hr := hG.r t
    rw [thrX_p ht, thrM_p ht, pb, pb, if_neg (by decide), if_neg (by decide), pld (by omega) (by decide), X_cr hX ht, isCrashedM hM hG ht, pb]
    by_cases hcr : a 18 t = 0
    · rw [if_pos ((qeq_0 (by omega)).mpr hcr), if_pos ((qeq_0 (by omega)).mpr hcr)]
      have hE := hG.lt3 ht hcr
      refine ⟨nI (n 2), xCrs sx n t, mCrs sm n t, ?_, ?_, ?_⟩
      · unfold xCrs fX0_addCrash fX0_addEvent fX0_addEvent_b49 fX2_empty
        rw [nar1]
        simp (disch := omega) only [pb, pt, psto, pE1, X_n1 hX, X_n2 hX, qle_24, if_pos, if_neg, nI_1, pI1]
      · unfold mCrs fX9_append
        simp (disch := omega) only [pb, pt, psto, pE1, M_n1 hM, M_n2 hM, nI_1, pI1, pI2]
        simp [nI_1, nI_pred, M_n1 hM, M_n2 hM]
      · have gx : GX sx (xCrs sx n t) := fun p hp => by
          unfold xCrs
          simp (disch := omega) only [pI1n, pI2, pE1, pE2n, and_self]
        have gm : GM sm (mCrs sm n t) := ⟨fun p hp => by
          unfold mCrs
          rw [pI1, if_neg (by omega), pI1, if_neg (by omega)]
          rfl, fun p hp => by
          unfold mCrs
          simp (disch := omega) only [pI2, pE2n]⟩
        exact ⟨Rl_cur h gx gm ⟨_, _, _, Good_crs hG ht hcr, RX_crs hX hE ht, RM_crs hM hE ht⟩, gx, gm⟩
    · rw [if_neg (fun hh => hcr ((qeq_0 (by omega)).mp hh)), if_neg (fun hh => hcr ((qeq_0 (by omega)).mp hh))]
      exact ⟨_, _, _, rfl, rfl, h, GX.rf _, GM.rf _⟩
  · rw [thrX_n hn, thrM_n hn, pb, pb, if_pos rfl, if_pos rfl]
    exact ⟨_, _, _, rfl, rfl, h, GX.rf _, GM.rf _⟩
theorem s_crash (t : Int32) : Sim1 (fX8_crash t) (fX9_crash t) := by
  intro sx sm h
  obtain ⟨r, sx1, sm1, g1, g2, g3, -⟩ := s_crashG h t
  exact ⟨r, sx1, sm1, g1, g2, g3⟩