/-! THE PURE PART: small steps of both sides. -/
theorem pI1n (st : ax_S) {o : Nat} (k : Nat) (v : Int32) {p : Nat} (h : p ≠ o) : (ax_sI st o k v).1 p = st.1 p := by
  funext b
  rw [pI1, if_neg (fun hh => h hh.1)]
theorem pE2n (st : ax_S) {o : Nat} (i : Nat) (x : Int32) {p : Nat} (h : p ≠ o) : (ax_sE st o i x).2 p = st.2 p := by
  funext b
  rw [pE2, if_neg h]
theorem pA2n (st : ax_S) {o : Nat} (f : Nat → Int32) {p : Nat} (h : p ≠ o) : (ax_sA st o f).2 p = st.2 p := by
  rw [pA2, if_neg h]
theorem i10 : ((1 : Int32) = 0) = False := by decide
theorem i01 : ((0 : Int32) = 0) = True := by decide
def GX (s t : ax_S) : Prop := ∀ o, (o = 0 ∨ 22 ≤ o) → t.1 o = s.1 o ∧ t.2 o = s.2 o
def GM (s t : ax_S) : Prop := (∀ k, 17 ≤ k → t.1 0 k = s.1 0 k) ∧ (∀ o, 15 ≤ o → t.2 o = s.2 o)
theorem GX.rf (s : ax_S) : GX s s := fun _ _ => ⟨rfl, rfl⟩
theorem GM.rf (s : ax_S) : GM s s := ⟨fun _ _ => rfl, fun _ _ => rfl⟩
theorem Rl_cur {sx sm tx tm : ax_S} (h : Rl sx sm) (hx : GX sx tx) (hm : GM sm tm) (hc : Rcur tx tm) : Rl tx tm := by
  obtain ⟨-, h4, ⟨T, h5, h6, h7, h8⟩, h9⟩ := h
  refine ⟨hc, ?_, ⟨T, h5, ?_, ?_, ?_⟩, ?_⟩
  · unfold Rsav at h4 ⊢
    rw [(hx 0 (by omega)).1, hm.1 41 (by omega)]
    rcases h4 with g | ⟨g1, g2, n, a, c, g3, g4, g5⟩
    · exact Or.inl g
    · exact Or.inr ⟨g1, g2, n, a, c, g3, RX_fr (fun o h1 h2 h3 => hx o (Or.inr (by omega))) g4, RS_fr (hm.2 27 (by omega)) g5⟩
  · rw [(hx 61 (by omega)).1]; exact h6
  · rw [hm.1 36 (by omega)]; exact h7
  · rw [(hx 62 (by omega)).2, hm.2 25 (by omega)]; exact h8
  · unfold Rnam at h9 ⊢
    rw [hm.2 24 (by omega)]; exact h9
theorem thrX_p {t : Nat} (h : t < 4) (st : ax_S) : fX8_isThread (nI t) st = some (1, st) := by
  unfold fX8_isThread
  rw [pbtwX, pb, if_pos ((pu_in (lo := 0) (hi := 3) (n := 3) rfl rfl (by decide)).mpr ⟨t, by omega, rfl⟩), prz1]
theorem thrX_n {t : Int32} (h : ¬ ∃ j, j < 4 ∧ t = nI j) (st : ax_S) : fX8_isThread t st = some (0, st) := by
  unfold fX8_isThread
  rw [pbtwX, pb, if_neg (fun hh => h (by obtain ⟨j, h1, h2⟩ := (pu_in (lo := 0) (hi := 3) (n := 3) rfl rfl (by decide)).mp hh; exact ⟨j, by omega, h2⟩)), prz0]
theorem thrM_p {t : Nat} (h : t < 4) (st : ax_S) : fX9_isThread (nI t) st = some (1, st) := by
  unfold fX9_isThread
  rw [pbtwM, pb, if_pos ((pu_in (lo := 0) (hi := 3) (n := 3) rfl rfl (by decide)).mpr ⟨t, by omega, rfl⟩), prz1]
theorem thrM_n {t : Int32} (h : ¬ ∃ j, j < 4 ∧ t = nI j) (st : ax_S) : fX9_isThread t st = some (0, st) := by
  unfold fX9_isThread
  rw [pbtwM, pb, if_neg (fun hh => h (by obtain ⟨j, h1, h2⟩ := (pu_in (lo := 0) (hi := 3) (n := 3) rfl rfl (by decide)).mp hh; exact ⟨j, by omega, h2⟩)), prz0]

theorem hasX_p {st : ax_S} {m j : Nat} (hm : st.1 5 4 = nI m) (hb : m < 2147483648) (h : j < m) : fX0_has (nI j) st = some (1, st) := by
  unfold fX0_has
  rw [pbtwX, pb, hm, if_pos ((pu_has hb).mpr ⟨j, h, rfl⟩), prz1]
theorem hasX_n {st : ax_S} {m : Nat} {x : Int32} (hm : st.1 5 4 = nI m) (hb : m < 2147483648) (h : ¬ ∃ j, j < m ∧ x = nI j) : fX0_has x st = some (0, st) := by
  unfold fX0_has
  rw [pbtwX, pb, hm, if_neg (fun hh => h ((pu_has hb).mp hh)), prz0]
theorem objX_p {st : ax_S} {m j : Nat} (hm : st.1 2 0 = nI m) (hb : m < 2147483648) (h : j < m) : fX1_has (nI j) st = some (1, st) := by
  unfold fX1_has
  rw [pbtwX, pb, hm, if_pos ((pu_has hb).mpr ⟨j, h, rfl⟩), prz1]
theorem objX_n {st : ax_S} {m : Nat} {x : Int32} (hm : st.1 2 0 = nI m) (hb : m < 2147483648) (h : ¬ ∃ j, j < m ∧ x = nI j) : fX1_has x st = some (0, st) := by
  unfold fX1_has
  rw [pbtwX, pb, hm, if_neg (fun hh => h ((pu_has hb).mp hh)), prz0]
theorem hasM_p {st : ax_S} {m j : Nat} (hm : st.1 0 3 = nI m) (hb : m < 2147483648) (h : j < m) : fX9_isOperation (nI j) st = some (1, st) := by
  unfold fX9_isOperation
  rw [pbtwM, pb, hm, if_pos ((pu_has hb).mpr ⟨j, h, rfl⟩), prz1]
theorem hasM_n {st : ax_S} {m : Nat} {x : Int32} (hm : st.1 0 3 = nI m) (hb : m < 2147483648) (h : ¬ ∃ j, j < m ∧ x = nI j) : fX9_isOperation x st = some (0, st) := by
  unfold fX9_isOperation
  rw [pbtwM, pb, hm, if_neg (fun hh => h ((pu_has hb).mp hh)), prz0]
theorem objM_p {st : ax_S} {m j : Nat} (hm : st.1 0 0 = nI m) (hb : m < 2147483648) (h : j < m) : fX9_isObject (nI j) st = some (1, st) := by
  unfold fX9_isObject
  rw [pbtwM, pb, hm, if_pos ((pu_has hb).mpr ⟨j, h, rfl⟩), prz1]
theorem objM_n {st : ax_S} {m : Nat} {x : Int32} (hm : st.1 0 0 = nI m) (hb : m < 2147483648) (h : ¬ ∃ j, j < m ∧ x = nI j) : fX9_isObject x st = some (0, st) := by
  unfold fX9_isObject
  rw [pbtwM, pb, hm, if_neg (fun hh => h ((pu_has hb).mp hh)), prz0]
theorem isPendX {st : ax_S} {n : vN} {a : vA} {c : vC} (hX : RX 1 st n a c) (hR : GdR a) {j : Nat} (hj : j < 10) : fX0_isPending (nI j) st = some (if a 9 j = 0 then 1 else 0, st) := by
  have h9 := (hR j).2.2.2.2.1
  unfold fX0_isPending fX0_isPending_b15
  simp (disch := omega) only [pld, X_rs hX, pu_m1]
  split
  · exact prz1 st
  · exact prz0 st
/-- one operation before another, on the recording's numbers -/
def bfr (a : vA) (i j : Nat) : Prop := a 9 i ≠ 0 ∧ a 9 i ≤ a 8 j
theorem pu_rs {u v : Nat} (hu : u < 2147483648) (hv : v < 2147483648) : (nI v ≤ nI u - 1) = (v + 1 ≤ u) := by
  by_cases h : u = 0
  · subst h
    apply propext
    rw [Int32.le_iff_toInt_le, nI_toInt (by omega)]
    have : (nI 0 - 1).toInt = -1 := by decide
    rw [this]
    omega
  · rw [pu_sub1 (by omega), qle (by omega) (by omega)]
    apply propext
    omega
theorem bfrX {st : ax_S} {n : vN} {a : vA} {c : vC} (hX : RX 1 st n a c) (hR : GdR a) {i j : Nat} (hi : i < 10) (hj : j < 10) : ∃ r, fX0_isBefore (nI i) (nI j) st = some (r, st) ∧ ((r = 1 ∧ bfr a i j) ∨ (r = 0 ∧ ¬ bfr a i j)) := by
  have h9 := (hR i).2.2.2.2.1
  have h8 := (hR j).2.2.2.1
  unfold fX0_isBefore fX0_isBefore_b27 fX0_isBefore_b28 bfr
  rw [isPendX hX hR hi, pb]
  by_cases h : a 9 i = 0
  · simp only [h, if_true, i10, if_false]
    exact ⟨0, prz0 st, Or.inr ⟨rfl, by simp⟩⟩
  · simp (disch := omega) only [h, if_false, if_true, pld, X_rs hX, X_iv hX, pu_rs]
    by_cases h2 : a 8 j + 1 ≤ a 9 i
    · simp only [h2, if_true]
      exact ⟨0, prz0 st, Or.inr ⟨rfl, by omega⟩⟩
    · simp only [h2, if_false]
      exact ⟨1, prz1 st, Or.inl ⟨rfl, h, by omega⟩⟩
theorem bfrM {st : ax_S} {n : vN} {a : vA} {c : vC} (hM : RM st n a c) (hR : GdR a) {i j : Nat} (hi : i < 10) (hj : j < 10) : ∃ r, fX9_isBefore (nI i) (nI j) st = some (r, st) ∧ ((r = 1 ∧ bfr a i j) ∨ (r = 0 ∧ ¬ bfr a i j)) := by
  have h9 := (hR i).2.2.2.2.1
  have h8 := (hR j).2.2.2.1
  unfold fX9_isBefore fX9_isBefore_b29 fX9_isBefore_b30 bfr
  simp (disch := omega) only [pld, M_rs hM, M_iv hM, pu_m1, pu_rs]
  by_cases h : a 9 i = 0
  · simp only [h, if_true]
    exact ⟨0, prz0 st, Or.inr ⟨rfl, by simp⟩⟩
  · simp only [h, if_false]
    by_cases h2 : a 8 j + 1 ≤ a 9 i
    · simp only [h2, if_true]
      exact ⟨0, prz0 st, Or.inr ⟨rfl, by omega⟩⟩
    · simp only [h2, if_false]
      exact ⟨1, prz1 st, Or.inl ⟨rfl, h, by omega⟩⟩
abbrev Sim1 (f g : ax_S → ax_R) : Prop := ∀ (sx sm : ax_S), Rl sx sm → ∃ (r : Int32) (sx1 sm1 : ax_S), f sx = some (r, sx1) ∧ g sm = some (r, sm1) ∧ Rl sx1 sm1
theorem s_eventCount : Sim1 fX8_eventCount fX9_eventCount := by
  intro sx sm h
  obtain ⟨n, a, c, hG, hX, hM⟩ := h.1
  exact ⟨nI (n 2), sx, sm, by rw [fX8_eventCount, X_n2 hX], by rw [fX9_eventCount, M_n2 hM], h⟩
theorem s_operationCount : Sim1 fX8_operationCount fX9_operationCount := by
  intro sx sm h
  obtain ⟨n, a, c, hG, hX, hM⟩ := h.1
  exact ⟨nI (n 1), sx, sm, by rw [fX8_operationCount, X_n1 hX], by rw [fX9_operationCount, M_n1 hM], h⟩
theorem s_objectCount : Sim1 fX8_objectCount fX9_objectCount := by
  intro sx sm h
  obtain ⟨n, a, c, hG, hX, hM⟩ := h.1
  exact ⟨nI (n 0), sx, sm, by rw [fX8_objectCount, X_n0 hX], by rw [fX9_objectCount, M_n0 hM], h⟩
theorem s_orderSize : Sim1 fX8_orderSize fX9_orderSize := by
  intro sx sm h
  obtain ⟨n, a, c, hG, hX, hM⟩ := h.1
  exact ⟨nI (n 3), sx, sm, by rw [fX8_orderSize, X_n3 hX], by rw [fX9_orderSize, M_n3 hM], h⟩
theorem s_typeOf (x : Int32) : Sim1 (fX8_typeOf x) (fX9_typeOf x) := by
  intro sx sm h
  obtain ⟨n, a, c, hG, hX, hM⟩ := h.1
  have hb := hG.b
  rcases Classical.em (∃ j, j < n 0 ∧ x = nI j) with ⟨j, hj, rfl⟩ | hn
  · refine ⟨c 1 j, sx, sm, ?_, ?_, h⟩
    · rw [fX8_typeOf, objX_p (X_n0 hX) (by omega) hj, pb, if_neg (by decide), pld (by omega) (by decide), X_ty hX (by omega)]
    · rw [fX9_typeOf, objM_p (M_n0 hM) (by omega) hj, pb, if_neg (by decide), pld (by omega) (by decide), M_ty hM (by omega)] <;> rfl
  · refine ⟨-2, sx, sm, ?_, ?_, h⟩
    · rw [fX8_typeOf, objX_n (X_n0 hX) (by omega) hn, pb, if_pos rfl]
    · rw [fX9_typeOf, objM_n (M_n0 hM) (by omega) hn, pb, if_pos rfl] <;> rfl
theorem s_kindOf (x : Int32) : Sim1 (fX8_kindOf x) (fX9_kindOf x) := by
  intro sx sm h
  obtain ⟨n, a, c, hG, hX, hM⟩ := h.1
  have hb := hG.b
  rcases Classical.em (∃ j, j < n 1 ∧ x = nI j) with ⟨j, hj, rfl⟩ | hn
  · refine ⟨nI (a 3 j), sx, sm, ?_, ?_, h⟩
    · rw [fX8_kindOf, hasX_p (X_n1 hX) (by omega) hj, pb, if_neg (by decide), pld (by omega) (by decide), X_kd hX (by omega)]
    · rw [fX9_kindOf, hasM_p (M_n1 hM) (by omega) hj, pb, if_neg (by decide), pld (by omega) (by decide), M_kd hM (by omega)] <;> rfl
  · refine ⟨-9, sx, sm, ?_, ?_, h⟩
    · rw [fX8_kindOf, hasX_n (X_n1 hX) (by omega) hn, pb, if_pos rfl]
    · rw [fX9_kindOf, hasM_n (M_n1 hM) (by omega) hn, pb, if_pos rfl] <;> rfl
theorem s_threadOf (x : Int32) : Sim1 (fX8_threadOf x) (fX9_threadOf x) := by
  intro sx sm h
  obtain ⟨n, a, c, hG, hX, hM⟩ := h.1
  have hb := hG.b
  rcases Classical.em (∃ j, j < n 1 ∧ x = nI j) with ⟨j, hj, rfl⟩ | hn
  · refine ⟨nI (a 4 j), sx, sm, ?_, ?_, h⟩
    · rw [fX8_threadOf, hasX_p (X_n1 hX) (by omega) hj, pb, if_neg (by decide), pld (by omega) (by decide), X_th hX (by omega)]
    · rw [fX9_threadOf, hasM_p (M_n1 hM) (by omega) hj, pb, if_neg (by decide), pld (by omega) (by decide), M_th hM (by omega)] <;> rfl
  · refine ⟨-9, sx, sm, ?_, ?_, h⟩
    · rw [fX8_threadOf, hasX_n (X_n1 hX) (by omega) hn, pb, if_pos rfl]
    · rw [fX9_threadOf, hasM_n (M_n1 hM) (by omega) hn, pb, if_pos rfl] <;> rfl
theorem s_objectOf (x : Int32) : Sim1 (fX8_objectOf x) (fX9_objectOf x) := by
  intro sx sm h
  obtain ⟨n, a, c, hG, hX, hM⟩ := h.1
  have hb := hG.b
  rcases Classical.em (∃ j, j < n 1 ∧ x = nI j) with ⟨j, hj, rfl⟩ | hn
  · refine ⟨nI (a 5 j), sx, sm, ?_, ?_, h⟩
    · rw [fX8_objectOf, hasX_p (X_n1 hX) (by omega) hj, pb, if_neg (by decide), pld (by omega) (by decide), X_ob hX (by omega)]
    · rw [fX9_objectOf, hasM_p (M_n1 hM) (by omega) hj, pb, if_neg (by decide), pld (by omega) (by decide), M_ob hM (by omega)] <;> rfl
  · refine ⟨-9, sx, sm, ?_, ?_, h⟩
    · rw [fX8_objectOf, hasX_n (X_n1 hX) (by omega) hn, pb, if_pos rfl]
    · rw [fX9_objectOf, hasM_n (M_n1 hM) (by omega) hn, pb, if_pos rfl] <;> rfl
theorem s_invocationTime (x : Int32) : Sim1 (fX8_invocationTime x) (fX9_invocationTime x) := by
  intro sx sm h
  obtain ⟨n, a, c, hG, hX, hM⟩ := h.1
  have hb := hG.b
  rcases Classical.em (∃ j, j < n 1 ∧ x = nI j) with ⟨j, hj, rfl⟩ | hn
  · refine ⟨nI (a 8 j), sx, sm, ?_, ?_, h⟩
    · rw [fX8_invocationTime, hasX_p (X_n1 hX) (by omega) hj, pb, if_neg (by decide), pld (by omega) (by decide), X_iv hX (by omega)]
    · rw [fX9_invocationTime, hasM_p (M_n1 hM) (by omega) hj, pb, if_neg (by decide), pld (by omega) (by decide), M_iv hM (by omega)] <;> rfl
  · refine ⟨-9, sx, sm, ?_, ?_, h⟩
    · rw [fX8_invocationTime, hasX_n (X_n1 hX) (by omega) hn, pb, if_pos rfl]
    · rw [fX9_invocationTime, hasM_n (M_n1 hM) (by omega) hn, pb, if_pos rfl] <;> rfl
theorem s_responseTime (x : Int32) : Sim1 (fX8_responseTime x) (fX9_responseTime x) := by
  intro sx sm h
  obtain ⟨n, a, c, hG, hX, hM⟩ := h.1
  have hb := hG.b
  rcases Classical.em (∃ j, j < n 1 ∧ x = nI j) with ⟨j, hj, rfl⟩ | hn
  · have h9 := (hG.r j).2.2.2.2.1
    by_cases h0 : a 9 j = 0
    · refine ⟨-10, sx, sm, ?_, ?_, h⟩
      · rw [fX8_responseTime, hasX_p (X_n1 hX) (by omega) hj, pb, if_neg (by decide), isPendX hX hG.r (by omega), pb, if_pos h0, if_neg (by decide)]
      · rw [fX9_responseTime, hasM_p (M_n1 hM) (by omega) hj, pb, if_neg (by decide), pld (by omega) (by decide), M_rs hM (by omega), if_pos ((pu_m1 (by omega)).mpr h0)] <;> rfl
    · refine ⟨nI (a 9 j) - 1, sx, sm, ?_, ?_, h⟩
      · rw [fX8_responseTime, hasX_p (X_n1 hX) (by omega) hj, pb, if_neg (by decide), isPendX hX hG.r (by omega), pb, if_neg h0, if_pos rfl, pld (by omega) (by decide), X_rs hX (by omega)]
      · rw [fX9_responseTime, hasM_p (M_n1 hM) (by omega) hj, pb, if_neg (by decide), pld (by omega) (by decide), M_rs hM (by omega), if_neg (fun hh => h0 ((pu_m1 (by omega)).mp hh)), pld (by omega) (by decide), M_rs hM (by omega)] <;> rfl
  · refine ⟨-9, sx, sm, ?_, ?_, h⟩
    · rw [fX8_responseTime, hasX_n (X_n1 hX) (by omega) hn, pb, if_pos rfl]
    · rw [fX9_responseTime, hasM_n (M_n1 hM) (by omega) hn, pb, if_pos rfl] <;> rfl
theorem s_resultOf (x : Int32) : Sim1 (fX8_resultOf x) (fX9_resultOf x) := by
  intro sx sm h
  obtain ⟨n, a, c, hG, hX, hM⟩ := h.1
  have hb := hG.b
  rcases Classical.em (∃ j, j < n 1 ∧ x = nI j) with ⟨j, hj, rfl⟩ | hn
  · have h9 := (hG.r j).2.2.2.2.1
    by_cases h0 : a 9 j = 0
    · refine ⟨-10, sx, sm, ?_, ?_, h⟩
      · rw [fX8_resultOf, hasX_p (X_n1 hX) (by omega) hj, pb, if_neg (by decide), isPendX hX hG.r (by omega), pb, if_pos h0, if_neg (by decide)]
      · rw [fX9_resultOf, hasM_p (M_n1 hM) (by omega) hj, pb, if_neg (by decide), pld (by omega) (by decide), M_rs hM (by omega), if_pos ((pu_m1 (by omega)).mpr h0)] <;> rfl
    · refine ⟨c 10 j + 1000, sx, sm, ?_, ?_, h⟩
      · rw [fX8_resultOf, hasX_p (X_n1 hX) (by omega) hj, pb, if_neg (by decide), isPendX hX hG.r (by omega), pb, if_neg h0, if_pos rfl, pld (by omega) (by decide), X_re hX (by omega)]
      · rw [fX9_resultOf, hasM_p (M_n1 hM) (by omega) hj, pb, if_neg (by decide), pld (by omega) (by decide), M_rs hM (by omega), if_neg (fun hh => h0 ((pu_m1 (by omega)).mp hh)), pld (by omega) (by decide), M_re hM (by omega)] <;> rfl
  · refine ⟨-9, sx, sm, ?_, ?_, h⟩
    · rw [fX8_resultOf, hasX_n (X_n1 hX) (by omega) hn, pb, if_pos rfl]
    · rw [fX9_resultOf, hasM_n (M_n1 hM) (by omega) hn, pb, if_pos rfl] <;> rfl
theorem s_precedes (x y : Int32) : Sim1 (fX8_precedes x y) (fX9_precedes x y) := by
  intro sx sm h
  obtain ⟨n, a, c, hG, hX, hM⟩ := h.1
  have hb := hG.b
  rcases Classical.em (∃ j, j < n 1 ∧ x = nI j) with ⟨j, hj, rfl⟩ | hn
  · rcases Classical.em (∃ j, j < n 1 ∧ y = nI j) with ⟨i, hi, rfl⟩ | hn
    · obtain ⟨r, g1, g2⟩ := bfrX hX hG.r (i := j) (j := i) (by omega) (by omega)
      obtain ⟨q, g3, g4⟩ := bfrM hM hG.r (i := j) (j := i) (by omega) (by omega)
      have hrq : q = r := by
        rcases g2 with ⟨e1, e2⟩ | ⟨e1, e2⟩ <;> rcases g4 with ⟨f1, f2⟩ | ⟨f1, f2⟩
        · rw [e1, f1]
        · exact absurd e2 f2
        · exact absurd f2 e2
        · rw [e1, f1]
      subst hrq
      refine ⟨q, sx, sm, ?_, ?_, h⟩
      · rw [fX8_precedes, hasX_p (X_n1 hX) (by omega) hj, pb, if_neg (by decide), hasX_p (X_n1 hX) (by omega) hi, pb, if_neg (by decide), g1, pb]
        rcases g2 with ⟨e1, -⟩ | ⟨e1, -⟩ <;> subst e1 <;> rfl
      · rw [fX9_precedes, hasM_p (M_n1 hM) (by omega) hj, pb, if_neg (by decide), hasM_p (M_n1 hM) (by omega) hi, pb, if_neg (by decide), g3, pb]
        rcases g2 with ⟨e1, -⟩ | ⟨e1, -⟩ <;> subst e1 <;> rfl
    · refine ⟨-9, sx, sm, ?_, ?_, h⟩
      · rw [fX8_precedes, hasX_p (X_n1 hX) (by omega) hj, pb, if_neg (by decide), hasX_n (X_n1 hX) (by omega) hn, pb, if_pos rfl] <;> rfl
      · rw [fX9_precedes, hasM_p (M_n1 hM) (by omega) hj, pb, if_neg (by decide), hasM_n (M_n1 hM) (by omega) hn, pb, if_pos rfl] <;> rfl
  · refine ⟨-9, sx, sm, ?_, ?_, h⟩
    · rw [fX8_precedes, hasX_n (X_n1 hX) (by omega) hn, pb, if_pos rfl] <;> rfl
    · rw [fX9_precedes, hasM_n (M_n1 hM) (by omega) hn, pb, if_pos rfl] <;> rfl
theorem s_orderAt (x : Int32) : Sim1 (fX8_orderAt x) (fX9_orderAt x) := by
  intro sx sm h
  obtain ⟨n, a, c, hG, hX, hM⟩ := h.1
  have hb := hG.b
  rcases Classical.em (∃ j, j < n 3 ∧ x = nI j) with ⟨j, hj, rfl⟩ | hn
  · refine ⟨nI (a 14 j), sx, sm, ?_, ?_, h⟩
    · rw [fX8_orderAt, pbtwX, pb, X_n3 hX, if_pos ((pu_has (by omega)).mpr ⟨j, hj, rfl⟩), if_neg (by decide), pld (by omega) (by decide), X_od hX (by omega)]
    · rw [fX9_orderAt, pbtwM, pb, M_n3 hM, if_pos ((pu_has (by omega)).mpr ⟨j, hj, rfl⟩), if_neg (by decide), pld (by omega) (by decide), M_od hM (by omega)] <;> rfl
  · refine ⟨-10, sx, sm, ?_, ?_, h⟩
    · rw [fX8_orderAt, pbtwX, pb, X_n3 hX, if_neg (fun hh => hn ((pu_has (by omega)).mp hh)), if_pos rfl]
    · rw [fX9_orderAt, pbtwM, pb, M_n3 hM, if_neg (fun hh => hn ((pu_has (by omega)).mp hh)), if_pos rfl] <;> rfl
