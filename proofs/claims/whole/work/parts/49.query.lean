/-! THE PURE PART: the questions that a search answers. -/
theorem cif10 (P : Prop) : (cif P (0 : Int32) 1 = 0 ∧ P) ∨ (cif P (0 : Int32) 1 = 1 ∧ ¬ P) := by
  by_cases h : P
  · exact Or.inl ⟨cif_p h _ _, h⟩
  · exact Or.inr ⟨cif_n h _ _, h⟩
theorem trXc (P : Prop) (st : ax_S) : fX8_truth (cif P 0 1) st = some (cif P 0 1, st) := by
  rcases cif10 P with ⟨h, -⟩ | ⟨h, -⟩ <;> rw [h]
  · exact trX0 st
  · exact trX1 st
theorem spx_len {K : Nat} {rd ok : Nat → Int32 → Prop} {fl : Int32 → Prop} {ex : oS → Nat → Int32 × oS} {wt : Nat} : ∀ (f : Nat) (u : Int32) (s : oS) (w : Int32) (q : List Nat) (z : Int32), (q, z) ∈ spx K rd ok fl ex wt f u s w → q.length ≤ f := by
  intro f
  induction f with
  | zero =>
    intro u s w q z h
    rw [spx, mem_spx_0] at h
    cases h.2
    exact Nat.le_refl 0
  | succ f ih =>
    intro u s w q z h
    rw [mem_spx_s] at h
    rcases h with ⟨-, g2, -⟩ | ⟨p, q', -, -, -, g4, g5⟩
    · rw [g2]; exact Nat.zero_le _
    · rw [g4]
      have := ih _ _ _ _ _ g5
      simp only [List.length_cons]
      omega
noncomputable def LQ (n : vN) (a : vA) (c : vC) (lim : Nat) (oo : Int32) (pg : Bool) (wt : Nat) : List pW := SM n a c lim oo pg wt 10 0 (sI0 c) 0
theorem hdX {wt : Nat} {s : ax_S} {L : List pW} (h : accX true wt s (cut true L)) : (L = [] → s.1 43 10 = 0) ∧ (∀ q w l, L = (q, w) :: l → s.1 43 10 = 1 ∧ s.1 43 9 = nI q.length ∧ ∀ i, i < q.length → s.2 47 i = nI (q.getD i 0)) := by
  have h1 := h.1 rfl
  refine ⟨fun hL => ?_, fun q w l hL => ?_⟩
  · subst hL
    rcases h1 with ⟨-, g⟩ | ⟨q, w, g, -⟩
    · exact g
    · cases g
  · subst hL
    rcases h1 with ⟨g, -⟩ | ⟨q', w', g, g1, g2, g3⟩
    · cases g
    · have e : [(q, w)] = [(q', w')] := g
      cases e
      exact ⟨g1, g2, g3⟩
theorem hdM {wt : Nat} {s : ax_S} {L : List pW} (h : accM true wt s (cut true L)) : (L = [] → s.1 0 29 = 0) ∧ (∀ q w l, L = (q, w) :: l → s.1 0 29 = 1 ∧ s.1 0 30 = nI q.length ∧ ∀ i, i < q.length → s.2 22 i = nI (q.getD i 0)) := by
  have h1 := h.1 rfl
  refine ⟨fun hL => ?_, fun q w l hL => ?_⟩
  · subst hL
    rcases h1 with ⟨-, g⟩ | ⟨q, w, g, -⟩
    · exact g
    · cases g
  · subst hL
    rcases h1 with ⟨g, -⟩ | ⟨q', w', g, g1, g2, g3⟩
    · cases g
    · have e : [(q, w)] = [(q', w')] := g
      cases e
      exact ⟨g1, g2, g3⟩
theorem findX0 {st : ax_S} {n : vN} {a : vA} {c : vC} {L : List pW} (hG : Good n a c) (hX : RX 1 st n a c) (hR : RpX (n 0) st (sI0 c)) (h12 : st.1 43 12 = -1) (hL : SX st n a c 99 10 0 (sI0 c) 0 = L) : ∃ s1, fX5_findsOne st = some (cif (L = []) 0 1, s1) ∧ QX st s1 ∧ accX true 99 s1 (cut true L) := by
  obtain ⟨s1, g1, g2, g3⟩ := runX (of := true) (wt := 99) hG hX hR (Or.inr ⟨rfl, h12⟩) (fun h => by omega) (fun h => by omega)
  rw [hL] at g3
  have g1 : fX5_extend 12 0 0 (ax_sI (ax_sI st 43 11 1) 43 10 0) = some (0, s1) := g1
  refine ⟨s1, ?_, g2, g3⟩
  unfold fX5_findsOne fX5_findsOne_b28
  rw [ppz1, pt, g1, pb]
  rcases cif10 (L = []) with ⟨h, h'⟩ | ⟨h, h'⟩ <;> rw [h]
  · rw [(hdX g3).1 h', if_pos (by decide)]; exact prz0 s1
  · obtain ⟨⟨q, w⟩, l, hq⟩ : ∃ x l, L = x :: l := List.exists_cons_of_ne_nil h'
    rw [((hdX g3).2 q w l hq).1, if_neg (by decide)]; exact prz1 s1
theorem sameSX {s0 st : ax_S} {n : vN} {a : vA} {c : vC} (hG : Good n a c) {lim : Nat} {ob oo : Int32} (pg : Bool) (wt : Nat) (hoo : (ob = -1 ∧ oo = -10) ∨ ∃ o, o < 4 ∧ ob = nI o ∧ oo = nI o) (hP : PpX s0 n a c lim ob st) (hk : ∀ k, k < n 1 → ∀ j, bt (st.2 46 k) j = true ↔ (j < k ∧ (if pg then a 4 j = a 4 k else bfr a j k) ∧ bt (st.1 43 3) j = true)) : SX st n a c wt 10 0 (sI0 c) 0 = LQ n a c lim oo pg wt := by
  obtain ⟨h1, h2⟩ := sameL hG pg hoo hP hk
  exact spx_congr h1 h2 10 0 (sI0 c) 0
theorem findX {s0 st : ax_S} {n : vN} {a : vA} {c : vC} (hG : Good n a c) (hX : RX 1 s0 n a c) {lim : Nat} {ob oo : Int32} (pg : Bool) (hoo : (ob = -1 ∧ oo = -10) ∨ ∃ o, o < 4 ∧ ob = nI o ∧ oo = nI o) (hP : PpX s0 n a c lim ob st) (hk : ∀ k, k < n 1 → ∀ j, bt (st.2 46 k) j = true ↔ (j < k ∧ (if pg then a 4 j = a 4 k else bfr a j k) ∧ bt (st.1 43 3) j = true)) : ∃ s1, fX5_findsOne st = some (cif (LQ n a c lim oo pg 99 = []) 0 1, s1) ∧ FX s0 s1 ∧ accX true 99 s1 (cut true (LQ n a c lim oo pg 99)) := by
  obtain ⟨s1, g1, g2, g3⟩ := findX0 hG (RX1_fr hP.1.fx hX) hP.2.1 hP.2.2.2.2.2.1 (sameSX hG pg 99 hoo hP hk)
  exact ⟨s1, g1, (hP.1.tr g2).fx, g3⟩
theorem kF {st : ax_S} {n : vN} {a : vA} (h : ∀ k, k < n 1 → ∀ j, bt (st.2 46 k) j = true ↔ (j < k ∧ bfr a j k ∧ bt (st.1 43 3) j = true)) : ∀ k, k < n 1 → ∀ j, bt (st.2 46 k) j = true ↔ (j < k ∧ (if false then a 4 j = a 4 k else bfr a j k) ∧ bt (st.1 43 3) j = true) := fun k hk j => by
  rw [h k hk j]
  simp
theorem wholeX {s0 : ax_S} {n : vN} {a : vA} {c : vC} (hG : Good n a c) (hX : RX 1 s0 n a c) : ∃ s1, fX8_prepareWholeHistory s0 = some (0, s1) ∧ PpX s0 n a c (n 2) (-1) s1 ∧ ∀ k, k < n 1 → ∀ j, bt (s1.2 46 k) j = true ↔ (j < k ∧ bfr a j k ∧ bt (s1.1 43 3) j = true) := by
  have hb := hG.b
  obtain ⟨s1, g1, g2⟩ := prepX hX hG (lim := n 2) (by omega) (-1)
  obtain ⟨s2, k1, k2, k3⟩ := keepR hX hG g2
  refine ⟨s2, ?_, k2, k3⟩
  rw [fX8_prepareWholeHistory, X_n2 hX, g1, pb, k1, pb]
theorem linX {s0 : ax_S} {n : vN} {a : vA} {c : vC} (hG : Good n a c) (hX : RX 1 s0 n a c) {lim : Nat} (hl : lim ≤ 24) : ∃ s1, fX8_isPrefixLinearizable (nI lim) s0 = some (cif (LQ n a c lim (-10) false 99 = []) 0 1, s1) ∧ FX s0 s1 := by
  obtain ⟨s1, g1, g2⟩ := prepX hX hG hl (-1)
  obtain ⟨s2, k1, k2, k3⟩ := keepR hX hG g2
  obtain ⟨s3, v1, v2, v3⟩ := findX hG hX false (Or.inl ⟨rfl, rfl⟩) k2 (kF k3)
  refine ⟨s3, ?_, v2⟩
  rw [fX8_isPrefixLinearizable, g1, pb, k1, pb, v1, pb]
  rcases cif10 (LQ n a c lim (-10) false 99 = []) with ⟨h, -⟩ | ⟨h, -⟩ <;> rw [h]
  · exact prz0 s3
  · exact prz1 s3
theorem foundM {s1 : ax_S} {L : List pW} (h : accM true 99 s1 (cut true L)) : s1.1 0 29 = cif (L = []) 0 1 := by
  rcases cif10 (L = []) with ⟨g, g'⟩ | ⟨g, g'⟩ <;> rw [g]
  · exact (hdM h).1 g'
  · obtain ⟨⟨q, w⟩, l, hq⟩ : ∃ x l, L = x :: l := List.exists_cons_of_ne_nil g'
    exact ((hdM h).2 q w l hq).1
theorem linM {s0 : ax_S} {n : vN} {a : vA} {c : vC} (hG : Good n a c) (hM : RM s0 n a c) {lim : Nat} (hl : lim ≤ 24) : ∃ s1, fX9_isLinear (nI lim) s0 = some (cif (LQ n a c lim (-10) false 99 = []) 0 1, s1) ∧ FM s0 s1 ∧ accM true 99 s1 (cut true (LQ n a c lim (-10) false 99)) := by
  obtain ⟨s1, g1, g2, g3⟩ := runM (wt := 99) (wi := -10) true (-10) false hG hM hl (Or.inr ⟨rfl, rfl⟩)
  have g1 : fX9_searches (nI lim) (-10) 0 0 (-10) s0 = some (s1.1 0 29, s1) := g1
  have g3 : accM true 99 s1 (cut true (LQ n a c lim (-10) false 99)) := g3
  refine ⟨s1, ?_, g2, g3⟩
  rw [fX9_isLinear, g1, pb, foundM g3]
  unfold fX9_isLinear_b19
  rcases cif10 (LQ n a c lim (-10) false 99 = []) with ⟨h, -⟩ | ⟨h, -⟩ <;> rw [h]
  · rw [if_pos (by decide)]; exact prz0 s1
  · rw [if_neg (by decide)]; exact prz1 s1
theorem s_isLinearizable : Sim1 fX8_isLinearizable fX9_isLinearizable := by
  intro sx sm h
  obtain ⟨n, a, c, hG, hX, hM⟩ := h.1
  have hb := hG.b
  obtain ⟨s1, g1, g2⟩ := linX hG hX (lim := n 2) (by omega)
  obtain ⟨t1, k1, k2, -⟩ := linM hG hM (lim := n 2) (by omega)
  refine ⟨cif (LQ n a c (n 2) (-10) false 99 = []) 0 1, s1, t1, ?_, ?_, Rl_fr h g2 k2⟩
  · rw [fX8_isLinearizable, X_n2 hX, g1, pb, trXc, pb]
  · rw [fX9_isLinearizable, M_n2 hM, k1, pb]
    unfold fX9_isLinearizable_b16
    rcases cif10 (LQ n a c (n 2) (-10) false 99 = []) with ⟨h, -⟩ | ⟨h, -⟩ <;> rw [h]
    · rw [if_pos rfl]
    · rw [if_neg (by decide)]
theorem s_isObjectLinearizable (x : Int32) : Sim1 (fX8_isObjectLinearizable x) (fX9_isObjectLinearizable x) := by
  intro sx sm h
  obtain ⟨n, a, c, hG, hX, hM⟩ := h.1
  have hb := hG.b
  unfold fX8_isObjectLinearizable fX9_isObjectLinearizable fX9_isObjectLinearizable_b32
  rcases Classical.em (∃ j, j < n 0 ∧ x = nI j) with ⟨o, ho, rfl⟩ | hn
  · rw [objX_p (X_n0 hX) (by omega) ho, objM_p (M_n0 hM) (by omega) ho, pb, pb, if_neg (by decide), if_neg (by decide), X_n2 hX, M_n2 hM]
    have hoo : (nI o = -1 ∧ nI o = -10) ∨ ∃ o', o' < 4 ∧ nI o = nI o' ∧ nI o = nI o' := Or.inr ⟨o, by omega, rfl, rfl⟩
    obtain ⟨s1, g1, g2⟩ := prepX hX hG (lim := n 2) (by omega) (nI o)
    obtain ⟨s2, k1, k2, k3⟩ := keepR hX hG g2
    obtain ⟨s3, v1, v2, v3⟩ := findX hG hX false hoo k2 (kF k3)
    obtain ⟨t1, q1, q2, q3⟩ := runM (wt := 99) (wi := -10) (lim := n 2) true (nI o) false hG hM (by omega) (Or.inr ⟨rfl, rfl⟩)
    have q1 : fX9_searches (nI (n 2)) (nI o) 0 0 (-10) sm = some (t1.1 0 29, t1) := q1
    have q3 : accM true 99 t1 (cut true (LQ n a c (n 2) (nI o) false 99)) := q3
    refine ⟨cif (LQ n a c (n 2) (nI o) false 99 = []) 0 1, s3, t1, ?_, ?_, Rl_fr h v2 q2⟩
    · rw [g1, pb, k1, pb, v1, pb, trXc, pb]
    · rw [q1, pb, foundM q3]
      rcases cif10 (LQ n a c (n 2) (nI o) false 99 = []) with ⟨h, -⟩ | ⟨h, -⟩ <;> rw [h]
      · rw [if_pos (by decide)]
      · rw [if_neg (by decide)]
  · rw [objX_n (X_n0 hX) (by omega) hn, objM_n (M_n0 hM) (by omega) hn, pb, pb, if_pos rfl, if_pos rfl]
    exact ⟨_, _, _, rfl, rfl, h⟩
theorem s_isSequentiallyConsistent : Sim1 fX8_isSequentiallyConsistent fX9_isSequentiallyConsistent := by
  intro sx sm h
  obtain ⟨n, a, c, hG, hX, hM⟩ := h.1
  have hb := hG.b
  obtain ⟨s1, g1, g2⟩ := prepX hX hG (lim := n 2) (by omega) (-1)
  obtain ⟨s2, k1, k2, k3⟩ := keepT hX hG g2
  obtain ⟨s3, v1, v2, v3⟩ := findX hG hX true (Or.inl ⟨rfl, rfl⟩) k2 (fun k hk j => by rw [k3 k hk j]; simp)
  obtain ⟨t1, q1, q2, q3⟩ := runM (wt := 99) (wi := -10) (lim := n 2) true (-10) true hG hM (by omega) (Or.inr ⟨rfl, rfl⟩)
  have q1 : fX9_searches (nI (n 2)) (-10) 1 0 (-10) sm = some (t1.1 0 29, t1) := q1
  have q3 : accM true 99 t1 (cut true (LQ n a c (n 2) (-10) true 99)) := q3
  refine ⟨cif (LQ n a c (n 2) (-10) true 99 = []) 0 1, s3, t1, ?_, ?_, Rl_fr h v2 q2⟩
  · rw [fX8_isSequentiallyConsistent, X_n2 hX, g1, pb, k1, pb, v1, pb, trXc, pb]
  · rw [fX9_isSequentiallyConsistent, M_n2 hM, q1, pb, foundM q3]
    unfold fX9_isSequentiallyConsistent_b22
    rcases cif10 (LQ n a c (n 2) (-10) true 99 = []) with ⟨h, -⟩ | ⟨h, -⟩ <;> rw [h]
    · rw [if_pos (by decide)]
    · rw [if_neg (by decide)]
theorem s_countLinearizations : Sim1 fX8_countLinearizations fX9_countLinearizations := by
  intro sx sm h
  obtain ⟨n, a, c, hG, hX, hM⟩ := h.1
  have hb := hG.b
  obtain ⟨s1, g1, g2, g3⟩ := wholeX hG hX
  obtain ⟨s2, k1, k2, k3⟩ := runX (of := false) (wt := 99) hG (RX1_fr g2.1.fx hX) g2.2.1 (Or.inr ⟨rfl, g2.2.2.2.2.2.1⟩) (fun h => by omega) (fun h => by omega)
  rw [sameSX hG false 99 (Or.inl ⟨rfl, rfl⟩) g2 (kF g3)] at k3
  have k1 : fX5_extend 12 0 0 (ax_sI (ax_sI s1 43 11 0) 43 10 0) = some (0, s2) := k1
  obtain ⟨t1, q1, q2, q3⟩ := runM (wt := 99) (wi := -10) (lim := n 2) false (-10) false hG hM (by omega) (Or.inr ⟨rfl, rfl⟩)
  have q1 : fX9_searches (nI (n 2)) (-10) 0 1 (-10) sm = some (t1.1 0 29, t1) := q1
  have q3 : accM false 99 t1 (LQ n a c (n 2) (-10) false 99) := q3
  have k3 : accX false 99 s2 (LQ n a c (n 2) (-10) false 99) := k3
  refine ⟨nI (LQ n a c (n 2) (-10) false 99).length, s2, t1, ?_, ?_, Rl_fr h (g2.1.tr k2).fx q2⟩
  · rw [fX8_countLinearizations, g1, pb, fX5_countAll, ppz0, pt, k1, pb, pb, (k3.2 rfl).1]
  · rw [fX9_countLinearizations, M_n2 hM, q1, pb, (q3.2 rfl).1]
theorem s_firstLinearizationLength : Sim1 fX8_firstLinearizationLength fX9_firstLinearizationLength := by
  intro sx sm h
  obtain ⟨n, a, c, hG, hX, hM⟩ := h.1
  have hb := hG.b
  obtain ⟨s1, g1, g2, g3⟩ := wholeX hG hX
  obtain ⟨s3, v1, v2, v3⟩ := findX hG hX false (Or.inl ⟨rfl, rfl⟩) g2 (kF g3)
  obtain ⟨t1, k1, k2, k3⟩ := linM hG hM (lim := n 2) (by omega)
  rw [fX8_firstLinearizationLength, g1, pb, v1, pb, fX9_firstLinearizationLength, M_n2 hM, k1, pb]
  unfold fX9_firstLinearizationLength_b20
  rcases cif10 (LQ n a c (n 2) (-10) false 99 = []) with ⟨e, -⟩ | ⟨e, e'⟩
  · rw [e, if_pos rfl, if_pos rfl]
    exact ⟨_, _, _, rfl, rfl, Rl_fr h v2 k2⟩
  · obtain ⟨⟨q, w⟩, l, hq⟩ : ∃ x l, LQ n a c (n 2) (-10) false 99 = x :: l := List.exists_cons_of_ne_nil e'
    have hx := (hdX v3).2 q w l hq
    have hm := (hdM k3).2 q w l hq
    rw [e, if_neg (by decide), if_neg (by decide), hx.2.1, hm.2.1]
    exact ⟨_, _, _, rfl, rfl, Rl_fr h v2 k2⟩
theorem s_firstLinearizationAt (x : Int32) : Sim1 (fX8_firstLinearizationAt x) (fX9_firstLinearizationAt x) := by
  intro sx sm h
  obtain ⟨n, a, c, hG, hX, hM⟩ := h.1
  have hb := hG.b
  obtain ⟨s1, g1, g2, g3⟩ := wholeX hG hX
  obtain ⟨s3, v1, v2, v3⟩ := findX hG hX false (Or.inl ⟨rfl, rfl⟩) g2 (kF g3)
  obtain ⟨t1, k1, k2, k3⟩ := linM hG hM (lim := n 2) (by omega)
  rw [fX8_firstLinearizationAt, g1, pb, v1, pb, fX9_firstLinearizationAt, M_n2 hM, k1, pb]
  unfold fX8_firstLinearizationAt_b31 fX9_firstLinearizationAt_b34 fX9_firstLinearizationAt_b36
  rcases cif10 (LQ n a c (n 2) (-10) false 99 = []) with ⟨e, -⟩ | ⟨e, e'⟩
  · rw [e, if_pos rfl, if_pos rfl]
    exact ⟨_, _, _, rfl, rfl, Rl_fr h v2 k2⟩
  · obtain ⟨⟨q, w⟩, l, hq⟩ : ∃ x l, LQ n a c (n 2) (-10) false 99 = x :: l := List.exists_cons_of_ne_nil e'
    have hx := (hdX v3).2 q w l hq
    have hm := (hdM k3).2 q w l hq
    have hlen : q.length ≤ 10 := spx_len 10 0 (sI0 c) 0 q w (by
      show (q, w) ∈ LQ n a c (n 2) (-10) false 99
      rw [hq]; exact List.mem_cons_self)
    rw [e, if_neg (by decide), if_neg (by decide), hx.2.1, hm.2.1, pbtwX, pb, pbtwM, pb]
    rcases Classical.em (∃ j, j < q.length ∧ x = nI j) with ⟨j, hj, rfl⟩ | hn
    · have hc := (pu_has (x := nI j) (n := q.length) (by omega)).mpr ⟨j, hj, rfl⟩
      rw [if_pos hc]
      simp only [i10, if_false]
      rw [pld (by omega) (by decide), pld (by omega) (by decide), hx.2.2 j hj, hm.2.2 j hj]
      exact ⟨_, _, _, rfl, rfl, Rl_fr h v2 k2⟩
    · have hc : ¬ ((0 : Int32) ≤ x ∧ x ≤ nI q.length - 1) := fun hh => hn ((pu_has (by omega)).mp hh)
      rw [if_neg hc, if_pos rfl, if_pos rfl]
      exact ⟨_, _, _, rfl, rfl, Rl_fr h v2 k2⟩
/-! the first violation -/
theorem L0_ne (n : vN) (a : vA) (c : vC) : LQ n a c 0 (-10) false 99 ≠ [] := by
  intro hh
  have : (([] : List Nat), (0 : Int32)) ∈ LQ n a c 0 (-10) false 99 := mem_spx_s.mpr (Or.inl ⟨fun i _ hth => absurd hth.1 (Nat.not_lt_zero _), rfl, rfl⟩)
  rw [hh] at this
  cases this
theorem L_up {n : vN} {a : vA} {c : vC} (hG : Good n a c) {l : Nat} (hl : l < n 2) (hf : a 11 l ≠ 1) (h : LQ n a c l (-10) false 99 ≠ []) : LQ n a c (l + 1) (-10) false 99 ≠ [] := by
  obtain ⟨⟨q, w⟩, t, hq⟩ : ∃ x t, LQ n a c l (-10) false 99 = x :: t := List.exists_cons_of_ne_nil h
  have hm : (q, w) ∈ LQ n a c l (-10) false 99 := by rw [hq]; exact List.mem_cons_self
  have hcp : ∀ i, i < n 1 → cpM a (l + 1) i → cpM a l i := fun i hi hc => by
    refine ⟨hc.1, ?_⟩
    have h1 := (hG.o i hi).2.2.2.2 hc.1
    have h2 := hc.2
    have h3 : a 9 i ≠ l + 1 := by
      intro h4
      rw [h4] at h1
      exact hf h1.2.2.1
    omega
  have hcpth : ∀ i, i < n 1 → cpM a l i → thM a l (-10) i := fun i hi hc => by
    have h1 := (hG.o i hi).2.2.2.2 hc.1
    have h2 := hc.2
    exact ⟨by omega, Or.inl rfl⟩
  have h1 : ∀ p u r, p < n 1 → rdM n a l (-10) false p u → okM a c l p r → rdM n a (l + 1) (-10) false p u ∧ okM a c (l + 1) p r := fun p u r hp hrd hok => by
    refine ⟨⟨hrd.1, ⟨by have := hrd.2.1.1; omega, Or.inl rfl⟩, fun i hi hfs hth => ?_⟩, ?_⟩
    · refine hrd.2.2 i hi hfs ⟨?_, Or.inl rfl⟩
      have h1 : bfr a i p := by simpa [fsM] using hfs
      have h2 := (bfr_lt hG hi hp h1).2
      have h3 := hrd.2.1.1
      omega
    · rcases hok with h1 | h1
      · exact Or.inl (fun hc => h1 (hcp p hp hc))
      · exact Or.inr h1
  have h2 : ∀ u, flM n a l (-10) u → flM n a (l + 1) (-10) u := fun u hfl i hi hth hc => hfl i hi (hcpth i hi (hcp i hi hc)) (hcp i hi hc)
  have hm2 : (q, w) ∈ LQ n a c (l + 1) (-10) false 99 := spx_sub h1 h2 10 0 (sI0 c) 0 q w hm
  intro hh
  rw [hh] at hm2
  cases hm2
theorem violL {sx sm : ax_S} {n : vN} {a : vA} {c : vC} (hG : Good n a c) (hX : RX 1 sx n a c) (hM : RM sm n a c) : ∀ (d m1 m2 l : Nat) (s t : ax_S), l + d = n 2 → d < m1 → d < m2 → FX sx s → FM sm t → LQ n a c l (-10) false 99 ≠ [] → ∃ r s' t', fX8_firstViolation_L2 m1 (nI (l + 1)) s = some (r, s') ∧ fX9_firstViolation_L2 m2 (nI (l + 1)) t = some (r, t') ∧ FX sx s' ∧ FM sm t' := by
  have hb := hG.b
  intro d
  induction d with
  | zero =>
    intro m1 m2 l s t hl h1 h2 hs ht hne
    obtain ⟨m1, rfl⟩ : ∃ k, m1 = k + 1 := ⟨m1 - 1, by omega⟩
    obtain ⟨m2, rfl⟩ : ∃ k, m2 = k + 1 := ⟨m2 - 1, by omega⟩
    refine ⟨-10, s, t, ?_, ?_, hs, ht⟩
    · rw [fX8_firstViolation_L2, X_n2 (RX1_fr hs hX), if_pos (nI_lt (by omega) (by omega))]
    · rw [fX9_firstViolation_L2, M_n2 (RM_fr ht hM), if_pos (nI_lt (by omega) (by omega))]
  | succ d ih =>
    intro m1 m2 l s t hl h1 h2 hs ht hne
    obtain ⟨m1, rfl⟩ : ∃ k, m1 = k + 1 := ⟨m1 - 1, by omega⟩
    obtain ⟨m2, rfl⟩ : ∃ k, m2 = k + 1 := ⟨m2 - 1, by omega⟩
    have hX1 := RX1_fr hs hX
    have hM1 := RM_fr ht hM
    have hr := hG.r l
    obtain ⟨t1, k1, k2, -⟩ := linM hG hM1 (lim := l + 1) (by omega)
    have hin : (1 : Int32) ≤ nI (l + 1) ∧ nI (l + 1) ≤ nI (n 2) := ⟨(qle_1 (by omega)).mpr (by omega), nI_le (by omega) (by omega)⟩
    rw [fX8_firstViolation_L2, X_n2 hX1, if_neg (nI_nlt (by omega) (by omega))]
    unfold fX0_endsWithResponse fX0_endsWithResponse_b28 fX0_endsWithResponse_b29 fX8_firstViolation_b40
    rw [pbtwX, pb, X_n2 hX1, if_pos hin, if_neg (by decide), nI_pred, pld (by omega) (by decide), X_fo hX1 (by omega), nI_1]
    rw [fX9_firstViolation_L2, M_n2 hM1, if_neg (nI_nlt (by omega) (by omega)), k1, pb, nI_1]
    by_cases hf : a 11 l = 1
    · obtain ⟨s1, g1, g2⟩ := linX hG hX1 (lim := l + 1) (by omega)
      rw [if_pos ((qeq_1 (by omega)).mpr hf), prz1, pb, if_neg (by decide), g1, pb]
      rcases cif10 (LQ n a c (l + 1) (-10) false 99 = []) with ⟨e, -⟩ | ⟨e, e'⟩
      · rw [e, if_pos rfl, if_pos rfl]
        exact ⟨_, _, _, rfl, rfl, hs.tr g2, ht.tr k2⟩
      · rw [e, if_neg (by decide), if_neg (by decide)]
        exact ih m1 m2 (l + 1) s1 t1 (by omega) (by omega) (by omega) (hs.tr g2) (ht.tr k2) e'
    · have hne1 := L_up hG (l := l) (by omega) hf hne
      rw [if_neg (fun hh => hf ((qeq_1 (by omega)).mp hh)), prz0, pb, if_pos rfl, cif_n hne1, if_neg (by decide)]
      exact ih m1 m2 (l + 1) s t1 (by omega) (by omega) (by omega) hs (ht.tr k2) hne1
theorem s_firstViolation : Sim1 fX8_firstViolation fX9_firstViolation := by
  intro sx sm h
  obtain ⟨n, a, c, hG, hX, hM⟩ := h.1
  have hb := hG.b
  obtain ⟨r, s', t', g1, g2, g3, g4⟩ := violL hG hX hM (n 2) 4000 4000 0 sx sm (by omega) (by omega) (by omega) (FX.rf _) (FM.rf _) (L0_ne n a c)
  have e : nI (0 + 1) = 1 := rfl
  rw [e] at g1 g2
  exact ⟨r, s', t', by rw [fX8_firstViolation]; exact g1, by rw [fX9_firstViolation]; exact g2, Rl_fr h g3 g4⟩
