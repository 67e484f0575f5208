/-! THE PURE PART: parseText. -/
theorem MS.gm {ch : Nat → Nat} {T : Nat} {s t : ax_S} {p : Nat} (g : GM s t) (h : MS ch T s p) : MS ch T t p := by
  obtain ⟨h1, h2, h3, h4, h5, h6⟩ := h
  exact ⟨by rw [g.1 37 (by decide)]; exact h1, h2, fun j hj => by rw [g.2 25 (by decide)]; exact h3 j hj, h4, by rw [g.1 38 (by decide)]; exact h5, fun j hj => by rw [g.2 24 (by decide)]; exact h6 j hj⟩
theorem CmdM.fr {s t : ax_S} {c : cmd} (h1 : t.1 0 39 = s.1 0 39) (h2 : t.2 = s.2) (h : CmdM s c) : CmdM t c := by
  unfold CmdM at h ⊢
  rw [h1, h2]
  exact h
theorem Rl_pm {sx sm tm : ax_S} (h : Rl sx sm) (g : PMf sm tm) : Rl sx tm := by
  obtain ⟨T, h5, h6, h7, h8⟩ := h.2.2.1
  refine Rl_txt h (fun o _ => ⟨rfl, rfl⟩) (fun k _ _ h3 h4 => g.1 k h3 h4) (fun o _ h2 => g.2 o h2) ⟨T, h5, h6, by rw [g.1 36 (by decide) (by decide)]; exact h7, fun j hj => by rw [g.2 25 (by decide)]; exact h8 j hj⟩
/-- one command carried out -/
theorem doneL {sx sm : ax_S} (h : Rl sx sm) {c : cmd} {i : Nat} (hi : i < 60) (hX : RowX sx i c) (hM : CmdM sm c) : ∃ (r : Int32) (sx1 sm1 : ax_S), fX8_execute (nI i) sx = some (r, sx1) ∧ fX9_done sm = some (r, sm1) ∧ Rl sx1 sm1 ∧ GX sx sx1 ∧ GM sm sm1 := by
  obtain ⟨x1, x2, x3, x4, x5, x6⟩ := hX
  obtain ⟨m0, hM⟩ := hM
  have l0 : ∀ (g : Int32 → ax_R), ax_ld sm 26 4 (0 : Int32) g = g (sm.2 26 0) := fun g => pld (j := 0) (by decide) (by decide)
  have l1 : ∀ (g : Int32 → ax_R), ax_ld sm 26 4 (1 : Int32) g = g (sm.2 26 1) := fun g => pld (j := 1) (by decide) (by decide)
  have l2 : ∀ (g : Int32 → ax_R), ax_ld sm 26 4 (2 : Int32) g = g (sm.2 26 2) := fun g => pld (j := 2) (by decide) (by decide)
  have l3 : ∀ (g : Int32 → ax_R), ax_ld sm 26 4 (3 : Int32) g = g (sm.2 26 3) := fun g => pld (j := 3) (by decide) (by decide)
  unfold fX8_execute fX9_done fX9_done_b74
  rw [pld hi (by decide), pld hi (by decide), pld hi (by decide), pld hi (by decide), x1, x2, x5, x6, l0, m0]
  rcases hM with ⟨m1, m2⟩ | ⟨m1, m2, m3⟩ | ⟨m1, m2, m3, m4, m5, m6, m7⟩
  · rw [m1, if_neg (by decide), if_pos (show nI 2 = (2 : Int32) from rfl), if_pos m2]
    obtain ⟨r, sx1, sm1, g1, g2, g3⟩ := s_crashG h (nI c.2.1)
    exact ⟨r, sx1, sm1, by rw [g1, pb], by rw [g2, pb], g3⟩
  · rw [m1, if_pos (show nI 1 = (1 : Int32) from rfl), if_neg (by rw [m2]; decide), if_pos m2, l1, m3]
    obtain ⟨r, sx1, sm1, g1, g2, g3⟩ := s_respondG h (nI c.2.1) c.2.2.2.2.1
    exact ⟨r, sx1, sm1, by rw [g1, pb], by rw [g2, pb], g3⟩
  · have n11 : ¬ nI c.2.2.2.1 = (11 : Int32) := fun hh => absurd ((qeq_11 (by omega)).mp hh) (by omega)
    have n10 : ¬ nI c.2.2.2.1 = (10 : Int32) := fun hh => absurd ((qeq_10 (by omega)).mp hh) (by omega)
    rw [m1, if_neg (by decide), if_neg (by decide), pld hi (by decide), pld hi (by decide), x3, x4, m3, if_neg n11, if_neg n10, l1, l2, l3, m4, m5, m6]
    obtain ⟨r, sx1, sm1, g1, g2, g3⟩ := s_invoke h m2 (nI c.2.1) (nI c.2.2.1) c.2.2.2.2.1 c.2.2.2.2.2 m7
    exact ⟨r, sx1, sm1, by rw [g1, pb], by rw [g2, pb], g3⟩
/-- the reference's second reading beside the class's rows -/
theorem execL {ch : Nat → Nat} {T : Nat} : ∀ (f m1 m2 p i N : Nat) (l : List cmd) (sx sm : ax_S), (allP ch T f p).1 = some l → f < m1 → f < m2 → N = i + l.length → N < 60 → Rl sx sm → (∀ j c, l[j]? = some c → RowX sx (i + j) c) → sx.1 63 0 = nI N → MS ch T sm p → ∃ (r : Int32) (sx' sm' : ax_S), fX8_parseText_L33 m1 (nI i) sx = some (r, sx') ∧ fX9_parseText_L82 m2 (nI N) (nI i) sm = some (r, sm') ∧ Rl sx' sm' := by
  intro f
  induction f with
  | zero =>
    intro m1 m2 p i N l sx sm hl
    cases hl
  | succ f ih =>
    intro m1 m2 p i N l sx sm hl h1 h2 hN hN6 hR hrow hc hM
    obtain ⟨m1, rfl⟩ : ∃ k, m1 = k + 1 := ⟨m1 - 1, by omega⟩
    obtain ⟨m2, rfl⟩ : ∃ k, m2 = k + 1 := ⟨m2 - 1, by omega⟩
    rw [allP] at hl
    obtain ⟨t1, a1, a2, a3, a4⟩ := comM hM
    rcases cases_sg (cm ch T (false, p)).2 with hs | hs
    · have hb : (cm ch T (false, p)).2.1 = true := by rw [hs]
      rw [if_pos hb] at hl
      cases hl
    have hb : (cm ch T (false, p)).2.1 = false := by rw [hs]
    have hcmd := a4 hb
    rw [hb] at hl a1
    simp only [Bool.false_eq_true, if_false] at hl a1
    generalize hq : (cm ch T (false, p)).2.2 = q at *
    generalize hcc : (cm ch T (false, p)).1 = c0 at *
    obtain ⟨t2, b1, b2, -, b4, b5⟩ := tkM a2 (k := 59) (by decide)
    have hP2 : PMf sm t2 := a3.tr ⟨fun j g1 _ => b5 j g1, fun o _ => by rw [b4]⟩
    have hR2 := Rl_pm hR hP2
    have hcmd2 : CmdM t2 c0 := hcmd.fr (b5 39 (by decide)) b4
    -- the list begins with this command
    have hhead : ∃ l', l = c0 :: l' ∧ ((q < T ∧ ch q = 59 ∧ (allP ch T f (q + 1)).1 = some l') ∨ (¬ q < T ∧ l' = [])) := by
      by_cases hqT : q < T
      · rw [if_pos hqT] at hl
        by_cases h59 : ch q = 59
        · rw [if_pos h59] at hl
          cases hal : (allP ch T f (q + 1)).1 with
          | none => rw [hal] at hl; cases hl
          | some l' =>
            rw [hal] at hl
            have hl : some (c0 :: l') = some l := hl
            exact ⟨l', (Option.some.inj hl).symm, Or.inl ⟨hqT, h59, rfl⟩⟩
        · rw [if_neg h59] at hl
          cases hl
      · rw [if_neg hqT] at hl
        have hl : some [c0] = some l := hl
        exact ⟨[], (Option.some.inj hl).symm, Or.inr ⟨hqT, rfl⟩⟩
    obtain ⟨l', rfl, hl'⟩ := hhead
    have hiN : i < N := by simp only [List.length_cons] at hN; omega
    have hrow0 : RowX sx i c0 := by
      have := hrow 0 c0 rfl
      rw [Nat.add_zero] at this
      exact this
    obtain ⟨r, sx3, sm3, d1, d2, d3, d4, d5⟩ := doneL hR2 (i := i) (by omega) hrow0 hcmd2
    have hrow3 : ∀ j c, l'[j]? = some c → RowX sx3 (i + 1 + j) c := fun j c hj => by
      have := hrow (j + 1) c (by simpa using hj)
      unfold RowX at this ⊢
      rw [(d4 64 (by omega)).2, (d4 65 (by omega)).2, (d4 66 (by omega)).2, (d4 67 (by omega)).2, (d4 68 (by omega)).2, (d4 69 (by omega)).2, show i + 1 + j = i + (j + 1) by omega]
      exact this
    have hc3 : sx3.1 63 0 = nI N := by rw [(d4 63 (by omega)).1]; exact hc
    rw [fX8_parseText_L33, hc, if_neg (nI_ge hiN (by omega)), d1, pb]
    rw [fX9_parseText_L82, if_neg (nI_ge hiN (by omega)), a1, pb]
    show ∃ r_1 sx' sm', _ ∧ ax_bind (fX9_takes (nI 59) t1) _ = _ ∧ _
    rw [b1, pb, d2, pb, nI_1]
    by_cases hr : (0 : Int32) ≤ r
    · rw [if_pos hr, if_pos hr]
      rcases hl' with ⟨q1, q2, q3⟩ | ⟨q1, rfl⟩
      · have e : tk ch T 59 (false, q) = (false, q + 1) := cif_p ⟨rfl, q1, q2⟩ _ _
        rw [e] at b2
        exact ih m1 m2 (q + 1) (i + 1) N l' sx3 sm3 q3 (by omega) (by omega) (by simp only [List.length_cons] at hN; omega) hN6 d3 hrow3 hc3 (b2.gm d5)
      · have hN1 : N = i + 1 := by simpa using hN
        obtain ⟨m1, rfl⟩ : ∃ k, m1 = k + 1 := ⟨m1 - 1, by omega⟩
        obtain ⟨m2, rfl⟩ : ∃ k, m2 = k + 1 := ⟨m2 - 1, by omega⟩
        refine ⟨nI N, sx3, sm3, ?_, ?_, d3⟩
        · rw [fX8_parseText_L33, hc3, if_pos (nI_le (by omega) (by omega))]
        · rw [fX9_parseText_L82, if_pos (nI_le (by omega) (by omega))]
    · rw [if_neg hr, if_neg hr]
      exact ⟨_, _, _, rfl, rfl, d3⟩
/-- the reference's first reading -/
theorem frstL {ch : Nat → Nat} {T : Nat} : ∀ (f m p i : Nat) (st : ax_S), T < p + f → f < m → 3 * i ≤ p → MS ch T st p →
    (∃ l t, (allP ch T f p).1 = some l ∧ i + l.length < 60 ∧ fX9_parseText_L22 m (nI i) 1 st = fX9_parseText_L82 4000 (nI (i + l.length)) 0 t ∧ MS ch T t 0 ∧ PMf st t) ∨
    (∃ t, (allP ch T f p).1 = none ∧ fX9_parseText_L22 m (nI i) 1 st = some ((-1000 : Int32) - nI (allP ch T f p).2, t) ∧ PMf st t) := by
  intro f
  induction f with
  | zero =>
    intro m p i st hf hm h3 hM
    have : p ≤ T := hM.2.2.2.1
    omega
  | succ f ih =>
    intro m p i st hf hm h3 hM
    obtain ⟨m, rfl⟩ : ∃ k, m = k + 1 := ⟨m - 1, by omega⟩
    have hpT := hM.2.2.2.1
    have hT := hM.2.1
    obtain ⟨t1, a1, a2, a3, a4⟩ := comM hM
    rw [fX9_parseText_L22, if_neg (by decide), a1, pb, allP]
    rcases cases_sg (cm ch T (false, p)).2 with hs | hs
    · have hb : (cm ch T (false, p)).2.1 = true := by rw [hs]
      rw [hb]
      simp only [if_true]
      right
      exact ⟨t1, trivial, by rw [a2.2.2.2.2.1], a3⟩
    have hb : (cm ch T (false, p)).2.1 = false := by rw [hs]
    have h2 := cm_2 hb
    rw [hb]
    simp only [Bool.false_eq_true, if_false, i10]
    generalize hq : (cm ch T (false, p)).2.2 = q at *
    generalize (cm ch T (false, p)).1 = c0 at *
    obtain ⟨t2, b1, b2, -, b4, b5⟩ := tkM a2 (k := 59) (by decide)
    have hP2 : PMf st t2 := a3.tr ⟨fun j g1 _ => b5 j g1, fun o _ => by rw [b4]⟩
    rw [show fX9_takes (59 : Int32) t1 = _ from b1, pb, nI_1]
    by_cases hqT : q < T
    · rw [if_pos hqT]
      by_cases h59 : ch q = 59
      · have e : tk ch T 59 (false, q) = (false, q + 1) := cif_p ⟨rfl, hqT, h59⟩ _ _
        rw [e] at b2
        rw [if_pos h59, cif_p (show ca ch T q 59 from ⟨hqT, h59⟩)]
        rcases ih m (q + 1) (i + 1) t2 (by omega) (by omega) (by omega) b2 with ⟨l, t, k1, k2, k3, k4, k5⟩ | ⟨t, k1, k2, k3⟩
        · left
          refine ⟨c0 :: l, t, by rw [k1]; rfl, by simp only [List.length_cons]; omega, ?_, k4, hP2.tr k5⟩
          rw [k3]
          congr 2
          simp only [List.length_cons]
          omega
        · right
          exact ⟨t, by rw [k1]; rfl, k2, hP2.tr k3⟩
      · have e : tk ch T 59 (false, q) = (true, q) := cif_n (fun g => h59 g.2.2) _ _
        rw [e] at b2
        obtain ⟨m, rfl⟩ : ∃ k, m = k + 1 := ⟨m - 1, by omega⟩
        rw [if_neg h59, cif_n (fun hh : ca ch T q 59 => h59 hh.2), fX9_parseText_L22, if_pos rfl, b2.1, b2.2.2.2.2.1, if_neg (nI_ge hqT (by omega))]
        right
        exact ⟨t2, rfl, rfl, hP2⟩
    · have e : tk ch T 59 (false, q) = (true, q) := cif_n (fun g => hqT g.2.1) _ _
      have hqle : q ≤ T := a2.2.2.2.1
      rw [e] at b2
      obtain ⟨m, rfl⟩ : ∃ k, m = k + 1 := ⟨m - 1, by omega⟩
      rw [if_neg hqT, cif_n (fun hh : ca ch T q 59 => hqT hh.1), fX9_parseText_L22, if_pos rfl, b2.1, b2.2.2.2.2.1, if_pos (nI_le (by omega) (by omega)), pt]
      left
      exact ⟨[c0], ax_sI t2 0 38 0, rfl, by show i + 1 < 60; omega, rfl, b2.mv 0 (Nat.zero_le _), hP2.tr (PMf.I _ (Or.inl rfl) _)⟩
theorem s_parseText : Sim1 fX8_parseText fX9_parseText := by
  intro sx sm h
  obtain ⟨T, h5, h6, h7, h8⟩ := h.2.2.1
  have hch : ∃ ch : Nat → Nat, ∀ j, j < T → ch j < 127 ∧ sx.2 62 j = nI (ch j) ∧ sm.2 25 j = nI (ch j) := by
    refine ⟨fun j => if hj : j < T then (h8 j hj).choose else 0, fun j hj => ?_⟩
    have := (h8 j hj).choose_spec
    simp only [dif_pos hj]
    exact this
  obtain ⟨ch, hch⟩ := hch
  obtain ⟨r, s1, k1, k2, k3⟩ := readX h6 h5 (fun j hj => ⟨(hch j hj).1, (hch j hj).2.1⟩)
  -- the class's side behind its reading, the reference's at its start
  have hM0 : MS ch T (ax_sI (ax_sI (ax_sI sm 0 37 (nI T)) 0 36 0) 0 38 0) 0 := ⟨by simp [pI1], h5, fun j hj => ⟨(hch j hj).1, by rw [pI2, pI2, pI2]; exact (hch j hj).2.2⟩, Nat.zero_le _, by simp [pI1, nI_0], fun j hj => by rw [pI2, pI2, pI2]; exact h.2.2.2 j hj⟩
  have hR0 : ∀ (t : ax_S), PMf (ax_sI (ax_sI (ax_sI sm 0 37 (nI T)) 0 36 0) 0 38 0) t → Rl (ax_sI s1 61 0 0) t := fun t g => by
    refine Rl_txt h (fun o ho => ?_) (fun k h1 h2 h3 h4 => ?_) (fun o h1 h2 => ?_) ⟨0, Nat.zero_le _, by simp [pI1, nI_0], ?_, fun j hj => by omega⟩
    · rw [pI1n _ _ _ (by omega), pI2]
      exact ⟨k2.1 o (by omega), k2.2.1 o (by omega)⟩
    · rw [g.1 k h3 h4, pI1, if_neg (by omega), pI1, if_neg (by omega), pI1, if_neg (by omega)]
    · rw [g.2 o h2, pI2, pI2, pI2]
    · rw [g.1 36 (by decide) (by decide)]
      simp [pI1, nI_0]
  unfold fX8_parseText fX9_parseText fX7_empty
  rw [k1, pb, pt, pb, pt, pt, pt, h7]
  have hfr := frstL (ch := ch) (T := T) 200 4000 0 0 _ (by omega) (by decide) (by decide) hM0
  rw [nI_0] at hfr
  rcases k3 with ⟨l, l1, l2, l3, l4⟩ | ⟨l1, l2, l3⟩
  · rcases hfr with ⟨l', t, q1, q2, q3, q4, q5⟩ | ⟨t, q1, -⟩
    · rw [l1] at q1
      cases q1
      rw [l2, if_neg (by decide), q3, Nat.zero_add]
      obtain ⟨r', sx', sm', v1, v2, v3⟩ := execL 200 4000 4000 0 0 l.length l (ax_sI s1 61 0 0) t l1 (by decide) (by decide) (by omega) (by omega) (hR0 t q5) (fun j c hj => by
        rw [Nat.zero_add]
        have := l4 j c hj
        unfold RowX at this ⊢
        rw [pI2]
        exact this) (by rw [pI1, if_neg (by omega)]; exact l3) q4
      rw [nI_0] at v1 v2
      exact ⟨r', sx', sm', v1, v2, v3⟩
    · rw [l1] at q1; cases q1
  · rcases hfr with ⟨l', t, q1, -⟩ | ⟨t, q1, q2, q3⟩
    · rw [l1] at q1; cases q1
    · rw [l2, if_pos rfl, q2, pI1, if_neg (by omega), l3]
      exact ⟨_, _, _, rfl, rfl, hR0 t q3⟩
