/-! THE PURE PART: the class reads a whole text. -/
theorem XS.c {ch : Nat → Nat} {T : Nat} {st : ax_S} {s : sg} (h : XS ch T st s) (v : Int32) : XS ch T (ax_sI st 63 0 v) s := by
  obtain ⟨h1, h2, h3, h4, h5, h6⟩ := h
  exact ⟨by rw [pI1, if_neg (by omega)]; exact h1, h2, fun j hj => by rw [pI2]; exact h3 j hj, h4, by rw [pI1, if_neg (by omega)]; exact h5, by rw [pI1, if_neg (by omega)]; exact h6⟩
def PFw (i : Nat) (s t : ax_S) : Prop := (∀ o, o ≠ 63 → t.1 o = s.1 o) ∧ (∀ o, (o < 64 ∨ 69 < o) → t.2 o = s.2 o) ∧ (∀ o j, j < i → t.2 o j = s.2 o j)
theorem PFw.tr {i : Nat} {s t u : ax_S} (h : PFw i s t) (g : PFw i t u) : PFw i s u := ⟨fun o ho => (g.1 o ho).trans (h.1 o ho), fun o ho => (g.2.1 o ho).trans (h.2.1 o ho), fun o j hj => (g.2.2 o j hj).trans (h.2.2 o j hj)⟩
theorem PFr.w {i : Nat} {s t : ax_S} (h : PFr i s t) : PFw i s t := ⟨h.1, h.2.2.1, fun o j hj => h.2.2.2 o j (by omega)⟩
theorem PFw.up {i : Nat} {s t : ax_S} (h : PFw (i + 1) s t) : PFw i s t := ⟨h.1, h.2.1, fun o j hj => h.2.2 o j (by omega)⟩
theorem PFw.c (i : Nat) (s : ax_S) (k : Nat) (v : Int32) : PFw i s (ax_sI s 63 k v) := ⟨fun o ho => pI1n _ _ _ ho, fun o _ => by rw [pI2], fun o j _ => by rw [pI2]⟩
theorem comX {ch : Nat → Nat} {T : Nat} {st : ax_S} {s : sg} (h : XS ch T st s) {i : Nat} (hi : i < 60) (hc : st.1 63 0 = nI i) : ∃ st', fX3_takeCommand st = some (0, st') ∧ XS ch T st' (cm ch T s).2 ∧ st'.1 63 0 = nI (i + 1) ∧ RowX st' i (cm ch T s).1 ∧ PFw i st st' := by
  obtain ⟨s1, a1, a2, a3⟩ := digX h
  have a2' := ((((a2.E (o := 65) (by decide) i (nI (dg ch T s).1)).E (o := 66) (by decide) i 0).E (o := 67) (by decide) i 0).E (o := 68) (by decide) i 0).E (o := 69) (by decide) i 0
  have f7 : PFr i st (ax_sE (ax_sE (ax_sE (ax_sE (ax_sE s1 65 i (nI (dg ch T s).1)) 66 i 0) 67 i 0) 68 i 0) 69 i 0) := (((((PFr.of a3).tr (PFr.E i _ (by decide) _)).tr (PFr.E i _ (by decide) _)).tr (PFr.E i _ (by decide) _)).tr (PFr.E i _ (by decide) _)).tr (PFr.E i _ (by decide) _)
  have q65 : (ax_sE (ax_sE (ax_sE (ax_sE (ax_sE s1 65 i (nI (dg ch T s).1)) 66 i 0) 67 i 0) 68 i 0) 69 i 0).2 65 i = nI (dg ch T s).1 := by simp [pE2]
  have q66 : (ax_sE (ax_sE (ax_sE (ax_sE (ax_sE s1 65 i (nI (dg ch T s).1)) 66 i 0) 67 i 0) 68 i 0) 69 i 0).2 66 i = 0 := by simp [pE2]
  have q67 : (ax_sE (ax_sE (ax_sE (ax_sE (ax_sE s1 65 i (nI (dg ch T s).1)) 66 i 0) 67 i 0) 68 i 0) 69 i 0).2 67 i = 0 := by simp [pE2]
  have q68 : (ax_sE (ax_sE (ax_sE (ax_sE (ax_sE s1 65 i (nI (dg ch T s).1)) 66 i 0) 67 i 0) 68 i 0) 69 i 0).2 68 i = 0 := by simp [pE2]
  have q69 : (ax_sE (ax_sE (ax_sE (ax_sE (ax_sE s1 65 i (nI (dg ch T s).1)) 66 i 0) 67 i 0) 68 i 0) 69 i 0).2 69 i = 0 := by simp [pE2]
  have start : fX3_takeCommand st = (ax_bind (fX3_isNext (33 : Int32) (ax_sE (ax_sE (ax_sE (ax_sE (ax_sE s1 65 i (nI (dg ch T s).1)) 66 i 0) 67 i 0) 68 i 0) 69 i 0)) fun r8 st9 => if r8 = 0 then (ax_bind (fX3_isNext (61 : Int32) st9) fun r10 st11 => if r10 = 0 then (ax_sto st11 64 60 (nI i) (0 : Int32) fun st12 => ax_bind (fX3_takeInvocation (nI i) st12) fun r13 st14 => fX3_takeCommand_b127 st14) else (ax_sto st11 64 60 (nI i) (1 : Int32) fun st15 => ax_bind (fX3_take (61 : Int32) st15) fun r16 st17 => ax_bind (fX3_takeNumber st17) fun r18 st19 => ax_sto st19 68 60 (nI i) r18 fun st20 => fX3_takeCommand_b127 st20)) else (ax_sto st9 64 60 (nI i) (2 : Int32) fun st21 => ax_bind (fX3_take (33 : Int32) st21) fun r22 st23 => fX3_takeCommand_b127 st23)) := by
    unfold fX3_takeCommand
    rw [hc, if_pos (by show nI i < nI 60; exact nI_lt hi (by decide)), a1, pb, psto (by omega) (by decide), psto (by omega) (by decide), psto (by omega) (by decide), psto (by omega) (by decide), psto (by omega) (by decide)]
  rw [start]
  generalize ax_sE (ax_sE (ax_sE (ax_sE (ax_sE s1 65 i (nI (dg ch T s).1)) 66 i 0) 67 i 0) 68 i 0) 69 i 0 = s2 at *
  have fin : ∀ (t : ax_S) (u : sg) (c : cmd), XS ch T t u → PFr i st t → RowX t i c → ∃ st', fX3_takeCommand_b127 t = some (0, st') ∧ XS ch T st' u ∧ st'.1 63 0 = nI (i + 1) ∧ RowX st' i c ∧ PFw i st st' := fun t u c h1 h2 h3 => by
    refine ⟨ax_sI t 63 0 (nI (i + 1)), ?_, h1.c _, by rw [pI1, if_pos ⟨rfl, rfl⟩], ?_, h2.w.tr (PFw.c i t 0 _)⟩
    · unfold fX3_takeCommand_b127
      rw [pt, h2.2.1, hc, nI_1]
    · unfold RowX at h3 ⊢
      rw [pI2]
      exact h3
  show ∃ st', ax_bind (fX3_isNext (nI 33) s2) _ = _ ∧ _
  rw [nextX a2' (by decide), pb]
  unfold cm cm1
  by_cases h33 : ca ch T (dg ch T s).2.2 33
  · rw [cif_p h33, cif_p h33, if_neg (by decide), psto (by omega) (by decide)]
    obtain ⟨s4, b1, b2, b3⟩ := takeXX (a2'.E (o := 64) (by decide) i 2) (k := 33) (by decide)
    show ∃ st', ax_bind (fX3_take (nI 33) _) _ = _ ∧ _
    rw [b1, pb]
    have rk : ∀ o, o ≠ 64 → s4.2 o = s2.2 o := fun o ho => by rw [b3.1, pE2n _ _ _ ho]
    refine fin s4 _ _ b2 ((f7.tr (PFr.E i _ (by decide) _)).tr (PFr.of b3)) ⟨?_, ?_, ?_, ?_, ?_, ?_⟩
    · rw [b3.1, pE2, if_pos rfl, if_pos rfl]; rfl
    · rw [rk 65 (by decide)]; exact q65
    · rw [rk 66 (by decide)]; exact q66
    · rw [rk 67 (by decide)]; exact q67
    · rw [rk 68 (by decide)]; exact q68
    · rw [rk 69 (by decide)]; exact q69
  · rw [cif_n h33, cif_n h33, if_pos rfl]
    show ∃ st', ax_bind (fX3_isNext (nI 61) s2) _ = _ ∧ _
    rw [nextX a2' (by decide), pb]
    by_cases h61 : ca ch T (dg ch T s).2.2 61
    · rw [cif_p h61, cif_p h61, if_neg (by decide), psto (by omega) (by decide)]
      obtain ⟨s4, b1, b2, b3⟩ := takeXX (a2'.E (o := 64) (by decide) i 1) (k := 61) (by decide)
      obtain ⟨s5, c1, c2, c3⟩ := numX b2
      show ∃ st', ax_bind (fX3_take (nI 61) _) _ = _ ∧ _
      rw [b1, pb, c1, pb, psto (by omega) (by decide)]
      have rk : ∀ o, o ≠ 64 → s5.2 o = s2.2 o := fun o ho => by rw [c3.1, b3.1, pE2n _ _ _ ho]
      refine fin _ _ _ (c2.E (o := 68) (by decide) i _) ((((f7.tr (PFr.E i _ (by decide) _)).tr (PFr.of b3)).tr (PFr.of c3)).tr (PFr.E i _ (by decide) _)) ⟨?_, ?_, ?_, ?_, ?_, ?_⟩
      · rw [pE2n _ _ _ (by decide), c3.1, b3.1, pE2, if_pos rfl, if_pos rfl]; rfl
      · rw [pE2n _ _ _ (by decide), rk 65 (by decide)]; exact q65
      · rw [pE2n _ _ _ (by decide), rk 66 (by decide)]; exact q66
      · rw [pE2n _ _ _ (by decide), rk 67 (by decide)]; exact q67
      · rw [pE2, if_pos rfl, if_pos rfl]
      · rw [pE2n _ _ _ (by decide), rk 69 (by decide)]; exact q69
    · rw [cif_n h61, cif_n h61, if_pos rfl, psto (by omega) (by decide)]
      obtain ⟨s4, b1, b2, b3, b4, b5, b6, b7, b8, b9⟩ := invX (a2'.E (o := 64) (by decide) i 0) hi (dg ch T s).1 (by rw [pE2n _ _ _ (by decide)]; exact q68) (by rw [pE2n _ _ _ (by decide)]; exact q69)
      rw [b1, pb]
      refine fin s4 _ _ b2 ((f7.tr (PFr.E i _ (by decide) _)).tr b3) ⟨?_, ?_, b6, b7, b8, b9⟩
      · rw [b4, pE2, if_pos rfl, if_pos rfl]; rfl
      · rw [b5, pE2n _ _ _ (by decide)]; exact q65
theorem readL {ch : Nat → Nat} {T : Nat} (hT : T ≤ 120) : ∀ (f m i p : Nat) (st : ax_S), T < p + f → f < m → 3 * i ≤ p → XS ch T st (false, p) → st.1 63 0 = nI i →
    ∃ r st', (ax_bind (fX3_takeCommand st) fun _ st5 => fX3_readsAll_L21 m (nI (i + 1)) st5) = some (r, st') ∧ PFw i st st' ∧
    ((∃ l, (allP ch T f p).1 = some l ∧ r = 1 ∧ st'.1 63 0 = nI (i + l.length) ∧ ∀ j c, l[j]? = some c → RowX st' (i + j) c) ∨
     ((allP ch T f p).1 = none ∧ r = 0 ∧ st'.1 63 8 = nI (allP ch T f p).2)) := by
  intro f
  induction f with
  | zero =>
    intro m i p st hf hm h3 hX hc
    have := hX.2.2.2.1
    have : p ≤ T := this
    omega
  | succ f ih =>
    intro m i p st hf hm h3 hX hc
    obtain ⟨m, rfl⟩ : ∃ k, m = k + 1 := ⟨m - 1, by omega⟩
    have hpT : p ≤ T := hX.2.2.2.1
    have hi40 : i ≤ 40 := by omega
    obtain ⟨s1, a1, a2, a3, a4, a5⟩ := comX hX (i := i) (by omega) hc
    rw [a1, pb, fX3_readsAll_L21, if_neg (by show ¬ (nI 60 ≤ nI (i + 1)); exact nI_ge (by omega) (by decide))]
    unfold fX3_readsAll_b64 fX3_readsAll_b76
    rw [allP]
    rcases cases_sg (cm ch T (false, p)).2 with hs | hs
    · have h9 : ¬ s1.1 63 9 = 0 := by
        have := a2.2.2.2.2.2
        rw [hs] at this
        have : s1.1 63 9 = 1 := this
        rw [this]; decide
      have h1 : (cm ch T (false, p)).2.1 = true := by rw [hs]
      rw [if_neg h9, if_neg h9, if_pos h1]
      exact ⟨0, s1, prz0 s1, a5, Or.inr ⟨rfl, rfl, a2.2.2.2.2.1⟩⟩
    · have h1 : (cm ch T (false, p)).2.1 = false := by rw [hs]
      have h2 := cm_2 h1
      have h9 : s1.1 63 9 = 0 := by
        have := a2.2.2.2.2.2
        rw [h1] at this
        exact this
      have hq8 := a2.2.2.2.2.1
      have hqT := a2.2.2.2.1
      rw [if_pos h9, if_pos h9, h1]
      simp only [Bool.false_eq_true, if_false]
      rw [a2.1, hq8]
      generalize hqe : (cm ch T (false, p)).2.2 = q at *
      by_cases hq : q < T
      · rw [if_neg (nI_ge hq (by omega)), if_pos hq]
        obtain ⟨s2, b1, b2, b3⟩ := takeXX a2 (k := 59) (by decide)
        rw [hs] at b2
        have hc2 : s2.1 63 0 = nI (i + 1) := b3.2.2.trans a3
        show ∃ r st', ax_bind (fX3_take (nI 59) s1) _ = _ ∧ _
        rw [b1, pb, nI_1]
        by_cases h59 : ch q = 59
        · have e : tk ch T 59 (false, q) = (false, q + 1) := cif_p ⟨rfl, hq, h59⟩ _ _
          rw [e] at b2
          obtain ⟨r, st', k1, k2, k3⟩ := ih m (i + 1) (q + 1) s2 (by omega) (by omega) (by omega) b2 hc2
          rw [if_pos h59]
          refine ⟨r, st', k1, (a5.tr (PFr.of b3 : PFr i s1 s2).w).tr k2.up, ?_⟩
          rcases k3 with ⟨l, l1, l2, l3, l4⟩ | ⟨l1, l2, l3⟩
          · refine Or.inl ⟨(cm ch T (false, p)).1 :: l, by rw [l1]; rfl, l2, by rw [l3]; congr 1; simp only [List.length_cons]; omega, fun j c hj => ?_⟩
            rcases j with - | j
            · have hj : (cm ch T (false, p)).1 = c := by simpa using hj
              rw [← hj]
              unfold RowX at a4 ⊢
              have g := fun o => k2.2.2 o i (by omega)
              rw [Nat.add_zero, g 64, g 65, g 66, g 67, g 68, g 69, b3.1]
              exact a4
            · have := l4 j c (by simpa using hj)
              rw [show i + (j + 1) = i + 1 + j by omega]
              exact this
          · exact Or.inr ⟨by rw [l1]; rfl, l2, l3⟩
        · have e : tk ch T 59 (false, q) = (true, q) := cif_n (fun g => h59 g.2.2) _ _
          rw [e] at b2
          obtain ⟨s3, c1, c2, c3, c4, c5⟩ := comX b2 (i := i + 1) (by omega) hc2
          rw [cm_f] at c2
          obtain ⟨m, rfl⟩ : ∃ k, m = k + 1 := ⟨m - 1, by omega⟩
          have h93 : ¬ s3.1 63 9 = 0 := by
            have : s3.1 63 9 = 1 := c2.2.2.2.2.2
            rw [this]; decide
          rw [c1, pb, fX3_readsAll_L21, if_neg (by show ¬ (nI 60 ≤ nI (i + 1 + 1)); exact nI_ge (by omega) (by decide)), if_neg h93, if_neg h59]
          unfold fX3_readsAll_b64 fX3_readsAll_b76
          rw [if_neg h93]
          exact ⟨0, s3, prz0 s3, (a5.tr (PFr.of b3 : PFr i s1 s2).w).tr c5.up, Or.inr ⟨rfl, rfl, c2.2.2.2.2.1⟩⟩
      · rw [if_pos (nI_le (by omega) (by omega)), if_neg hq]
        refine ⟨1, s1, prz1 s1, a5, Or.inl ⟨[(cm ch T (false, p)).1], rfl, rfl, a3, fun j c hj => ?_⟩⟩
        rcases j with - | j
        · have hj : (cm ch T (false, p)).1 = c := by simpa using hj
          rw [← hj]
          exact a4
        · simp at hj
theorem readX {ch : Nat → Nat} {T : Nat} {st : ax_S} (h1 : st.1 61 0 = nI T) (hT : T ≤ 120) (h3 : ∀ j, j < T → ch j < 127 ∧ st.2 62 j = nI (ch j)) : ∃ r st', fX3_readsAll st = some (r, st') ∧ PFw 0 st st' ∧
    ((∃ l, (allP ch T 200 0).1 = some l ∧ r = 1 ∧ st'.1 63 0 = nI l.length ∧ ∀ j c, l[j]? = some c → RowX st' j c) ∨
     ((allP ch T 200 0).1 = none ∧ r = 0 ∧ st'.1 63 8 = nI (allP ch T 200 0).2)) := by
  have hX : XS ch T (ax_sI (ax_sI (ax_sI st 63 0 0) 63 8 0) 63 9 0) (false, 0) := ⟨by simp [pI1]; exact h1, hT, fun j hj => by rw [pI2, pI2, pI2]; exact h3 j hj, Nat.zero_le _, by simp [pI1, nI_0], by simp [pI1]⟩
  obtain ⟨r, st', k1, k2, k3⟩ := readL hT 200 4000 0 0 _ (by omega) (by decide) (by decide) hX (by simp [pI1, nI_0])
  refine ⟨r, st', ?_, (((PFw.c 0 st 0 0).tr (PFw.c 0 _ 8 0)).tr (PFw.c 0 _ 9 0)).tr k2, ?_⟩
  · unfold fX3_readsAll
    rw [pt, pt, ppz0]
    exact k1
  · rcases k3 with ⟨l, l1, l2, l3, l4⟩ | k3
    · refine Or.inl ⟨l, l1, l2, by rw [l3, Nat.zero_add], fun j c hj => ?_⟩
      have := l4 j c hj
      rw [Nat.zero_add] at this
      exact this
    · exact Or.inr k3
