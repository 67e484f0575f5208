/-! THE PURE PART: the reference reads a command. -/
theorem agoM {k : Nat} (hk : k < 10) (st : ax_S) : fX9_argumentsOf (nI k) st = some (nI (acnt k), st) := by
  rcases (show k = 0 ∨ k = 1 ∨ k = 2 ∨ k = 3 ∨ k = 4 ∨ k = 5 ∨ k = 6 ∨ k = 7 ∨ k = 8 ∨ k = 9 by omega) with rfl | rfl | rfl | rfl | rfl | rfl | rfl | rfl | rfl | rfl <;> simp [fX9_argumentsOf, fX9_argumentsOf_b29, fX9_argumentsOf_b24, qeq_0, qeq_2, qeq_3, qeq_6, acnt] <;> rfl
theorem acnt_l (k : Nat) : acnt k = 0 ∨ acnt k = 1 ∨ (acnt k = 2 ∧ k = 2) := by
  unfold acnt
  split
  · rename_i h; exact Or.inr (Or.inr ⟨rfl, h⟩)
  · split
    · exact Or.inl rfl
    · exact Or.inr (Or.inl rfl)
def ArgM (st t : ax_S) (ob k : Nat) (x y : Int32) : Prop := t.1 0 39 = nI k ∧ t.2 26 0 = st.2 26 0 ∧ t.2 26 1 = nI ob ∧ t.2 26 2 = x ∧ t.2 26 3 = y
theorem argsM {ch : Nat → Nat} {T : Nat} {st t : ax_S} {p : Nat} (h : MS ch T t p) {th ob k : Nat} (hk : k < 10) (hP : PMf st t) (hA : ArgM st t ob k 0 0) : ∃ st', fX9_takesInvocation_L53 4000 1 0 t = some (if (inv4 ch T th ob k (false, p)).2.1 then 0 else 1, st') ∧ MS ch T st' (inv4 ch T th ob k (false, p)).2.2 ∧ PMf st st' ∧ st'.2 26 0 = st.2 26 0 ∧ ((inv4 ch T th ob k (false, p)).2.1 = false → ArgM st st' ob k (inv4 ch T th ob k (false, p)).1.2.2.2.2.1 (inv4 ch T th ob k (false, p)).1.2.2.2.2.2) := by
  -- the bracket at the end
  have close : ∀ (u : ax_S) (q : Nat) (x y : Int32), MS ch T u q → PMf st u → ArgM st u ob k x y → ∃ st', fX9_takesInvocation_b103 1 u = some (if (tk ch T 41 (false, q)).1 then 0 else 1, st') ∧ MS ch T st' (tk ch T 41 (false, q)).2 ∧ PMf st st' ∧ st'.2 26 0 = st.2 26 0 ∧ ((tk ch T 41 (false, q)).1 = false → ArgM st st' ob k x y) := fun u q x y hu h1 h2 => by
    obtain ⟨s1, a1, a2, -, a4, a5⟩ := tkM hu (k := 41) (by decide)
    have hP1 : PMf st s1 := h1.tr ⟨fun j g1 _ => a5 j g1, fun o _ => by rw [a4]⟩
    have hA1 : ArgM st s1 ob k x y := by
      obtain ⟨g1, g2, g3, g4, g5⟩ := h2
      exact ⟨by rw [a5 39 (by decide)]; exact g1, by rw [a4]; exact g2, by rw [a4]; exact g3, by rw [a4]; exact g4, by rw [a4]; exact g5⟩
    unfold fX9_takesInvocation_b103 fX9_takesInvocation_b120 fX9_takesInvocation_b121
    rw [if_neg (by decide)]
    show ∃ st', ax_bind (fX9_takes (nI 41) u) _ = _ ∧ _
    rw [a1, pb]
    by_cases hc : ca ch T q 41
    · have e : tk ch T 41 (false, q) = (false, q + 1) := cif_p ⟨rfl, hc⟩ _ _
      rw [cif_p hc, if_neg (by decide), prz1, e]
      rw [e] at a2
      exact ⟨s1, rfl, a2, hP1, hA1.2.1, fun _ => hA1⟩
    · have e : tk ch T 41 (false, q) = (true, q) := cif_n (fun g => hc g.2) _ _
      rw [cif_n hc, if_pos rfl, prz0, e]
      rw [e] at a2
      exact ⟨s1, rfl, a2, hP1, hA1.2.1, fun hh => by cases hh⟩
  have hk39 := hA.1
  have e4 : (inv4 ch T th ob k (false, p)).1.2.2.2.2.1 = (arg1 ch T k (false, p)).1 := rfl
  have e5 : (inv4 ch T th ob k (false, p)).1.2.2.2.2.2 = (arg2 ch T k (arg1 ch T k (false, p)).2).1 := rfl
  have e6 : (inv4 ch T th ob k (false, p)).2 = tk ch T 41 (arg2 ch T k (arg1 ch T k (false, p)).2).2 := rfl
  rw [e4, e5, e6]
  rw [show (4000 : Nat) = 3999 + 1 from rfl, fX9_takesInvocation_L53, hk39, agoM hk, pb]
  rcases acnt_l k with h0 | h0 | ⟨h0, hk2⟩
  · have f1 : arg1 ch T k (false, p) = (0, (false, p)) := by unfold arg1; rw [h0, if_neg (by decide)]
    have f2 : arg2 ch T k (false, p) = (0, (false, p)) := by unfold arg2; rw [h0, if_neg (by decide)]
    rw [h0, if_pos (by decide), f1, f2]
    exact close t p 0 0 h hP hA
  · have f1 : ∀ s, arg1 ch T k s = num ch T s := fun s => by unfold arg1; rw [h0, if_pos (by decide)]
    have f2 : ∀ s, arg2 ch T k s = (0, s) := fun s => by unfold arg2; rw [h0, if_neg (by decide)]
    rw [h0, if_neg (by decide), if_neg (by decide), if_pos rfl, f1, f2]
    unfold fX9_takesInvocation_b81 fX9_takesInvocation_b95 fX9_takesInvocation_b96
    obtain ⟨s1, a1, a2, a3, a4, a5, a6⟩ := numM h (i := 2) (by decide)
    show ∃ st', ax_bind (fX9_takesNumber (nI 2) t) _ = _ ∧ _
    rw [a1, pb]
    have hA1 : s1.1 0 39 = nI k := a4.trans hk39
    cases hb : (num ch T (false, p)).2.1 with
    | true =>
      have e7 : (num ch T (false, p)).2 = (true, (num ch T (false, p)).2.2) := Prod.ext hb rfl
      rw [if_pos rfl, if_pos rfl, show (3999 : Nat) = 3998 + 1 from rfl, fX9_takesInvocation_L53, hA1, agoM hk, pb, h0, if_pos (by decide)]
      unfold fX9_takesInvocation_b103 fX9_takesInvocation_b120 fX9_takesInvocation_b121
      rw [if_pos rfl, prz0, e7, tk_f]
      exact ⟨s1, rfl, a2, hP.tr a3, by rw [a5 0 (by decide)]; exact hA.2.1, fun hh => by cases hh⟩
    | false =>
      have e7 : (num ch T (false, p)).2 = (false, (num ch T (false, p)).2.2) := Prod.ext hb rfl
      rw [if_neg (by decide), show (3999 : Nat) = 3998 + 1 from rfl, fX9_takesInvocation_L53, hA1, agoM hk, pb, h0, if_pos (by decide)]
      have := close s1 _ (num ch T (false, p)).1 0 a2 (hP.tr a3) ⟨hA1, by rw [a5 0 (by decide)]; exact hA.2.1, by rw [a5 1 (by decide)]; exact hA.2.2.1, a6 hb, by rw [a5 3 (by decide)]; exact hA.2.2.2.2⟩
      rw [← e7] at this
      exact this
  · have f1 : ∀ s, arg1 ch T k s = num ch T s := fun s => by unfold arg1; rw [h0, if_pos (by decide)]
    have f2 : ∀ s, arg2 ch T k s = num ch T (tk ch T 44 s) := fun s => by unfold arg2; rw [h0, if_pos (by decide)]
    rw [h0, if_neg (by decide), if_neg (by decide), if_pos rfl, f1, f2]
    unfold fX9_takesInvocation_b81 fX9_takesInvocation_b95 fX9_takesInvocation_b96
    obtain ⟨s1, a1, a2, a3, a4, a5, a6⟩ := numM h (i := 2) (by decide)
    show ∃ st', ax_bind (fX9_takesNumber (nI 2) t) _ = _ ∧ _
    rw [a1, pb]
    have hA1 : s1.1 0 39 = nI k := a4.trans hk39
    have z103 : ∀ (u : ax_S), fX9_takesInvocation_b103 0 u = some (0, u) := fun u => by
      unfold fX9_takesInvocation_b103 fX9_takesInvocation_b120 fX9_takesInvocation_b121
      rw [if_pos rfl, prz0]
    cases hb : (num ch T (false, p)).2.1 with
    | true =>
      have e7 : (num ch T (false, p)).2 = (true, (num ch T (false, p)).2.2) := Prod.ext hb rfl
      rw [if_pos rfl, if_pos rfl, show (3999 : Nat) = 3998 + 1 from rfl, fX9_takesInvocation_L53, hA1, agoM hk, pb, h0, if_neg (by decide), if_pos rfl, z103, e7, tk_f, num_f, tk_f]
      exact ⟨s1, rfl, a2, hP.tr a3, by rw [a5 0 (by decide)]; exact hA.2.1, fun hh => by cases hh⟩
    | false =>
      have e7 : (num ch T (false, p)).2 = (false, (num ch T (false, p)).2.2) := Prod.ext hb rfl
      rw [if_neg (by decide), show (3999 : Nat) = 3998 + 1 from rfl, fX9_takesInvocation_L53, hA1, agoM hk, pb, h0, if_neg (by decide), if_neg (by decide), if_neg (by decide)]
      generalize hq : (num ch T (false, p)).2.2 = q at *
      rw [e7]
      obtain ⟨s2, b1, b2, -, b4, b5⟩ := tkM a2 (k := 44) (by decide)
      unfold fX9_takesInvocation_b81 fX9_takesInvocation_b95 fX9_takesInvocation_b96
      show ∃ st', ax_bind (fX9_takes (nI 44) s1) _ = _ ∧ _
      rw [b1, pb]
      have hP2 : PMf st s2 := (hP.tr a3).tr ⟨fun j g1 _ => b5 j g1, fun o _ => by rw [b4]⟩
      have hA2 : s2.1 0 39 = nI k := (b5 39 (by decide)).trans hA1
      have h20 : s2.2 26 0 = st.2 26 0 := by rw [b4, a5 0 (by decide)]; exact hA.2.1
      by_cases hc : ca ch T q 44
      · have e : tk ch T 44 (false, q) = (false, q + 1) := cif_p ⟨rfl, hc⟩ _ _
        rw [e] at b2 ⊢
        rw [cif_p hc, if_neg (by decide)]
        obtain ⟨s3, c1, c2, c3, c4, c5, c6⟩ := numM b2 (i := 3) (by decide)
        show ∃ st', ax_bind (fX9_takesNumber (nI 3) s2) _ = _ ∧ _
        rw [c1, pb]
        have hA3 : s3.1 0 39 = nI k := c4.trans hA2
        cases hb2 : (num ch T (false, q + 1)).2.1 with
        | true =>
          have e8 : (num ch T (false, q + 1)).2 = (true, (num ch T (false, q + 1)).2.2) := Prod.ext hb2 rfl
          rw [if_pos rfl, if_pos rfl, show (3998 : Nat) = 3997 + 1 from rfl, fX9_takesInvocation_L53, hA3, agoM hk, pb, h0, if_pos (by decide), z103, e8, tk_f]
          exact ⟨s3, rfl, c2, hP2.tr c3, by rw [c5 0 (by decide)]; exact h20, fun hh => by cases hh⟩
        | false =>
          have e8 : (num ch T (false, q + 1)).2 = (false, (num ch T (false, q + 1)).2.2) := Prod.ext hb2 rfl
          rw [if_neg (by decide), show (3998 : Nat) = 3997 + 1 from rfl, fX9_takesInvocation_L53, hA3, agoM hk, pb, h0, if_pos (by decide)]
          have := close s3 _ (num ch T (false, p)).1 (num ch T (false, q + 1)).1 c2 (hP2.tr c3) ⟨hA3, by rw [c5 0 (by decide)]; exact h20, by rw [c5 1 (by decide), b4, a5 1 (by decide)]; exact hA.2.2.1, by rw [c5 2 (by decide), b4]; exact a6 hb, c6 hb2⟩
          rw [← e8] at this
          exact this
      · have e : tk ch T 44 (false, q) = (true, q) := cif_n (fun g => hc g.2) _ _
        rw [e] at b2 ⊢
        rw [cif_n hc, if_pos rfl, show (3998 : Nat) = 3997 + 1 from rfl, fX9_takesInvocation_L53, hA2, agoM hk, pb, h0, if_pos (by decide), z103, num_f, tk_f]
        exact ⟨s2, rfl, b2, hP2, h20, fun hh => by cases hh⟩
theorem invM {ch : Nat → Nat} {T : Nat} {st : ax_S} {p : Nat} (h : MS ch T st p) (th : Nat) : ∃ st', fX9_takesInvocation st = some (if (inv2 ch T th (false, p)).2.1 then 0 else 1, st') ∧ MS ch T st' (inv2 ch T th (false, p)).2.2 ∧ PMf st st' ∧ st'.2 26 0 = st.2 26 0 ∧ ((inv2 ch T th (false, p)).2.1 = false → (inv2 ch T th (false, p)).1.2.2.2.1 < 10 ∧ ArgM st st' (inv2 ch T th (false, p)).1.2.2.1 (inv2 ch T th (false, p)).1.2.2.2.1 (inv2 ch T th (false, p)).1.2.2.2.2.1 (inv2 ch T th (false, p)).1.2.2.2.2.2) := by
  have bad : ∀ (t : ax_S) (q : Nat), (inv2 ch T th (false, p)).2 = (true, q) → MS ch T t q → PMf st t → t.2 26 0 = st.2 26 0 → ∃ st', ax_rz 0 t = some (if (inv2 ch T th (false, p)).2.1 then 0 else 1, st') ∧ MS ch T st' (inv2 ch T th (false, p)).2.2 ∧ PMf st st' ∧ st'.2 26 0 = st.2 26 0 ∧ ((inv2 ch T th (false, p)).2.1 = false → (inv2 ch T th (false, p)).1.2.2.2.1 < 10 ∧ ArgM st st' (inv2 ch T th (false, p)).1.2.2.1 (inv2 ch T th (false, p)).1.2.2.2.1 (inv2 ch T th (false, p)).1.2.2.2.2.1 (inv2 ch T th (false, p)).1.2.2.2.2.2) := fun t q e h1 h2 h3 => by
    rw [e]
    exact ⟨t, prz0 t, h1, h2, h3, fun hh => by cases hh⟩
  unfold fX9_takesInvocation fX9_takesInvocation_b33
  obtain ⟨s1, a1, a2, a3, a4, a5, a6⟩ := dgM h (i := 1) (by decide)
  show ∃ st', ax_bind (fX9_takesDigit (nI 1) st) _ = _ ∧ _
  rw [a1, pb]
  by_cases hd : dgt ch T p
  · have e1 : dg ch T (false, p) = (ch p - 48, (false, p + 1)) := cif_p ⟨rfl, hd⟩ _ _
    rw [e1] at a2 a6
    rw [cif_p hd, if_neg (by decide)]
    obtain ⟨s2, b1, b2, -, b4, b5⟩ := tkM a2 (k := 46) (by decide)
    show ∃ st', ax_bind (fX9_takes (nI 46) s1) _ = _ ∧ _
    rw [b1, pb]
    have hP2 : PMf st s2 := a3.tr ⟨fun j g1 _ => b5 j g1, fun o _ => by rw [b4]⟩
    have h20 : s2.2 26 0 = st.2 26 0 := by rw [b4, a5 0 (by decide)]
    by_cases hc : ca ch T (p + 1) 46
    · have e2 : tk ch T 46 (false, p + 1) = (false, p + 2) := cif_p ⟨rfl, hc⟩ _ _
      rw [e2] at b2
      rw [cif_p hc, if_neg (by decide)]
      obtain ⟨s3, c1, c2, c3, c4, c5⟩ := namM b2
      rw [c1, pb]
      have hk10 := na_l10 ch T (false, p + 2)
      have hP3 : PMf st s3 := hP2.tr ⟨fun j g1 g2 => c4 j g1 g2, fun o _ => by rw [c3]⟩
      have h30 : s3.2 26 0 = st.2 26 0 := by rw [c3]; exact h20
      have e3 : inv2 ch T th (false, p) = inv4 ch T th (ch p - 48) (na ch T (false, p + 2)).1 (tk ch T 40 (na ch T (false, p + 2)).2) := by
        unfold inv2 inv3
        rw [e1]
        show inv4 ch T th (ch p - 48) (na ch T (tk ch T 46 (false, p + 1))).1 (tk ch T 40 (na ch T (tk ch T 46 (false, p + 1))).2) = _
        rw [e2]
      cases hb : (na ch T (false, p + 2)).2.1 with
      | true =>
        have e7 : (na ch T (false, p + 2)).2 = (true, (na ch T (false, p + 2)).2.2) := Prod.ext hb rfl
        rw [if_pos rfl, if_pos rfl]
        exact bad s3 _ (by rw [e3, e7, tk_f, inv4_f]) c2 hP3 h30
      | false =>
        have e7 : (na ch T (false, p + 2)).2 = (false, (na ch T (false, p + 2)).2.2) := Prod.ext hb rfl
        have hk39 := c5 hb
        rw [if_neg (by decide)]
        generalize hq : (na ch T (false, p + 2)).2.2 = q at *
        generalize hk : (na ch T (false, p + 2)).1 = k at *
        obtain ⟨s4, d1, d2, -, d4, d5⟩ := tkM c2 (k := 40) (by decide)
        show ∃ st', ax_bind (fX9_takes (nI 40) s3) _ = _ ∧ _
        rw [d1, pb]
        have hP4 : PMf st s4 := hP3.tr ⟨fun j g1 _ => d5 j g1, fun o _ => by rw [d4]⟩
        have h40 : s4.2 26 0 = st.2 26 0 := by rw [d4]; exact h30
        by_cases hc2 : ca ch T q 40
        · have e8 : tk ch T 40 (false, q) = (false, q + 1) := cif_p ⟨rfl, hc2⟩ _ _
          rw [e8] at d2
          rw [cif_p hc2, if_neg (by decide)]
          rw [show ∀ (g : ax_S → ax_R), ax_sto s4 26 4 (2 : Int32) 0 g = g (ax_sE s4 26 2 0) from fun g => psto (j := 2) (by decide) (by decide)]
          rw [show ∀ (u : ax_S) (g : ax_S → ax_R), ax_sto u 26 4 (3 : Int32) 0 g = g (ax_sE u 26 3 0) from fun u g => psto (j := 3) (by decide) (by decide)]
          have hA : ArgM st (ax_sE (ax_sE s4 26 2 0) 26 3 0) (ch p - 48) k 0 0 := by
            refine ⟨by rw [pE1, pE1, d5 39 (by decide)]; exact hk39, ?_, ?_, ?_, ?_⟩
            · rw [pE2, if_pos rfl, if_neg (by decide), pE2, if_pos rfl, if_neg (by decide)]; exact h40
            · rw [pE2, if_pos rfl, if_neg (by decide), pE2, if_pos rfl, if_neg (by decide), d4, c3, b4]; exact a6 hd
            · rw [pE2, if_pos rfl, if_neg (by decide), pE2, if_pos rfl, if_pos rfl]
            · rw [pE2, if_pos rfl, if_pos rfl]
          obtain ⟨s5, x1, x2, x3, x4, x5⟩ := argsM (th := th) ((d2.E 2 0).E 3 0) hk10 ((hP4.tr (PMf.E _ _ _)).tr (PMf.E _ _ _)) hA
          rw [e3, e7, e8]
          exact ⟨s5, x1, x2, x3, x4, fun hh => ⟨hk10, x5 hh⟩⟩
        · have e8 : tk ch T 40 (false, q) = (true, q) := cif_n (fun g => hc2 g.2) _ _
          rw [e8] at d2
          rw [cif_n hc2, if_pos rfl]
          exact bad s4 _ (by rw [e3, e7, e8, inv4_f]) d2 hP4 h40
    · have e2 : tk ch T 46 (false, p + 1) = (true, p + 1) := cif_n (fun g => hc g.2) _ _
      rw [e2] at b2
      rw [cif_n hc, if_pos rfl]
      exact bad s2 _ (by unfold inv2; rw [e1]; show (inv3 ch T th (ch p - 48) (tk ch T 46 (false, p + 1))).2 = _; rw [e2, inv3_f]) b2 hP2 h20
  · have e1 : dg ch T (false, p) = (0, (true, p)) := cif_n (fun g => hd g.2) _ _
    rw [e1] at a2
    rw [cif_n hd, if_pos rfl]
    exact bad s1 _ (by unfold inv2; rw [e1]; show (inv3 ch T th 0 (tk ch T 46 (true, p))).2 = _; rw [tk_f, inv3_f]) a2 a3 (a5 0 (by decide))
def CmdM (st : ax_S) (c : cmd) : Prop := st.2 26 0 = nI c.2.1 ∧ ((c.1 = 2 ∧ st.1 0 39 = 11) ∨ (c.1 = 1 ∧ st.1 0 39 = 10 ∧ st.2 26 1 = c.2.2.2.2.1) ∨ (c.1 = 0 ∧ c.2.2.2.1 < 10 ∧ st.1 0 39 = nI c.2.2.2.1 ∧ st.2 26 1 = nI c.2.2.1 ∧ st.2 26 2 = c.2.2.2.2.1 ∧ st.2 26 3 = c.2.2.2.2.2 ∧ (c.2.2.2.1 = 4 → c.2.2.2.2.2 = 0)))
theorem y40 (ch : Nat → Nat) (T th : Nat) (s : sg) : (inv2 ch T th s).1.2.2.2.1 = 4 → (inv2 ch T th s).1.2.2.2.2.2 = 0 := by
  intro h
  have h' : (na ch T (tk ch T 46 (dg ch T s).2)).1 = 4 := h
  show (arg2 ch T (na ch T (tk ch T 46 (dg ch T s).2)).1 _).1 = 0
  rw [h']
  rfl
theorem comM {ch : Nat → Nat} {T : Nat} {st : ax_S} {p : Nat} (h : MS ch T st p) : ∃ st', fX9_takesCommand st = some (if (cm ch T (false, p)).2.1 then 0 else 1, st') ∧ MS ch T st' (cm ch T (false, p)).2.2 ∧ PMf st st' ∧ ((cm ch T (false, p)).2.1 = false → CmdM st' (cm ch T (false, p)).1) := by
  unfold fX9_takesCommand fX9_takesCommand_b68 fX9_takesCommand_b69
  obtain ⟨s1, a1, a2, a3, a4, a5, a6⟩ := dgM h (i := 0) (by decide)
  show ∃ st', ax_bind (fX9_takesDigit (nI 0) st) _ = _ ∧ _
  rw [a1, pb]
  by_cases hd : dgt ch T p
  · have e1 : dg ch T (false, p) = (ch p - 48, (false, p + 1)) := cif_p ⟨rfl, hd⟩ _ _
    rw [e1] at a2 a6
    have e0 : cm ch T (false, p) = cm1 ch T (ch p - 48) (false, p + 1) := by unfold cm; rw [e1]
    have h10 := a6 hd
    rw [cif_p hd, if_neg (by decide), e0]
    obtain ⟨s2, b1, b2, -, b4, b5⟩ := tkM a2 (k := 33) (by decide)
    show ∃ st', ax_bind (fX9_takes (nI 33) s1) _ = _ ∧ _
    rw [b1, pb]
    have hP2 : PMf st s2 := a3.tr ⟨fun j g1 _ => b5 j g1, fun o _ => by rw [b4]⟩
    have h20 : s2.2 26 0 = nI (ch p - 48) := by rw [b4]; exact h10
    unfold cm1
    by_cases h33 : ca ch T (p + 1) 33
    · have e2 : tk ch T 33 (false, p + 1) = (false, p + 2) := cif_p ⟨rfl, h33⟩ _ _
      rw [e2] at b2
      rw [cif_p h33, if_neg (by decide), cif_p (show ca ch T (false, p + 1).2 33 from h33), e2, pt, prz1]
      exact ⟨_, rfl, b2.k 11, hP2.tr (PMf.I _ (Or.inr rfl) _), fun _ => ⟨by rw [pI2]; exact h20, Or.inl ⟨rfl, by rw [pI1, if_pos ⟨rfl, rfl⟩]⟩⟩⟩
    · have e2 : tk ch T 33 (false, p + 1) = (true, p + 1) := cif_n (fun g => h33 g.2) _ _
      rw [e2] at b2
      rw [cif_n h33, if_pos rfl, cif_n (show ¬ ca ch T (false, p + 1).2 33 from h33)]
      obtain ⟨s3, c1, c2, -, c4, c5⟩ := tkM b2 (k := 61) (by decide)
      show ∃ st', ax_bind (fX9_takes (nI 61) s2) _ = _ ∧ _
      rw [c1, pb]
      have hP3 : PMf st s3 := hP2.tr ⟨fun j g1 _ => c5 j g1, fun o _ => by rw [c4]⟩
      have h30 : s3.2 26 0 = nI (ch p - 48) := by rw [c4]; exact h20
      by_cases h61 : ca ch T (p + 1) 61
      · have e3 : tk ch T 61 (false, p + 1) = (false, p + 2) := cif_p ⟨rfl, h61⟩ _ _
        rw [show (tk ch T 61 (false, (true, p + 1).2)) = (false, p + 2) from e3] at c2
        rw [cif_p h61, if_neg (by decide), cif_p (show ca ch T (false, p + 1).2 61 from h61), e3, pt]
        obtain ⟨s4, d1, d2, d3, d4, d5, d6⟩ := numM (c2.k 10) (i := 1) (by decide)
        show ∃ st', ax_bind (fX9_takesNumber (nI 1) _) _ = _ ∧ _
        rw [d1, pb]
        refine ⟨s4, ?_, d2, (hP3.tr (PMf.I _ (Or.inr rfl) _)).tr d3, fun hh => ⟨by rw [d5 0 (by decide), pI2]; exact h30, Or.inr (Or.inl ⟨rfl, by rw [d4, pI1, if_pos ⟨rfl, rfl⟩], d6 hh⟩)⟩⟩
        cases (num ch T (false, p + 2)).2.1
        · exact prz1 s4
        · exact prz0 s4
      · have e3 : tk ch T 61 (false, p + 1) = (true, p + 1) := cif_n (fun g => h61 g.2) _ _
        rw [show (tk ch T 61 (false, (true, p + 1).2)) = (true, p + 1) from e3] at c2
        rw [cif_n h61, if_pos rfl, cif_n (show ¬ ca ch T (false, p + 1).2 61 from h61)]
        obtain ⟨s4, d1, d2, -, d4, d5⟩ := tkM c2 (k := 46) (by decide)
        show ∃ st', ax_bind (fX9_takes (nI 46) s3) _ = _ ∧ _
        rw [d1, pb]
        have hP4 : PMf st s4 := hP3.tr ⟨fun j g1 _ => d5 j g1, fun o _ => by rw [d4]⟩
        have h40 : s4.2 26 0 = nI (ch p - 48) := by rw [d4]; exact h30
        by_cases h46 : ca ch T (p + 1) 46
        · have e4 : tk ch T 46 (false, p + 1) = (false, p + 2) := cif_p ⟨rfl, h46⟩ _ _
          rw [show (tk ch T 46 (false, (true, p + 1).2)) = (false, p + 2) from e4] at d2
          rw [cif_p h46, if_neg (by decide), e4]
          obtain ⟨s5, x1, x2, x3, x4, x5⟩ := invM d2 (ch p - 48)
          rw [x1, pb]
          have hy := y40 ch T (ch p - 48) (false, p + 2)
          cases hb : (inv2 ch T (ch p - 48) (false, p + 2)).2.1 with
          | true =>
            rw [if_pos rfl, if_pos rfl, prz0]
            exact ⟨s5, rfl, x2, hP4.tr x3, fun hh => by cases hh⟩
          | false =>
            obtain ⟨y0, y1, y2, y3, y4, y5⟩ := x5 hb
            rw [if_neg (by decide), prz1]
            exact ⟨s5, rfl, x2, hP4.tr x3, fun _ => ⟨by rw [x4]; exact h40, Or.inr (Or.inr ⟨rfl, y0, y1, y3, y4, y5, hy⟩)⟩⟩
        · have e4 : tk ch T 46 (false, p + 1) = (true, p + 1) := cif_n (fun g => h46 g.2) _ _
          rw [show (tk ch T 46 (false, (true, p + 1).2)) = (true, p + 1) from e4] at d2
          rw [cif_n h46, if_pos rfl, e4, inv2_f, prz0]
          exact ⟨s4, rfl, d2, hP4, fun hh => by cases hh⟩
  · have e1 : dg ch T (false, p) = (0, (true, p)) := cif_n (fun g => hd g.2) _ _
    rw [e1] at a2
    have e0 : (cm ch T (false, p)).2 = (true, p) := by unfold cm; rw [e1]; exact cm1_f ch T 0 p
    rw [cif_n hd, if_pos rfl, prz0, e0]
    exact ⟨s1, rfl, a2, a3, fun hh => by cases hh⟩
