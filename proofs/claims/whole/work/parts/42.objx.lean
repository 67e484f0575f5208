/-! THE PURE PART: an object of the class while sequences are tried. -/
def RoQ (st : ax_S) (q : Nat) (z : oT) : Prop := st.1 q 0 = z.1 ∧ st.1 q 2 = nI z.2.1 ∧ st.1 q 3 = nI z.2.2.1 ∧ (∀ j, j < z.2.2.1 → st.2 (q + 1) j = z.2.2.2.1 j) ∧ (∀ j, j < 100 → st.2 (q + 2) j = if z.2.2.2.2 j then 1 else 0)
def FrQ (q : Nat) (s t : ax_S) : Prop := (∀ p, p ≠ q → t.1 p = s.1 p) ∧ (∀ p, p ≠ q + 1 → p ≠ q + 2 → t.2 p = s.2 p)
theorem FrQ.rf (q : Nat) (s : ax_S) : FrQ q s s := ⟨fun _ _ => rfl, fun _ _ _ => rfl⟩
theorem FrQ.tr {q : Nat} {s t u : ax_S} (h : FrQ q s t) (g : FrQ q t u) : FrQ q s u := ⟨fun p hp => (g.1 p hp).trans (h.1 p hp), fun p h1 h2 => (g.2 p h1 h2).trans (h.2 p h1 h2)⟩
theorem FrQ.I (q : Nat) (s : ax_S) (k : Nat) (v : Int32) : FrQ q s (ax_sI s q k v) := ⟨fun p hp => pI1n _ _ _ hp, fun p _ _ => by rw [pI2]⟩
theorem FrQ.E1 (q : Nat) (s : ax_S) (i : Nat) (x : Int32) : FrQ q s (ax_sE s (q + 1) i x) := ⟨fun p _ => by rw [pE1], fun p h1 _ => by rw [pE2n _ _ _ h1]⟩
theorem FrQ.E2 (q : Nat) (s : ax_S) (i : Nat) (x : Int32) : FrQ q s (ax_sE s (q + 2) i x) := ⟨fun p _ => by rw [pE1], fun p _ h1 => by rw [pE2n _ _ _ h1]⟩
theorem xi_nI {x : Int32} (h : 0 ≤ x.toInt) (h2 : x.toInt ≤ 99) : x = nI (xi x) ∧ xi x < 100 := by
  have h1 : xi x = x.toInt.toNat := rfl
  have h3 : xi x < 100 := by omega
  refine ⟨?_, h3⟩
  apply Int32.toInt_inj.mp
  rw [nI_toInt (by omega)]
  omega
theorem trX0 (st : ax_S) : fX8_truth 0 st = some (0, st) := by
  unfold fX8_truth fX8_truth_b9
  rw [if_pos rfl]
theorem trX1 (st : ax_S) : fX8_truth 1 st = some (1, st) := by
  unfold fX8_truth fX8_truth_b9
  rw [if_neg (by decide)]
/-- put in or out -/
theorem chX {st : ax_S} {q i : Nat} {b v : Bool} (hi : i < 100) (hb : st.2 (q + 2) i = if b then 1 else 0) : fX6_changesElement q (nI i) (if v then 1 else 0) st = if b = v then some (0, st) else some (1, ax_sE st (q + 2) i (if v then 1 else 0)) := by
  unfold fX6_changesElement
  rw [pld hi (by decide), hb]
  cases b <;> cases v
  · show (if (0 : Int32) = 0 then ax_rz 0 st else ax_sto st (q + 2) 100 (nI i) (vp_nar .boolean 0) fun st2 => ax_rz 1 st2) = some (0, st)
    rw [if_pos rfl]; exact prz0 st
  · show (if (0 : Int32) = 1 then ax_rz 0 st else ax_sto st (q + 2) 100 (nI i) (vp_nar .boolean 1) fun st2 => ax_rz 1 st2) = some (1, ax_sE st (q + 2) i 1)
    rw [if_neg (by decide), psto hi (by decide), nar1]; exact prz1 _
  · show (if (1 : Int32) = 0 then ax_rz 0 st else ax_sto st (q + 2) 100 (nI i) (vp_nar .boolean 0) fun st2 => ax_rz 1 st2) = some (1, ax_sE st (q + 2) i 0)
    rw [if_neg (by decide), psto hi (by decide), nar0]; exact prz1 _
  · show (if (1 : Int32) = 1 then ax_rz 0 st else ax_sto st (q + 2) 100 (nI i) (vp_nar .boolean 1) fun st2 => ax_rz 1 st2) = some (0, st)
    rw [if_pos rfl]; exact prz0 st
theorem RoQ_v {st : ax_S} {q : Nat} {z : oT} (h : RoQ st q z) (v : Int32) : RoQ (ax_sI st q 0 v) q (v, z.2) := by
  obtain ⟨r1, r2, r3, r4, r5⟩ := h
  refine ⟨by rw [pI1, if_pos ⟨rfl, rfl⟩], by rw [pI1, if_neg (by omega)]; exact r2, by rw [pI1, if_neg (by omega)]; exact r3, fun j hj => by rw [pI2]; exact r4 j hj, fun j hj => by rw [pI2]; exact r5 j hj⟩
theorem RoQ_m {st : ax_S} {q i : Nat} {z : oT} (h : RoQ st q z) (b : Bool) (hi : i < 100) : RoQ (ax_sE st (q + 2) i (if b then 1 else 0)) q (z.1, z.2.1, z.2.2.1, z.2.2.2.1, uf z.2.2.2.2 i b) := by
  obtain ⟨r1, r2, r3, r4, r5⟩ := h
  refine ⟨by rw [pE1]; exact r1, by rw [pE1]; exact r2, by rw [pE1]; exact r3, fun j hj => by rw [pE2n _ _ _ (by omega)]; exact r4 j hj, fun j hj => ?_⟩
  rw [pE2, if_pos rfl]
  show _ = if uf z.2.2.2.2 i b j = true then (1 : Int32) else 0
  by_cases hji : j = i
  · rw [if_pos hji, hji, uf_s]
  · rw [if_neg hji, uf_n _ _ hji]; exact r5 j hj
theorem uf_id {α : Type} (f : Nat → α) (o : Nat) : uf f o (f o) = f := by
  funext p
  unfold uf
  split
  · rename_i h; rw [h]
  · rfl
theorem RoQ_same {st : ax_S} {q i : Nat} {z : oT} {b : Bool} (h : RoQ st q z) (hb : z.2.2.2.2 i = b) : RoQ st q (z.1, z.2.1, z.2.2.1, z.2.2.2.1, uf z.2.2.2.2 i b) := by
  rw [← hb, uf_id]; exact h
theorem perfX {st : ax_S} {q d k : Nat} {z : oT} {x y : Int32} (h : RoQ st q z) (hI : IVt z d) (hd : d < 10) (hk : k < 10) (hx : x.toInt ≤ 99) (hx4 : k ≠ 4 → 0 ≤ x.toInt) : ∃ st1, fX6_perform q (nI k) x y st = some ((exl z k x y).1, st1) ∧ RoQ st1 q (exl z k x y).2 ∧ FrQ q st st1 := by
  have hh := h
  obtain ⟨r1, r2, r3, r4, r5⟩ := h
  obtain ⟨v1, v2, v3, v4⟩ := hI
  rcases (show k = 0 ∨ k = 1 ∨ k = 2 ∨ k = 3 ∨ k = 4 ∨ k = 5 ∨ k = 6 ∨ k = 7 ∨ k = 8 ∨ k = 9 by omega) with rfl | rfl | rfl | rfl | rfl | rfl | rfl | rfl | rfl | rfl
  · refine ⟨st, ?_, hh, FrQ.rf q st⟩
    simp (disch := omega) only [fX6_perform, qeq_1, qeq_2, qeq_3, qeq_4, qeq_5, qeq_6, qeq_7, qeq_8, qeq_9, if_pos, if_neg, r1, if_true, if_false]
    rfl
  · refine ⟨ax_sI st q 0 x, ?_, RoQ_v hh x, FrQ.I q st 0 x⟩
    simp (disch := omega) only [fX6_perform, qeq_1, if_pos, pt, if_true, if_false]
    rfl
  · unfold fX6_perform fX6_compareAndSet
    simp (disch := omega) only [qeq_1, qeq_2, if_pos, if_neg, r1, if_true, if_false]
    by_cases c : z.1 = x
    · refine ⟨ax_sI st q 0 y, ?_, ?_, FrQ.I q st 0 y⟩
      · rw [if_pos c, pt, pb]
        simp [exl, c]
      · have := RoQ_v hh y
        simpa [exl, c] using this
    · refine ⟨st, ?_, ?_, FrQ.rf q st⟩
      · rw [if_neg c, pb]
        simp [exl, c]
      · simpa [exl, c] using hh
  · refine ⟨st, ?_, hh, FrQ.rf q st⟩
    simp (disch := omega) only [fX6_perform, qeq_1, qeq_2, qeq_3, if_pos, if_neg, r1, if_true, if_false]
    rfl
  · refine ⟨ax_sI st q 0 (z.1 + x), ?_, RoQ_v hh (z.1 + x), FrQ.I q st 0 _⟩
    simp (disch := omega) only [fX6_perform, qeq_1, qeq_2, qeq_3, qeq_4, if_pos, if_neg, r1, pt, if_true, if_false]
    rw [pI1, if_pos ⟨rfl, rfl⟩, Int32.add_sub_cancel]
    rfl
  · refine ⟨ax_sI (ax_sE st (q + 1) z.2.2.1 x) q 3 (nI (z.2.2.1 + 1)), ?_, ?_, (FrQ.E1 q st _ _).tr (FrQ.I q _ _ _)⟩
    · unfold fX6_perform fX6_enqueue fX6_enqueue_b23
      simp (disch := omega) only [qeq_1, qeq_2, qeq_3, qeq_4, qeq_5, if_pos, if_neg, r3, if_true, if_false]
      rw [pbtwX, pb, if_pos ((pu_in (lo := 0) (hi := 9) (n := 9) rfl rfl (by decide)).mpr ⟨_, by omega, rfl⟩), if_neg (by decide), r3, psto (by omega) (by decide), pt, pE1, r3, nI_1, pb]
      rfl
    · refine ⟨?_, ?_, ?_, fun j hj => ?_, fun j hj => ?_⟩
      · rw [pI1, if_neg (by omega), pE1]; exact r1
      · rw [pI1, if_neg (by omega), pE1]; exact r2
      · rw [pI1, if_pos ⟨rfl, rfl⟩]; rfl
      · have hj : j < z.2.2.1 + 1 := hj
        rw [pI2, pE2, if_pos rfl]
        show _ = uf z.2.2.2.1 z.2.2.1 x j
        by_cases hjt : j = z.2.2.1
        · rw [if_pos hjt, hjt, uf_s]
        · rw [if_neg hjt, uf_n _ _ hjt]; exact r4 j (by omega)
      · rw [pI2, pE2n _ _ _ (by omega)]; exact r5 j hj
  · unfold fX6_perform fX6_dequeue fX6_dequeue_b24
    simp (disch := omega) only [qeq_1, qeq_2, qeq_3, qeq_4, qeq_5, qeq_6, if_pos, if_neg, r2, r3, if_true, if_false]
    by_cases c : z.2.1 = z.2.2.1
    · refine ⟨st, ?_, ?_, FrQ.rf q st⟩
      · rw [if_pos (nI_le (by omega) (by omega)), pb]
        simp [exl, c]
      · simpa [exl, c] using hh
    · refine ⟨ax_sI st q 2 (nI (z.2.1 + 1)), ?_, ?_, FrQ.I q st _ _⟩
      · rw [if_neg (nI_ge (by omega) (by omega)), pbtwX, pb, if_pos ((pu_in (lo := 0) (hi := 9) (n := 9) rfl rfl (by decide)).mpr ⟨_, by omega, rfl⟩), if_neg (by decide), r2, nI_1, pt, pI1, if_pos ⟨rfl, rfl⟩, nI_pred, pld (by omega) (by decide), pb, pI2, r4 _ (by omega)]
        simp [exl, c]
      · have : RoQ (ax_sI st q 2 (nI (z.2.1 + 1))) q (z.1, z.2.1 + 1, z.2.2) := ⟨by rw [pI1, if_neg (by omega)]; exact r1, by rw [pI1, if_pos ⟨rfl, rfl⟩], by rw [pI1, if_neg (by omega)]; exact r3, fun j hj => by rw [pI2]; exact r4 j hj, fun j hj => by rw [pI2]; exact r5 j hj⟩
        simpa [exl, c] using this
  · obtain ⟨hx1, hx2⟩ := xi_nI (hx4 (by decide)) hx
    have hc := chX (v := true) (b := z.2.2.2.2 (xi x)) hx2 (r5 _ hx2)
    rw [if_pos rfl, ← hx1] at hc
    unfold fX6_perform
    simp (disch := omega) only [qeq_1, qeq_2, qeq_3, qeq_4, qeq_5, qeq_6, qeq_7, if_pos, if_neg, if_true, if_false]
    rw [hc]
    cases hb : z.2.2.2.2 (xi x) with
    | true =>
      refine ⟨st, ?_, ?_, FrQ.rf q st⟩
      · rw [if_pos rfl, pb, trX0, pb]
        simp [exl, hb]
      · have := RoQ_same hh hb
        simpa [exl] using this
    | false =>
      refine ⟨ax_sE st (q + 2) (xi x) 1, ?_, ?_, FrQ.E2 q st _ _⟩
      · rw [if_neg (by decide), pb, trX1, pb]
        simp [exl, hb]
      · have := RoQ_m hh true hx2
        simpa [exl] using this
  · obtain ⟨hx1, hx2⟩ := xi_nI (hx4 (by decide)) hx
    have hc := chX (v := false) (b := z.2.2.2.2 (xi x)) hx2 (r5 _ hx2)
    rw [if_neg (by decide), ← hx1] at hc
    unfold fX6_perform
    simp (disch := omega) only [qeq_1, qeq_2, qeq_3, qeq_4, qeq_5, qeq_6, qeq_7, qeq_8, if_pos, if_neg, if_true, if_false]
    rw [hc]
    cases hb : z.2.2.2.2 (xi x) with
    | true =>
      refine ⟨ax_sE st (q + 2) (xi x) 0, ?_, ?_, FrQ.E2 q st _ _⟩
      · rw [if_neg (by decide), pb, trX1, pb]
        simp [exl, hb]
      · have := RoQ_m hh false hx2
        simpa [exl] using this
    | false =>
      refine ⟨st, ?_, ?_, FrQ.rf q st⟩
      · rw [if_pos rfl, pb, trX0, pb]
        simp [exl, hb]
      · have := RoQ_same hh hb
        simpa [exl] using this
  · obtain ⟨hx1, hx2⟩ := xi_nI (hx4 (by decide)) hx
    refine ⟨st, ?_, hh, FrQ.rf q st⟩
    unfold fX6_perform
    simp (disch := omega) only [qeq_1, qeq_2, qeq_3, qeq_4, qeq_5, qeq_6, qeq_7, qeq_8, qeq_9, if_pos, if_neg, if_true, if_false]
    rw [hx1, pld hx2 (by decide), r5 _ hx2, ← hx1]
    cases hb : z.2.2.2.2 (xi x) with
    | true =>
      rw [if_pos rfl, trX1, pb]
      simp [exl, hb]
    | false =>
      rw [if_neg (by decide), trX0, pb]
      simp [exl, hb]
theorem takeX {st : ax_S} {q d k : Nat} {z : oT} {x y : Int32} (hI : IVt z d) (hd : d < 10) (hk : k < 10) (hx : x.toInt ≤ 99) (hx4 : k ≠ 4 → 0 ≤ x.toInt) (h : RoQ st q (exl z k x y).2) : ∃ st1, fX6_takeBack q (nI k) x (exl z k x y).1 z.1 st = some (0, st1) ∧ RoQ st1 q z ∧ FrQ q st st1 := by
  obtain ⟨v1, v2, v3, v4⟩ := hI
  have hv := RoQ_v h z.1
  have hf := FrQ.I q st 0 z.1
  unfold fX6_takeBack fX6_takeBack_b48 fX6_takeBack_b69 fX6_takeBack_b87
  rw [pt]
  rcases (show k = 0 ∨ k = 1 ∨ k = 2 ∨ k = 3 ∨ k = 4 ∨ k = 5 ∨ k = 6 ∨ k = 7 ∨ k = 8 ∨ k = 9 by omega) with rfl | rfl | rfl | rfl | rfl | rfl | rfl | rfl | rfl | rfl
  · refine ⟨ax_sI st q 0 z.1, ?_, by simpa [exl] using hv, hf⟩
    simp (disch := omega) only [qeq_5, qeq_6, qeq_7, qeq_8, if_neg, if_true, if_false]
  · refine ⟨ax_sI st q 0 z.1, ?_, by simpa [exl] using hv, hf⟩
    simp (disch := omega) only [qeq_5, qeq_6, qeq_7, qeq_8, if_neg, if_true, if_false]
  · refine ⟨ax_sI st q 0 z.1, ?_, ?_, hf⟩
    · simp (disch := omega) only [qeq_5, qeq_6, qeq_7, qeq_8, if_neg, if_true, if_false]
    · by_cases c : z.1 = x
      · have e : exl z 2 x y = (1, (y, z.2)) := by simp [exl, c]
        rw [e] at hv
        exact hv
      · simpa [exl, c] using hv
  · refine ⟨ax_sI st q 0 z.1, ?_, by simpa [exl] using hv, hf⟩
    simp (disch := omega) only [qeq_5, qeq_6, qeq_7, qeq_8, if_neg, if_true, if_false]
  · refine ⟨ax_sI st q 0 z.1, ?_, by simpa [exl] using hv, hf⟩
    simp (disch := omega) only [qeq_5, qeq_6, qeq_7, qeq_8, if_neg, if_true, if_false]
  · have e : exl z 5 x y = (0, (z.1, z.2.1, z.2.2.1 + 1, uf z.2.2.2.1 z.2.2.1 x, z.2.2.2.2)) := rfl
    rw [e] at hv
    obtain ⟨r1, r2, r3, r4, r5⟩ := hv
    have r3 : (ax_sI st q 0 z.1).1 q 3 = nI (z.2.2.1 + 1) := r3
    refine ⟨ax_sI (ax_sI st q 0 z.1) q 3 (nI z.2.2.1), ?_, ⟨?_, ?_, ?_, fun j hj => ?_, fun j hj => ?_⟩, hf.tr (FrQ.I q _ _ _)⟩
    · simp (disch := omega) only [qeq_5, if_pos, r3, nI_pred, pt, if_true, if_false]
    · rw [pI1, if_neg (by omega)]; exact r1
    · rw [pI1, if_neg (by omega)]; exact r2
    · rw [pI1, if_pos ⟨rfl, rfl⟩]
    · rw [pI2, r4 j (by show j < z.2.2.1 + 1; omega)]
      show uf z.2.2.2.1 z.2.2.1 x j = _
      rw [uf_n _ _ (by omega)]
    · rw [pI2]; exact r5 j hj
  · by_cases c : z.2.1 = z.2.2.1
    · have e : exl z 6 x y = (-1, z) := by simp [exl, c]
      rw [e] at hv
      refine ⟨ax_sI st q 0 z.1, ?_, hv, hf⟩
      rw [e]
      simp (disch := omega) only [qeq_5, qeq_6, qeq_7, qeq_8, if_neg, if_pos, if_true, if_false]
    · have e : exl z 6 x y = (z.2.2.2.1 z.2.1, (z.1, z.2.1 + 1, z.2.2)) := by simp [exl, c]
      rw [e] at hv
      obtain ⟨r1, r2, r3, r4, r5⟩ := hv
      have r2 : (ax_sI st q 0 z.1).1 q 2 = nI (z.2.1 + 1) := r2
      have hq := v4 z.2.1 (by omega)
      have hne : ¬ z.2.2.2.1 z.2.1 = -1 := by
        intro hh
        rw [hh, tm1] at hq
        omega
      refine ⟨ax_sI (ax_sI st q 0 z.1) q 2 (nI z.2.1), ?_, ⟨?_, ?_, ?_, fun j hj => ?_, fun j hj => ?_⟩, hf.tr (FrQ.I q _ _ _)⟩
      · rw [e]
        simp (disch := omega) only [qeq_5, qeq_6, if_pos, if_neg, r2, nI_pred, pt, if_true, if_false]
      · rw [pI1, if_neg (by omega)]; exact r1
      · rw [pI1, if_pos ⟨rfl, rfl⟩]
      · rw [pI1, if_neg (by omega)]; exact r3
      · rw [pI2]; exact r4 j hj
      · rw [pI2]; exact r5 j hj
  · obtain ⟨hx1, hx2⟩ := xi_nI (hx4 (by decide)) hx
    have e : exl z 7 x y = (if z.2.2.2.2 (xi x) then 0 else 1, (z.1, z.2.1, z.2.2.1, z.2.2.2.1, uf z.2.2.2.2 (xi x) true)) := rfl
    rw [e] at hv ⊢
    have hm := hv.2.2.2.2 (xi x) hx2
    have hc := chX (v := false) hx2 hm
    rw [if_neg (by decide), ← hx1] at hc
    have hu : (uf z.2.2.2.2 (xi x) true) (xi x) = true := uf_s _ _ _
    simp (disch := omega) only [qeq_5, qeq_6, qeq_7, qeq_8, if_neg, if_pos, if_true, if_false]
    cases hb : z.2.2.2.2 (xi x) with
    | true =>
      refine ⟨ax_sI st q 0 z.1, ?_, ?_, hf⟩
      · simp
      · have : uf z.2.2.2.2 (xi x) true = z.2.2.2.2 := by rw [← hb, uf_id]
        rw [this] at hv
        exact hv
    | false =>
      refine ⟨ax_sE (ax_sI st q 0 z.1) (q + 2) (xi x) 0, ?_, ?_, hf.tr (FrQ.E2 q _ _ _)⟩
      · show (if (1 : Int32) = 1 then ax_bind (fX6_changesElement q x 0 (ax_sI st q 0 z.1)) (fun r4 st5 => some (0, st5)) else _) = _
        rw [if_pos rfl, hc, if_neg (by show ¬ (uf z.2.2.2.2 (xi x) true) (xi x) = false; rw [hu]; decide), pb]
      · have := RoQ_m hv false hx2
        have e2 : uf (uf z.2.2.2.2 (xi x) true) (xi x) false = z.2.2.2.2 := by
          funext p
          unfold uf
          by_cases hp : p = xi x
          · rw [if_pos hp, hp, hb]
          · rw [if_neg hp, if_neg hp]
        rw [show (z.1, z.2.1, z.2.2.1, z.2.2.2.1, uf z.2.2.2.2 (xi x) true).2.2.2.2 = uf z.2.2.2.2 (xi x) true from rfl, e2] at this
        exact this
  · obtain ⟨hx1, hx2⟩ := xi_nI (hx4 (by decide)) hx
    have e : exl z 8 x y = (if z.2.2.2.2 (xi x) then 1 else 0, (z.1, z.2.1, z.2.2.1, z.2.2.2.1, uf z.2.2.2.2 (xi x) false)) := rfl
    rw [e] at hv ⊢
    have hm := hv.2.2.2.2 (xi x) hx2
    have hc := chX (v := true) hx2 hm
    rw [if_pos rfl, ← hx1] at hc
    have hu : (uf z.2.2.2.2 (xi x) false) (xi x) = false := uf_s _ _ _
    simp (disch := omega) only [qeq_5, qeq_6, qeq_7, qeq_8, if_neg, if_pos, if_true, if_false]
    cases hb : z.2.2.2.2 (xi x) with
    | false =>
      refine ⟨ax_sI st q 0 z.1, ?_, ?_, hf⟩
      · simp
      · have : uf z.2.2.2.2 (xi x) false = z.2.2.2.2 := by rw [← hb, uf_id]
        rw [this] at hv
        exact hv
    | true =>
      refine ⟨ax_sE (ax_sI st q 0 z.1) (q + 2) (xi x) 1, ?_, ?_, hf.tr (FrQ.E2 q _ _ _)⟩
      · rw [if_pos rfl, if_pos rfl, hc, if_neg (by show ¬ (uf z.2.2.2.2 (xi x) false) (xi x) = true; rw [hu]; decide), pb]
      · have := RoQ_m hv true hx2
        have e2 : uf (uf z.2.2.2.2 (xi x) false) (xi x) true = z.2.2.2.2 := by
          funext p
          unfold uf
          by_cases hp : p = xi x
          · rw [if_pos hp, hp, hb]
          · rw [if_neg hp, if_neg hp]
        rw [show (z.1, z.2.1, z.2.2.1, z.2.2.2.1, uf z.2.2.2.2 (xi x) false).2.2.2.2 = uf z.2.2.2.2 (xi x) false from rfl, e2] at this
        exact this
  · refine ⟨ax_sI st q 0 z.1, ?_, by simpa [exl] using hv, hf⟩
    simp (disch := omega) only [qeq_5, qeq_6, qeq_7, qeq_8, if_neg, if_true, if_false]
