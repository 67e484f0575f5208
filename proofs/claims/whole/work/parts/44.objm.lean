/-! THE PURE PART: an object of the reference while sequences are tried. -/
theorem nI_mul (a b : Nat) : nI a * nI b = nI (a * b) := (Int32.ofNat_mul a b).symm
theorem nI_100 : (100 : Int32) = nI 100 := rfl
theorem nI_10 : (10 : Int32) = nI 10 := rfl
def RoM (st : ax_S) (o : Nat) (z : oT) : Prop := st.2 16 o = z.1 ∧ st.2 18 o = nI z.2.1 ∧ st.2 19 o = nI z.2.2.1 ∧ (∀ j, j < z.2.2.1 → st.2 17 (10 * o + j) = z.2.2.2.1 j) ∧ (∀ j, j < 100 → st.2 20 (100 * o + j) = if z.2.2.2.2 j then 1 else 0)
def FrM (o : Nat) (s t : ax_S) : Prop := t.1 = s.1 ∧ (∀ q, (q < 16 ∨ 20 < q) → t.2 q = s.2 q) ∧ (∀ p z, p ≠ o → z.2.2.1 ≤ 10 → RoM s p z → RoM t p z)
theorem FrM.rf (o : Nat) (s : ax_S) : FrM o s s := ⟨rfl, fun _ _ => rfl, fun _ _ _ _ h => h⟩
theorem FrM.tr {o : Nat} {s t u : ax_S} (h : FrM o s t) (g : FrM o t u) : FrM o s u := ⟨g.1.trans h.1, fun q hq => (g.2.1 q hq).trans (h.2.1 q hq), fun p z h1 h2 h3 => g.2.2 p z h1 h2 (h.2.2 p z h1 h2 h3)⟩
theorem FrM.v (o : Nat) (s : ax_S) (x : Int32) : FrM o s (ax_sE s 16 o x) := ⟨by rw [pE1], fun q hq => by rw [pE2n _ _ _ (by omega)], fun p z hp _ h => by
  obtain ⟨r1, r2, r3, r4, r5⟩ := h
  refine ⟨by rw [pE2, if_pos rfl, if_neg hp]; exact r1, by rw [pE2n _ _ _ (by decide)]; exact r2, by rw [pE2n _ _ _ (by decide)]; exact r3, fun j hj => by rw [pE2n _ _ _ (by decide)]; exact r4 j hj, fun j hj => by rw [pE2n _ _ _ (by decide)]; exact r5 j hj⟩⟩
theorem FrM.h (o : Nat) (s : ax_S) (x : Int32) : FrM o s (ax_sE s 18 o x) := ⟨by rw [pE1], fun q hq => by rw [pE2n _ _ _ (by omega)], fun p z hp _ h => by
  obtain ⟨r1, r2, r3, r4, r5⟩ := h
  refine ⟨by rw [pE2n _ _ _ (by decide)]; exact r1, by rw [pE2, if_pos rfl, if_neg hp]; exact r2, by rw [pE2n _ _ _ (by decide)]; exact r3, fun j hj => by rw [pE2n _ _ _ (by decide)]; exact r4 j hj, fun j hj => by rw [pE2n _ _ _ (by decide)]; exact r5 j hj⟩⟩
theorem FrM.t (o : Nat) (s : ax_S) (x : Int32) : FrM o s (ax_sE s 19 o x) := ⟨by rw [pE1], fun q hq => by rw [pE2n _ _ _ (by omega)], fun p z hp _ h => by
  obtain ⟨r1, r2, r3, r4, r5⟩ := h
  refine ⟨by rw [pE2n _ _ _ (by decide)]; exact r1, by rw [pE2n _ _ _ (by decide)]; exact r2, by rw [pE2, if_pos rfl, if_neg hp]; exact r3, fun j hj => by rw [pE2n _ _ _ (by decide)]; exact r4 j hj, fun j hj => by rw [pE2n _ _ _ (by decide)]; exact r5 j hj⟩⟩
theorem FrM.q (o : Nat) (s : ax_S) {i : Nat} (hi : i < 10) (x : Int32) : FrM o s (ax_sE s 17 (10 * o + i) x) := ⟨by rw [pE1], fun q hq => by rw [pE2n _ _ _ (by omega)], fun p z hp ht h => by
  obtain ⟨r1, r2, r3, r4, r5⟩ := h
  refine ⟨by rw [pE2n _ _ _ (by decide)]; exact r1, by rw [pE2n _ _ _ (by decide)]; exact r2, by rw [pE2n _ _ _ (by decide)]; exact r3, fun j hj => by rw [pE2, if_pos rfl, if_neg (by omega)]; exact r4 j hj, fun j hj => by rw [pE2n _ _ _ (by decide)]; exact r5 j hj⟩⟩
theorem FrM.m (o : Nat) (s : ax_S) {i : Nat} (hi : i < 100) (x : Int32) : FrM o s (ax_sE s 20 (100 * o + i) x) := ⟨by rw [pE1], fun q hq => by rw [pE2n _ _ _ (by omega)], fun p z hp ht h => by
  obtain ⟨r1, r2, r3, r4, r5⟩ := h
  refine ⟨by rw [pE2n _ _ _ (by decide)]; exact r1, by rw [pE2n _ _ _ (by decide)]; exact r2, by rw [pE2n _ _ _ (by decide)]; exact r3, fun j hj => by rw [pE2n _ _ _ (by decide)]; exact r4 j hj, fun j hj => by rw [pE2, if_pos rfl, if_neg (by omega)]; exact r5 j hj⟩⟩
theorem RoM_v {st : ax_S} {o : Nat} {z : oT} (h : RoM st o z) (v : Int32) : RoM (ax_sE st 16 o v) o (v, z.2) := by
  obtain ⟨r1, r2, r3, r4, r5⟩ := h
  refine ⟨by rw [pE2, if_pos rfl, if_pos rfl], by rw [pE2n _ _ _ (by decide)]; exact r2, by rw [pE2n _ _ _ (by decide)]; exact r3, fun j hj => by rw [pE2n _ _ _ (by decide)]; exact r4 j hj, fun j hj => by rw [pE2n _ _ _ (by decide)]; exact r5 j hj⟩
theorem RoM_h {st : ax_S} {o : Nat} {z : oT} (h : RoM st o z) (k : Nat) : RoM (ax_sE st 18 o (nI k)) o (z.1, k, z.2.2) := by
  obtain ⟨r1, r2, r3, r4, r5⟩ := h
  refine ⟨by rw [pE2n _ _ _ (by decide)]; exact r1, by rw [pE2, if_pos rfl, if_pos rfl], by rw [pE2n _ _ _ (by decide)]; exact r3, fun j hj => by rw [pE2n _ _ _ (by decide)]; exact r4 j hj, fun j hj => by rw [pE2n _ _ _ (by decide)]; exact r5 j hj⟩
theorem RoM_m {st : ax_S} {o i : Nat} {z : oT} (h : RoM st o z) (b : Bool) (hi : i < 100) : RoM (ax_sE st 20 (100 * o + i) (if b then 1 else 0)) o (z.1, z.2.1, z.2.2.1, z.2.2.2.1, uf z.2.2.2.2 i b) := by
  obtain ⟨r1, r2, r3, r4, r5⟩ := h
  refine ⟨by rw [pE2n _ _ _ (by decide)]; exact r1, by rw [pE2n _ _ _ (by decide)]; exact r2, by rw [pE2n _ _ _ (by decide)]; exact r3, fun j hj => by rw [pE2n _ _ _ (by decide)]; exact r4 j hj, fun j hj => ?_⟩
  rw [pE2, if_pos rfl]
  show _ = if uf z.2.2.2.2 i b j = true then (1 : Int32) else 0
  by_cases hji : j = i
  · rw [if_pos (by omega), hji, uf_s]
  · rw [if_neg (by omega), uf_n _ _ hji]; exact r5 j hj
theorem execM {st : ax_S} {n : vN} {a : vA} {c : vC} (hM : RM st n a c) (hR : GdR a) (hC : GdC a c) {p d : Nat} (hp : p < 10) {z : oT} (h : RoM st (a 5 p) z) (hI : IVt z d) (hd : d < 10) : ∃ st1, fX9_execute (nI p) st = some ((exl z (a 3 p) (c 6 p) (c 7 p)).1, st1) ∧ RoM st1 (a 5 p) (exl z (a 3 p) (c 6 p) (c 7 p)).2 ∧ FrM (a 5 p) st st1 := by
  have hh := h
  obtain ⟨r1, r2, r3, r4, r5⟩ := h
  obtain ⟨v1, v2, v3, v4⟩ := hI
  have hr := hR p
  have hc := hC p
  have ho : a 5 p < 4 := hr.2.2.1
  obtain ⟨i, hi, hix, hex⟩ : ∃ i, i < 100 ∧ (0 ≤ (c 6 p).toInt → i = xi (c 6 p)) ∧ fX9_execute (nI p) st = fX9_execute_b27 (nI p) (nI (a 5 p)) (c 6 p) (nI i) (nI (100 * a 5 p)) st := by
    unfold fX9_execute
    rw [pld hp (by decide), M_ob hM hp, pld hp (by decide), M_fa hM hp, nI_100, nI_mul]
    by_cases hx : 0 ≤ (c 6 p).toInt
    · obtain ⟨g1, g2⟩ := xi_nI hx hc.2.1.2
      refine ⟨xi (c 6 p), g2, fun _ => rfl, ?_⟩
      rw [if_pos (Int32.le_iff_toInt_le.mpr (by rw [t0]; exact hx)), ← g1]
    · refine ⟨0, by decide, fun hh => absurd hh hx, ?_⟩
      rw [if_neg (fun hh => hx (by have := Int32.le_iff_toInt_le.mp hh; rw [t0] at this; exact this))]
      rfl
  rw [hex]
  have hx4 : a 3 p ≠ 4 → i = xi (c 6 p) := fun hk => hix (hc.2.2.1 hk)
  have m5 := r5 i hi
  unfold fX9_execute_b27
  rw [pld ho (by decide), nI_add, pld (by omega) (by decide), pld hp (by decide), M_kd hM hp, r1, m5]
  generalize hx : c 6 p = x at *
  generalize hy : c 7 p = y at *
  generalize hk : a 3 p = k at *
  generalize a 5 p = o at *
  have hk10 : k < 10 := hr.1
  rcases (show k = 0 ∨ k = 1 ∨ k = 2 ∨ k = 3 ∨ k = 4 ∨ k = 5 ∨ k = 6 ∨ k = 7 ∨ k = 8 ∨ k = 9 by omega) with rfl | rfl | rfl | rfl | rfl | rfl | rfl | rfl | rfl | rfl
  · refine ⟨st, ?_, hh, FrM.rf o st⟩
    simp (disch := omega) only [qeq_1, qeq_2, qeq_3, qeq_4, qeq_5, qeq_6, qeq_7, qeq_8, qeq_9, if_pos, if_neg, if_true, if_false]
    rfl
  · refine ⟨ax_sE st 16 o x, ?_, RoM_v hh x, FrM.v o st x⟩
    simp (disch := omega) only [qeq_1, if_pos, if_true, if_false, psto]
    rfl
  · simp (disch := omega) only [qeq_1, qeq_2, if_pos, if_neg, if_true, if_false]
    unfold fX9_execute_b135 fX9_execute_b147
    by_cases cc : z.1 = x
    · refine ⟨ax_sE st 16 o y, ?_, ?_, FrM.v o st y⟩
      · rw [if_pos cc, pld hp (by decide), M_sa hM hp, hy, psto ho (by decide), if_pos cc]
        simp [exl, cc]
      · have e : exl z 2 x y = (1, (y, z.2)) := by simp [exl, cc]
        rw [e]
        exact RoM_v hh y
    · refine ⟨ax_sE st 16 o z.1, ?_, ?_, FrM.v o st _⟩
      · rw [if_neg cc, psto ho (by decide), if_neg cc]
        simp [exl, cc]
      · have e : exl z 2 x y = (0, z) := by simp [exl, cc]
        rw [e]
        exact RoM_v hh z.1
  · refine ⟨st, ?_, hh, FrM.rf o st⟩
    simp (disch := omega) only [qeq_1, qeq_2, qeq_3, if_pos, if_neg, if_true, if_false]
    rfl
  · refine ⟨ax_sE st 16 o (z.1 + x), ?_, RoM_v hh (z.1 + x), FrM.v o st _⟩
    simp (disch := omega) only [qeq_1, qeq_2, qeq_3, qeq_4, if_pos, if_neg, if_true, if_false, psto]
    rfl
  · refine ⟨ax_sE (ax_sE st 17 (10 * o + z.2.2.1) x) 19 o (nI (z.2.2.1 + 1)), ?_, ?_, (FrM.q o st (by omega) x).tr (FrM.t o _ _)⟩
    · simp (disch := omega) only [qeq_1, qeq_2, qeq_3, qeq_4, qeq_5, if_pos, if_neg, if_true, if_false]
      rw [pld ho (by decide), r3, nI_10, nI_mul, nI_add, psto (by omega) (by decide), pld ho (by decide), pE2n _ _ _ (by decide), r3, nI_1, psto ho (by decide)]
      rfl
    · refine ⟨?_, ?_, ?_, fun j hj => ?_, fun j hj => ?_⟩
      · rw [pE2n _ _ _ (by decide), pE2n _ _ _ (by decide)]; exact r1
      · rw [pE2n _ _ _ (by decide), pE2n _ _ _ (by decide)]; exact r2
      · rw [pE2, if_pos rfl, if_pos rfl]; rfl
      · have hj : j < z.2.2.1 + 1 := hj
        rw [pE2n _ _ _ (by decide), pE2, if_pos rfl]
        show _ = uf z.2.2.2.1 z.2.2.1 x j
        by_cases hjt : j = z.2.2.1
        · rw [if_pos (by omega), hjt, uf_s]
        · rw [if_neg (by omega), uf_n _ _ hjt]; exact r4 j (by omega)
      · rw [pE2n _ _ _ (by decide), pE2n _ _ _ (by decide)]; exact r5 j hj
  · simp (disch := omega) only [qeq_1, qeq_2, qeq_3, qeq_4, qeq_5, qeq_6, if_pos, if_neg, if_true, if_false]
    rw [pld ho (by decide), r2, pld ho (by decide), r3]
    by_cases cc : z.2.1 = z.2.2.1
    · refine ⟨st, ?_, ?_, FrM.rf o st⟩
      · rw [if_pos ((qeq (by omega) (by omega)).mpr cc)]
        simp [exl, cc]
      · simpa [exl, cc] using hh
    · have e : exl z 6 x y = (z.2.2.2.1 z.2.1, (z.1, z.2.1 + 1, z.2.2)) := by simp [exl, cc]
      refine ⟨ax_sE st 18 o (nI (z.2.1 + 1)), ?_, ?_, FrM.h o st _⟩
      · rw [if_neg (fun g => cc ((qeq (by omega) (by omega)).mp g)), pld ho (by decide), r2, nI_1, psto ho (by decide), pld ho (by decide), pE2, if_pos rfl, if_pos rfl, nI_10, nI_mul, nI_add, show 10 * o + (z.2.1 + 1) = (10 * o + z.2.1) + 1 from rfl, nI_pred, pld (by omega) (by decide), pE2n _ _ _ (by decide), r4 _ (by omega), e]
      · rw [e]
        exact RoM_h hh (z.2.1 + 1)
  · have hi2 := hx4 (by decide)
    simp (disch := omega) only [qeq_1, qeq_2, qeq_3, qeq_4, qeq_5, qeq_6, qeq_7, if_pos, if_neg, if_true, if_false]
    unfold fX9_execute_b254
    rw [nar1, psto (by omega) (by decide)]
    refine ⟨ax_sE st 20 (100 * o + i) 1, ?_, ?_, FrM.m o st hi _⟩
    · rw [hi2]
      cases hb : z.2.2.2.2 (xi x) with
      | true => rw [if_neg (by decide)]; simp [exl, hb]
      | false => rw [if_pos (by decide)]; simp [exl, hb]
    · have := RoM_m hh true hi
      rw [hi2] at this ⊢
      simpa [exl] using this
  · have hi2 := hx4 (by decide)
    simp (disch := omega) only [qeq_1, qeq_2, qeq_3, qeq_4, qeq_5, qeq_6, qeq_7, qeq_8, if_pos, if_neg, if_true, if_false]
    unfold fX9_execute_b273
    rw [nar0, psto (by omega) (by decide)]
    refine ⟨ax_sE st 20 (100 * o + i) 0, ?_, ?_, FrM.m o st hi _⟩
    · rw [hi2]
      cases hb : z.2.2.2.2 (xi x) with
      | true => rw [if_neg (by decide)]; simp [exl, hb]
      | false => rw [if_pos (by decide)]; simp [exl, hb]
    · have := RoM_m hh false hi
      rw [hi2] at this ⊢
      simpa [exl] using this
  · have hi2 := hx4 (by decide)
    simp (disch := omega) only [qeq_1, qeq_2, qeq_3, qeq_4, qeq_5, qeq_6, qeq_7, qeq_8, qeq_9, if_pos, if_neg, if_true, if_false]
    unfold fX9_execute_b284
    refine ⟨st, ?_, hh, FrM.rf o st⟩
    rw [hi2]
    cases hb : z.2.2.2.2 (xi x) with
    | true => rw [if_neg (by decide)]; simp [exl, hb]
    | false => rw [if_pos (by decide)]; simp [exl, hb]
theorem takeM {st : ax_S} {n : vN} {a : vA} {c : vC} (hM : RM st n a c) (hR : GdR a) (hC : GdC a c) {p d : Nat} (hp : p < 10) {z : oT} (hI : IVt z d) (hd : d < 10) (h : RoM st (a 5 p) (exl z (a 3 p) (c 6 p) (c 7 p)).2) : ∃ st1, fX9_takeBack (nI p) z.1 (exl z (a 3 p) (c 6 p) (c 7 p)).1 st = some (0, st1) ∧ RoM st1 (a 5 p) z ∧ FrM (a 5 p) st st1 := by
  obtain ⟨v1, v2, v3, v4⟩ := hI
  have hr := hR p
  have hc := hC p
  have ho : a 5 p < 4 := hr.2.2.1
  have hv := RoM_v h z.1
  have hf := FrM.v (a 5 p) st z.1
  have e6 : (ax_sE st 16 (a 5 p) z.1).2 6 p = c 6 p := by rw [pE2n _ _ _ (by decide), M_fa hM hp]
  unfold fX9_takeBack fX9_takeBack_b144 fX9_takeBack_b114 fX9_takeBack_b84 fX9_takeBack_b148
  rw [pld hp (by decide), M_ob hM hp, psto ho (by decide), pld hp (by decide), pE2n _ _ _ (by decide), M_kd hM hp]
  generalize hx : c 6 p = x at *
  generalize hy : c 7 p = y at *
  generalize hk : a 3 p = k at *
  generalize a 5 p = o at *
  have hk10 : k < 10 := hr.1
  rcases (show k = 0 ∨ k = 1 ∨ k = 2 ∨ k = 3 ∨ k = 4 ∨ k = 5 ∨ k = 6 ∨ k = 7 ∨ k = 8 ∨ k = 9 by omega) with rfl | rfl | rfl | rfl | rfl | rfl | rfl | rfl | rfl | rfl
  · refine ⟨ax_sE st 16 o z.1, ?_, by simpa [exl] using hv, hf⟩
    simp (disch := omega) only [qeq_5, qeq_6, qeq_7, qeq_8, if_neg, if_true, if_false]
  · refine ⟨ax_sE st 16 o z.1, ?_, by simpa [exl] using hv, hf⟩
    simp (disch := omega) only [qeq_5, qeq_6, qeq_7, qeq_8, if_neg, if_true, if_false]
  · refine ⟨ax_sE st 16 o z.1, ?_, ?_, hf⟩
    · simp (disch := omega) only [qeq_5, qeq_6, qeq_7, qeq_8, if_neg, if_true, if_false]
    · by_cases cc : z.1 = x
      · have e : exl z 2 x y = (1, (y, z.2)) := by simp [exl, cc]
        rw [e] at hv
        exact hv
      · have e : exl z 2 x y = (0, z) := by simp [exl, cc]
        rw [e] at hv
        exact hv
  · refine ⟨ax_sE st 16 o z.1, ?_, by simpa [exl] using hv, hf⟩
    simp (disch := omega) only [qeq_5, qeq_6, qeq_7, qeq_8, if_neg, if_true, if_false]
  · refine ⟨ax_sE st 16 o z.1, ?_, by simpa [exl] using hv, hf⟩
    simp (disch := omega) only [qeq_5, qeq_6, qeq_7, qeq_8, if_neg, if_true, if_false]
  · have e : exl z 5 x y = (0, (z.1, z.2.1, z.2.2.1 + 1, uf z.2.2.2.1 z.2.2.1 x, z.2.2.2.2)) := rfl
    rw [e] at hv
    obtain ⟨r1, r2, r3, r4, r5⟩ := hv
    have r3 : (ax_sE st 16 o z.1).2 19 o = nI (z.2.2.1 + 1) := r3
    refine ⟨ax_sE (ax_sE st 16 o z.1) 19 o (nI z.2.2.1), ?_, ⟨?_, ?_, ?_, fun j hj => ?_, fun j hj => ?_⟩, hf.tr (FrM.t o _ _)⟩
    · simp (disch := omega) only [qeq_5, if_pos, if_true, if_false]
      rw [pld ho (by decide), r3, nI_pred, psto ho (by decide)]
    · rw [pE2n _ _ _ (by decide)]; exact r1
    · rw [pE2n _ _ _ (by decide)]; exact r2
    · rw [pE2, if_pos rfl, if_pos rfl]
    · rw [pE2n _ _ _ (by decide), r4 j (by show j < z.2.2.1 + 1; omega)]
      show uf z.2.2.2.1 z.2.2.1 x j = _
      rw [uf_n _ _ (by omega)]
    · rw [pE2n _ _ _ (by decide)]; exact r5 j hj
  · by_cases cc : z.2.1 = z.2.2.1
    · have e : exl z 6 x y = (-1, z) := by simp [exl, cc]
      rw [e] at hv ⊢
      have hv : RoM (ax_sE st 16 o z.1) o z := hv
      refine ⟨ax_sE (ax_sE st 16 o z.1) 18 o (nI z.2.1), ?_, RoM_h hv z.2.1, hf.tr (FrM.h o _ _)⟩
      simp (disch := omega) only [qeq_5, qeq_6, if_neg, if_pos, if_true, if_false]
      rw [pld ho (by decide), hv.2.1, Int32.sub_zero, psto ho (by decide)]
    · have e : exl z 6 x y = (z.2.2.2.1 z.2.1, (z.1, z.2.1 + 1, z.2.2)) := by simp [exl, cc]
      rw [e] at hv ⊢
      have r2 : (ax_sE st 16 o z.1).2 18 o = nI (z.2.1 + 1) := hv.2.1
      have hq := v4 z.2.1 (by omega)
      have hne : ¬ z.2.2.2.1 z.2.1 = -1 := by
        intro hh
        rw [hh, tm1] at hq
        omega
      refine ⟨ax_sE (ax_sE st 16 o z.1) 18 o (nI z.2.1), ?_, RoM_h hv z.2.1, hf.tr (FrM.h o _ _)⟩
      simp (disch := omega) only [qeq_5, qeq_6, if_neg, if_pos, if_true, if_false]
      rw [pld ho (by decide), r2, nI_pred, psto ho (by decide)]
  · obtain ⟨hx1, hx2⟩ := xi_nI (hc.2.2.1 (by decide)) hc.2.1.2
    have e : exl z 7 x y = (if z.2.2.2.2 (xi x) then 0 else 1, (z.1, z.2.1, z.2.2.1, z.2.2.2.1, uf z.2.2.2.2 (xi x) true)) := rfl
    rw [e] at hv ⊢
    refine ⟨ax_sE (ax_sE st 16 o z.1) 20 (100 * o + xi x) (if z.2.2.2.2 (xi x) then 1 else 0), ?_, ?_, hf.tr (FrM.m o _ hx2 _)⟩
    · simp (disch := omega) only [qeq_5, qeq_6, qeq_7, if_neg, if_pos, if_true, if_false]
      rw [pld hp (by decide), e6, nI_100, nI_mul, hx1, nI_add, ← hx1]
      cases hb : z.2.2.2.2 (xi x) with
      | true =>
        rw [if_pos (by simp), nar1, psto (by omega) (by decide)]
        simp
      | false =>
        rw [if_neg (by simp), nar0, psto (by omega) (by decide)]
        simp
    · have := RoM_m hv (z.2.2.2.2 (xi x)) hx2
      rw [show (z.1, z.2.1, z.2.2.1, z.2.2.2.1, uf z.2.2.2.2 (xi x) true).2.2.2.2 = uf z.2.2.2.2 (xi x) true from rfl, uf_uf] at this
      exact this
  · obtain ⟨hx1, hx2⟩ := xi_nI (hc.2.2.1 (by decide)) hc.2.1.2
    have e : exl z 8 x y = (if z.2.2.2.2 (xi x) then 1 else 0, (z.1, z.2.1, z.2.2.1, z.2.2.2.1, uf z.2.2.2.2 (xi x) false)) := rfl
    rw [e] at hv ⊢
    refine ⟨ax_sE (ax_sE st 16 o z.1) 20 (100 * o + xi x) (if z.2.2.2.2 (xi x) then 1 else 0), ?_, ?_, hf.tr (FrM.m o _ hx2 _)⟩
    · simp (disch := omega) only [qeq_5, qeq_6, qeq_7, qeq_8, if_neg, if_pos, if_true, if_false]
      rw [pld hp (by decide), e6, nI_100, nI_mul, hx1, nI_add, ← hx1]
      cases hb : z.2.2.2.2 (xi x) with
      | true =>
        rw [if_pos (by simp), nar1, psto (by omega) (by decide)]
        simp
      | false =>
        rw [if_neg (by simp), nar0, psto (by omega) (by decide)]
        simp
    · have := RoM_m hv (z.2.2.2.2 (xi x)) hx2
      rw [show (z.1, z.2.1, z.2.2.1, z.2.2.2.1, uf z.2.2.2.2 (xi x) false).2.2.2.2 = uf z.2.2.2.2 (xi x) false from rfl, uf_uf] at this
      exact this
  · refine ⟨ax_sE st 16 o z.1, ?_, by simpa [exl] using hv, hf⟩
    simp (disch := omega) only [qeq_5, qeq_6, qeq_7, qeq_8, if_neg, if_true, if_false]
