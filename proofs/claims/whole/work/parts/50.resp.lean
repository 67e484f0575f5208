/-! THE PURE PART: the results that a pending operation may give. -/
/-- what the class asks of one operation more -/
theorem reqX {s0 st st2 : ax_S} {n : vN} {a : vA} {c : vC} (hG : Good n a c) {o : Nat} (ho : o < n 1) (h9 : a 9 o = 0) (hP : PpX s0 n a c (n 2) (-1) st) (hk : ∀ k, k < n 1 → ∀ j, bt (st.2 46 k) j = true ↔ (j < k ∧ bfr a j k ∧ bt (st.1 43 3) j = true)) (h3 : st2.1 43 3 = st.1 43 3) (h46 : st2.2 46 = st.2 46) (h4 : st2.1 43 4 = st.1 43 4 ||| b1 o) (cnd : Int32 → Prop) (hok : ∀ p r, p < n 1 → (okX st2 p r ↔ (okX st p r ∧ (p = o → cnd r)))) (wt' : Nat) (q : List Nat) :
    (∀ z', (q, z') ∈ SX st2 n a c wt' 10 0 (sI0 c) 0 → ∃ z, (q, z) ∈ LQ n a c (n 2) (-10) false o ∧ o ∈ q ∧ cnd z ∧ (wt' = o → z' = z)) ∧
    (∀ z, (q, z) ∈ LQ n a c (n 2) (-10) false o → o ∈ q → cnd z → ∃ z', (q, z') ∈ SX st2 n a c wt' 10 0 (sI0 c) 0 ∧ (wt' = o → z' = z)) := by
  have hb := hG.b
  have e0 : LQ n a c (n 2) (-10) false o = spx (n 1) (rdX st) (okX st) (flX st) (exo a c) o 10 0 (sI0 c) 0 := (sameSX hG false o (Or.inl ⟨rfl, rfl⟩) hP (kF hk)).symm
  have e1 : rdX st2 = rdX st := by
    funext p u
    unfold rdX
    rw [h3, h46]
  have hfl : ∀ u, flX st2 u ↔ (flX st u ∧ bt u o = true) := fun u => by
    unfold flX
    rw [h4]
    constructor
    · intro h
      refine ⟨fun i hi hb4 => h i hi (by rw [bt_or, hb4]; rfl), h o (by omega) (by rw [bt_or, bt_b1 (by omega)]; simp)⟩
    · rintro ⟨h, h'⟩ i hi hb4
      rw [bt_or, bt_b1 (by omega), Bool.or_eq_true, decide_eq_true_eq] at hb4
      rcases hb4 with hb4 | hb4
      · exact h i hi hb4
      · rw [hb4]; exact h'
  have key := spx_one (K := n 1) (rd := rdX st) (ok := okX st) (ok' := okX st2) (fl := flX st) (fl' := flX st2) (ex := exo a c) (wt' := wt') (o := o) (cnd := cnd) (by omega) (by omega) (fun p u h => h.2.1) hok hfl 10 0 (sI0 c) 0 0 q
  unfold SX
  rw [e1, e0]
  refine ⟨fun z' hz => ?_, fun z hz hoq hc => ?_⟩
  · obtain ⟨z, k1, -, k3, k4⟩ := key.1 z' hz
    have := k3 (bt_0 o)
    exact ⟨z, k1, this.1, this.2, fun h => k4 h rfl⟩
  · obtain ⟨z', k1, k2, -⟩ := key.2 z hz (Or.inr ⟨hoq, hc⟩)
    exact ⟨z', k1, fun h => k2 h rfl⟩
theorem pendBit {s0 st : ax_S} {n : vN} {a : vA} {c : vC} {o : Nat} (h9 : a 9 o = 0) (hP : PpX s0 n a c (n 2) (-1) st) : bt (st.1 43 4) o = false := by
  cases h : bt (st.1 43 4) o with
  | false => rfl
  | true => exact absurd h9 ((hP.2.2.2.1 o).mp h).2.2.1
theorem rngR {k : Nat} {x : Int32} (h : loR k ≤ x ∧ x ≤ hiR k) : -999 ≤ x.toInt ∧ x.toInt ≤ 999 := by
  have hr := rng _ _ _ h
  have e1 : (-999 : Int32).toInt = -999 := by decide
  have e2 : (999 : Int32).toInt = 999 := by decide
  have e3 : (99 : Int32).toInt = 99 := by decide
  have h1 : -999 ≤ (loR k).toInt := by
    unfold loR
    split
    · rw [e1]; omega
    · split
      · rw [tm1]; omega
      · rw [t0]; omega
  have h2 : (hiR k).toInt ≤ 999 := by
    unfold hiR
    split
    · rw [e3]; omega
    · split
      · rw [t0]; omega
      · split
        · rw [e2]; omega
        · rw [t1]; omega
  omega
theorem s_canRespond (t x : Int32) : Sim1 (fX8_canRespond t x) (fX9_canRespond t x) := by
  intro sx sm h
  obtain ⟨n, a, c, hG, hX, hM⟩ := h.1
  have hb := hG.b
  unfold fX8_canRespond fX9_canRespond fX9_canRespond_b45
  rcases Classical.em (∃ j, j < 4 ∧ t = nI j) with ⟨t, ht, rfl⟩ | hn
  · rw [rspX hX hG ht, rspM hM hG ht, pb, pb]
    by_cases he : eRsp a t x = 0
    · obtain ⟨hcr, hpn, hxr⟩ := eRsp_0 he
      have hp := (hG.p t ht).2 hpn
      have hr := hG.r t
      rw [if_pos he, if_pos he, if_pos (nI_pos' (by omega))]
      generalize ho : a 17 t - 1 = o at *
      have hx9 := rngR hxr
      obtain ⟨s1, g1, g2, g3⟩ := wholeX hG hX
      have hX1 := RX1_fr g2.1.fx hX
      have hpb := pendBit hp.2.2 g2
      -- the class's state with the operation asked for
      obtain ⟨s2, y1, y2⟩ : ∃ s2, s2 = ax_sE (ax_sI (ax_sI s1 43 4 (s1.1 43 4 ||| b1 o)) 43 5 (s1.1 43 5 ||| b1 o)) 45 o x ∧ fX5_requireResult (nI o) x s1 = some (0, s2) := by
        refine ⟨_, rfl, ?_⟩
        unfold fX5_requireResult
        rw [pt, pt, show (1 : Int32) <<< (nI o &&& 31) = b1 o from rfl, psto (by omega) (by decide)]
        have : (ax_sI s1 43 4 (s1.1 43 4 ||| b1 o)).1 43 5 = s1.1 43 5 := by rw [pI1, if_neg (by omega)]
        rw [this]
      have c3 : s2.1 43 3 = s1.1 43 3 := by rw [y1, pE1, pI1, if_neg (by omega), pI1, if_neg (by omega)]
      have c4 : s2.1 43 4 = s1.1 43 4 ||| b1 o := by rw [y1, pE1, pI1, if_neg (by omega), pI1, if_pos ⟨rfl, rfl⟩]
      have c5 : s2.1 43 5 = s1.1 43 5 ||| b1 o := by rw [y1, pE1, pI1, if_pos ⟨rfl, rfl⟩]
      have c12 : s2.1 43 12 = -1 := by rw [y1, pE1, pI1, if_neg (by omega), pI1, if_neg (by omega)]; exact g2.2.2.2.2.2.1
      have c46 : s2.2 46 = s1.2 46 := by rw [y1, pE2n _ _ _ (by decide), pI2, pI2]
      have c45 : ∀ p, s2.2 45 p = if p = o then x else s1.2 45 p := fun p => by rw [y1, pE2, if_pos rfl, pI2, pI2]
      have hQ2 : QX s1 s2 := by rw [y1]; exact ((QX.I _ _ _).tr (QX.I _ _ _)).tr (QX.E _ (by decide) _ _)
      have hR2 : RpX (n 0) s2 (sI0 c) := RpX_fr hb.1 (fun q q1 q2 => by
        rw [y1]
        exact ⟨by rw [pE1, pI1n _ _ _ (by omega), pI1n _ _ _ (by omega)], by rw [pE2n _ _ _ (by omega), pI2, pI2]⟩) g2.2.1
      have hok : ∀ p r, p < n 1 → (okX s2 p r ↔ (okX s1 p r ∧ (p = o → x = r))) := fun p r hp1 => by
        unfold okX
        rw [c5, c45 p, bt_or, bt_b1 (by omega)]
        by_cases hpo : p = o
        · have h5 : bt (s1.1 43 5) p = false := by rw [g2.2.2.2.2.2.2, hpo]; exact hpb
          rw [if_pos hpo, h5]
          simp [hpo]
        · rw [if_neg hpo]
          simp [hpo]
      have hreq := fun q => reqX hG (o := o) hp.1 hp.2.2 g2 g3 c3 c46 c4 (fun r => x = r) hok 99 q
      obtain ⟨s3, v1, v2, v3⟩ := findX0 hG (RX1_fr hQ2.fx hX1) hR2 c12 (L := SX s2 n a c 99 10 0 (sI0 c) 0) rfl
      obtain ⟨t1, q1, q2, q3⟩ := runM (wt := o) (wi := nI o) (lim := n 2) false (-10) false hG hM (by omega) (Or.inl ⟨by omega, rfl⟩)
      have q1 : fX9_searches (nI (n 2)) (-10) 0 1 (nI o) sm = some (t1.1 0 29, t1) := q1
      have q3 : accM false o t1 (LQ n a c (n 2) (-10) false o) := q3
      have hmk := (q3.2 rfl).2 (by omega) (x.toInt + 1100).toNat (by omega)
      have e3 : (1100 : Int32).toInt = 1100 := by decide
      have hix : x + 1100 = nI (x.toInt + 1100).toNat := by
        apply Int32.toInt_inj.mp
        rw [tadd (by omega) (by omega), nI_toInt (by omega)]
        omega
      have hFX : FX sx s3 := (g2.1.tr (hQ2.tr v2)).fx
      rw [g1, pb, pld (by omega) (by decide), X_pn hX1 ht, pu_sub1 (by omega), ho, y2, pb, v1, pb, trXc, pb, M_n2 hM, q1, pb, hix, pld (by omega) (by decide)]
      refine ⟨cif (SX s2 n a c 99 10 0 (sI0 c) 0 = []) 0 1, s3, t1, rfl, ?_, Rl_fr h hFX q2⟩
      rcases hmk with ⟨m1, ⟨q, z⟩, m2, m3, m4⟩ | ⟨m1, m2⟩
      · have m4 : z.toInt = _ := m4
        have hz : x = z := Int32.toInt_inj.mp (by omega)
        obtain ⟨z', k1, -⟩ := (hreq q).2 z m2 m3 hz
        rw [m1, if_neg (by decide), cif_n (fun hh => by rw [hh] at k1; cases k1)]
      · have hnil : SX s2 n a c 99 10 0 (sI0 c) 0 = [] := by
          refine Classical.byContradiction (fun hne => ?_)
          obtain ⟨⟨q, w⟩, l, hq⟩ := List.exists_cons_of_ne_nil hne
          obtain ⟨z, k1, k2, k3, -⟩ := (hreq q).1 w (by rw [hq]; exact List.mem_cons_self)
          refine m2 (q, z) k1 k2 ?_
          show z.toInt = _
          rw [← k3]
          omega
        rw [m1, if_pos rfl, cif_p hnil]
    · rw [if_neg he, if_neg he, if_neg (fun hh => absurd (eRsp_neg he) (Int32.not_lt.mpr hh))]
      exact ⟨_, _, _, rfl, rfl, h⟩
  · rw [rspX_n hn, rspM_n hn, pb, pb, if_neg (by decide), if_neg (by decide)]
    exact ⟨_, _, _, rfl, rfl, h⟩
/-! how many -/
theorem clrL {x1 x2 x3 : Int32} : ∀ (d m i : Nat) (st : ax_S), i + d = 1999 → d < m → ∃ s1, fX5_countResults_L3 m x1 x2 x3 (nI i) st = (ax_then (ax_sI s1 43 4 ((s1.1 43 4) ||| ((1 : Int32) <<< (x1 &&& 31)))) fun st1 => ax_then (ax_sI st1 43 12 x1) fun st2 => ax_bind (fX5_countAll st2) fun _ st4 => fX5_countResults_L55 4000 x3 (0 : Int32) x2 st4) ∧ s1.1 = st.1 ∧ (∀ q, q ≠ 48 → s1.2 q = st.2 q) ∧ (∀ j, j < i → s1.2 48 j = st.2 48 j) ∧ (∀ j, i ≤ j → j < 1999 → s1.2 48 j = 0) := by
  intro d
  induction d with
  | zero =>
    intro m i st hi hm
    obtain ⟨m, rfl⟩ : ∃ k, m = k + 1 := ⟨m - 1, by omega⟩
    refine ⟨st, ?_, rfl, fun _ _ => rfl, fun _ _ => rfl, fun j h1 h2 => by omega⟩
    rw [fX5_countResults_L3, if_pos ((qle_1999 (by omega)).mpr (by omega))]
  | succ d ih =>
    intro m i st hi hm
    obtain ⟨m, rfl⟩ : ∃ k, m = k + 1 := ⟨m - 1, by omega⟩
    obtain ⟨s1, g1, g2, g3, g4, g5⟩ := ih m (i + 1) (ax_sE st 48 i 0) (by omega) (by omega)
    refine ⟨s1, ?_, by rw [g2, pE1], fun p hp => by rw [g3 p hp, pE2n _ _ _ hp], fun j hj => ?_, fun j h1 h2 => ?_⟩
    · rw [fX5_countResults_L3, if_neg (fun hh => absurd ((qle_1999 (by omega)).mp hh) (by omega)), psto (by omega) (by decide), nar0, nI_1]
      exact g1
    · rw [g4 j (by omega), pE2, if_pos rfl, if_neg (by omega)]
    · by_cases hji : j = i
      · subst hji
        rw [g4 j (by omega), pE2, if_pos rfl, if_pos rfl]
      · exact g5 j (by omega) h2
theorem sumL {s t : ax_S} {n : vN} {a : vA} {c : vC} (hM : RM t n a c) (hR : GdR a) {o : Nat} (ho : o < 10) (hh : (hiR (a 3 o)).toInt ≤ 999) (heq : ∀ j, j < 1999 → s.2 48 j = t.2 23 (j + 101)) : ∀ (d m1 m2 j : Nat) (v cnt : Int32), v.toInt = (j : Int) - 999 → (j : Int) + d = max (j : Int) ((hiR (a 3 o)).toInt + 1000) → d < m1 → d < m2 → ∃ r, fX5_countResults_L55 m1 (hiR (a 3 o)) cnt v s = some (r, s) ∧ fX9_countResponses_L39 m2 (nI o) cnt v t = some (r, t) := by
  have e9 : (999 : Int32).toInt = 999 := by decide
  have e11 : (1100 : Int32).toInt = 1100 := by decide
  have hk := (hR o).1
  intro d
  induction d with
  | zero =>
    intro m1 m2 j v cnt hv hd h1 h2
    obtain ⟨m1, rfl⟩ : ∃ k, m1 = k + 1 := ⟨m1 - 1, by omega⟩
    obtain ⟨m2, rfl⟩ : ∃ k, m2 = k + 1 := ⟨m2 - 1, by omega⟩
    have hlt : hiR (a 3 o) < v := Int32.lt_iff_toInt_lt.mpr (by omega)
    refine ⟨cnt, ?_, ?_⟩
    · rw [fX5_countResults_L55, if_pos hlt]
    · rw [fX9_countResponses_L39, pld ho (by decide), M_kd hM ho, hiM hk, pb, if_pos hlt]
  | succ d ih =>
    intro m1 m2 j v cnt hv hd h1 h2
    obtain ⟨m1, rfl⟩ : ∃ k, m1 = k + 1 := ⟨m1 - 1, by omega⟩
    obtain ⟨m2, rfl⟩ : ∃ k, m2 = k + 1 := ⟨m2 - 1, by omega⟩
    have hnlt : ¬ hiR (a 3 o) < v := fun hh => by have := Int32.lt_iff_toInt_lt.mp hh; omega
    have hj : j < 1999 := by omega
    have i1 : v + 999 = nI j := by
      apply Int32.toInt_inj.mp
      rw [tadd (by omega) (by omega), nI_toInt (by omega)]
      omega
    have i2 : v + 1100 = nI (j + 101) := by
      apply Int32.toInt_inj.mp
      rw [tadd (by omega) (by omega), nI_toInt (by omega)]
      omega
    have hv1 : (v + 1).toInt = ((j + 1 : Nat) : Int) - 999 := by
      rw [tadd (by omega) (by rw [t1]; omega), t1]
      omega
    rw [fX5_countResults_L55, if_neg hnlt, i1, pld hj (by decide), heq j hj]
    rw [fX9_countResponses_L39, pld ho (by decide), M_kd hM ho, hiM hk, pb, if_neg hnlt, i2, pld (by omega) (by decide)]
    unfold fX5_countResults_b78 fX9_countResponses_b73
    by_cases h0 : t.2 23 (j + 101) = 0
    · rw [if_pos h0, if_pos h0, Int32.add_zero]
      exact ih m1 m2 (j + 1) (v + 1) cnt hv1 (by omega) (by omega) (by omega)
    · rw [if_neg h0, if_neg h0]
      exact ih m1 m2 (j + 1) (v + 1) (cnt + 1) hv1 (by omega) (by omega) (by omega)
theorem loRb (k : Nat) : -999 ≤ (loR k).toInt ∧ (loR k).toInt ≤ 0 := by
  have e1 : (-999 : Int32).toInt = -999 := by decide
  unfold loR
  split
  · rw [e1]; omega
  · split
    · rw [tm1]; omega
    · rw [t0]; omega
theorem hiRb (k : Nat) : 0 ≤ (hiR k).toInt ∧ (hiR k).toInt ≤ 999 := by
  have e2 : (999 : Int32).toInt = 999 := by decide
  have e3 : (99 : Int32).toInt = 99 := by decide
  unfold hiR
  split
  · rw [e3]; omega
  · split
    · rw [t0]; omega
    · split
      · rw [e2]; omega
      · rw [t1]; omega
theorem s_countResponses (t : Int32) : Sim1 (fX8_countResponses t) (fX9_countResponses t) := by
  intro sx sm h
  obtain ⟨n, a, c, hG, hX, hM⟩ := h.1
  have hb := hG.b
  unfold fX8_countResponses fX9_countResponses
  rcases Classical.em (∃ j, j < 4 ∧ t = nI j) with ⟨t, ht, rfl⟩ | hn
  · rw [waitX hX hG ht, mayM hM hG ht, pb, pb]
    have hr := hG.r t
    by_cases hcr : a 18 t = 0
    · rw [if_pos hcr, if_pos hcr]
      by_cases hpn : a 17 t = 0
      · rw [if_pos hpn, if_pos hpn, if_neg (by decide), if_neg (by decide)]
        exact ⟨_, _, _, rfl, rfl, h⟩
      · have hp := (hG.p t ht).2 hpn
        rw [if_neg hpn, if_neg hpn, if_pos rfl, if_pos (nI_pos' (by omega)), pld (by omega) (by decide), X_pn hX ht, pu_sub1 (by omega)]
        generalize ho : a 17 t - 1 = o at *
        have hk := (hG.r o).1
        have hlo := loRb (a 3 o)
        have hhi := hiRb (a 3 o)
        obtain ⟨s1, g1, g2, g3⟩ := wholeX hG hX
        have hX1 := RX1_fr g2.1.fx hX
        have hpb := pendBit hp.2.2 g2
        rw [pld (by omega) (by decide), X_kd hX (by omega), g1, pb, loX hk, pb, hiX hk, pb]
        obtain ⟨s2, k1, k2, k3, k4, k5⟩ := clrL (x1 := nI o) (x2 := loR (a 3 o)) (x3 := hiR (a 3 o)) 1999 4000 0 s1 (by omega) (by omega)
        rw [nI_0] at k1
        -- the class's state with the operation watched
        have c4 : (ax_sI (ax_sI s2 43 4 (s2.1 43 4 ||| b1 o)) 43 12 (nI o)).1 43 4 = s1.1 43 4 ||| b1 o := by rw [pI1, if_neg (by omega), pI1, if_pos ⟨rfl, rfl⟩, k2]
        have c3 : (ax_sI (ax_sI s2 43 4 (s2.1 43 4 ||| b1 o)) 43 12 (nI o)).1 43 3 = s1.1 43 3 := by rw [pI1, if_neg (by omega), pI1, if_neg (by omega), k2]
        have c5 : (ax_sI (ax_sI s2 43 4 (s2.1 43 4 ||| b1 o)) 43 12 (nI o)).1 43 5 = s1.1 43 5 := by rw [pI1, if_neg (by omega), pI1, if_neg (by omega), k2]
        have c12 : (ax_sI (ax_sI s2 43 4 (s2.1 43 4 ||| b1 o)) 43 12 (nI o)).1 43 12 = nI o := by rw [pI1, if_pos ⟨rfl, rfl⟩]
        have cA : (ax_sI (ax_sI s2 43 4 (s2.1 43 4 ||| b1 o)) 43 12 (nI o)).2 = s2.2 := by rw [pI2, pI2]
        have cq : ∀ q, q ≠ 43 → (ax_sI (ax_sI s2 43 4 (s2.1 43 4 ||| b1 o)) 43 12 (nI o)).1 q = s1.1 q := fun q hq => by rw [pI1n _ _ _ hq, pI1n _ _ _ hq, k2]
        have e0 : (ax_then (ax_sI s2 43 4 ((s2.1 43 4) ||| ((1 : Int32) <<< (nI o &&& 31)))) fun st1 => ax_then (ax_sI st1 43 12 (nI o)) fun st2 => ax_bind (fX5_countAll st2) fun _ st4 => fX5_countResults_L55 4000 (hiR (a 3 o)) (0 : Int32) (loR (a 3 o)) st4) = ax_bind (fX5_countAll (ax_sI (ax_sI s2 43 4 (s2.1 43 4 ||| b1 o)) 43 12 (nI o))) fun _ st4 => fX5_countResults_L55 4000 (hiR (a 3 o)) (0 : Int32) (loR (a 3 o)) st4 := rfl
        rw [e0] at k1
        generalize ax_sI (ax_sI s2 43 4 (s2.1 43 4 ||| b1 o)) 43 12 (nI o) = s3 at *
        have hQ3 : QX s1 s3 := fun q hq => ⟨cq q (by omega), by rw [cA, k3 q (by omega)]⟩
        have hR3 : RpX (n 0) s3 (sI0 c) := RpX_fr hb.1 (fun q q1 q2 => ⟨cq q (by omega), by rw [cA, k3 q (by omega)]⟩) g2.2.1
        have c46 : s3.2 46 = s1.2 46 := by rw [cA, k3 46 (by decide)]
        have hok : ∀ p r, p < n 1 → (okX s3 p r ↔ (okX s1 p r ∧ (p = o → True))) := fun p r hp1 => by
          unfold okX
          rw [c5, cA, k3 45 (by decide)]
          simp
        have hreq := fun q => reqX hG (o := o) hp.1 hp.2.2 g2 g3 c3 c46 c4 (fun _ => True) hok o q
        obtain ⟨s4, v1, v2, v3⟩ := runX (of := false) (wt := o) hG (RX1_fr hQ3.fx hX1) hR3 (Or.inl ⟨by omega, c12⟩) (fun _ => by rw [c4, bt_or, bt_b1 (by omega)]; simp) (fun _ r hr9 => by rw [cA]; exact k5 r (by omega) hr9)
        have v1 : fX5_extend 12 0 0 (ax_sI (ax_sI s3 43 11 0) 43 10 0) = some (0, s4) := v1
        have v3 : accX false o s4 (SX s3 n a c o 10 0 (sI0 c) 0) := v3
        obtain ⟨t1, q1, q2, q3⟩ := runM (wt := o) (wi := nI o) (lim := n 2) false (-10) false hG hM (by omega) (Or.inl ⟨by omega, rfl⟩)
        have q1 : fX9_searches (nI (n 2)) (-10) 0 1 (nI o) sm = some (t1.1 0 29, t1) := q1
        have q3 : accM false o t1 (LQ n a c (n 2) (-10) false o) := q3
        have hM1 := RM_fr q2 hM
        have hmX := (v3.2 rfl).2 (by omega)
        have hmM := (q3.2 rfl).2 (by omega)
        have heq : ∀ j, j < 1999 → s4.2 48 j = t1.2 23 (j + 101) := fun j hj => by
          rcases hmX j hj with ⟨m1, ⟨q, z'⟩, m2, m3⟩ | ⟨m1, m2⟩
          · have m3 : z'.toInt = _ := m3
            obtain ⟨z, y1, y2, -, y4⟩ := (hreq q).1 z' m2
            rcases hmM (j + 101) (by omega) with ⟨w1, -⟩ | ⟨w1, w2⟩
            · rw [m1, w1]
            · refine absurd ?_ (w2 (q, z) y1 y2)
              show z.toInt = _
              rw [← y4 rfl]
              omega
          · rcases hmM (j + 101) (by omega) with ⟨w1, ⟨q, z⟩, w2, w3, w4⟩ | ⟨w1, -⟩
            · have w4 : z.toInt = _ := w4
              obtain ⟨z', y1, y2⟩ := (hreq q).2 z w2 w3 trivial
              refine absurd ?_ (m2 (q, z') y1)
              show z'.toInt = _
              rw [y2 rfl]
              omega
            · rw [m1, w1]
        have hFX : FX sx s4 := (g2.1.tr (hQ3.tr v2)).fx
        obtain ⟨r, r1, r2⟩ := sumL hM1 hG.r (o := o) (by omega) hhi.2 heq ((hiR (a 3 o)).toInt - (loR (a 3 o)).toInt + 1).toNat 4000 4000 ((loR (a 3 o)).toInt + 999).toNat (loR (a 3 o)) 0 (by omega) (by omega) (by omega) (by omega)
        refine ⟨r, s4, t1, ?_, ?_, Rl_fr h hFX q2⟩
        · unfold fX5_countResults
          rw [k1, fX5_countAll, ppz0, pt, v1, pb, pb, r1, pb]
        · rw [M_n2 hM, q1, pb, pld (by omega) (by decide), M_kd hM1 (by omega), loM hk, pb]
          exact r2
    · rw [if_neg hcr, if_neg hcr, if_neg (by decide), if_neg (by decide)]
      exact ⟨_, _, _, rfl, rfl, h⟩
  · rw [waitX_n hn, mayM_n hn, pb, pb, if_neg (by decide), if_neg (by decide)]
    exact ⟨_, _, _, rfl, rfl, h⟩
