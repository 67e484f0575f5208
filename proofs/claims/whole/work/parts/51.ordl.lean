/-! THE PURE PART: the order held against the history. -/
theorem badI {t : ax_S} {n : vN} {a : vA} {c : vC} (hM : RM t n a c) (hG : Good n a c) {p i : Nat} (hp : p < n 1) (u : Int32) (rec8 : Int32 → Int32 → ax_S → ax_R) : ∀ (d m j b : Nat), j + d = n 1 → d < m → b < 2 → ∃ b', b' < 2 ∧ (b' = 1 ↔ (b = 1 ∨ ∃ e, j ≤ e ∧ e < n 1 ∧ bfr a e p ∧ bt u e = false)) ∧ fX9_firstBadPosition_L29 rec8 m u (nI i) (nI p) (nI b) (nI j) t = (ax_bind (fX9_execute (nI p) t) fun r4 st5 => if nI b' = 0 then (ax_ld st5 9 10 (nI p) fun v6 => if v6 = (-1 : Int32) then (fX9_firstBadPosition_b110 rec8 u (nI i) (nI p) st5) else (ax_ld st5 10 10 (nI p) fun v7 => if r4 = v7 then (fX9_firstBadPosition_b110 rec8 u (nI i) (nI p) st5) else (fX9_firstBadPosition_b108 (nI i) st5))) else (fX9_firstBadPosition_b108 (nI i) st5)) := by
  have hb := hG.b
  intro d
  induction d with
  | zero =>
    intro m j b hj hm hb2
    obtain ⟨m, rfl⟩ : ∃ k, m = k + 1 := ⟨m - 1, by omega⟩
    refine ⟨b, hb2, ⟨fun h => Or.inl h, fun h => ?_⟩, ?_⟩
    · rcases h with h | ⟨e, h1, h2, -⟩
      · exact h
      · omega
    · rw [fX9_firstBadPosition_L29, M_n1 hM, if_pos (nI_le (by omega) (by omega))]
  | succ d ih =>
    intro m j b hj hm hb2
    obtain ⟨m, rfl⟩ : ∃ k, m = k + 1 := ⟨m - 1, by omega⟩
    rw [fX9_firstBadPosition_L29, M_n1 hM, if_neg (nI_ge (by omega) (by omega))]
    unfold fX9_firstBadPosition_b66 fX9_firstBadPosition_b62 fX9_firstBadPosition_b67
    rw [nI_1]
    rcases (show b = 0 ∨ b = 1 by omega) with rfl | rfl
    · rw [if_pos nI_0]
      obtain ⟨r, g1, g2⟩ := bfrM hM hG.r (i := j) (j := p) (by omega) (by omega)
      rw [g1, pb]
      have no : ¬ (bfr a j p ∧ bt u j = false) → ∃ b', b' < 2 ∧ (b' = 1 ↔ (0 = 1 ∨ ∃ e, j ≤ e ∧ e < n 1 ∧ bfr a e p ∧ bt u e = false)) ∧ fX9_firstBadPosition_L29 rec8 m u (nI i) (nI p) 0 (nI (j + 1)) t = (ax_bind (fX9_execute (nI p) t) fun r4 st5 => if nI b' = 0 then (ax_ld st5 9 10 (nI p) fun v6 => if v6 = (-1 : Int32) then (fX9_firstBadPosition_b110 rec8 u (nI i) (nI p) st5) else (ax_ld st5 10 10 (nI p) fun v7 => if r4 = v7 then (fX9_firstBadPosition_b110 rec8 u (nI i) (nI p) st5) else (fX9_firstBadPosition_b108 (nI i) st5))) else (fX9_firstBadPosition_b108 (nI i) st5)) := fun hn => by
        obtain ⟨b', k1, k2, k3⟩ := ih m (j + 1) 0 (by omega) (by omega) (by omega)
        refine ⟨b', k1, ⟨fun h => ?_, fun h => ?_⟩, k3⟩
        · rcases k2.mp h with h | ⟨e, q1, q2⟩
          · omega
          · exact Or.inr ⟨e, by omega, q2⟩
        · rcases h with h | ⟨e, q1, q2, q3⟩
          · omega
          · refine k2.mpr (Or.inr ⟨e, ?_, q2, q3⟩)
            have : e ≠ j := fun hh => hn (hh ▸ q3)
            omega
      rcases g2 with ⟨hr, hf⟩ | ⟨hr, hf⟩
      · rw [hr, if_neg (by decide)]
        cases hbt : bt u j with
        | false =>
          rw [if_pos ((bt_shr0 u (by omega)).mpr hbt)]
          obtain ⟨b', k1, k2, k3⟩ := ih m (j + 1) 1 (by omega) (by omega) (by omega)
          exact ⟨b', k1, ⟨fun _ => Or.inr ⟨j, by omega, by omega, hf, hbt⟩, fun _ => k2.mpr (Or.inl rfl)⟩, k3⟩
        | true =>
          rw [if_neg (fun hh => by rw [(bt_shr0 u (by omega)).mp hh] at hbt; cases hbt)]
          exact no (fun hh => by rw [hbt] at hh; cases hh.2)
      · rw [hr, if_pos rfl]
        exact no (fun hh => hf hh.1)
    · rw [if_neg (by decide)]
      obtain ⟨b', k1, k2, k3⟩ := ih m (j + 1) 1 (by omega) (by omega) (by omega)
      exact ⟨b', k1, ⟨fun _ => Or.inl rfl, fun _ => k2.mpr (Or.inl rfl)⟩, k3⟩
theorem badL {sx sm s1 : ax_S} {n : vN} {a : vA} {c : vC} (hG : Good n a c) (hX : RX 1 sx n a c) (hM : RM sm n a c) (hP : PpX sx n a c (n 2) (-1) s1) (hk : ∀ k, k < n 1 → ∀ j, bt (s1.2 46 k) j = true ↔ (j < k ∧ bfr a j k ∧ bt (s1.1 43 3) j = true)) : ∀ (d m1 m2 i : Nat) (u : Int32) (s : oS) (st t : ax_S), i + d = n 3 → d < m1 → d < m2 → SFX s1 st → RpX (n 0) st s → FM sm t → RpM (n 0) t s → IV s i → (∀ j, bt u j = true ↔ ∃ k, k < i ∧ a 14 k = j) → ∃ (rx rm : Int32) (st' t' : ax_S), fX5_badPosition_L4 m1 u (nI i) st = some (rx, st') ∧ fX9_firstBadPosition_L8 m2 u (nI i) t = some (rm, t') ∧ ((rx = -1 ∧ rm = -10) ∨ ∃ k, k < 10 ∧ rx = nI k ∧ rm = nI k) ∧ SFX s1 st' ∧ FM sm t' := by
  have hb := hG.b
  obtain ⟨hsame, -⟩ := sameL hG (oo := -10) false (Or.inl ⟨rfl, rfl⟩) hP (kF hk)
  have hX1 := RX1_fr hP.1.fx hX
  intro d
  induction d with
  | zero =>
    intro m1 m2 i u s st t hi h1 h2 hS hR hF hRM hI hu
    obtain ⟨m1, rfl⟩ : ∃ k, m1 = k + 1 := ⟨m1 - 1, by omega⟩
    obtain ⟨m2, rfl⟩ : ∃ k, m2 = k + 1 := ⟨m2 - 1, by omega⟩
    refine ⟨-1, -10, st, t, ?_, ?_, Or.inl ⟨rfl, rfl⟩, hS, hF⟩
    · rw [fX5_badPosition_L4, X_n3 (RX1_fr hS.fx hX1), if_pos (nI_le (by omega) (by omega))]
    · rw [fX9_firstBadPosition_L8, M_n3 (RM_fr hF hM), if_pos (nI_le (by omega) (by omega))]
  | succ d ih =>
    intro m1 m2 i u s st t hi h1 h2 hS hR hF hRM hI hu
    obtain ⟨m1, rfl⟩ : ∃ k, m1 = k + 1 := ⟨m1 - 1, by omega⟩
    obtain ⟨m2, rfl⟩ : ∃ k, m2 = k + 1 := ⟨m2 - 1, by omega⟩
    have hX2 := RX1_fr hS.fx hX1
    have hM2 := RM_fr hF hM
    have hp := hG.s.1 i (by omega)
    have hdst := hG.s.2
    generalize hpe : a 14 i = p at hp
    have ho := (hG.o p hp).1
    have hor := hG.o p hp
    have hr := hG.r p
    have hcc := hG.cc p
    have hup : bt u p = false := by
      cases h : bt u p with
      | false => rfl
      | true =>
        obtain ⟨k, k1, k2⟩ := (hu p).mp h
        exact absurd (k2.trans hpe.symm) (hdst k i k1 (by omega))
    have hrd : rdX s1 p u ↔ ∀ e, e < n 1 → bfr a e p → bt u e = true := by
      have h1 : rdX s1 p u ↔ rdM n a (n 2) (-10) false p u := ⟨fun h => ((hsame p u (s1.2 45 p) hp).mp ⟨h, Or.inr rfl⟩).1, fun h => ((hsame p u (c 10 p) hp).mpr ⟨h, Or.inr rfl⟩).1⟩
      rw [h1]
      constructor
      · intro h e he hf
        exact h.2.2 e he (by simpa [fsM] using hf) ⟨(hG.o e he).2.1, Or.inl rfl⟩
      · intro h
        exact ⟨hup, ⟨hor.2.1, Or.inl rfl⟩, fun e he hf _ => h e he (by simpa [fsM] using hf)⟩
    obtain ⟨b', w1, w2, w3⟩ := badI hM2 hG (p := p) (i := i) hp u (fX9_firstBadPosition_L8 m2) (n 1) 4000 0 0 (by omega) (by omega) (by omega)
    rw [nI_0] at w3
    obtain ⟨t1, x1, x2, x3⟩ := execM hM2 hG.r hG.cc (by omega) (hRM _ ho) (hI (a 5 p)) (by omega)
    have hz : (exl (s (a 5 p)) (a 3 p) (c 6 p) (c 7 p)).1 = (exo a c s p).1 := rfl
    have hs' : (exo a c s p).2 = uf s (a 5 p) (exl (s (a 5 p)) (a 3 p) (c 6 p) (c 7 p)).2 := rfl
    rw [hz] at x1
    have hF1 : FM sm t1 := hF.tr x3.S.fm
    have hM3 := RM_fr hF1 hM
    rw [fX5_badPosition_L4, X_n3 hX2, if_neg (nI_ge (by omega) (by omega)), pld (by omega) (by decide), X_od hX2 (by omega), hpe, mfX hS (by omega), pb]
    rw [fX9_firstBadPosition_L8, M_n3 hM2, if_neg (nI_ge (by omega) (by omega)), pld (by omega) (by decide), M_od hM2 (by omega), hpe, w3, x1, pb]
    unfold fX5_badPosition_b45 fX9_firstBadPosition_b108 fX9_firstBadPosition_b110
    by_cases hrdy : rdX s1 p u
    · have hb0 : b' = 0 := by
        by_cases h : b' = 1
        · rcases w2.mp h with h | ⟨e, -, q2, q3, q4⟩
          · omega
          · have := hrd.mp hrdy e q2 q3
            rw [q4] at this
            cases this
        · omega
      obtain ⟨s2, y1, y2, y3⟩ := perfX (hR _ ho) (hI (a 5 p)) (by omega) hr.1 hcc.2.1.2 hcc.2.2.1 (y := c 7 p)
      rw [hz] at y1
      have hS2 : SFX s1 s2 := hS.tr (y3.S (by omega))
      have hok : okX s1 p (exo a c s p).1 ↔ okM a c (n 2) p (exo a c s p).1 := by
        have hrdM : rdM n a (n 2) (-10) false p u := ((hsame p u (s1.2 45 p) hp).mp ⟨hrdy, Or.inr rfl⟩).1
        exact ⟨fun h => ((hsame p u _ hp).mp ⟨hrdy, h⟩).2, fun h => ((hsame p u _ hp).mpr ⟨hrdM, h⟩).2⟩
      have hbp : (1 : Int32) <<< (nI p &&& 31) = b1 p := rfl
      have hIV := exo_iv hG.cc hI (by omega) p
      have hu' : ∀ j, bt (u ||| b1 p) j = true ↔ ∃ k, k < i + 1 ∧ a 14 k = j := fun j => by
        rw [bt_or, bt_b1 (by omega), Bool.or_eq_true, hu j, decide_eq_true_eq]
        constructor
        · rintro (⟨k, k1, k2⟩ | h)
          · exact ⟨k, by omega, k2⟩
          · exact ⟨i, by omega, by rw [hpe, h]⟩
        · rintro ⟨k, k1, k2⟩
          by_cases hki : k = i
          · right; rw [← k2, hki, hpe]
          · exact Or.inl ⟨k, by omega, k2⟩
      have go := ih m1 m2 (i + 1) (u ||| b1 p) (exo a c s p).2 s2 t1 (by omega) (by omega) (by omega) hS2 (RpX_set hR y3 y2) hF1 (RpM_set hRM hI (by omega) x3 x2) hIV.1 hu'
      rw [cif_p hrdy, if_neg (by decide)]
      unfold fX5_resultOfNext
      rw [pld (by omega) (by decide), X_ob hX2 (by omega), pldq (by show a 5 p < 4; omega) (by decide), getq (by omega), pld (by omega) (by decide), X_kd hX2 (by omega), pld (by omega) (by decide), X_fa hX2 (by omega), pld (by omega) (by decide), X_sa hX2 (by omega), y1, pb, pb, agX hS2 (by omega), pb, hb0, if_pos nI_0, pld (by omega) (by decide), M_rs hM3 (by omega), hbp, nI_1]
      by_cases h9 : a 9 p = 0
      · have : okX s1 p (exo a c s p).1 := hok.mpr (Or.inl (fun h => h.1 h9))
        rw [cif_p this, if_neg (by decide), if_pos ((pu_m1 (by omega)).mpr h9)]
        exact go
      · have hcp : cpM a (n 2) p := ⟨h9, (hor.2.2.2.2 h9).2.1⟩
        rw [if_neg (fun hh => h9 ((pu_m1 (by omega)).mp hh)), pld (by omega) (by decide), M_re hM3 (by omega)]
        by_cases hre : (exo a c s p).1 = c 10 p
        · have : okX s1 p (exo a c s p).1 := hok.mpr (Or.inr hre)
          rw [cif_p this, if_neg (by decide), if_pos hre]
          exact go
        · have : ¬ okX s1 p (exo a c s p).1 := fun h => (hok.mp h).elim (fun h => h hcp) hre
          rw [cif_n this, if_pos rfl, if_neg hre]
          exact ⟨nI i, nI i, s2, t1, rfl, rfl, Or.inr ⟨i, by omega, rfl, rfl⟩, hS2, hF1⟩
    · have hb1 : b' = 1 := by
        refine w2.mpr (Or.inr ?_)
        refine Classical.byContradiction (fun hn => hrdy (hrd.mpr (fun e he hf => ?_)))
        cases h : bt u e with
        | true => rfl
        | false => exact absurd ⟨e, by omega, he, hf, h⟩ hn
      rw [cif_n hrdy, if_pos rfl, hb1, if_neg (by decide)]
      exact ⟨nI i, nI i, st, t1, rfl, rfl, Or.inr ⟨i, by omega, rfl, rfl⟩, hS, hF1⟩
theorem bad0 {sx sm s1 : ax_S} {n : vN} {a : vA} {c : vC} (hG : Good n a c) (hX : RX 1 sx n a c) (hM : RM sm n a c) (hP : PpX sx n a c (n 2) (-1) s1) (hk : ∀ k, k < n 1 → ∀ j, bt (s1.2 46 k) j = true ↔ (j < k ∧ bfr a j k ∧ bt (s1.1 43 3) j = true)) : ∃ (rx rm : Int32) (st' t' : ax_S), fX5_badPosition s1 = some (rx, st') ∧ fX9_firstBadPosition sm = some (rm, t') ∧ ((rx = -1 ∧ rm = -10) ∨ ∃ k, k < 10 ∧ rx = nI k ∧ rm = nI k) ∧ FX sx st' ∧ FM sm t' := by
  have hb := hG.b
  obtain ⟨t0, g1, g2, g3, g4⟩ := startM hM
  have hF0 : FM sm t0 := ⟨fun k _ => by rw [g3], fun o ho => g4 o (by omega)⟩
  obtain ⟨rx, rm, st', t', k1, k2, k3, k4, k5⟩ := badL hG hX hM hP hk (n 3) 4000 4000 0 0 (sI0 c) s1 t0 (by omega) (by omega) (by omega) (SFX.rf _) hP.2.1 hF0 (fun o ho => g2 o (by omega)) (IV0 hG.cc) (fun j => by
    rw [bt_0]
    exact ⟨fun h => (by cases h), fun ⟨k, h, _⟩ => by omega⟩)
  rw [nI_0] at k1 k2
  refine ⟨rx, rm, st', t', k1, ?_, k3, (hP.1.tr k4.q).fx, k5⟩
  rw [fX9_firstBadPosition, g1, pb]
  exact k2
theorem s_firstBadPosition : Sim1 fX8_firstBadPosition fX9_firstBadPosition := by
  intro sx sm h
  obtain ⟨n, a, c, hG, hX, hM⟩ := h.1
  obtain ⟨s1, g1, g2, g3⟩ := wholeX hG hX
  obtain ⟨rx, rm, st', t', k1, k2, k3, k4, k5⟩ := bad0 hG hX hM g2 g3
  refine ⟨rm, st', t', ?_, k2, Rl_fr h k4 k5⟩
  rw [fX8_firstBadPosition, g1, pb, k1, pb]
  unfold fX8_firstBadPosition_b30
  rcases k3 with ⟨e1, e2⟩ | ⟨k, hk, e1, e2⟩
  · rw [if_pos e1, e2]
  · rw [e1, e2, if_neg (fun hh => by rw [qnem1 (by omega)] at hh; exact hh)]
theorem covL {st : ax_S} {n : vN} {a : vA} {c : vC} (hX : RX 1 st n a c) (hG : Good n a c) (rq : Int32) : ∀ (d m i : Nat) (u : Int32), i + d = n 3 → d < m → (∀ j, j < 32 → (bt u j = true ↔ (bt rq j = true ∧ ∀ k, k < i → a 14 k ≠ j))) → fX5_coversRequired_L7 m u (nI i) st = some (cif (∀ j, j < 32 → bt rq j = true → ∃ k, k < n 3 ∧ a 14 k = j) 1 0, st) := by
  have hb := hG.b
  intro d
  induction d with
  | zero =>
    intro m i u hi hm hu
    obtain ⟨m, rfl⟩ : ∃ k, m = k + 1 := ⟨m - 1, by omega⟩
    have hi : i = n 3 := by omega
    subst hi
    rw [fX5_coversRequired_L7, X_n3 hX, if_pos (nI_le (by omega) (by omega))]
    unfold fX5_coversRequired_b43
    by_cases h0 : u = 0
    · rw [if_pos h0, cif_p (fun j hj hr => ?_)]
      · exact prz1 st
      · refine Classical.byContradiction (fun hn => ?_)
        have := (hu j hj).mpr ⟨hr, fun k hk hh => hn ⟨k, hk, hh⟩⟩
        rw [h0, bt_0] at this
        cases this
    · rw [if_neg h0, cif_n (fun hh => h0 ((bt_eq0 u).mpr (fun j hj => ?_)))]
      · exact prz0 st
      · cases h : bt u j with
        | false => rfl
        | true =>
          obtain ⟨q1, q2⟩ := (hu j hj).mp h
          obtain ⟨k, q3, q4⟩ := hh j hj q1
          exact absurd q4 (q2 k q3)
  | succ d ih =>
    intro m i u hi hm hu
    obtain ⟨m, rfl⟩ : ∃ k, m = k + 1 := ⟨m - 1, by omega⟩
    have hp := hG.s.1 i (by omega)
    rw [fX5_coversRequired_L7, X_n3 hX, if_neg (nI_ge (by omega) (by omega)), pld (by omega) (by decide), X_od hX (by omega), nI_1, show (1 : Int32) <<< (nI (a 14 i) &&& 31) = b1 (a 14 i) from rfl]
    refine ih m (i + 1) _ (by omega) (by omega) (fun j hj => ?_)
    rw [bt_and, bt_not _ hj, bt_b1 (by omega), Bool.and_eq_true, hu j hj]
    constructor
    · rintro ⟨⟨q1, q2⟩, q3⟩
      refine ⟨q1, fun k hk => ?_⟩
      by_cases hki : k = i
      · rw [hki]
        intro hh
        rw [hh] at q3
        simp at q3
      · exact q2 k (by omega)
    · rintro ⟨q1, q2⟩
      refine ⟨⟨q1, fun k hk => q2 k (by omega)⟩, ?_⟩
      have := q2 i (by omega)
      have h2 : decide (j = a 14 i) = false := decide_eq_false (fun hh => this hh.symm)
      rw [h2]; rfl
theorem lastL {sx t : ax_S} {n : vN} {a : vA} {c : vC} (hX : RX 1 sx n a c) (hM : RM t n a c) (hG : Good n a c) : ∀ (d m i b : Nat), i + d = n 1 → d < m → b < 2 → fX9_isOrderLinearization_L17 m (nI b) (nI i) t = some (cif (b = 1 ∧ ∀ j, i ≤ j → j < n 1 → a 9 j ≠ 0 → ∃ k, k < n 3 ∧ a 14 k = j) 1 0, t) := by
  have hb := hG.b
  intro d
  induction d with
  | zero =>
    intro m i b hi hm hb2
    obtain ⟨m, rfl⟩ : ∃ k, m = k + 1 := ⟨m - 1, by omega⟩
    rw [fX9_isOrderLinearization_L17, M_n1 hM, if_pos (nI_le (by omega) (by omega))]
    unfold fX9_isOrderLinearization_b70
    rcases (show b = 0 ∨ b = 1 by omega) with rfl | rfl
    · rw [if_pos nI_0, cif_n (fun hh => by omega)]
    · rw [if_neg (by decide), cif_p ⟨rfl, fun j h1 h2 => by omega⟩]
  | succ d ih =>
    intro m i b hi hm hb2
    obtain ⟨m, rfl⟩ : ∃ k, m = k + 1 := ⟨m - 1, by omega⟩
    have hr := hG.r i
    rw [fX9_isOrderLinearization_L17, M_n1 hM, if_neg (nI_ge (by omega) (by omega))]
    unfold fX9_isOrderLinearization_b53 fX9_isOrderLinearization_b49 fX9_isOrderLinearization_b54
    rw [nI_1]
    have h0 := ih m (i + 1) 0 (by omega) (by omega) (by omega)
    have h1 := ih m (i + 1) 1 (by omega) (by omega) (by omega)
    have h0 : fX9_isOrderLinearization_L17 m 0 (nI (i + 1)) t = _ := h0
    have h1 : fX9_isOrderLinearization_L17 m 1 (nI (i + 1)) t = _ := h1
    rcases (show b = 0 ∨ b = 1 by omega) with rfl | rfl
    · rw [if_pos nI_0, h0, cif_n (fun hh => by omega), cif_n (fun hh => by omega)]
    · rw [if_neg (by decide), pld (by omega) (by decide), M_rs hM (by omega)]
      have yes : (a 9 i ≠ 0 → ∃ k, k < n 3 ∧ a 14 k = i) → fX9_isOrderLinearization_L17 m 1 (nI (i + 1)) t = some (cif (1 = 1 ∧ ∀ j, i ≤ j → j < n 1 → a 9 j ≠ 0 → ∃ k, k < n 3 ∧ a 14 k = j) 1 0, t) := fun hy => by
        rw [h1]
        rw [cif_c (Q := (1 = 1 ∧ ∀ j, i ≤ j → j < n 1 → a 9 j ≠ 0 → ∃ k, k < n 3 ∧ a 14 k = j))]
        constructor
        · rintro ⟨-, h⟩
          refine ⟨rfl, fun j q1 q2 q3 => ?_⟩
          by_cases hji : j = i
          · rw [hji] at q3 ⊢; exact hy q3
          · exact h j (by omega) q2 q3
        · rintro ⟨-, h⟩
          exact ⟨rfl, fun j q1 => h j (by omega)⟩
      by_cases h9 : a 9 i = 0
      · rw [if_pos ((pu_m1 (by omega)).mpr h9)]
        exact yes (fun h => absurd h9 h)
      · rw [if_neg (fun hh => h9 ((pu_m1 (by omega)).mp hh))]
        rcases pos0 hX hM hG (p := i) (by omega) with ⟨q, q1, q2, -, q4⟩ | ⟨q1, -, q4⟩
        · rw [q4, pb, if_neg (fun hh => by rw [qnem10 (by omega)] at hh; exact hh)]
          exact yes (fun _ => ⟨q, q1, q2⟩)
        · rw [q4, pb, if_pos rfl, h0, cif_n (fun hh => by omega), cif_n (fun hh => ?_)]
          obtain ⟨k, k1, k2⟩ := hh.2 i (by omega) (by omega) h9
          exact q1 k k1 k2
theorem s_isOrderLinearization : Sim1 fX8_isOrderLinearization fX9_isOrderLinearization := by
  intro sx sm h
  obtain ⟨n, a, c, hG, hX, hM⟩ := h.1
  have hb := hG.b
  obtain ⟨s1, g1, g2, g3⟩ := wholeX hG hX
  obtain ⟨rx, rm, st', t', k1, k2, k3, k4, k5⟩ := bad0 hG hX hM g2 g3
  have hX1 := RX1_fr g2.1.fx hX
  have hcov := covL hX1 hG (s1.1 43 4) (n 3) 4000 0 (s1.1 43 4) (by omega) (by omega) (fun j _ => ⟨fun h => ⟨h, fun k hk => by omega⟩, fun h => h.1⟩)
  rw [nI_0] at hcov
  have hcc : (∀ j, j < 32 → bt (s1.1 43 4) j = true → ∃ k, k < n 3 ∧ a 14 k = j) ↔ (∀ j, 0 ≤ j → j < n 1 → a 9 j ≠ 0 → ∃ k, k < n 3 ∧ a 14 k = j) := by
    constructor
    · intro hh j _ hj h9
      have ho := hG.o j hj
      exact hh j (by omega) ((g2.2.2.2.1 j).mpr ⟨hj, ⟨ho.2.1, Or.inl rfl⟩, h9, (ho.2.2.2.2 h9).2.1⟩)
    · intro hh j _ hbt
      obtain ⟨q1, q2, q3⟩ := (g2.2.2.2.1 j).mp hbt
      exact hh j (by omega) q1 q3.1
  rw [cif_c hcc] at hcov
  have hl0 := lastL hX (RM_fr k5 hM) hG (n 1) 4000 0 0 (by omega) (by omega) (by omega)
  have hl1 := lastL hX (RM_fr k5 hM) hG (n 1) 4000 0 1 (by omega) (by omega) (by omega)
  have hl0 : fX9_isOrderLinearization_L17 4000 0 0 t' = _ := hl0
  have hl1 : fX9_isOrderLinearization_L17 4000 1 0 t' = _ := hl1
  rw [cif_n (fun hh => by omega)] at hl0
  unfold fX8_isOrderLinearization fX8_isOrderLinearization_b43 fX8_isOrderLinearization_b44 fX9_isOrderLinearization fX9_isOrderLinearization_b14
  rw [g1, pb, show fX5_coversRequired s1 = _ from hcov, pb, k2, pb, hl0, hl1]
  by_cases hC : ∀ j, 0 ≤ j → j < n 1 → a 9 j ≠ 0 → ∃ k, k < n 3 ∧ a 14 k = j
  · rw [cif_p hC, if_neg (by decide), k1, pb, cif_p ⟨rfl, hC⟩]
    rcases k3 with ⟨e1, e2⟩ | ⟨k, hk, e1, e2⟩
    · rw [if_pos e1, if_pos e2, trX1, pb]
      exact ⟨_, _, _, rfl, rfl, Rl_fr h k4 k5⟩
    · rw [e1, e2, if_neg (fun hh => by rw [qnem1 (by omega)] at hh; exact hh), if_neg (fun hh => by rw [qnem10 (by omega)] at hh; exact hh), trX0, pb]
      exact ⟨_, _, _, rfl, rfl, Rl_fr h k4 k5⟩
  · rw [cif_n hC, if_pos rfl, cif_n (fun hh => hC hh.2), trX0, pb]
    refine ⟨0, s1, t', rfl, ?_, Rl_fr h g2.1.fx k5⟩
    split <;> rfl
