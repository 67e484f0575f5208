/-! THE PURE PART: the class reads a text. -/
def XS (ch : Nat → Nat) (T : Nat) (st : ax_S) (s : sg) : Prop := st.1 61 0 = nI T ∧ T ≤ 120 ∧ (∀ j, j < T → ch j < 127 ∧ st.2 62 j = nI (ch j)) ∧ s.2 ≤ T ∧ st.1 63 8 = nI s.2 ∧ st.1 63 9 = (if s.1 then 1 else 0)
def PF0 (s t : ax_S) : Prop := t.2 = s.2 ∧ (∀ o, o ≠ 63 → t.1 o = s.1 o) ∧ t.1 63 0 = s.1 63 0
theorem PF0.rf (s : ax_S) : PF0 s s := ⟨rfl, fun _ _ => rfl, rfl⟩
theorem PF0.tr {s t u : ax_S} (h : PF0 s t) (g : PF0 t u) : PF0 s u := ⟨g.1.trans h.1, fun o ho => (g.2.1 o ho).trans (h.2.1 o ho), g.2.2.trans h.2.2⟩
theorem PF0.I (s : ax_S) {k : Nat} (hk : k ≠ 0) (v : Int32) : PF0 s (ax_sI s 63 k v) := ⟨by rw [pI2], fun o ho => pI1n _ _ _ ho, by rw [pI1, if_neg (by omega)]⟩
theorem XS.mv {ch : Nat → Nat} {T : Nat} {st : ax_S} {s : sg} (h : XS ch T st s) (p : Nat) (hp : p ≤ T) : XS ch T (ax_sI st 63 8 (nI p)) (s.1, p) := by
  obtain ⟨h1, h2, h3, h4, h5, h6⟩ := h
  exact ⟨by rw [pI1, if_neg (by omega)]; exact h1, h2, fun j hj => by rw [pI2]; exact h3 j hj, hp, by rw [pI1, if_pos ⟨rfl, rfl⟩], by rw [pI1, if_neg (by omega)]; exact h6⟩
theorem XS.fl {ch : Nat → Nat} {T : Nat} {st : ax_S} {s : sg} (h : XS ch T st s) : XS ch T (ax_sI st 63 9 1) (true, s.2) := by
  obtain ⟨h1, h2, h3, h4, h5, h6⟩ := h
  exact ⟨by rw [pI1, if_neg (by omega)]; exact h1, h2, fun j hj => by rw [pI2]; exact h3 j hj, h4, by rw [pI1, if_neg (by omega)]; exact h5, by rw [pI1, if_pos ⟨rfl, rfl⟩]; rfl⟩
theorem XS.E {ch : Nat → Nat} {T : Nat} {st : ax_S} {s : sg} (h : XS ch T st s) {o : Nat} (ho : o ≠ 62) (i : Nat) (x : Int32) : XS ch T (ax_sE st o i x) s := by
  obtain ⟨h1, h2, h3, h4, h5, h6⟩ := h
  exact ⟨by rw [pE1]; exact h1, h2, fun j hj => by rw [pE2n _ _ _ (Ne.symm ho)]; exact h3 j hj, h4, by rw [pE1]; exact h5, by rw [pE1]; exact h6⟩
theorem r4857 {c : Nat} (h : c < 127) : ((48 : Int32) ≤ nI c ∧ nI c ≤ 57) ↔ (48 ≤ c ∧ c ≤ 57) := by
  show (nI 48 ≤ nI c ∧ nI c ≤ nI 57) ↔ _
  rw [nI_leI (by omega) (by omega), nI_leI (by omega) (by omega)]
theorem nxdX {ch : Nat → Nat} {T : Nat} {st : ax_S} {s : sg} (h : XS ch T st s) : fX3_isNextDigit st = some (cif (dgt ch T s.2) 1 0, st) := by
  obtain ⟨h1, h2, h3, h4, h5, h6⟩ := h
  unfold fX3_isNextDigit fX3_isNextDigit_b46 fX3_isNextDigit_b47
  rw [pbtwX, pb, h5, h1]
  by_cases hp : s.2 < T
  · have hc := (h3 _ hp).1
    rw [if_pos ((pu_has (by omega)).mpr ⟨_, hp, rfl⟩), if_neg (by decide), pld (by omega) (by decide), (h3 _ hp).2, pbtwX, pb]
    by_cases hd : 48 ≤ ch s.2 ∧ ch s.2 ≤ 57
    · rw [if_pos ((r4857 hc).mpr hd), if_neg (by decide), cif_p (show dgt ch T s.2 from ⟨hp, hd⟩)]; exact prz1 st
    · rw [if_neg (fun hh => hd ((r4857 hc).mp hh)), if_pos rfl, cif_n (fun hh : dgt ch T s.2 => hd hh.2)]; exact prz0 st
  · have hno : ¬ ((0 : Int32) ≤ nI s.2 ∧ nI s.2 ≤ nI T - 1) := fun hh => by
      obtain ⟨j, h7, h8⟩ := (pu_has (by omega)).mp hh
      have := (nI_eq (by omega) (by omega)).mp h8
      omega
    rw [if_neg hno, if_pos rfl, cif_n (fun hh : dgt ch T s.2 => hp hh.1)]; exact prz0 st
theorem isatX {ch : Nat → Nat} {T : Nat} {st : ax_S} {s : sg} (h : XS ch T st s) {i k : Nat} (hi : i < 1000) (hk : k < 127) : fX3_isAt (nI i) (nI k) st = some (cif (ca ch T i k) 1 0, st) := by
  obtain ⟨h1, h2, h3, h4, h5, h6⟩ := h
  unfold fX3_isAt fX3_isAt_b34 fX3_isAt_b35
  rw [pbtwX, pb, h1]
  by_cases hp : i < T
  · have hc := (h3 _ hp).1
    rw [if_pos ((pu_has (by omega)).mpr ⟨_, hp, rfl⟩), if_neg (by decide), pld (by omega) (by decide), (h3 _ hp).2]
    by_cases hd : ch i = k
    · rw [if_pos (by rw [hd]), cif_p (show ca ch T i k from ⟨hp, hd⟩)]; exact prz1 st
    · rw [if_neg (fun hh => hd ((nI_eq (by omega) (by omega)).mp hh)), cif_n (fun hh : ca ch T i k => hd hh.2)]; exact prz0 st
  · have hno : ¬ ((0 : Int32) ≤ nI i ∧ nI i ≤ nI T - 1) := fun hh => by
      obtain ⟨j, h7, h8⟩ := (pu_has (by omega)).mp hh
      have := (nI_eq (by omega) (by omega)).mp h8
      omega
    rw [if_neg hno, if_pos rfl, cif_n (fun hh : ca ch T i k => hp hh.1)]; exact prz0 st
theorem cifz (P : Prop) (st : ax_S) : ax_rz (cif P 1 0) st = some (cif P 1 0, st) := by
  rcases cif01 P with ⟨h, -⟩ | ⟨h, -⟩ <;> rw [h]
  · exact prz1 st
  · exact prz0 st
theorem nextX {ch : Nat → Nat} {T : Nat} {st : ax_S} {s : sg} (h : XS ch T st s) {k : Nat} (hk : k < 127) : fX3_isNext (nI k) st = some (cif (ca ch T s.2 k) 1 0, st) := by
  unfold fX3_isNext
  rw [h.2.2.2.2.1, isatX h (by have := h.2.2.2.1; have := h.2.1; omega) hk, pb]
  exact cifz _ st
theorem takeXX {ch : Nat → Nat} {T : Nat} {st : ax_S} {s : sg} (h : XS ch T st s) {k : Nat} (hk : k < 127) : ∃ st', fX3_take (nI k) st = some (0, st') ∧ XS ch T st' (tk ch T k s) ∧ PF0 st st' := by
  have hh := h
  obtain ⟨h1, h2, h3, h4, h5, h6⟩ := h
  unfold fX3_take fX3_take_b19
  rcases s with ⟨b, p⟩
  cases b with
  | true =>
    rw [if_neg (by rw [h6]; show ¬ ((1 : Int32) = 0); decide), ppz1, tk_f]
    exact ⟨_, rfl, hh.fl, PF0.I st (by decide) 1⟩
  | false =>
    have hn : fX3_isAt (st.1 63 8) (nI k) st = some (cif (ca ch T p k) 1 0, st) := by
      have g1 : p ≤ T := h4
      have g2 := h2
      rw [h5]; exact isatX hh (i := p) (by omega) hk
    rw [if_pos (by rw [h6]; rfl), hn, pb]
    by_cases hc : ca ch T p k
    · have e : tk ch T k (false, p) = (false, p + 1) := cif_p ⟨rfl, hc⟩ _ _
      rw [cif_p hc, if_neg (by decide), pt, h5, e, nI_1]
      exact ⟨_, rfl, hh.mv (p + 1) hc.1, PF0.I st (by decide) _⟩
    · have e : tk ch T k (false, p) = (true, p) := cif_n (fun g => hc g.2) _ _
      rw [cif_n hc, if_pos rfl, ppz1, e]
      exact ⟨_, rfl, hh.fl, PF0.I st (by decide) 1⟩
theorem nI_48 : (48 : Int32) = nI 48 := rfl
theorem digX {ch : Nat → Nat} {T : Nat} {st : ax_S} {s : sg} (h : XS ch T st s) : ∃ st', fX3_takeDigit st = some (nI (dg ch T s).1, st') ∧ XS ch T st' (dg ch T s).2 ∧ PF0 st st' := by
  have hh := h
  obtain ⟨h1, h2, h3, h4, h5, h6⟩ := h
  unfold fX3_takeDigit fX3_takeDigit_b14
  rcases s with ⟨b, p⟩
  cases b with
  | true =>
    rw [if_neg (by rw [h6]; show ¬ ((1 : Int32) = 0); decide), ppz1, dg_f]
    exact ⟨_, rfl, hh.fl, PF0.I st (by decide) 1⟩
  | false =>
    rw [if_pos (by rw [h6]; rfl), nxdX hh, pb]
    by_cases hc : dgt ch T p
    · have e : dg ch T (false, p) = (ch p - 48, (false, p + 1)) := cif_p ⟨rfl, hc⟩ _ _
      have hp := hc.1
      rw [cif_p hc, if_neg (by decide), pt, h5, e, nI_1, pI1, if_pos ⟨rfl, rfl⟩]
      show ∃ st', ax_ld (ax_sI st 63 8 (nI (p + 1))) 62 120 (nI (p + 1) - 1) _ = _ ∧ _
      rw [nI_pred, pld (by omega) (by decide), pI2, (h3 p hp).2, nI_48, pu_subI _ _ hc.2.1]
      exact ⟨_, rfl, hh.mv (p + 1) hc.1, PF0.I st (by decide) _⟩
    · have e : dg ch T (false, p) = (0, (true, p)) := cif_n (fun g => hc g.2) _ _
      rw [cif_n hc, if_pos rfl, ppz1, e]
      exact ⟨_, rfl, hh.fl, PF0.I st (by decide) 1⟩
theorem ndlX {ch : Nat → Nat} {T : Nat} (r : Int32) : ∀ (f m i : Nat) (x : Int32) (st : ax_S) (s : sg), i + f = 3 → f < m → XS ch T st s → ∃ st', fX3_takeNumber_L24 m r x (nI i) st = fX3_takeNumber_b52 r (ndl ch T f x s).1 st' ∧ XS ch T st' (ndl ch T f x s).2 ∧ PF0 st st' := by
  intro f
  induction f with
  | zero =>
    intro m i x st s hi hm h
    obtain ⟨m, rfl⟩ : ∃ k, m = k + 1 := ⟨m - 1, by omega⟩
    refine ⟨st, ?_, h, PF0.rf st⟩
    rw [fX3_takeNumber_L24, if_pos ((qle_3 (by omega)).mpr (by omega))]
    rfl
  | succ f ih =>
    intro m i x st s hi hm h
    obtain ⟨m, rfl⟩ : ∃ k, m = k + 1 := ⟨m - 1, by omega⟩
    rw [fX3_takeNumber_L24, if_neg (fun hh => absurd ((qle_3 (by omega)).mp hh) (by omega)), nxdX h, pb, ndl]
    by_cases hc : dgt ch T s.2
    · obtain ⟨s1, g1, g2, g3⟩ := digX h
      rw [cif_p hc, cif_p hc, if_neg (by decide), g1, pb, nI_1]
      obtain ⟨s2, k1, k2, k3⟩ := ih m (i + 1) (x * 10 + nI (dg ch T s).1) s1 (dg ch T s).2 (by omega) (by omega) g2
      exact ⟨s2, k1, k2, g3.tr k3⟩
    · rw [cif_n hc, cif_n hc, if_pos rfl]
      exact ⟨st, rfl, h, PF0.rf st⟩
theorem numX {ch : Nat → Nat} {T : Nat} {st : ax_S} {s : sg} (h : XS ch T st s) : ∃ st', fX3_takeNumber st = some ((num ch T s).1, st') ∧ XS ch T st' (num ch T s).2 ∧ PF0 st st' := by
  have go : ∀ (r : Int32) (t : ax_S) (u : sg), XS ch T t u → ∃ st', fX3_takeNumber_b17 r t = some (if r = 0 then (num1 ch T u).1 else -(num1 ch T u).1, st') ∧ XS ch T st' (num1 ch T u).2 ∧ PF0 t st' := fun r t u hu => by
    obtain ⟨s1, g1, g2, g3⟩ := digX hu
    obtain ⟨s2, k1, k2, k3⟩ := ndlX r 2 4000 1 (nI (dg ch T u).1) s1 (dg ch T u).2 rfl (by decide) g2
    refine ⟨s2, ?_, k2, g3.tr k3⟩
    rw [fX3_takeNumber_b17, g1, pb]
    show fX3_takeNumber_L24 4000 r (nI (dg ch T u).1) (nI 1) s1 = _
    rw [k1]
    unfold fX3_takeNumber_b52 fX3_takeNumber_b62
    by_cases hr : r = 0
    · rw [if_pos hr, if_pos hr]; rfl
    · rw [if_neg hr, if_neg hr]; rfl
  unfold fX3_takeNumber
  show ∃ st', ax_bind (fX3_isNext (nI 45) st) _ = _ ∧ _
  rw [nextX h (by decide), pb]
  unfold num
  by_cases hc : ca ch T s.2 45
  · rw [cif_p hc, cif_p hc, if_neg (by decide)]
    obtain ⟨s1, g1, g2, g3⟩ := takeXX h (k := 45) (by decide)
    obtain ⟨s2, k1, k2, k3⟩ := go 1 s1 _ g2
    show ∃ st', ax_bind (fX3_take (nI 45) st) _ = _ ∧ _
    rw [g1, pb, k1, if_neg (by decide)]
    exact ⟨s2, rfl, k2, g3.tr k3⟩
  · rw [cif_n hc, cif_n hc, if_pos rfl]
    obtain ⟨s2, k1, k2, k3⟩ := go 0 st s h
    rw [k1, if_pos rfl]
    exact ⟨s2, rfl, k2, k3⟩
/-! names -/
theorem len_ok : ∀ k, k < 10 → ax_len.getD k 0 = nl k := by decide +kernel
theorem byt_ok : ∀ k, k < 10 → ∀ i, i < 13 → i < nl k → (ax_byt.getD k []).getD i 0 = nI ((nw k).getD i 0) := by decide +kernel
theorem nl13 : ∀ k, k < 10 → nl k ≤ 13 ∧ 0 < nl k := by decide +kernel
theorem nw127 : ∀ k, k < 10 → ∀ i, i < 13 → (nw k).getD i 0 < 127 := by decide +kernel
theorem jlen {k : Nat} (hk : k < 10) (st : ax_S) : fJ_length (nI k) st = some (nI (nl k), st) := by
  unfold fJ_length
  rw [nI_clamp (by omega), if_pos hk, len_ok k hk]
  rfl
theorem jchr {k i : Nat} (hk : k < 10) (hi : i < nl k) (st : ax_S) : fJ_charAt (nI k) (nI i) st = some (nI ((nw k).getD i 0), st) := by
  have := (nl13 k hk).1
  unfold fJ_charAt
  rw [nI_clamp (by omega), nI_clamp (by omega), len_ok k hk, if_pos ⟨hk, nI_pos' (by omega), hi⟩, byt_ok k hk i (by omega) hi]
theorem drop_c {l : List Nat} {i : Nat} (h : i < l.length) : l.drop i = l.getD i 0 :: l.drop (i + 1) := by
  rw [List.drop_eq_getElem_cons h]
  simp [List.getD, List.getElem?_eq_getElem h]
theorem agrL {ch : Nat → Nat} {T : Nat} {st : ax_S} {s : sg} (h : XS ch T st s) {k : Nat} (hk : k < 10) : ∀ (d m i : Nat), i + d = nl k → d < m → fX3_agreeingCharacters_L2 (nI k) m (nI i) st = some (nI (i + mtw ch T ((nw k).drop i) (s.2 + i)), st) := by
  have hp := h.2.2.2.1
  have hT := h.2.1
  have hn := nl13 k hk
  intro d
  induction d with
  | zero =>
    intro m i hi hm
    obtain ⟨m, rfl⟩ : ∃ k, m = k + 1 := ⟨m - 1, by omega⟩
    rw [fX3_agreeingCharacters_L2, jlen hk, pb, if_pos (nI_le (by omega) (by omega)), fX3_agreeingCharacters_b34]
    have : (nw k).drop i = [] := List.drop_eq_nil_of_le (by show nl k ≤ i; omega)
    rw [this]
    rfl
  | succ d ih =>
    intro m i hi hm
    obtain ⟨m, rfl⟩ : ∃ k, m = k + 1 := ⟨m - 1, by omega⟩
    have hil : i < nl k := by omega
    rw [fX3_agreeingCharacters_L2, jlen hk, pb, if_neg (nI_ge (by omega) (by omega)), jchr hk hil, pb, h.2.2.2.2.1, nI_add, isatX h (by omega) (nw127 k hk i (by omega)), pb, drop_c (show i < (nw k).length from hil), mtw]
    by_cases hc : ca ch T (s.2 + i) ((nw k).getD i 0)
    · rw [cif_p hc, cif_p hc, if_neg (by decide), nI_1, ih m (i + 1) (by omega) (by omega)]
      rw [show s.2 + (i + 1) = s.2 + i + 1 by omega, show i + 1 + mtw ch T ((nw k).drop (i + 1)) (s.2 + i + 1) = i + (mtw ch T ((nw k).drop (i + 1)) (s.2 + i + 1) + 1) by omega]
    · rw [cif_n hc, cif_n hc, if_pos rfl, fX3_agreeingCharacters_b34]
      rfl
theorem agrX {ch : Nat → Nat} {T : Nat} {st : ax_S} {s : sg} (h : XS ch T st s) {k : Nat} (hk : k < 10) : fX3_agreeingCharacters (nI k) st = some (nI (mtw ch T (nw k) s.2), st) := by
  have hn := nl13 k hk
  have := agrL h hk (nl k) 4000 0 (by omega) (by omega)
  rw [Nat.zero_add, List.drop_zero, Nat.add_zero, nI_0] at this
  exact this
theorem nameX {k : Nat} (hk : k < 10) (st : ax_S) : fX8_nameOf (nI k) st = some (nI k, st) := by
  rcases (show k = 0 ∨ k = 1 ∨ k = 2 ∨ k = 3 ∨ k = 4 ∨ k = 5 ∨ k = 6 ∨ k = 7 ∨ k = 8 ∨ k = 9 by omega) with rfl | rfl | rfl | rfl | rfl | rfl | rfl | rfl | rfl | rfl <;> simp [fX8_nameOf, qeq_0, qeq_1, qeq_2, qeq_3, qeq_4, qeq_5, qeq_6, qeq_7, qeq_8] <;> rfl
theorem acntX {k : Nat} (hk : k < 10) (st : ax_S) : fX8_argumentCount (nI k) st = some (nI (acnt k), st) := by
  rcases (show k = 0 ∨ k = 1 ∨ k = 2 ∨ k = 3 ∨ k = 4 ∨ k = 5 ∨ k = 6 ∨ k = 7 ∨ k = 8 ∨ k = 9 by omega) with rfl | rfl | rfl | rfl | rfl | rfl | rfl | rfl | rfl | rfl <;> simp [fX8_argumentCount, qeq_0, qeq_1, qeq_2, qeq_3, qeq_4, qeq_5, qeq_6, qeq_7, qeq_8, acnt] <;> rfl
theorem naLX {ch : Nat → Nat} {T p : Nat} {st : ax_S} (h : XS ch T st (false, p)) : ∀ (d m k lg : Nat), k + d = 10 → d < m → p + lg ≤ T → ∃ st', fX3_takeName_L4 m (nI lg) (nI k) st = some (nI (naL ch T p d k lg).1, st') ∧ XS ch T st' (naL ch T p d k lg).2 ∧ PF0 st st' := by
  have hT := h.2.1
  have hp : p ≤ T := h.2.2.2.1
  have h6 : st.1 63 9 = 0 := h.2.2.2.2.2
  have h5 : st.1 63 8 = nI p := h.2.2.2.2.1
  intro d
  induction d with
  | zero =>
    intro m k lg hk hm hlg
    obtain ⟨m, rfl⟩ : ∃ k, m = k + 1 := ⟨m - 1, by omega⟩
    rw [fX3_takeName_L4, if_pos ((qlt_9 (by omega)).mpr (by omega)), if_pos h6, pt, h5, nI_add, ppz1, fX3_takeName_b86]
    exact ⟨_, rfl, (h.mv (p + lg) hlg).fl, (PF0.I st (by decide) _).tr (PF0.I _ (by decide) 1)⟩
  | succ d ih =>
    intro m k lg hk hm hlg
    obtain ⟨m, rfl⟩ : ∃ k, m = k + 1 := ⟨m - 1, by omega⟩
    have hk10 : k < 10 := by omega
    have hn := nl13 k hk10
    have hle := mtw_le ch T (nw k) p hp
    rw [fX3_takeName_L4, if_neg (fun hh => absurd ((qlt_9 (by omega)).mp hh) (by omega)), nameX hk10, pb, agrX h hk10, pb, jlen hk10, pb, naL]
    unfold fX3_takeName_b51
    rw [pmx (by omega) (by show mtw ch T (nw k) p < 2147483648; omega), nI_1, h6]
    by_cases hm2 : mtw ch T (nw k) p = nl k
    · rw [if_pos (show nI (mtw ch T (nw k) p) = nI (nl k) by rw [hm2]), if_pos rfl, pt, h5, nI_add, if_pos hm2, hm2]
      exact ⟨_, rfl, h.mv (p + nl k) (by omega), PF0.I st (by decide) _⟩
    · rw [if_neg (fun hh => hm2 ((nI_eq (by omega) (by omega)).mp hh)), if_neg hm2]
      exact ih m (k + 1) _ (by omega) (by omega) (by split <;> omega)
theorem naFX {ch : Nat → Nat} {T p : Nat} {st : ax_S} (h : XS ch T st (true, p)) : ∀ (d m k lg : Nat), k + d = 10 → d < m → lg ≤ T → fX3_takeName_L4 m (nI lg) (nI k) st = some (0, st) := by
  have hT := h.2.1
  have hp : p ≤ T := h.2.2.2.1
  have h6 : ¬ st.1 63 9 = 0 := by
    have : st.1 63 9 = 1 := h.2.2.2.2.2
    rw [this]; decide
  intro d
  induction d with
  | zero =>
    intro m k lg hk hm hlg
    obtain ⟨m, rfl⟩ : ∃ k, m = k + 1 := ⟨m - 1, by omega⟩
    rw [fX3_takeName_L4, if_pos ((qlt_9 (by omega)).mpr (by omega)), if_neg h6, fX3_takeName_b86]
  | succ d ih =>
    intro m k lg hk hm hlg
    obtain ⟨m, rfl⟩ : ∃ k, m = k + 1 := ⟨m - 1, by omega⟩
    have hk10 : k < 10 := by omega
    have hn := nl13 k hk10
    have hle := mtw_le ch T (nw k) p hp
    rw [fX3_takeName_L4, if_neg (fun hh => absurd ((qlt_9 (by omega)).mp hh) (by omega)), nameX hk10, pb, agrX h hk10, pb, jlen hk10, pb]
    unfold fX3_takeName_b51
    rw [pmx (by omega) (by show mtw ch T (nw k) p < _; omega), nI_1, if_neg h6]
    have go := ih m (k + 1) (if lg < mtw ch T (nw k) p then mtw ch T (nw k) p else lg) (by omega) (by omega) (by split <;> omega)
    split
    · exact go
    · exact go
theorem naX {ch : Nat → Nat} {T : Nat} {st : ax_S} {s : sg} (h : XS ch T st s) : ∃ st', fX3_takeName st = some (nI (na ch T s).1, st') ∧ XS ch T st' (na ch T s).2 ∧ PF0 st st' := by
  rcases s with ⟨b, p⟩
  cases b with
  | true =>
    have := naFX h 10 4000 0 0 rfl (by decide) (Nat.zero_le _)
    rw [nI_0] at this
    exact ⟨st, this, h, PF0.rf st⟩
  | false =>
    have hp : p ≤ T := h.2.2.2.1
    obtain ⟨s1, g1, g2, g3⟩ := naLX h 10 4000 0 0 rfl (by decide) hp
    rw [nI_0] at g1
    exact ⟨s1, g1, g2, g3⟩
/-! a command in its row -/
def RowX (st : ax_S) (i : Nat) (c : cmd) : Prop := st.2 64 i = nI c.1 ∧ st.2 65 i = nI c.2.1 ∧ st.2 66 i = nI c.2.2.1 ∧ st.2 67 i = nI c.2.2.2.1 ∧ st.2 68 i = c.2.2.2.2.1 ∧ st.2 69 i = c.2.2.2.2.2
def PFr (i : Nat) (s t : ax_S) : Prop := (∀ o, o ≠ 63 → t.1 o = s.1 o) ∧ t.1 63 0 = s.1 63 0 ∧ (∀ o, (o < 64 ∨ 69 < o) → t.2 o = s.2 o) ∧ (∀ o j, j ≠ i → t.2 o j = s.2 o j)
theorem PFr.tr {i : Nat} {s t u : ax_S} (h : PFr i s t) (g : PFr i t u) : PFr i s u := ⟨fun o ho => (g.1 o ho).trans (h.1 o ho), g.2.1.trans h.2.1, fun o ho => (g.2.2.1 o ho).trans (h.2.2.1 o ho), fun o j hj => (g.2.2.2 o j hj).trans (h.2.2.2 o j hj)⟩
theorem PFr.of {i : Nat} {s t : ax_S} (h : PF0 s t) : PFr i s t := ⟨h.2.1, h.2.2, fun o _ => by rw [h.1], fun o j _ => by rw [h.1]⟩
theorem PFr.E (i : Nat) (s : ax_S) {o : Nat} (ho : 64 ≤ o ∧ o ≤ 69) (x : Int32) : PFr i s (ax_sE s o i x) := ⟨fun _ _ => by rw [pE1], by rw [pE1], fun p hp => by rw [pE2n _ _ _ (by omega)], fun p j hj => by
  rw [pE2]
  split
  · rename_i hpo
    rw [hpo]
  · rfl⟩
theorem invX {ch : Nat → Nat} {T : Nat} {st : ax_S} {s : sg} (h : XS ch T st s) {i : Nat} (hi : i < 60) (th : Nat) (h68 : st.2 68 i = 0) (h69 : st.2 69 i = 0) : ∃ st', fX3_takeInvocation (nI i) st = some (0, st') ∧ XS ch T st' (inv2 ch T th (tk ch T 46 s)).2 ∧ PFr i st st' ∧ st'.2 64 = st.2 64 ∧ st'.2 65 = st.2 65 ∧ st'.2 66 i = nI (inv2 ch T th (tk ch T 46 s)).1.2.2.1 ∧ st'.2 67 i = nI (inv2 ch T th (tk ch T 46 s)).1.2.2.2.1 ∧ st'.2 68 i = (inv2 ch T th (tk ch T 46 s)).1.2.2.2.2.1 ∧ st'.2 69 i = (inv2 ch T th (tk ch T 46 s)).1.2.2.2.2.2 := by
  obtain ⟨s1, a1, a2, a3⟩ := takeXX h (k := 46) (by decide)
  obtain ⟨s2, b1, b2, b3⟩ := digX a2
  generalize ho : (dg ch T (tk ch T 46 s)).1 = ob at *
  generalize hs2 : (dg ch T (tk ch T 46 s)).2 = g2 at *
  have b2' := b2.E (o := 66) (by decide) i (nI ob)
  obtain ⟨s3, c1, c2, c3⟩ := takeXX b2' (k := 46) (by decide)
  obtain ⟨s4, d1, d2, d3⟩ := naX c2
  have hk10 := na_l10 ch T (tk ch T 46 g2)
  generalize hk : (na ch T (tk ch T 46 g2)).1 = k at *
  generalize hs4 : (na ch T (tk ch T 46 g2)).2 = g4 at *
  have d2' := d2.E (o := 67) (by decide) i (nI k)
  obtain ⟨s5, e1, e2, e3⟩ := takeXX d2' (k := 40) (by decide)
  have e : inv2 ch T th (tk ch T 46 s) = inv4 ch T th ob k (tk ch T 40 g4) := by
    unfold inv2 inv3
    rw [ho, hs2, hk, hs4]
  rw [e]
  unfold inv4
  have f5 : PFr i st s5 := ((((((PFr.of a3).tr (PFr.of b3)).tr (PFr.E i _ (by decide) _)).tr (PFr.of c3)).tr (PFr.of d3)).tr (PFr.E i _ (by decide) _)).tr (PFr.of e3)
  have q66 : s5.2 66 i = nI ob := by
    rw [e3.1, pE2n _ _ _ (by decide), d3.1, c3.1, pE2, if_pos rfl, if_pos rfl]
  have q67 : s5.2 67 i = nI k := by
    rw [e3.1, pE2, if_pos rfl, if_pos rfl]
  have qk : ∀ o, o ≠ 66 → o ≠ 67 → s5.2 o = st.2 o := fun o h1 h2 => by
    rw [e3.1, pE2n _ _ _ h2, d3.1, c3.1, pE2n _ _ _ h1, b3.1, a3.1]
  -- the end of it
  have fin : ∀ (t : ax_S) (u : sg), XS ch T t u → PFr i st t → t.2 64 = st.2 64 → t.2 65 = st.2 65 → t.2 66 i = nI ob → t.2 67 i = nI k → ∃ st', fX3_takeInvocation_b84 t = some (0, st') ∧ XS ch T st' (tk ch T 41 u) ∧ PFr i st st' ∧ st'.2 = t.2 := fun t u ht h1 h2 h3 h4 h5 => by
    obtain ⟨t1, x1, x2, x3⟩ := takeXX ht (k := 41) (by decide)
    refine ⟨t1, ?_, x2, h1.tr (PFr.of x3), x3.1⟩
    unfold fX3_takeInvocation_b84
    show ax_bind (fX3_take (nI 41) t) _ = _
    rw [x1, pb]
  have start : fX3_takeInvocation (nI i) st = (if nI (acnt k) < (1 : Int32) then (fX3_takeInvocation_b63 (nI i) (nI (acnt k)) s5) else (ax_bind (fX3_takeNumber s5) fun r16 st17 => ax_sto st17 68 60 (nI i) r16 fun st18 => fX3_takeInvocation_b63 (nI i) (nI (acnt k)) st18)) := by
    unfold fX3_takeInvocation
    show ax_bind (fX3_take (nI 46) st) _ = _
    rw [a1, pb, b1, pb, psto (by omega) (by decide)]
    show ax_bind (fX3_take (nI 46) _) _ = _
    rw [c1, pb, d1, pb, psto (by omega) (by decide)]
    show ax_bind (fX3_take (nI 40) _) _ = _
    rw [e1, pb, pld (by omega) (by decide), q67, acntX hk10, pb]
  rw [start]
  unfold fX3_takeInvocation_b63
  have hac : acnt k = 0 ∨ acnt k = 1 ∨ acnt k = 2 := by
    unfold acnt
    split
    · exact Or.inr (Or.inr rfl)
    · split
      · exact Or.inl rfl
      · exact Or.inr (Or.inl rfl)
  unfold arg1 arg2
  rcases hac with h0 | h0 | h0
  · rw [h0, if_pos (by decide), if_pos (by decide)]
    obtain ⟨t1, x1, x2, x3, x4⟩ := fin s5 _ e2 f5 (qk 64 (by decide) (by decide)) (qk 65 (by decide) (by decide)) q66 q67
    refine ⟨t1, x1, x2, x3, by rw [x4, qk 64 (by decide) (by decide)], by rw [x4, qk 65 (by decide) (by decide)], by rw [x4]; exact q66, by rw [x4]; exact q67, ?_, ?_⟩
    · rw [x4, qk 68 (by decide) (by decide), h68]; rfl
    · rw [x4, qk 69 (by decide) (by decide), h69]; rfl
  · rw [h0, if_neg (by decide)]
    obtain ⟨s6, y1, y2, y3⟩ := numX e2
    rw [y1, pb, psto (by omega) (by decide), if_pos (by decide)]
    obtain ⟨t1, x1, x2, x3, x4⟩ := fin (ax_sE s6 68 i (num ch T (tk ch T 40 g4)).1) _ (y2.E (by decide) i _) ((f5.tr (PFr.of y3)).tr (PFr.E i _ (by decide) _)) (by rw [pE2n _ _ _ (by decide), y3.1, qk 64 (by decide) (by decide)]) (by rw [pE2n _ _ _ (by decide), y3.1, qk 65 (by decide) (by decide)]) (by rw [pE2n _ _ _ (by decide), y3.1]; exact q66) (by rw [pE2n _ _ _ (by decide), y3.1]; exact q67)
    refine ⟨t1, x1, x2, x3, by rw [x4, pE2n _ _ _ (by decide), y3.1, qk 64 (by decide) (by decide)], by rw [x4, pE2n _ _ _ (by decide), y3.1, qk 65 (by decide) (by decide)], by rw [x4, pE2n _ _ _ (by decide), y3.1]; exact q66, by rw [x4, pE2n _ _ _ (by decide), y3.1]; exact q67, ?_, ?_⟩
    · rw [x4, pE2, if_pos rfl, if_pos rfl]; rfl
    · rw [x4, pE2n _ _ _ (by decide), y3.1, qk 69 (by decide) (by decide), h69]; rfl
  · rw [h0, if_neg (by decide)]
    obtain ⟨s6, y1, y2, y3⟩ := numX e2
    have y2' := y2.E (o := 68) (by decide) i (num ch T (tk ch T 40 g4)).1
    obtain ⟨s7, z1, z2, z3⟩ := takeXX y2' (k := 44) (by decide)
    obtain ⟨s8, w1, w2, w3⟩ := numX z2
    rw [y1, pb, psto (by omega) (by decide), if_neg (by decide)]
    have q8 : ∀ o, o ≠ 68 → s8.2 o = s5.2 o := fun o ho => by rw [w3.1, z3.1, pE2n _ _ _ ho, y3.1]
    obtain ⟨t1, x1, x2, x3, x4⟩ := fin (ax_sE s8 69 i (num ch T (tk ch T 44 (num ch T (tk ch T 40 g4)).2)).1) _ (w2.E (by decide) i _) (((((f5.tr (PFr.of y3)).tr (PFr.E i _ (by decide) _)).tr (PFr.of z3)).tr (PFr.of w3)).tr (PFr.E i _ (by decide) _)) (by rw [pE2n _ _ _ (by decide), q8 64 (by decide), qk 64 (by decide) (by decide)]) (by rw [pE2n _ _ _ (by decide), q8 65 (by decide), qk 65 (by decide) (by decide)]) (by rw [pE2n _ _ _ (by decide), q8 66 (by decide)]; exact q66) (by rw [pE2n _ _ _ (by decide), q8 67 (by decide)]; exact q67)
    refine ⟨t1, ?_, x2, x3, by rw [x4, pE2n _ _ _ (by decide), q8 64 (by decide), qk 64 (by decide) (by decide)], by rw [x4, pE2n _ _ _ (by decide), q8 65 (by decide), qk 65 (by decide) (by decide)], by rw [x4, pE2n _ _ _ (by decide), q8 66 (by decide)]; exact q66, by rw [x4, pE2n _ _ _ (by decide), q8 67 (by decide)]; exact q67, ?_, ?_⟩
    · show ax_bind (fX3_take (nI 44) _) _ = _
      rw [z1, pb, w1, pb, psto (by omega) (by decide)]
      exact x1
    · rw [x4, pE2n _ _ _ (by decide), w3.1, z3.1, pE2, if_pos rfl, if_pos rfl]; rfl
    · rw [x4, pE2, if_pos rfl, if_pos rfl]; rfl
