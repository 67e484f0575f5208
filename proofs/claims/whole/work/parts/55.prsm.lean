/-! THE PURE PART: the reference reads a text. -/
def MS (ch : Nat → Nat) (T : Nat) (st : ax_S) (p : Nat) : Prop := st.1 0 37 = nI T ∧ T ≤ 120 ∧ (∀ j, j < T → ch j < 127 ∧ st.2 25 j = nI (ch j)) ∧ p ≤ T ∧ st.1 0 38 = nI p ∧ Rnam st
def PMf (s t : ax_S) : Prop := (∀ k, k ≠ 38 → k ≠ 39 → t.1 0 k = s.1 0 k) ∧ (∀ o, o ≠ 26 → t.2 o = s.2 o)
theorem PMf.rf (s : ax_S) : PMf s s := ⟨fun _ _ _ => rfl, fun _ _ => rfl⟩
theorem PMf.tr {s t u : ax_S} (h : PMf s t) (g : PMf t u) : PMf s u := ⟨fun k h1 h2 => (g.1 k h1 h2).trans (h.1 k h1 h2), fun o ho => (g.2 o ho).trans (h.2 o ho)⟩
theorem PMf.I (s : ax_S) {k : Nat} (hk : k = 38 ∨ k = 39) (v : Int32) : PMf s (ax_sI s 0 k v) := ⟨fun j h1 h2 => by rw [pI1, if_neg (by omega)], fun o _ => by rw [pI2]⟩
theorem PMf.E (s : ax_S) (i : Nat) (x : Int32) : PMf s (ax_sE s 26 i x) := ⟨fun j _ _ => by rw [pE1], fun o ho => by rw [pE2n _ _ _ ho]⟩
theorem MS.mv {ch : Nat → Nat} {T : Nat} {st : ax_S} {p : Nat} (h : MS ch T st p) (q : Nat) (hq : q ≤ T) : MS ch T (ax_sI st 0 38 (nI q)) q := by
  obtain ⟨h1, h2, h3, h4, h5, h6⟩ := h
  exact ⟨by rw [pI1, if_neg (by omega)]; exact h1, h2, fun j hj => by rw [pI2]; exact h3 j hj, hq, by rw [pI1, if_pos ⟨rfl, rfl⟩], fun j hj => by rw [pI2]; exact h6 j hj⟩
theorem MS.k {ch : Nat → Nat} {T : Nat} {st : ax_S} {p : Nat} (h : MS ch T st p) (v : Int32) : MS ch T (ax_sI st 0 39 v) p := by
  obtain ⟨h1, h2, h3, h4, h5, h6⟩ := h
  exact ⟨by rw [pI1, if_neg (by omega)]; exact h1, h2, fun j hj => by rw [pI2]; exact h3 j hj, h4, by rw [pI1, if_neg (by omega)]; exact h5, fun j hj => by rw [pI2]; exact h6 j hj⟩
theorem MS.E {ch : Nat → Nat} {T : Nat} {st : ax_S} {p : Nat} (h : MS ch T st p) (i : Nat) (x : Int32) : MS ch T (ax_sE st 26 i x) p := by
  obtain ⟨h1, h2, h3, h4, h5, h6⟩ := h
  exact ⟨by rw [pE1]; exact h1, h2, fun j hj => by rw [pE2n _ _ _ (by decide)]; exact h3 j hj, h4, by rw [pE1]; exact h5, fun j hj => by rw [pE2n _ _ _ (by decide)]; exact h6 j hj⟩
theorem isatM {ch : Nat → Nat} {T : Nat} {st : ax_S} {p : Nat} (h : MS ch T st p) {lo hi : Nat} (hlo : lo < 127) (hhi : hi < 127) : fX9_isAt (nI lo) (nI hi) st = some (cif (p < T ∧ lo ≤ ch p ∧ ch p ≤ hi) 1 0, st) := by
  obtain ⟨h1, h2, h3, h4, h5, h6⟩ := h
  unfold fX9_isAt fX9_isAt_b32 fX9_isAt_b33
  rw [h1, h5]
  by_cases hp : p < T
  · have hc := (h3 p hp).1
    rw [if_neg (nI_ge hp (by omega)), pld (by omega) (by decide), (h3 p hp).2, pbtwM, pb]
    have e : (nI lo ≤ nI (ch p) ∧ nI (ch p) ≤ nI hi) ↔ (lo ≤ ch p ∧ ch p ≤ hi) := by rw [nI_leI (by omega) (by omega), nI_leI (by omega) (by omega)]
    by_cases hd : lo ≤ ch p ∧ ch p ≤ hi
    · rw [if_pos (e.mpr hd), if_neg (by decide), cif_p ⟨hp, hd⟩]; exact prz1 st
    · rw [if_neg (fun hh => hd (e.mp hh)), if_pos rfl, cif_n (fun hh => hd hh.2)]; exact prz0 st
  · rw [if_pos (nI_le (by omega) (by omega)), cif_n (fun hh => hp hh.1)]; exact prz0 st
theorem digtM {ch : Nat → Nat} {T : Nat} {st : ax_S} {p : Nat} (h : MS ch T st p) : fX9_isAt 48 57 st = some (cif (dgt ch T p) 1 0, st) := by
  have := isatM h (lo := 48) (hi := 57) (by decide) (by decide)
  exact this
/-- one character: whether it stood there; the place behind it -/
theorem tkM {ch : Nat → Nat} {T : Nat} {st : ax_S} {p : Nat} (h : MS ch T st p) {k : Nat} (hk : k < 127) : ∃ st', fX9_takes (nI k) st = some (cif (ca ch T p k) 1 0, st') ∧ MS ch T st' (tk ch T k (false, p)).2 ∧ (tk ch T k (false, p)).1 = (if (tk ch T k (false, p)).1 then true else false) ∧ st'.2 = st.2 ∧ (∀ j, j ≠ 38 → st'.1 0 j = st.1 0 j) := by
  have h5 := h.2.2.2.2.1
  unfold fX9_takes fX9_takes_b21
  rw [isatM h hk hk, pb]
  by_cases hc : ca ch T p k
  · have hc' : p < T ∧ k ≤ ch p ∧ ch p ≤ k := ⟨hc.1, by rw [hc.2]; exact ⟨Nat.le_refl _, Nat.le_refl _⟩⟩
    have e : tk ch T k (false, p) = (false, p + 1) := cif_p ⟨rfl, hc⟩ _ _
    rw [cif_p hc', cif_p hc, if_neg (by decide), pt, h5, e, nI_1, prz1]
    exact ⟨_, rfl, h.mv (p + 1) hc.1, rfl, by rw [pI2], fun j hj => by rw [pI1, if_neg (by omega)]⟩
  · have hc' : ¬ (p < T ∧ k ≤ ch p ∧ ch p ≤ k) := fun hh => hc ⟨hh.1, by omega⟩
    have e : tk ch T k (false, p) = (true, p) := cif_n (fun g => hc g.2) _ _
    rw [cif_n hc', cif_n hc, if_pos rfl, pt, h5, e, Int32.add_zero, prz0]
    exact ⟨_, rfl, h.mv p h.2.2.2.1, rfl, by rw [pI2], fun j hj => by rw [pI1, if_neg (by omega)]⟩
theorem dgM {ch : Nat → Nat} {T : Nat} {st : ax_S} {p : Nat} (h : MS ch T st p) {i : Nat} (hi : i < 4) : ∃ st', fX9_takesDigit (nI i) st = some (cif (dgt ch T p) 1 0, st') ∧ MS ch T st' (dg ch T (false, p)).2.2 ∧ PMf st st' ∧ st'.1 0 39 = st.1 0 39 ∧ (∀ j, j ≠ i → st'.2 26 j = st.2 26 j) ∧ (dgt ch T p → st'.2 26 i = nI (dg ch T (false, p)).1) := by
  have h5 := h.2.2.2.2.1
  unfold fX9_takesDigit
  rw [digtM h, pb]
  by_cases hc : dgt ch T p
  · have e : dg ch T (false, p) = (ch p - 48, (false, p + 1)) := cif_p ⟨rfl, hc⟩ _ _
    have hp := hc.1
    have hT := h.2.1
    rw [cif_p hc, if_neg (by decide), h5, pld (by omega) (by decide), (h.2.2.1 p hp).2, nI_48, pu_subI _ _ hc.2.1, psto hi (by decide), pt, pE1, h5, nI_1, e, prz1]
    exact ⟨_, rfl, (h.E i _).mv (p + 1) hc.1, (PMf.E st i _).tr (PMf.I _ (Or.inl rfl) _), by rw [pI1, if_neg (by omega), pE1], fun j hj => by rw [pI2, pE2, if_pos rfl, if_neg hj], fun _ => by rw [pI2, pE2, if_pos rfl, if_pos rfl]⟩
  · have e : dg ch T (false, p) = (0, (true, p)) := cif_n (fun g => hc g.2) _ _
    rw [cif_n hc, if_pos rfl, prz0, e]
    exact ⟨st, rfl, h, PMf.rf st, rfl, fun _ _ => rfl, fun hh => absurd hh hc⟩
theorem ndl_ok (ch : Nat → Nat) (T : Nat) : ∀ (f : Nat) (x : Int32) (p : Nat), (ndl ch T f x (false, p)).2.1 = false := by
  intro f
  induction f with
  | zero => intro x p; rfl
  | succ f ih =>
    intro x p
    rw [ndl]
    by_cases h : dgt ch T p
    · have e : dg ch T (false, p) = (ch p - 48, (false, p + 1)) := cif_p ⟨rfl, h⟩ _ _
      rw [cif_p h, e]
      exact ih _ _
    · rw [cif_n h]
theorem ar10 (x : Int32) {c : Nat} (h : 48 ≤ c) : (10 : Int32) * x + nI c - 48 = x * 10 + nI (c - 48) := by
  rw [← pu_subI c 48 h, Int32.mul_comm, Int32.sub_eq_add_neg, Int32.sub_eq_add_neg, Int32.add_assoc]
  rfl
theorem ndlM {ch : Nat → Nat} {T : Nat} (x1 r : Int32) : ∀ (f m i : Nat) (x : Int32) (st : ax_S) (p : Nat), i + f = 3 → f < m → MS ch T st p → ∃ st', fX9_takesNumber_L25 m x1 r x (nI i) st = fX9_takesNumber_b76 x1 r (ndl ch T f x (false, p)).1 st' ∧ MS ch T st' (ndl ch T f x (false, p)).2.2 ∧ st'.2 = st.2 ∧ (∀ j, j ≠ 38 → st'.1 0 j = st.1 0 j) := by
  intro f
  induction f with
  | zero =>
    intro m i x st p hi hm h
    obtain ⟨m, rfl⟩ : ∃ k, m = k + 1 := ⟨m - 1, by omega⟩
    refine ⟨st, ?_, h, rfl, fun _ _ => rfl⟩
    rw [fX9_takesNumber_L25, if_pos ((qle_3 (by omega)).mpr (by omega))]
    rfl
  | succ f ih =>
    intro m i x st p hi hm h
    obtain ⟨m, rfl⟩ : ∃ k, m = k + 1 := ⟨m - 1, by omega⟩
    rw [fX9_takesNumber_L25, if_neg (fun hh => absurd ((qle_3 (by omega)).mp hh) (by omega)), digtM h, pb, ndl]
    by_cases hc : dgt ch T p
    · have e : dg ch T (false, p) = (ch p - 48, (false, p + 1)) := cif_p ⟨rfl, hc⟩ _ _
      have hp := hc.1
      have hT := h.2.1
      rw [cif_p hc, cif_p hc, if_neg (by decide), h.2.2.2.2.1, pld (by omega) (by decide), (h.2.2.1 p hp).2, pt, nI_1, nI_1, ar10 x hc.2.1, e]
      obtain ⟨s2, k1, k2, k3, k4⟩ := ih m (i + 1) (x * 10 + nI (ch p - 48)) _ (p + 1) (by omega) (by omega) (h.mv (p + 1) hc.1)
      exact ⟨s2, k1, k2, by rw [k3, pI2], fun j hj => by rw [k4 j hj, pI1, if_neg (by omega)]⟩
    · rw [cif_n hc, cif_n hc, if_pos rfl]
      exact ⟨st, rfl, h, rfl, fun _ _ => rfl⟩
theorem numM {ch : Nat → Nat} {T : Nat} {st : ax_S} {p : Nat} (h : MS ch T st p) {i : Nat} (hi : i < 4) : ∃ st', fX9_takesNumber (nI i) st = some (if (num ch T (false, p)).2.1 then 0 else 1, st') ∧ MS ch T st' (num ch T (false, p)).2.2 ∧ PMf st st' ∧ st'.1 0 39 = st.1 0 39 ∧ (∀ j, j ≠ i → st'.2 26 j = st.2 26 j) ∧ ((num ch T (false, p)).2.1 = false → st'.2 26 i = (num ch T (false, p)).1) := by
  unfold fX9_takesNumber
  obtain ⟨s1, a1, a2, -, a4, a5⟩ := tkM h (k := 45) (by decide)
  show ∃ st', ax_bind (fX9_takes (nI 45) st) _ = _ ∧ _
  rw [a1, pb]
  -- behind the sign
  have go : ∀ (r : Int32) (t : ax_S) (q : Nat), MS ch T t q → t.2 = st.2 → (∀ j, j ≠ 38 → t.1 0 j = st.1 0 j) → ∃ st', (ax_bind (fX9_isAt 48 57 t) fun r3 st4 => if r3 = 0 then (ax_rz (0 : Int32) st4) else (fX9_takesNumber_L25 4000 (nI i) r (0 : Int32) (0 : Int32) st4)) = some (if (num1 ch T (false, q)).2.1 then 0 else 1, st') ∧ MS ch T st' (num1 ch T (false, q)).2.2 ∧ PMf st st' ∧ st'.1 0 39 = st.1 0 39 ∧ (∀ j, j ≠ i → st'.2 26 j = st.2 26 j) ∧ ((num1 ch T (false, q)).2.1 = false → st'.2 26 i = if r = 0 then (num1 ch T (false, q)).1 else -(num1 ch T (false, q)).1) := fun r t q ht h2 h1 => by
    rw [digtM ht, pb]
    by_cases hc : dgt ch T q
    · have e : dg ch T (false, q) = (ch q - 48, (false, q + 1)) := cif_p ⟨rfl, hc⟩ _ _
      obtain ⟨s2, k1, k2, k3, k4⟩ := ndlM (ch := ch) (nI i) r 3 4000 0 0 t q rfl (by decide) ht
      have e3 : ndl ch T 3 0 (false, q) = num1 ch T (false, q) := by
        rw [ndl, cif_p hc, num1, e]
        show ndl ch T 2 ((0 : Int32) * 10 + nI (ch q - 48)) _ = _
        rw [Int32.zero_mul, Int32.zero_add]
      rw [e3] at k1 k2
      have hf : (num1 ch T (false, q)).2.1 = false := by rw [← e3]; exact ndl_ok ch T 3 0 q
      rw [nI_0] at k1
      rw [cif_p hc, if_neg (by decide), k1, hf]
      unfold fX9_takesNumber_b76 fX9_takesNumber_b91
      refine ⟨ax_sE s2 26 i (if r = 0 then (num1 ch T (false, q)).1 else -(num1 ch T (false, q)).1), ?_, k2.E i _, ⟨fun j g1 g2 => by rw [pE1, k4 j g1, h1 j g1], fun o ho => by rw [pE2n _ _ _ ho, k3, h2]⟩, by rw [pE1, k4 39 (by decide), h1 39 (by decide)], fun j hj => by rw [pE2, if_pos rfl, if_neg hj, k3, h2], fun _ => by rw [pE2, if_pos rfl, if_pos rfl]⟩
      by_cases hr : r = 0
      · rw [if_pos hr, psto hi (by decide), prz1, if_pos hr]; rfl
      · rw [if_neg hr, psto hi (by decide), prz1, if_neg hr]; rfl
    · have e : dg ch T (false, q) = (0, (true, q)) := cif_n (fun g => hc g.2) _ _
      have hf : (num1 ch T (false, q)).2 = (true, q) := by
        unfold num1
        rw [e]
        exact ndl_f ch T q 2 _
      rw [cif_n hc, if_pos rfl, prz0, hf]
      exact ⟨t, rfl, ht, ⟨fun j g1 _ => h1 j g1, fun o _ => by rw [h2]⟩, h1 39 (by decide), fun _ _ => by rw [h2], fun hh => by cases hh⟩
  unfold num
  by_cases hc : ca ch T p 45
  · have e : tk ch T 45 (false, p) = (false, p + 1) := cif_p ⟨rfl, hc⟩ _ _
    rw [e] at a2
    obtain ⟨st', k1, k2, k3, k4, k5, k6⟩ := go 1 s1 (p + 1) a2 a4 a5
    rw [cif_p hc, cif_p (show ca ch T (false, p).2 45 from hc), e]
    refine ⟨st', k1, k2, k3, k4, k5, fun hh => ?_⟩
    have := k6 hh
    rw [if_neg (by decide)] at this
    exact this
  · have e : tk ch T 45 (false, p) = (true, p) := cif_n (fun g => hc g.2) _ _
    rw [e] at a2
    obtain ⟨st', k1, k2, k3, k4, k5, k6⟩ := go 0 s1 p a2 a4 a5
    rw [cif_n hc, cif_n (show ¬ ca ch T (false, p).2 45 from hc)]
    refine ⟨st', k1, k2, k3, k4, k5, fun hh => ?_⟩
    have := k6 hh
    rw [if_pos rfl] at this
    exact this
/-! names -/
theorem nm_y : ∀ k, k < 10 → ∀ i, i < 13 → i < nl k → nof k + i < 72 ∧ nmL.getD (nof k + i) 0 = (nw k).getD i 0 ∧ nmL.getD (nof k + i) 0 ≠ 32 ∧ nmL.getD (nof k + i) 0 < 127 := by decide +kernel
theorem nm_z : ∀ k, k < 10 → nof k + nl k < 72 ∧ nmL.getD (nof k + nl k) 0 = 32 ∧ nof (k + 1) = nof k + (nl k + 1) := by decide +kernel
theorem mchL {ch : Nat → Nat} {T : Nat} {st : ax_S} {p : Nat} (h : MS ch T st p) {k : Nat} (hk : k < 10) : ∀ (d m i : Nat), i + d = nl k → d < m → fX9_matched_L2 m (nI p) (nI (nof k)) (nI i) st = some (nI (i + mtw ch T ((nw k).drop i) (p + i)), st) := by
  have hp := h.2.2.2.1
  have hT := h.2.1
  have hn := nl13 k hk
  have he := nm_z k hk
  intro d
  induction d with
  | zero =>
    intro m i hi hm
    obtain ⟨m, rfl⟩ : ∃ k, m = k + 1 := ⟨m - 1, by omega⟩
    have hi : i = nl k := by omega
    subst hi
    rw [fX9_matched_L2, nI_add, pld he.1 (by decide), h.2.2.2.2.2 _ he.1, he.2.1, if_pos (show nI 32 = (32 : Int32) from rfl), fX9_matched_b50]
    have : (nw k).drop (nl k) = [] := List.drop_eq_nil_of_le (Nat.le_refl _)
    rw [this]
    rfl
  | succ d ih =>
    intro m i hi hm
    obtain ⟨m, rfl⟩ : ∃ k, m = k + 1 := ⟨m - 1, by omega⟩
    have hil : i < nl k := by omega
    obtain ⟨c1, c2, c3, c4⟩ := nm_y k hk i (by omega) hil
    rw [fX9_matched_L2, nI_add, pld c1 (by decide), h.2.2.2.2.2 _ c1, if_neg (show ¬ (nI (nmL.getD (nof k + i) 0) = (32 : Int32)) from fun hh => c3 ((nI_eq (b := 32) (by omega) (by decide)).mp hh)), h.1, nI_add, drop_c (show i < (nw k).length from hil), mtw]
    unfold fX9_matched_b50
    by_cases hpi : p + i < T
    · rw [if_neg (nI_ge hpi (by omega)), pld (by omega) (by decide), (h.2.2.1 _ hpi).2, pld c1 (by decide), h.2.2.2.2.2 _ c1, c2]
      have hch := (h.2.2.1 _ hpi).1
      by_cases hc : ch (p + i) = (nw k).getD i 0
      · rw [if_pos (by rw [hc]), nI_1, ih m (i + 1) (by omega) (by omega), cif_p (show ca ch T (p + i) ((nw k).getD i 0) from ⟨hpi, hc⟩)]
        rw [show p + (i + 1) = p + i + 1 by omega, show i + 1 + mtw ch T ((nw k).drop (i + 1)) (p + i + 1) = i + (mtw ch T ((nw k).drop (i + 1)) (p + i + 1) + 1) by omega]
      · rw [if_neg (fun hh => hc ((nI_eq (by omega) (by omega)).mp hh)), cif_n (fun hh : ca ch T (p + i) ((nw k).getD i 0) => hc hh.2)]
        rfl
    · rw [if_pos (nI_le (by omega) (by omega)), cif_n (fun hh : ca ch T (p + i) ((nw k).getD i 0) => hpi hh.1)]
      rfl
theorem mchM {ch : Nat → Nat} {T : Nat} {st : ax_S} {p : Nat} (h : MS ch T st p) {k : Nat} (hk : k < 10) : fX9_matched (nI p) (nI (nof k)) st = some (nI (mtw ch T (nw k) p), st) := by
  have hn := nl13 k hk
  have := mchL h hk (nl k) 4000 0 (by omega) (by omega)
  rw [Nat.zero_add, List.drop_zero, Nat.add_zero, nI_0] at this
  exact this
theorem lngL {ch : Nat → Nat} {T : Nat} {st : ax_S} {p : Nat} (h : MS ch T st p) {k : Nat} (hk : k < 10) (rec15 : Int32 → Int32 → Int32 → Int32 → Int32 → ax_S → ax_R) (x1 x2 x3 x5 x6 : Int32) : ∀ (d m i : Nat), i + d = nl k → d < m → fX9_takesName_L34 rec15 m x1 x2 x3 (nI (nof k)) x5 x6 (nI i) st = (if x6 = nI (nl k) then (fX9_takesName_b70 rec15 x1 x2 (1 : Int32) (nI (nof k)) x5 x6 (nI (nl k)) (ax_sI st 0 39 x5)) else (fX9_takesName_b70 rec15 x1 x2 x3 (nI (nof k)) x5 x6 (nI (nl k)) st)) := by
  have hn := nl13 k hk
  have he := nm_z k hk
  intro d
  induction d with
  | zero =>
    intro m i hi hm
    obtain ⟨m, rfl⟩ : ∃ k, m = k + 1 := ⟨m - 1, by omega⟩
    have hi : i = nl k := by omega
    subst hi
    rw [fX9_takesName_L34, nI_add, pld he.1 (by decide), h.2.2.2.2.2 _ he.1, he.2.1, if_pos (show nI 32 = (32 : Int32) from rfl)]
    rfl
  | succ d ih =>
    intro m i hi hm
    obtain ⟨m, rfl⟩ : ∃ k, m = k + 1 := ⟨m - 1, by omega⟩
    obtain ⟨c1, c2, c3, c4⟩ := nm_y k hk i (by omega) (by omega)
    rw [fX9_takesName_L34, nI_add, pld c1 (by decide), h.2.2.2.2.2 _ c1, if_neg (show ¬ (nI (nmL.getD (nof k + i) 0) = (32 : Int32)) from fun hh => c3 ((nI_eq (b := 32) (by omega) (by decide)).mp hh)), nI_1]
    exact ih m (i + 1) (by omega) (by omega)
theorem stepN {ch : Nat → Nat} {T : Nat} {st : ax_S} {p : Nat} (h : MS ch T st p) {k : Nat} (hk : k < 10) {lg : Nat} (hlg : lg ≤ T) (w : Int32) (m : Nat) : fX9_takesName_L15 (m + 1) (nI p) (nI lg) w (nI (nof k)) (nI k) st = (if mtw ch T (nw k) p = nl k then fX9_takesName_L15 m (nI p) (nI (if lg < mtw ch T (nw k) p then mtw ch T (nw k) p else lg)) 1 (nI (nof (k + 1))) (nI (k + 1)) (ax_sI st 0 39 (nI k)) else fX9_takesName_L15 m (nI p) (nI (if lg < mtw ch T (nw k) p then mtw ch T (nw k) p else lg)) w (nI (nof (k + 1))) (nI (k + 1)) st) := by
  have hp := h.2.2.2.1
  have hT := h.2.1
  have hn := nl13 k hk
  have he := nm_z k hk
  have hle := mtw_le ch T (nw k) p hp
  have := lngL h hk (fX9_takesName_L15 m) (nI p) (nI lg) w (nI k) (nI (mtw ch T (nw k) p)) (nl k) 4000 0 (by omega) (by omega)
  rw [nI_0] at this
  rw [fX9_takesName_L15, if_neg (fun hh => absurd ((qle_10 (by omega)).mp hh) (by omega)), mchM h hk, pb, this]
  unfold fX9_takesName_b70
  rw [pmx (by omega) (by omega), nI_1, nI_1, nI_add, ← he.2.2]
  by_cases hm : mtw ch T (nw k) p = nl k
  · rw [if_pos (by rw [hm]), if_pos hm]
  · rw [if_neg (fun hh => hm ((nI_eq (by omega) (by omega)).mp hh)), if_neg hm]
theorem namA {ch : Nat → Nat} {T : Nat} {st : ax_S} {p : Nat} (h : MS ch T st p) : ∀ (d m k lg : Nat), k + d = 10 → d < m → p + lg ≤ T → (∀ j, k ≤ j → j < 10 → mtw ch T (nw j) p ≠ nl j) → ∃ e, naL ch T p d k lg = (0, (true, p + e)) ∧ p + e ≤ T ∧ fX9_takesName_L15 m (nI p) (nI lg) 0 (nI (nof k)) (nI k) st = some (0, ax_sI st 0 38 (nI (p + e))) := by
  have hp := h.2.2.2.1
  have hT := h.2.1
  intro d
  induction d with
  | zero =>
    intro m k lg hk hm hlg _
    obtain ⟨m, rfl⟩ : ∃ k, m = k + 1 := ⟨m - 1, by omega⟩
    refine ⟨lg, rfl, hlg, ?_⟩
    rw [fX9_takesName_L15, if_pos ((qle_10 (by omega)).mpr (by omega)), pt, nI_add, prz0]
  | succ d ih =>
    intro m k lg hk hm hlg hall
    obtain ⟨m, rfl⟩ : ∃ k, m = k + 1 := ⟨m - 1, by omega⟩
    have hne := hall k (Nat.le_refl _) (by omega)
    have hle := mtw_le ch T (nw k) p hp
    obtain ⟨e, e1, e2, e3⟩ := ih m (k + 1) (if lg < mtw ch T (nw k) p then mtw ch T (nw k) p else lg) (by omega) (by omega) (by split <;> omega) (fun j h1 h2 => hall j (by omega) h2)
    refine ⟨e, ?_, e2, ?_⟩
    · rw [naL, if_neg hne]; exact e1
    · rw [stepN h (by omega) (by omega) 0 m, if_neg hne]; exact e3
theorem namB {ch : Nat → Nat} {T p k0 : Nat} (hk0 : k0 < 10) (hm0 : mtw ch T (nw k0) p = nl k0) : ∀ (d m k : Nat) (st : ax_S), k + d = 10 → d < m → k0 < k → MS ch T st p → p + nl k0 ≤ T → fX9_takesName_L15 m (nI p) (nI (nl k0)) 1 (nI (nof k)) (nI k) st = some (1, ax_sI st 0 38 (nI (p + nl k0))) := by
  intro d
  induction d with
  | zero =>
    intro m k st hk hm hlt h hle
    have hT := h.2.1
    obtain ⟨m, rfl⟩ : ∃ k, m = k + 1 := ⟨m - 1, by omega⟩
    rw [fX9_takesName_L15, if_pos ((qle_10 (by omega)).mpr (by omega)), pt, nI_add, prz1]
  | succ d ih =>
    intro m k st hk hm hlt h hle
    obtain ⟨m, rfl⟩ : ∃ k, m = k + 1 := ⟨m - 1, by omega⟩
    obtain ⟨g1, g2⟩ := nm_one (j := k) (by omega) hk0 (by omega) hm0
    rw [stepN h (by omega) (by omega) 1 m, if_neg g2, if_neg (by omega)]
    exact ih m (k + 1) st (by omega) (by omega) (by omega) h hle
theorem namC {ch : Nat → Nat} {T p k0 : Nat} (hk0 : k0 < 10) (hm0 : mtw ch T (nw k0) p = nl k0) {st : ax_S} (h : MS ch T st p) : ∀ (d m k lg : Nat), k + d = 10 → d < m → k ≤ k0 → lg < nl k0 → naL ch T p d k lg = (k0, (false, p + nl k0)) ∧ fX9_takesName_L15 m (nI p) (nI lg) 0 (nI (nof k)) (nI k) st = some (1, ax_sI (ax_sI st 0 39 (nI k0)) 0 38 (nI (p + nl k0))) := by
  have hle := mtw_le ch T (nw k0) p h.2.2.2.1
  have hT := h.2.1
  intro d
  induction d with
  | zero =>
    intro m k lg hk hm hlt hlg
    omega
  | succ d ih =>
    intro m k lg hk hm hlt hlg
    obtain ⟨m, rfl⟩ : ∃ k, m = k + 1 := ⟨m - 1, by omega⟩
    by_cases hkk : k = k0
    · subst hkk
      refine ⟨by rw [naL, if_pos hm0], ?_⟩
      rw [stepN h hk0 (by omega) 0 m, if_pos hm0, hm0, if_pos hlg]
      exact namB hk0 hm0 d m (k + 1) _ (by omega) (by omega) (by omega) (h.k _) (by omega)
    · obtain ⟨g1, g2⟩ := nm_one (j := k) (by omega) hk0 hkk hm0
      rw [naL, if_neg g2, stepN h (by omega) (by omega) 0 m, if_neg g2]
      exact ih m (k + 1) _ (by omega) (by omega) (by omega) (by split <;> omega)
theorem namM {ch : Nat → Nat} {T : Nat} {st : ax_S} {p : Nat} (h : MS ch T st p) : ∃ st', fX9_takesName st = some (if (na ch T (false, p)).2.1 then 0 else 1, st') ∧ MS ch T st' (na ch T (false, p)).2.2 ∧ st'.2 = st.2 ∧ (∀ j, j ≠ 38 → j ≠ 39 → st'.1 0 j = st.1 0 j) ∧ ((na ch T (false, p)).2.1 = false → st'.1 0 39 = nI (na ch T (false, p)).1) := by
  have hp := h.2.2.2.1
  have e0 : na ch T (false, p) = naL ch T p 10 0 0 := rfl
  rw [e0]
  unfold fX9_takesName
  rw [h.2.2.2.2.1]
  rcases Classical.em (∃ k, k < 10 ∧ mtw ch T (nw k) p = nl k) with ⟨k0, hk0, hm0⟩ | hn
  · have hn0 := nl13 k0 hk0
    have hle := mtw_le ch T (nw k0) p hp
    obtain ⟨g1, g2⟩ := namC hk0 hm0 h 10 4000 0 0 rfl (by decide) (Nat.zero_le _) (by omega)
    rw [g1]
    refine ⟨_, g2, (h.k _).mv _ (by show p + nl k0 ≤ T; omega), by rw [pI2, pI2], fun j h1 h2 => by rw [pI1, if_neg (by omega), pI1, if_neg (by omega)], fun _ => by rw [pI1, if_neg (by omega), pI1, if_pos ⟨rfl, rfl⟩]⟩
  · obtain ⟨e, g1, g2, g3⟩ := namA h 10 4000 0 0 rfl (by decide) hp (fun j _ hj hh => hn ⟨j, hj, hh⟩)
    rw [g1]
    exact ⟨_, g3, h.mv _ g2, by rw [pI2], fun j h1 h2 => by rw [pI1, if_neg (by omega)], fun hh => by cases hh⟩
