/-! THE PURE PART: the reference's search, its loop. -/
def MkM (wt : Nat) (st : ax_S) (acc : List pW) : Prop := ∀ r, r < 2200 → (st.2 23 r = 1 ∧ ∃ p ∈ acc, wt ∈ p.1 ∧ p.2.toInt = (r : Int) - 1100) ∨ (st.2 23 r = 0 ∧ ∀ p ∈ acc, wt ∈ p.1 → p.2.toInt ≠ (r : Int) - 1100)
def accM (of : Bool) (wt : Nat) (st : ax_S) (acc : List pW) : Prop :=
  (of = true → (acc = [] ∧ st.1 0 29 = 0) ∨ ∃ q w, acc = [(q, w)] ∧ st.1 0 29 = 1 ∧ st.1 0 30 = nI q.length ∧ ∀ i, i < q.length → st.2 22 i = nI (q.getD i 0)) ∧
  (of = false → st.1 0 29 = nI acc.length ∧ (wt < 10 → MkM wt st acc))
theorem accM_cut {of : Bool} {wt : Nat} {st : ax_S} {acc : List pW} (h : accM of wt st acc) : cut of acc = acc := by
  cases of
  · rfl
  · rcases h.1 rfl with ⟨h1, -⟩ | ⟨q, w, h1, -⟩ <;> rw [h1] <;> rfl
theorem accM_over {of : Bool} {wt : Nat} {st : ax_S} {acc m : List pW} (h : accM of wt st acc) (ho : of = true) (hn : acc ≠ []) : cut of (acc ++ m) = acc := by
  subst ho
  rcases h.1 rfl with ⟨h1, -⟩ | ⟨q, w, h1, -⟩
  · exact absurd h1 hn
  · rw [h1]; rfl
theorem accM_fr {of : Bool} {wt : Nat} {s t : ax_S} {acc : List pW} (h1 : t.1 0 29 = s.1 0 29) (h2 : t.1 0 30 = s.1 0 30) (h3 : t.2 22 = s.2 22) (h4 : t.2 23 = s.2 23) (h : accM of wt s acc) : accM of wt t acc := by
  unfold accM MkM at h ⊢
  rw [h1, h2, h3, h4]
  exact h
def PrM (n : vN) (wt : Nat) (pre : List Nat) (u w : Int32) : Prop := (∀ i, bt u i = true ↔ i ∈ pre) ∧ (∀ i, i < pre.length → pre.getD i 0 < n 1) ∧ (∀ i j, i < j → j < pre.length → pre.getD i 0 ≠ pre.getD j 0) ∧ (bt u wt = true → -1100 ≤ w.toInt ∧ w.toInt ≤ 1099)
theorem getD_l (l : List Nat) (p i : Nat) (h : i < l.length) : (l ++ [p]).getD i 0 = l.getD i 0 := by
  simp only [List.getD]
  rw [List.getElem?_append_left h]
theorem getD_e (l : List Nat) (p : Nat) : (l ++ [p]).getD l.length 0 = p := by
  simp [List.getD]
theorem mem_getD {l : List Nat} {p : Nat} (h : p ∈ l) : ∃ i, i < l.length ∧ l.getD i 0 = p := by
  obtain ⟨i, hi, h1⟩ := List.getElem_of_mem h
  exact ⟨i, hi, by simp [List.getD, List.getElem?_eq_getElem hi, h1]⟩
theorem getD_mem {l : List Nat} {i : Nat} (h : i < l.length) : l.getD i 0 ∈ l := by
  simp only [List.getD, List.getElem?_eq_getElem h, Option.getD_some]
  exact List.getElem_mem h
theorem PrM_up {n : vN} {wt : Nat} {pre : List Nat} {u w : Int32} (h : PrM n wt pre u w) {p : Nat} (hp : p < n 1) (hp10 : p < 10) (hb : bt u p = false) {r : Int32} (hr : -1100 ≤ r.toInt ∧ r.toInt ≤ 1099) : PrM n wt (pre ++ [p]) (u ||| b1 p) (if p = wt then r else w) := by
  obtain ⟨h1, h2, h3, h4⟩ := h
  have hl : (pre ++ [p]).length = pre.length + 1 := by simp
  refine ⟨fun i => ?_, fun i hi => ?_, fun i j hij hj => ?_, fun hh => ?_⟩
  · rw [bt_or, bt_b1 hp10, List.mem_append, List.mem_singleton, ← h1]
    simp
  · rw [hl] at hi
    by_cases hil : i = pre.length
    · rw [hil, getD_e]; exact hp
    · rw [getD_l _ _ _ (by omega)]; exact h2 i (by omega)
  · rw [hl] at hj
    rw [getD_l _ _ _ (by omega)]
    by_cases hjl : j = pre.length
    · rw [hjl, getD_e]
      intro hh
      have := (h1 p).mpr (hh ▸ getD_mem (by omega))
      rw [hb] at this
      cases this
    · rw [getD_l _ _ _ (by omega)]; exact h3 i j hij (by omega)
  · by_cases hpw : p = wt
    · rw [if_pos hpw]; exact hr
    · rw [if_neg hpw]
      refine h4 ?_
      rw [bt_or, bt_b1 hp10] at hh
      have : decide (wt = p) = false := decide_eq_false (fun h => hpw h.symm)
      rw [this, Bool.or_false] at hh
      exact hh
theorem PrM_full {n : vN} {wt : Nat} {pre : List Nat} {u w : Int32} (h : PrM n wt pre u w) (hK : n 1 ≤ pre.length) {p : Nat} (hp : p < n 1) : bt u p = true := by
  obtain ⟨h1, h2, h3, h4⟩ := h
  refine (h1 p).mpr (Classical.byContradiction (fun hn => ?_))
  have hl : (pre ++ [p]).length = pre.length + 1 := by simp
  have := pig (n 1) (pre.length + 1) (fun i => (pre ++ [p]).getD i 0) (fun i hi => by
    show (pre ++ [p]).getD i 0 < n 1
    by_cases hil : i = pre.length
    · rw [hil, getD_e]; exact hp
    · rw [getD_l _ _ _ (by omega)]; exact h2 i (by omega)) (fun i j hij hj => by
    show (pre ++ [p]).getD i 0 ≠ (pre ++ [p]).getD j 0
    rw [getD_l _ _ _ (by omega)]
    by_cases hjl : j = pre.length
    · rw [hjl, getD_e]
      intro hh
      exact hn (hh ▸ getD_mem (by omega))
    · rw [getD_l _ _ _ (by omega)]; exact h3 i j hij (by omega))
  omega
theorem cpyL {len : Nat} (hl : len ≤ 10) (u w : Int32) : ∀ (d m i : Nat) (st : ax_S), i + d = len → d < m → ∃ st1, fX9_finds_L15 m u (nI len) w (nI i) st = fX9_finds_b41 u w st1 ∧ st1.1 = st.1 ∧ (∀ q, q ≠ 22 → st1.2 q = st.2 q) ∧ (∀ j, j < i → st1.2 22 j = st.2 22 j) ∧ (∀ j, i ≤ j → j < len → st1.2 22 j = st.2 21 j) := by
  intro d
  induction d with
  | zero =>
    intro m i st hi hm
    obtain ⟨m, rfl⟩ : ∃ k, m = k + 1 := ⟨m - 1, by omega⟩
    refine ⟨st, ?_, rfl, fun _ _ => rfl, fun _ _ => rfl, fun j h1 h2 => by omega⟩
    rw [fX9_finds_L15, if_pos (nI_le (by omega) (by omega))]
  | succ d ih =>
    intro m i st hi hm
    obtain ⟨m, rfl⟩ : ∃ k, m = k + 1 := ⟨m - 1, by omega⟩
    obtain ⟨s1, g1, g2, g3, g4, g5⟩ := ih m (i + 1) (ax_sE st 22 i (st.2 21 i)) (by omega) (by omega)
    refine ⟨s1, ?_, by rw [g2, pE1], fun q hq => by rw [g3 q hq, pE2n _ _ _ hq], fun j hj => ?_, fun j h1 h2 => ?_⟩
    · rw [fX9_finds_L15, if_neg (nI_ge (by omega) (by omega)), pld (by omega) (by decide), psto (by omega) (by decide), nI_1]
      exact g1
    · rw [g4 j (by omega), pE2, if_pos rfl, if_neg (by omega)]
    · by_cases hji : j = i
      · subst hji
        rw [g4 j (by omega), pE2, if_pos rfl, if_pos rfl]
      · rw [g5 j (by omega) h2, pE2n _ _ _ (by decide)]
theorem findsM {s0 st : ax_S} {n : vN} {a : vA} {c : vC} {of : Bool} {wt lim : Nat} {oo : Int32} {pg : Bool} (hC : CtM s0 n a c of wt lim oo pg) (hS : SFM s0 st) {acc : List pW} {pre : List Nat} {u w : Int32} (hl : pre.length ≤ 10) (hpre : ∀ i, i < pre.length → st.2 21 i = nI (pre.getD i 0)) (hP : PrM n wt pre u w) (hacc : accM of wt st acc) (hno : of = true → acc = []) : ∃ st', fX9_finds u (nI pre.length) w st = some (0, st') ∧ SFM s0 st' ∧ accM of wt st' (cut of (acc ++ [(pre, w)])) ∧ st'.2 21 = st.2 21 ∧ (∀ q, 16 ≤ q → q ≤ 20 → st'.2 q = st.2 q) := by
  have hw := hC.2.2.1
  have hf : of = true → st.1 0 29 = 0 := fun ho => by
    rcases hacc.1 ho with ⟨-, g⟩ | ⟨q, w, g, -⟩
    · exact g
    · rw [hno ho] at g; cases g
  obtain ⟨s1, k1, k2, k3, k4⟩ : ∃ s1, fX9_finds u (nI pre.length) w st = fX9_finds_b41 u w s1 ∧ (∀ k, k ≠ 30 → s1.1 0 k = st.1 0 k) ∧ (∀ q, q ≠ 22 → s1.2 q = st.2 q) ∧ (st.1 0 29 = 0 → s1.1 0 30 = nI pre.length ∧ ∀ j, j < pre.length → s1.2 22 j = st.2 21 j) := by
    unfold fX9_finds
    by_cases h0 : st.1 0 29 = 0
    · rw [if_pos h0, pt]
      obtain ⟨s1, g1, g2, g3, g4, g5⟩ := cpyL hl u w pre.length 4000 0 (ax_sI st 0 30 (nI pre.length)) (by omega) (by omega)
      rw [nI_0] at g1
      exact ⟨s1, g1, fun k hk => by rw [g2, pI1, if_neg (by omega)], fun q hq => by rw [g3 q hq, pI2], fun _ => ⟨by rw [g2, pI1, if_pos ⟨rfl, rfl⟩], fun j hj => by rw [g5 j (by omega) hj, pI2]⟩⟩
    · rw [if_neg h0]
      exact ⟨st, rfl, fun _ _ => rfl, fun _ _ => rfl, fun hh => absurd hh h0⟩
  rw [k1]
  unfold fX9_finds_b41 fX9_finds_b83
  rw [pt]
  have c29 : (ax_sI s1 0 29 (s1.1 0 29 + 1)).1 0 29 = st.1 0 29 + 1 := by rw [pI1, if_pos ⟨rfl, rfl⟩, k2 29 (by decide)]
  have c30 : (ax_sI s1 0 29 (s1.1 0 29 + 1)).1 0 30 = s1.1 0 30 := by rw [pI1, if_neg (by omega)]
  have c28 : (ax_sI s1 0 29 (s1.1 0 29 + 1)).1 0 28 = s0.1 0 28 := by rw [pI1, if_neg (by omega), k2 28 (by decide)]; exact hS.1 28 (by decide) (by decide)
  have cA : (ax_sI s1 0 29 (s1.1 0 29 + 1)).2 = s1.2 := by rw [pI2]
  have hS2 : SFM s0 (ax_sI s1 0 29 (s1.1 0 29 + 1)) := ⟨fun k h1 h2 => by rw [pI1, if_neg (by omega), k2 k h2]; exact hS.1 k h1 h2, fun q hq => by rw [pI2, k3 q (by omega)]; exact hS.2 q hq⟩
  generalize ax_sI s1 0 29 (s1.1 0 29 + 1) = s2 at *
  rw [c28]
  have hone : ∀ (t : ax_S), t.1 0 29 = st.1 0 29 + 1 → t.1 0 30 = s1.1 0 30 → t.2 22 = s1.2 22 → of = true → (cut of (acc ++ [(pre, w)]) = [] ∧ t.1 0 29 = 0) ∨ ∃ q w', cut of (acc ++ [(pre, w)]) = [(q, w')] ∧ t.1 0 29 = 1 ∧ t.1 0 30 = nI q.length ∧ ∀ i, i < q.length → t.2 22 i = nI (q.getD i 0) := fun t q1 q2 q3 ho => by
    have := k4 (hf ho)
    refine Or.inr ⟨pre, w, ?_, ?_, q2.trans this.1, fun i hi => by rw [q3, this.2 i hi]; exact hpre i hi⟩
    · rw [hno ho, ho]; rfl
    · rw [q1, hf ho]; rfl
  have hcnt : ∀ (t : ax_S), t.1 0 29 = st.1 0 29 + 1 → of = false → t.1 0 29 = nI (cut of (acc ++ [(pre, w)])).length := fun t q1 ho => by
    rw [q1, (hacc.2 ho).1, ho, nI_1]
    simp [cut]
  have hkeep : wt < 10 → bt u wt ≠ true → ∀ (t : ax_S), t.2 23 = st.2 23 → of = false → MkM wt t (acc ++ [(pre, w)]) := fun h1 hb t q1 ho r hr => by
    rw [q1]
    rcases (hacc.2 ho).2 h1 r hr with ⟨g1, p, g2, g3⟩ | ⟨g1, g2⟩
    · exact Or.inl ⟨g1, p, List.mem_append.mpr (Or.inl g2), g3⟩
    · refine Or.inr ⟨g1, fun p hp hwp => ?_⟩
      rcases List.mem_append.mp hp with hp | hp
      · exact g2 p hp hwp
      · rw [List.mem_singleton.mp hp] at hwp
        exact absurd ((hP.1 wt).mpr hwp) hb
  rcases hw with ⟨h1, h2⟩ | ⟨h1, h2⟩
  · rw [h2, if_neg (fun hh => by rw [qnem10 (by omega)] at hh; exact hh)]
    by_cases hb : bt u wt = true
    · have hwb := hP.2.2.2 hb
      have e3 : (1100 : Int32).toInt = 1100 := by decide
      have hi : w + 1100 = nI (w.toInt + 1100).toNat := by
        apply Int32.toInt_inj.mp
        rw [tadd (by omega) (by omega), nI_toInt (by omega)]
        omega
      rw [if_pos ((bt_shr1 u h1).mpr hb), hi, psto (by omega) (by decide), nar1]
      refine ⟨_, rfl, hS2.tr (SFM.E _ (Or.inr (Or.inr rfl)) _ _), ⟨hone _ (by rw [pE1]; exact c29) (by rw [pE1]; exact c30) (by rw [pE2n _ _ _ (by decide), cA]), fun ho => ⟨hcnt _ (by rw [pE1]; exact c29) ho, fun _ r hr9 => ?_⟩⟩, by rw [pE2n _ _ _ (by decide), cA, k3 21 (by decide)], fun q h1 h2 => by rw [pE2n _ _ _ (by omega), cA, k3 q (by omega)]⟩
      rw [pE2, if_pos rfl, ho]
      show (_ ∧ ∃ p ∈ acc ++ [(pre, w)], _) ∨ (_ ∧ ∀ p ∈ acc ++ [(pre, w)], _)
      by_cases hrr : r = (w.toInt + 1100).toNat
      · rw [if_pos hrr]
        exact Or.inl ⟨rfl, (pre, w), List.mem_append.mpr (Or.inr (List.mem_singleton.mpr rfl)), (hP.1 wt).mp hb, by show w.toInt = _; omega⟩
      · rw [if_neg hrr, cA, k3 23 (by decide)]
        rcases (hacc.2 ho).2 h1 r hr9 with ⟨g1, p, g2, g3⟩ | ⟨g1, g2⟩
        · exact Or.inl ⟨g1, p, List.mem_append.mpr (Or.inl g2), g3⟩
        · refine Or.inr ⟨g1, fun p hp hwp => ?_⟩
          rcases List.mem_append.mp hp with hp | hp
          · exact g2 p hp hwp
          · rw [List.mem_singleton.mp hp]
            show w.toInt ≠ _
            omega
    · rw [if_neg (fun hh => hb ((bt_shr1 u h1).mp hh))]
      refine ⟨_, rfl, hS2, ⟨hone _ c29 c30 (by rw [cA]), fun ho => ⟨hcnt _ c29 ho, fun _ => ?_⟩⟩, by rw [cA, k3 21 (by decide)], fun q h1 h2 => by rw [cA, k3 q (by omega)]⟩
      rw [ho]
      exact hkeep h1 hb _ (by rw [cA, k3 23 (by decide)]) ho
  · rw [h2, if_pos rfl]
    exact ⟨_, rfl, hS2, ⟨hone _ c29 c30 (by rw [cA]), fun ho => ⟨hcnt _ c29 ho, fun hlt => by omega⟩⟩, by rw [cA, k3 21 (by decide)], fun q h1 h2 => by rw [cA, k3 q (by omega)]⟩
def StM (s0 : ax_S) (n : vN) (of : Bool) (wt : Nat) (pre : List Nat) (u w : Int32) (st : ax_S) (s : oS) (acc : List pW) : Prop := SFM s0 st ∧ RpM (n 0) st s ∧ (∀ i, i < pre.length → st.2 21 i = nI (pre.getD i 0)) ∧ PrM n wt pre u w ∧ accM of wt st acc
def ReM (s0 : ax_S) (n : vN) (of : Bool) (wt : Nat) (pre : List Nat) (st : ax_S) (s : oS) (acc : List pW) (st' : ax_S) : Prop := SFM s0 st' ∧ RpM (n 0) st' s ∧ (∀ i, i < pre.length → st'.2 21 i = st.2 21 i) ∧ accM of wt st' acc
noncomputable def SM (n : vN) (a : vA) (c : vC) (lim : Nat) (oo : Int32) (pg : Bool) (wt f : Nat) (u : Int32) (s : oS) (w : Int32) : List pW := spx (n 1) (rdM n a lim oo pg) (okM a c lim) (flM n a lim oo) (exo a c) wt f u s w
noncomputable def sbM (n : vN) (a : vA) (c : vC) (lim : Nat) (oo : Int32) (pg : Bool) (wt f : Nat) (u : Int32) (s : oS) (w : Int32) (p : Nat) : List pW := spb (rdM n a lim oo pg) (okM a c lim) (exo a c) wt (SM n a c lim oo pg wt f) u s w p
def ExM (s0 : ax_S) (n : vN) (a : vA) (c : vC) (of : Bool) (wt lim : Nat) (oo : Int32) (pg : Bool) (rc : Int32 → Int32 → Int32 → ax_S → ax_R) (f : Nat) : Prop :=
  ∀ (st : ax_S) (u : Int32) (s : oS) (w : Int32) (pre : List Nat) (acc : List pW), pre.length + f = 10 → StM s0 n of wt pre u w st s acc → IV s pre.length → (of = true → acc = []) → ∃ st', rc u (nI pre.length) w st = some (0, st') ∧ ReM s0 n of wt pre st s (cut of (acc ++ pm pre (SM n a c lim oo pg wt f u s w))) st'
theorem stepM {s0 : ax_S} {n : vN} {a : vA} {c : vC} {of : Bool} {wt lim f : Nat} {oo : Int32} {pg : Bool} {rc : Int32 → Int32 → Int32 → ax_S → ax_R} (hC : CtM s0 n a c of wt lim oo pg) (hrc : ExM s0 n a c of wt lim oo pg rc f) (rec18 : Int32 → Int32 → Int32 → Int32 → ax_S → ax_R) {p : Nat} (hp : p < n 1) {st : ax_S} {u : Int32} {s : oS} {w : Int32} {pre : List Nat} {acc : List pW} (hlen : pre.length + (f + 1) = 10) (hst : StM s0 n of wt pre u w st s acc) (hI : IV s pre.length) (hno : of = true → acc = []) : ∃ st', fX9_search_b41 rc rec18 u (nI pre.length) w (nI p) st = rec18 u (nI pre.length) w (nI (p + 1)) st' ∧ ReM s0 n of wt pre st s (cut of (acc ++ pm pre (sbM n a c lim oo pg wt f u s w p))) st' := by
  obtain ⟨hS, hR, hpre, hP, hacc⟩ := hst
  have hG := hC.1
  have hb := hG.b
  have hM1 := RM_fr hS.fm hC.2.1
  have hp10 : p < 10 := by omega
  unfold fX9_search_b41 fX9_search_b158
  rw [nI_1]
  have skip : ¬ rdM n a lim oo pg p u → ∃ st', rec18 u (nI pre.length) w (nI (p + 1)) st = rec18 u (nI pre.length) w (nI (p + 1)) st' ∧ ReM s0 n of wt pre st s (cut of (acc ++ pm pre (sbM n a c lim oo pg wt f u s w p))) st' := fun hn => by
    refine ⟨st, rfl, hS, hR, fun _ _ => rfl, ?_⟩
    have : sbM n a c lim oo pg wt f u s w p = [] := cif_n (fun hh => hn hh.1) _ _
    rw [this]
    show accM of wt st (cut of (acc ++ []))
    rw [List.append_nil, accM_cut hacc]
    exact hacc
  by_cases hup : bt u p = true
  · rw [if_neg (fun hh => by rw [(bt_shr0 u hp10).mp hh] at hup; cases hup)]
    exact skip (fun hh => by rw [hh.1] at hup; cases hup)
  have hup : bt u p = false := by cases h : bt u p <;> simp_all
  rw [if_pos ((bt_shr0 u hp10).mpr hup), isThM hC hS hp10, pb]
  rcases (cif01 (thM a lim oo p)).symm with ⟨h1, hth⟩ | ⟨h1, hth⟩
  · rw [h1, if_pos rfl]
    exact skip (fun hh => hth hh.2.1)
  rw [h1, if_neg (by decide), rdyM hC hS hp10, pb]
  rcases (cif01 (∀ j, j < n 1 → fsM a pg j p → thM a lim oo j → bt u j = true)).symm with ⟨h2, hrdy⟩ | ⟨h2, hrdy⟩
  · rw [h2, if_pos rfl]
    exact skip (fun hh => hrdy hh.2.2)
  rw [h2, if_neg (by decide)]
  have hrd : rdM n a lim oo pg p u := ⟨hup, hth, hrdy⟩
  have ho := (hG.o p hp).1
  have hr := hG.r p
  have hcc := hG.cc p
  obtain ⟨s1, e1, r1, f1⟩ := execM hM1 hG.r hG.cc hp10 (hR _ ho) (hI (a 5 p)) (by omega)
  rw [pld hp10 (by decide), M_ob hM1 hp10, pld (by omega) (by decide), (hR _ ho).1, e1, pb]
  have hz : (exl (s (a 5 p)) (a 3 p) (c 6 p) (c 7 p)).1 = (exo a c s p).1 := rfl
  have hs' : (exo a c s p).2 = uf s (a 5 p) (exl (s (a 5 p)) (a 3 p) (c 6 p) (c 7 p)).2 := rfl
  have hR1 : RpM (n 0) s1 (exo a c s p).2 := RpM_set hR hI (by omega) f1 r1
  have hS1 : SFM s0 s1 := hS.tr f1.S
  have g21 : s1.2 21 = st.2 21 := f1.2.1 21 (by omega)
  have g22 : s1.2 22 = st.2 22 := f1.2.1 22 (by omega)
  have g23 : s1.2 23 = st.2 23 := f1.2.1 23 (by omega)
  have hacc1 : accM of wt s1 acc := accM_fr (by rw [f1.1]) (by rw [f1.1]) g22 g23 hacc
  have hM2 := RM_fr hS1.fm hC.2.1
  have hIV := exo_iv hG.cc hI (by omega) p
  rw [hz, isCpM hC hS1 hp10, pb]
  -- where it goes on
  have yes : okM a c lim p (exo a c s p).1 → ∃ st', fX9_search_b112 rc rec18 u (nI pre.length) w (nI p) (s (a 5 p)).1 (exo a c s p).1 s1 = rec18 u (nI pre.length) w (nI (p + 1)) st' ∧ ReM s0 n of wt pre st s (cut of (acc ++ pm pre (sbM n a c lim oo pg wt f u s w p))) st' := fun hok => by
    unfold fX9_search_b112 fX9_search_b145 fX9_search_b148 fX9_search_b158
    rw [psto (by omega) (by decide), pE1, nI_1, nI_1, show (1 : Int32) <<< (nI p &&& 31) = b1 p from rfl]
    have hl1 : (pre ++ [p]).length = pre.length + 1 := by simp
    have hstM : StM s0 n of wt (pre ++ [p]) (u ||| b1 p) (if p = wt then (exo a c s p).1 else w) (ax_sE s1 21 pre.length (nI p)) (exo a c s p).2 acc := by
      refine ⟨hS1.tr (SFM.E _ (Or.inl rfl) _ _), RpM_fr (fun q h1 h2 => pE2n _ _ _ (by omega)) hR1, fun i hi => ?_, PrM_up hP hp hp10 hup hIV.2, accM_fr (by rw [pE1]) (by rw [pE1]) (pE2n _ _ _ (by decide)) (pE2n _ _ _ (by decide)) hacc1⟩
      rw [hl1] at hi
      rw [pE2, if_pos rfl]
      by_cases hil : i = pre.length
      · rw [if_pos hil, hil, getD_e]
      · rw [if_neg hil, g21, hpre i (by omega), getD_l _ _ _ (by omega)]
    obtain ⟨s4, q1, q2, q3, q4, q6⟩ := hrc _ _ _ _ (pre ++ [p]) acc (by rw [hl1]; omega) hstM (by rw [hl1]; exact hIV.1) hno
    rw [hl1] at q1
    have hq3 := q3 _ ho
    rw [hs', uf_s] at hq3
    obtain ⟨s5, t1, t2, t3⟩ := takeM (RM_fr q2.fm hC.2.1) hG.r hG.cc hp10 (hI (a 5 p)) (by omega) hq3
    rw [hz] at t1
    have u21 : s5.2 21 = s4.2 21 := t3.2.1 21 (by omega)
    have u22 : s5.2 22 = s4.2 22 := t3.2.1 22 (by omega)
    have u23 : s5.2 23 = s4.2 23 := t3.2.1 23 (by omega)
    refine ⟨s5, ?_, q2.tr t3.S, ?_, fun i hi => ?_, ?_⟩
    · have hwc : s1.1 0 28 = s0.1 0 28 := hS1.1 28 (by decide) (by decide)
      by_cases hpw : p = wt
      · have h12 : s1.1 0 28 = nI p := by
          rw [hwc]
          rcases hC.2.2.1 with ⟨-, h⟩ | ⟨h, -⟩
          · rw [h, hpw]
          · omega
        rw [if_pos hpw] at q1
        rw [if_pos h12.symm, q1, pb, t1, pb]
      · have h12 : ¬ nI p = s1.1 0 28 := by
          rw [hwc]
          rcases hC.2.2.1 with ⟨h1, h⟩ | ⟨-, h⟩
          · rw [h]; intro hh; exact hpw ((nI_eq (by omega) (by omega)).mp hh)
          · rw [h]; intro hh; rw [qnem10 (by omega)] at hh; exact hh
        rw [if_neg hpw] at q1
        rw [if_neg h12, q1, pb, t1, pb]
    · have := RpM_set q3 hIV.1 (by omega) t3 t2
      rw [hs', uf_uf] at this
      exact this
    · rw [u21, q4 i (by rw [hl1]; omega), pE2, if_pos rfl, if_neg (by omega), g21]
    · have : pm pre (sbM n a c lim oo pg wt f u s w p) = pm (pre ++ [p]) (SM n a c lim oo pg wt f (u ||| b1 p) (exo a c s p).2 (if p = wt then (exo a c s p).1 else w)) := by
        unfold sbM spb
        rw [cif_p ⟨hrd, hok⟩, pm_cons]
      rw [this]
      exact accM_fr (by rw [t3.1]) (by rw [t3.1]) u22 u23 q6
  have no : ¬ okM a c lim p (exo a c s p).1 → ∃ st', fX9_search_b148 rc rec18 u (nI pre.length) w (nI p) (s (a 5 p)).1 (exo a c s p).1 s1 = rec18 u (nI pre.length) w (nI (p + 1)) st' ∧ ReM s0 n of wt pre st s (cut of (acc ++ pm pre (sbM n a c lim oo pg wt f u s w p))) st' := fun hok => by
    unfold fX9_search_b148 fX9_search_b158
    rw [nI_1]
    have hq3 := hR1 _ ho
    rw [hs', uf_s] at hq3
    obtain ⟨s5, t1, t2, t3⟩ := takeM hM2 hG.r hG.cc hp10 (hI (a 5 p)) (by omega) hq3
    rw [hz] at t1
    rw [t1, pb]
    have u21 : s5.2 21 = s1.2 21 := t3.2.1 21 (by omega)
    have u22 : s5.2 22 = s1.2 22 := t3.2.1 22 (by omega)
    have u23 : s5.2 23 = s1.2 23 := t3.2.1 23 (by omega)
    refine ⟨s5, rfl, hS1.tr t3.S, ?_, fun i hi => ?_, ?_⟩
    · have := RpM_set hR1 hIV.1 (by omega) t3 t2
      rw [hs', uf_uf] at this
      exact this
    · rw [u21, g21]
    · have : sbM n a c lim oo pg wt f u s w p = [] := cif_n (fun hh => hok hh.2) _ _
      rw [this]
      show accM of wt s5 (cut of (acc ++ []))
      rw [List.append_nil, accM_cut hacc]
      exact accM_fr (by rw [t3.1]) (by rw [t3.1]) u22 u23 hacc1
  rcases cif01 (cpM a lim p) with ⟨k1, hcp⟩ | ⟨k1, hcp⟩
  · rw [k1, if_neg (by decide), pld hp10 (by decide), M_re hM2 hp10]
    by_cases hre : (exo a c s p).1 = c 10 p
    · rw [if_pos hre]; exact yes (Or.inr hre)
    · rw [if_neg hre]; exact no (fun hh => hh.elim (fun h => h hcp) hre)
  · rw [k1, if_pos rfl]; exact yes (Or.inl hcp)
theorem loopM {s0 : ax_S} {n : vN} {a : vA} {c : vC} {of : Bool} {wt lim f : Nat} {oo : Int32} {pg : Bool} {rc : Int32 → Int32 → Int32 → ax_S → ax_R} (hC : CtM s0 n a c of wt lim oo pg) (hrc : ExM s0 n a c of wt lim oo pg rc f) {u : Int32} {s : oS} {w : Int32} {pre : List Nat} (hlen : pre.length + (f + 1) = 10) (hI : IV s pre.length) : ∀ (d m i : Nat) (st : ax_S) (acc : List pW), i + d = n 1 → d < m → StM s0 n of wt pre u w st s acc → ∃ st', fX9_search_L18 rc m u (nI pre.length) w (nI i) st = some (0, st') ∧ ReM s0 n of wt pre st s (cut of (acc ++ pm pre (spw (sbM n a c lim oo pg wt f u s w) d i))) st' := by
  have hb := hC.1.b
  intro d
  induction d with
  | zero =>
    intro m i st acc hi hm hst
    obtain ⟨m, rfl⟩ : ∃ k, m = k + 1 := ⟨m - 1, by omega⟩
    have hM1 := RM_fr hst.1.fm hC.2.1
    refine ⟨st, ?_, hst.1, hst.2.1, fun _ _ => rfl, ?_⟩
    · rw [fX9_search_L18, M_n1 hM1, if_pos (nI_le (by omega) (by omega)), fX9_search_b164]
    · show accM of wt st (cut of (acc ++ []))
      rw [List.append_nil, accM_cut hst.2.2.2.2]
      exact hst.2.2.2.2
  | succ d ih =>
    intro m i st acc hi hm hst
    obtain ⟨m, rfl⟩ : ∃ k, m = k + 1 := ⟨m - 1, by omega⟩
    have hM1 := RM_fr hst.1.fm hC.2.1
    have h27 : st.1 0 27 = (if of then 0 else 1) := (hst.1.1 27 (by decide) (by decide)).trans hC.2.2.2.1
    rw [fX9_search_L18, M_n1 hM1, if_neg (nI_ge (by omega) (by omega)), h27]
    by_cases hov : of = true ∧ acc ≠ []
    · have hf : ¬ st.1 0 29 = 0 := by
        rcases hst.2.2.2.2.1 hov.1 with ⟨g, -⟩ | ⟨q, w, -, g, -⟩
        · exact absurd g hov.2
        · rw [g]; decide
      rw [hov.1, if_pos (by decide), if_neg hf, fX9_search_b164]
      refine ⟨st, rfl, hst.1, hst.2.1, fun _ _ => rfl, ?_⟩
      have := accM_over (m := pm pre (spw (sbM n a c lim oo pg wt f u s w) (d + 1) i)) hst.2.2.2.2 hov.1 hov.2
      rw [hov.1] at this
      rw [this, ← hov.1]
      exact hst.2.2.2.2
    · have hno : of = true → acc = [] := fun ho => Classical.byContradiction (fun hn => hov ⟨ho, hn⟩)
      obtain ⟨s1, t1, t2⟩ := stepM hC hrc (fX9_search_L18 rc m) (p := i) (by omega) hlen hst hI hno
      have hgo : (if (if of = true then (0 : Int32) else 1) = 0 then (if st.1 0 29 = 0 then fX9_search_b41 rc (fX9_search_L18 rc m) u (nI pre.length) w (nI i) st else fX9_search_b164 rc st) else fX9_search_b41 rc (fX9_search_L18 rc m) u (nI pre.length) w (nI i) st) = fX9_search_L18 rc m u (nI pre.length) w (nI (i + 1)) s1 := by
        cases of with
        | false => rw [if_neg (by decide)]; exact t1
        | true =>
          have hf : st.1 0 29 = 0 := by
            rcases hst.2.2.2.2.1 rfl with ⟨-, g⟩ | ⟨q, w, g, -⟩
            · exact g
            · rw [hno rfl] at g; cases g
          rw [if_pos (by decide), if_pos hf]; exact t1
      rw [hgo]
      obtain ⟨t2a, t2b, t2c, t2e⟩ := t2
      have hst1 : StM s0 n of wt pre u w s1 s (cut of (acc ++ pm pre (sbM n a c lim oo pg wt f u s w i))) := ⟨t2a, t2b, fun j hj => by rw [t2c j hj]; exact hst.2.2.1 j hj, hst.2.2.2.1, t2e⟩
      obtain ⟨s2, v1, v2, v3, v4, v6⟩ := ih m (i + 1) s1 _ (by omega) (by omega) hst1
      refine ⟨s2, v1, v2, v3, fun j hj => by rw [v4 j hj, t2c j hj], ?_⟩
      rw [cut_cut, List.append_assoc, ← pm_app] at v6
      exact v6
theorem extM {s0 : ax_S} {n : vN} {a : vA} {c : vC} {of : Bool} {wt lim : Nat} {oo : Int32} {pg : Bool} (hC : CtM s0 n a c of wt lim oo pg) : ∀ (f m : Nat), f < m → ExM s0 n a c of wt lim oo pg (fX9_search m) f := by
  have hb := hC.1.b
  -- a full sequence: nothing follows
  have full : ∀ (rc : Int32 → Int32 → Int32 → ax_S → ax_R) (u w : Int32) (pre : List Nat), pre.length = 10 → PrM n wt pre u w → ∀ (d m i : Nat) (st : ax_S), SFM s0 st → i + d = n 1 → d < m → fX9_search_L18 rc m u (nI pre.length) w (nI i) st = some (0, st) := by
    intro rc u w pre hl hP d
    induction d with
    | zero =>
      intro m i st hS hi hm
      obtain ⟨m, rfl⟩ : ∃ k, m = k + 1 := ⟨m - 1, by omega⟩
      rw [fX9_search_L18, M_n1 (RM_fr hS.fm hC.2.1), if_pos (nI_le (by omega) (by omega)), fX9_search_b164]
    | succ d ih =>
      intro m i st hS hi hm
      obtain ⟨m, rfl⟩ : ∃ k, m = k + 1 := ⟨m - 1, by omega⟩
      have hup := PrM_full hP (by omega) (p := i) (by omega)
      have hgo : fX9_search_b41 rc (fX9_search_L18 rc m) u (nI pre.length) w (nI i) st = some (0, st) := by
        unfold fX9_search_b41 fX9_search_b158
        rw [if_neg (fun hh => by rw [(bt_shr0 u (by omega)).mp hh] at hup; cases hup), nI_1]
        exact ih m (i + 1) st hS (by omega) (by omega)
      rw [fX9_search_L18, M_n1 (RM_fr hS.fm hC.2.1), if_neg (nI_ge (by omega) (by omega)), hgo, fX9_search_b164]
      split
      · split <;> rfl
      · rfl
  intro f
  induction f with
  | zero =>
    intro m hm st u s w pre acc hlen hst hI hno
    obtain ⟨m, rfl⟩ : ∃ k, m = k + 1 := ⟨m - 1, by omega⟩
    rw [fX9_search]
    unfold fX9_search_o fX9_search_b15
    rw [allM hC hst.1, pb]
    show ∃ st', _ ∧ ReM s0 n of wt pre st s (cut of (acc ++ pm pre (cif (flM n a lim oo u) [([], w)] []))) st'
    by_cases hfl : flM n a lim oo u
    · rw [cif_p hfl, cif_p hfl, if_neg (by decide)]
      obtain ⟨s1, g1, g2, g3, g4, g5⟩ := findsM hC hst.1 (by omega) hst.2.2.1 hst.2.2.2.1 hst.2.2.2.2 hno
      have := full (fX9_search m) u w pre (by omega) hst.2.2.2.1 (n 1) 4000 0 s1 g2 (by omega) (by omega)
      rw [nI_0] at this
      rw [g1, pb, this]
      refine ⟨s1, rfl, g2, RpM_fr g5 hst.2.1, fun i _ => by rw [g4], ?_⟩
      have : pm pre [(([] : List Nat), w)] = [(pre, w)] := by simp [pm]
      rw [this]
      exact g3
    · have := full (fX9_search m) u w pre (by omega) hst.2.2.2.1 (n 1) 4000 0 st hst.1 (by omega) (by omega)
      rw [nI_0] at this
      rw [cif_n hfl, cif_n hfl, if_pos rfl, this]
      refine ⟨st, rfl, hst.1, hst.2.1, fun _ _ => rfl, ?_⟩
      show accM of wt st (cut of (acc ++ []))
      rw [List.append_nil, accM_cut hst.2.2.2.2]
      exact hst.2.2.2.2
  | succ f ih =>
    intro m hm st u s w pre acc hlen hst hI hno
    obtain ⟨m, rfl⟩ : ∃ k, m = k + 1 := ⟨m - 1, by omega⟩
    rw [fX9_search]
    unfold fX9_search_o fX9_search_b15
    rw [allM hC hst.1, pb]
    show ∃ st', _ ∧ ReM s0 n of wt pre st s (cut of (acc ++ pm pre (cif (flM n a lim oo u) [([], w)] [] ++ spw (sbM n a c lim oo pg wt f u s w) (n 1) 0))) st'
    by_cases hfl : flM n a lim oo u
    · rw [cif_p hfl, cif_p hfl, if_neg (by decide)]
      obtain ⟨s1, g1, g2, g3, g4, g5⟩ := findsM hC hst.1 (by omega) hst.2.2.1 hst.2.2.2.1 hst.2.2.2.2 hno
      rw [g1, pb]
      have hst1 : StM s0 n of wt pre u w s1 s (cut of (acc ++ [(pre, w)])) := ⟨g2, RpM_fr g5 hst.2.1, fun j hj => by rw [g4]; exact hst.2.2.1 j hj, hst.2.2.2.1, g3⟩
      obtain ⟨s2, v1, v2, v3, v4, v6⟩ := loopM hC (ih m (by omega)) hlen hI (n 1) 4000 0 s1 _ (by omega) (by omega) hst1
      rw [nI_0] at v1
      refine ⟨s2, v1, v2, v3, fun j hj => by rw [v4 j hj, g4], ?_⟩
      have : pm pre [(([] : List Nat), w)] = [(pre, w)] := by simp [pm]
      rw [pm_app, this, ← List.append_assoc]
      rw [cut_cut] at v6
      exact v6
    · rw [cif_n hfl, cif_n hfl, if_pos rfl]
      obtain ⟨s2, v1, v2⟩ := loopM hC (ih m (by omega)) hlen hI (n 1) 4000 0 st acc (by omega) (by omega) hst
      rw [nI_0] at v1
      exact ⟨s2, v1, v2⟩
