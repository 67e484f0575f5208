/-! THE PURE PART: the reference's search finds what the list says. -/
def RpM (m : Nat) (st : ax_S) (s : oS) : Prop := ∀ o, o < m → RoM st o (s o)
theorem RoM_fr {s t : ax_S} {o : Nat} {z : oT} (h : ∀ q, 16 ≤ q → q ≤ 20 → t.2 q = s.2 q) (hs : RoM s o z) : RoM t o z := by
  unfold RoM at hs ⊢
  rw [h 16 (by decide) (by decide), h 17 (by decide) (by decide), h 18 (by decide) (by decide), h 19 (by decide) (by decide), h 20 (by decide) (by decide)]
  exact hs
theorem RpM_fr {m : Nat} {s t : ax_S} {z : oS} (h : ∀ q, 16 ≤ q → q ≤ 20 → t.2 q = s.2 q) (hs : RpM m s z) : RpM m t z := fun o ho => RoM_fr h (hs o ho)
theorem RpM_set {m d : Nat} {st st1 : ax_S} {s : oS} {o : Nat} {z : oT} (h : RpM m st s) (hI : IV s d) (hd : d ≤ 10) (hf : FrM o st st1) (hz : RoM st1 o z) : RpM m st1 (uf s o z) := by
  intro p hp
  by_cases hpo : p = o
  · rw [hpo, uf_s]; exact hz
  · rw [uf_n _ _ hpo]
    have := (hI p).2.1
    exact hf.2.2 p _ hpo (by omega) (h p hp)
def SFM (s t : ax_S) : Prop := (∀ k, k ≠ 29 → k ≠ 30 → t.1 0 k = s.1 0 k) ∧ (∀ q, (q < 16 ∨ 23 < q) → t.2 q = s.2 q)
theorem SFM.rf (s : ax_S) : SFM s s := ⟨fun _ _ _ => rfl, fun _ _ => rfl⟩
theorem SFM.tr {s t u : ax_S} (h : SFM s t) (g : SFM t u) : SFM s u := ⟨fun k h1 h2 => (g.1 k h1 h2).trans (h.1 k h1 h2), fun q hq => (g.2 q hq).trans (h.2 q hq)⟩
theorem SFM.fm {s t : ax_S} (h : SFM s t) : FM s t := ⟨fun k hk => h.1 k (by omega) (by omega), fun o ho => h.2 o (by omega)⟩
theorem FrM.S {s t : ax_S} {o : Nat} (h : FrM o s t) : SFM s t := ⟨fun k _ _ => by rw [h.1], fun q hq => h.2.1 q (by omega)⟩
theorem SFM.I (s : ax_S) {k : Nat} (hk : k = 29 ∨ k = 30) (v : Int32) : SFM s (ax_sI s 0 k v) := ⟨fun j h1 h2 => by rw [pI1, if_neg (by omega)], fun q _ => by rw [pI2]⟩
theorem SFM.E (s : ax_S) {q : Nat} (hq : q = 21 ∨ q = 22 ∨ q = 23) (i : Nat) (x : Int32) : SFM s (ax_sE s q i x) := ⟨fun j _ _ => by rw [pE1], fun p hp => by rw [pE2n _ _ _ (by omega)]⟩
/-! what may stand where -/
def thM (a : vA) (lim : Nat) (oo : Int32) (p : Nat) : Prop := a 8 p < lim ∧ (oo = -10 ∨ nI (a 5 p) = oo)
def cpM (a : vA) (lim : Nat) (p : Nat) : Prop := a 9 p ≠ 0 ∧ a 9 p ≤ lim
def fsM (a : vA) (pg : Bool) (i p : Nat) : Prop := if pg then (a 4 i = a 4 p ∧ i < p) else bfr a i p
def rdM (n : vN) (a : vA) (lim : Nat) (oo : Int32) (pg : Bool) (p : Nat) (u : Int32) : Prop := bt u p = false ∧ thM a lim oo p ∧ ∀ i, i < n 1 → fsM a pg i p → thM a lim oo i → bt u i = true
def okM (a : vA) (c : vC) (lim : Nat) (p : Nat) (r : Int32) : Prop := ¬ cpM a lim p ∨ r = c 10 p
def flM (n : vN) (a : vA) (lim : Nat) (oo : Int32) (u : Int32) : Prop := ∀ i, i < n 1 → thM a lim oo i → cpM a lim i → bt u i = true
def CtM (s0 : ax_S) (n : vN) (a : vA) (c : vC) (of : Bool) (wt lim : Nat) (oo : Int32) (pg : Bool) : Prop := Good n a c ∧ RM s0 n a c ∧ ((wt < 10 ∧ s0.1 0 28 = nI wt) ∨ (wt = 99 ∧ s0.1 0 28 = -10)) ∧ s0.1 0 27 = (if of then 0 else 1) ∧ (s0.1 0 24 = nI lim ∧ lim ≤ 24) ∧ s0.1 0 25 = oo ∧ s0.1 0 26 = (if pg then 1 else 0)
theorem isThM {s0 st : ax_S} {n : vN} {a : vA} {c : vC} {of : Bool} {wt lim : Nat} {oo : Int32} {pg : Bool} (hC : CtM s0 n a c of wt lim oo pg) (hS : SFM s0 st) {p : Nat} (hp : p < 10) : fX9_isThere (nI p) st = some (cif (thM a lim oo p) 1 0, st) := by
  obtain ⟨hG, hM, hw, h27, ⟨h24, hl⟩, h25, h26⟩ := hC
  have hM1 := RM_fr hS.fm hM
  have hr := hG.r p
  unfold fX9_isThere fX9_isThere_b39 fX9_isThere_b40 fX9_isThere_b35 fX9_isThere_b40
  rw [pld hp (by decide), M_iv hM1 hp, hS.1 24 (by decide) (by decide), h24, hS.1 25 (by decide) (by decide), h25]
  by_cases h1 : a 8 p < lim
  · rw [if_neg (nI_ge h1 (by omega))]
    by_cases h2 : oo = -10
    · rw [if_pos h2, cif_p (show thM a lim oo p from ⟨h1, Or.inl h2⟩)]; exact prz1 st
    · rw [if_neg h2, pld hp (by decide), M_ob hM1 hp]
      by_cases h3 : nI (a 5 p) = oo
      · rw [if_pos h3, cif_p (show thM a lim oo p from ⟨h1, Or.inr h3⟩)]; exact prz1 st
      · rw [if_neg h3, cif_n (fun hh : thM a lim oo p => hh.2.elim h2 h3)]; exact prz0 st
  · rw [if_pos (nI_le (by omega) (by omega)), cif_n (fun hh : thM a lim oo p => h1 hh.1)]; exact prz0 st
theorem isCpM {s0 st : ax_S} {n : vN} {a : vA} {c : vC} {of : Bool} {wt lim : Nat} {oo : Int32} {pg : Bool} (hC : CtM s0 n a c of wt lim oo pg) (hS : SFM s0 st) {p : Nat} (hp : p < 10) : fX9_isComplete (nI p) st = some (cif (cpM a lim p) 1 0, st) := by
  obtain ⟨hG, hM, hw, h27, ⟨h24, hl⟩, h25, h26⟩ := hC
  have hM1 := RM_fr hS.fm hM
  have hr := hG.r p
  unfold fX9_isComplete fX9_isComplete_b27 fX9_isComplete_b28
  rw [pld hp (by decide), M_rs hM1 hp]
  by_cases h1 : a 9 p = 0
  · rw [if_pos ((pu_m1 (by omega)).mpr h1), cif_n (fun hh : cpM a lim p => hh.1 h1)]; exact prz0 st
  · rw [if_neg (fun hh => h1 ((pu_m1 (by omega)).mp hh)), pld hp (by decide), M_rs hM1 hp, hS.1 24 (by decide) (by decide), h24]
    by_cases h2 : a 9 p ≤ lim
    · rw [if_neg (fun hh => absurd ((pu_rs (by omega) (by omega)).mp hh) (by omega)), cif_p (show cpM a lim p from ⟨h1, h2⟩)]; exact prz1 st
    · rw [if_pos ((pu_rs (by omega) (by omega)).mpr (by omega)), cif_n (fun hh : cpM a lim p => h2 hh.2)]; exact prz0 st
theorem cif01 (P : Prop) : (cif P (1 : Int32) 0 = 1 ∧ P) ∨ (cif P (1 : Int32) 0 = 0 ∧ ¬ P) := by
  by_cases h : P
  · exact Or.inl ⟨cif_p h _ _, h⟩
  · exact Or.inr ⟨cif_n h _ _, h⟩
theorem rdyL {s0 st : ax_S} {n : vN} {a : vA} {c : vC} {of : Bool} {wt lim : Nat} {oo : Int32} {pg : Bool} (hC : CtM s0 n a c of wt lim oo pg) (hS : SFM s0 st) {p : Nat} (hp : p < 10) (u : Int32) : ∀ (d m i acc : Nat), i + d = n 1 → d < m → acc < 2 → ∃ r, fX9_isReady_L5 m (nI p) u (nI acc) (nI i) st = some (nI r, st) ∧ r < 2 ∧ (r = 1 ↔ (acc = 1 ∧ ∀ j, i ≤ j → j < n 1 → fsM a pg j p → thM a lim oo j → bt u j = true)) := by
  have hG := hC.1
  have hM1 := RM_fr hS.fm hC.2.1
  have hb := hG.b
  have h26 : st.1 0 26 = (if pg then 1 else 0) := (hS.1 26 (by decide) (by decide)).trans hC.2.2.2.2.2.2
  intro d
  induction d with
  | zero =>
    intro m i acc hi hm hacc
    obtain ⟨m, rfl⟩ : ∃ k, m = k + 1 := ⟨m - 1, by omega⟩
    refine ⟨acc, ?_, hacc, ⟨fun h => ⟨h, fun j h1 h2 => by omega⟩, fun h => h.1⟩⟩
    rw [fX9_isReady_L5, M_n1 hM1, if_pos (nI_le (by omega) (by omega))]
    rcases (show acc = 0 ∨ acc = 1 by omega) with rfl | rfl
    · exact prz0 st
    · exact prz1 st
  | succ d ih =>
    intro m i acc hi hm hacc
    obtain ⟨m, rfl⟩ : ∃ k, m = k + 1 := ⟨m - 1, by omega⟩
    have hri := hG.r i
    have hrp := hG.r p
    -- the test of one
    have hb58 : ∀ (q : Int32) (P : Prop), ((q = 1 ∧ P) ∨ (q = 0 ∧ ¬ P)) → (P ↔ fsM a pg i p) → ∃ r, fX9_isReady_b58 (fX9_isReady_L5 m) (nI p) u (nI acc) (nI i) q st = some (nI r, st) ∧ r < 2 ∧ (r = 1 ↔ (acc = 1 ∧ ∀ j, i ≤ j → j < n 1 → fsM a pg j p → thM a lim oo j → bt u j = true)) := by
      intro q P hq hP
      unfold fX9_isReady_b58 fX9_isReady_b92 fX9_isReady_b88 fX9_isReady_b93
      rw [nI_1]
      have step0 : ∃ r, fX9_isReady_L5 m (nI p) u 0 (nI (i + 1)) st = some (nI r, st) ∧ r = 0 := by
        obtain ⟨r, g1, g2, g3⟩ := ih m (i + 1) 0 (by omega) (by omega) (by omega)
        refine ⟨r, g1, ?_⟩
        by_cases h : r = 1
        · have := (g3.mp h).1; omega
        · omega
      have step1 : ∃ r, fX9_isReady_L5 m (nI p) u 1 (nI (i + 1)) st = some (nI r, st) ∧ r < 2 ∧ (r = 1 ↔ ∀ j, i + 1 ≤ j → j < n 1 → fsM a pg j p → thM a lim oo j → bt u j = true) := by
        obtain ⟨r, g1, g2, g3⟩ := ih m (i + 1) 1 (by omega) (by omega) (by omega)
        exact ⟨r, g1, g2, ⟨fun h => (g3.mp h).2, fun h => g3.mpr ⟨rfl, h⟩⟩⟩
      obtain ⟨r0, y1, y2⟩ := step0
      obtain ⟨r1, z1, z2, z3⟩ := step1
      rcases (show acc = 0 ∨ acc = 1 by omega) with rfl | rfl
      · rw [if_pos nI_0, y1]
        exact ⟨r0, rfl, by omega, ⟨fun h => by omega, fun h => by omega⟩⟩
      · rw [if_neg (by decide)]
        have good : (fsM a pg i p → thM a lim oo i → bt u i = true) → ∃ r, some (nI r1, st) = some (nI r, st) ∧ r < 2 ∧ (r = 1 ↔ (1 = 1 ∧ ∀ j, i ≤ j → j < n 1 → fsM a pg j p → thM a lim oo j → bt u j = true)) := fun hok => by
          refine ⟨r1, rfl, z2, ⟨fun h => ⟨rfl, fun j h1 h2 h3 h4 => ?_⟩, fun h => z3.mpr (fun j h1 => h.2 j (by omega))⟩⟩
          by_cases hji : j = i
          · rw [hji] at h3 h4 ⊢; exact hok h3 h4
          · exact z3.mp h j (by omega) h2 h3 h4
        rcases hq with ⟨hq, hP1⟩ | ⟨hq, hP1⟩
        · rw [hq, if_neg (by decide), isThM hC hS (by omega), pb]
          rcases cif01 (thM a lim oo i) with ⟨h1, h2⟩ | ⟨h1, h2⟩
          · rw [h1, if_neg (by decide)]
            by_cases h3 : bt u i = true
            · rw [if_pos ((bt_shr1 u (by omega)).mpr h3), z1]
              exact good (fun _ _ => h3)
            · rw [if_neg (fun hh => h3 ((bt_shr1 u (by omega)).mp hh)), y1]
              exact ⟨r0, rfl, by omega, ⟨fun h => by omega, fun h => absurd (h.2 i (by omega) (by omega) (hP.mp hP1) h2) h3⟩⟩
          · rw [h1, if_pos rfl, z1]
            exact good (fun _ h => absurd h h2)
        · rw [hq, if_pos rfl, z1]
          exact good (fun h => absurd (hP.mpr h) hP1)
    rw [fX9_isReady_L5, M_n1 hM1, if_neg (nI_ge (by omega) (by omega)), h26]
    cases pg with
    | false =>
      rw [if_pos (by decide)]
      obtain ⟨q, g1, g2⟩ := bfrM hM1 hG.r (i := i) (j := p) (by omega) hp
      rw [g1, pb]
      exact hb58 q (bfr a i p) g2 (by unfold fsM; simp)
    | true =>
      rw [if_neg (by decide), pld (by omega) (by decide), M_th hM1 (by omega), pld hp (by decide), M_th hM1 hp]
      unfold fX9_isReady_b47
      by_cases h1 : a 4 i = a 4 p
      · rw [if_pos ((qeq (by omega) (by omega)).mpr h1)]
        by_cases h2 : i < p
        · rw [if_neg (nI_ge h2 (by omega))]
          exact hb58 1 True (Or.inl ⟨rfl, trivial⟩) (by unfold fsM; simp [h1, h2])
        · rw [if_pos (nI_le (by omega) (by omega))]
          exact hb58 0 False (Or.inr ⟨rfl, fun h => h⟩) (by unfold fsM; simp [h2])
      · rw [if_neg (fun hh => h1 ((qeq (by omega) (by omega)).mp hh))]
        exact hb58 0 False (Or.inr ⟨rfl, fun h => h⟩) (by unfold fsM; simp [h1])
theorem rdyM {s0 st : ax_S} {n : vN} {a : vA} {c : vC} {of : Bool} {wt lim : Nat} {oo : Int32} {pg : Bool} (hC : CtM s0 n a c of wt lim oo pg) (hS : SFM s0 st) {p : Nat} (hp : p < 10) (u : Int32) : fX9_isReady (nI p) u st = some (cif (∀ j, j < n 1 → fsM a pg j p → thM a lim oo j → bt u j = true) 1 0, st) := by
  have hb := hC.1.b
  obtain ⟨r, g1, g2, g3⟩ := rdyL hC hS hp u (n 1) 4000 0 1 (by omega) (by omega) (by omega)
  have e : nI r = cif (∀ j, j < n 1 → fsM a pg j p → thM a lim oo j → bt u j = true) 1 0 := by
    rcases cif01 (∀ j, j < n 1 → fsM a pg j p → thM a lim oo j → bt u j = true) with ⟨h1, h2⟩ | ⟨h1, h2⟩
    · rw [h1, g3.mpr ⟨rfl, fun j _ => h2 j⟩]; rfl
    · have : r = 0 := by
        by_cases h : r = 1
        · exact absurd (fun j => (g3.mp h).2 j (by omega)) h2
        · omega
      rw [h1, this]; rfl
  rw [← e]
  exact g1
theorem allL {s0 st : ax_S} {n : vN} {a : vA} {c : vC} {of : Bool} {wt lim : Nat} {oo : Int32} {pg : Bool} (hC : CtM s0 n a c of wt lim oo pg) (hS : SFM s0 st) (u : Int32) : ∀ (d m i acc : Nat), i + d = n 1 → d < m → acc < 2 → ∃ r, fX9_hasAll_L4 m u (nI acc) (nI i) st = some (nI r, st) ∧ r < 2 ∧ (r = 1 ↔ (acc = 1 ∧ ∀ j, i ≤ j → j < n 1 → thM a lim oo j → cpM a lim j → bt u j = true)) := by
  have hG := hC.1
  have hM1 := RM_fr hS.fm hC.2.1
  have hb := hG.b
  intro d
  induction d with
  | zero =>
    intro m i acc hi hm hacc
    obtain ⟨m, rfl⟩ : ∃ k, m = k + 1 := ⟨m - 1, by omega⟩
    refine ⟨acc, ?_, hacc, ⟨fun h => ⟨h, fun j h1 h2 => by omega⟩, fun h => h.1⟩⟩
    rw [fX9_hasAll_L4, M_n1 hM1, if_pos (nI_le (by omega) (by omega))]
    rcases (show acc = 0 ∨ acc = 1 by omega) with rfl | rfl
    · exact prz0 st
    · exact prz1 st
  | succ d ih =>
    intro m i acc hi hm hacc
    obtain ⟨m, rfl⟩ : ∃ k, m = k + 1 := ⟨m - 1, by omega⟩
    rw [fX9_hasAll_L4, M_n1 hM1, if_neg (nI_ge (by omega) (by omega))]
    unfold fX9_hasAll_b45 fX9_hasAll_b41 fX9_hasAll_b46
    rw [nI_1]
    have step0 : ∃ r, fX9_hasAll_L4 m u 0 (nI (i + 1)) st = some (nI r, st) ∧ r = 0 := by
      obtain ⟨r, g1, g2, g3⟩ := ih m (i + 1) 0 (by omega) (by omega) (by omega)
      refine ⟨r, g1, ?_⟩
      by_cases h : r = 1
      · have := (g3.mp h).1; omega
      · omega
    have step1 : ∃ r, fX9_hasAll_L4 m u 1 (nI (i + 1)) st = some (nI r, st) ∧ r < 2 ∧ (r = 1 ↔ ∀ j, i + 1 ≤ j → j < n 1 → thM a lim oo j → cpM a lim j → bt u j = true) := by
      obtain ⟨r, g1, g2, g3⟩ := ih m (i + 1) 1 (by omega) (by omega) (by omega)
      exact ⟨r, g1, g2, ⟨fun h => (g3.mp h).2, fun h => g3.mpr ⟨rfl, h⟩⟩⟩
    obtain ⟨r0, y1, y2⟩ := step0
    obtain ⟨r1, z1, z2, z3⟩ := step1
    rcases (show acc = 0 ∨ acc = 1 by omega) with rfl | rfl
    · rw [if_pos nI_0, y1]
      exact ⟨r0, rfl, by omega, ⟨fun h => by omega, fun h => by omega⟩⟩
    · rw [if_neg (by decide)]
      have good : (thM a lim oo i → cpM a lim i → bt u i = true) → ∃ r, some (nI r1, st) = some (nI r, st) ∧ r < 2 ∧ (r = 1 ↔ (1 = 1 ∧ ∀ j, i ≤ j → j < n 1 → thM a lim oo j → cpM a lim j → bt u j = true)) := fun hok => by
        refine ⟨r1, rfl, z2, ⟨fun h => ⟨rfl, fun j h1 h2 h3 h4 => ?_⟩, fun h => z3.mpr (fun j h1 => h.2 j (by omega))⟩⟩
        by_cases hji : j = i
        · rw [hji] at h3 h4 ⊢; exact hok h3 h4
        · exact z3.mp h j (by omega) h2 h3 h4
      rw [isThM hC hS (by omega), pb]
      rcases cif01 (thM a lim oo i) with ⟨h1, h2⟩ | ⟨h1, h2⟩
      · rw [h1, if_neg (by decide), isCpM hC hS (by omega), pb]
        rcases cif01 (cpM a lim i) with ⟨k1, k2⟩ | ⟨k1, k2⟩
        · rw [k1, if_neg (by decide)]
          by_cases h3 : bt u i = true
          · rw [if_pos ((bt_shr1 u (by omega)).mpr h3), z1]
            exact good (fun _ _ => h3)
          · rw [if_neg (fun hh => h3 ((bt_shr1 u (by omega)).mp hh)), y1]
            exact ⟨r0, rfl, by omega, ⟨fun h => by omega, fun h => absurd (h.2 i (by omega) (by omega) h2 k2) h3⟩⟩
        · rw [k1, if_pos rfl, z1]
          exact good (fun _ h => absurd h k2)
      · rw [h1, if_pos rfl, z1]
        exact good (fun h => absurd h h2)
theorem allM {s0 st : ax_S} {n : vN} {a : vA} {c : vC} {of : Bool} {wt lim : Nat} {oo : Int32} {pg : Bool} (hC : CtM s0 n a c of wt lim oo pg) (hS : SFM s0 st) (u : Int32) : fX9_hasAll u st = some (cif (flM n a lim oo u) 1 0, st) := by
  have hb := hC.1.b
  obtain ⟨r, g1, g2, g3⟩ := allL hC hS u (n 1) 4000 0 1 (by omega) (by omega) (by omega)
  have e : nI r = cif (flM n a lim oo u) 1 0 := by
    rcases cif01 (flM n a lim oo u) with ⟨h1, h2⟩ | ⟨h1, h2⟩
    · rw [h1, g3.mpr ⟨rfl, fun j _ => h2 j⟩]; rfl
    · have : r = 0 := by
        by_cases h : r = 1
        · exact absurd (fun j => (g3.mp h).2 j (by omega)) h2
        · omega
      rw [h1, this]; rfl
  rw [← e]
  exact g1
