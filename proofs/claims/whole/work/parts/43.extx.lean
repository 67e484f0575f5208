/-! THE PURE PART: the class's search finds what the list says. -/
def RpX (m : Nat) (st : ax_S) (s : oS) : Prop := ∀ o, o < m → RoQ st (49 + 3 * o) (s o)
theorem RoQ_fr {s t : ax_S} {q : Nat} {z : oT} (h1 : t.1 q = s.1 q) (h2 : t.2 (q + 1) = s.2 (q + 1)) (h3 : t.2 (q + 2) = s.2 (q + 2)) (h : RoQ s q z) : RoQ t q z := by
  unfold RoQ at h ⊢
  rw [h1, h2, h3]
  exact h
theorem RpX_fr {m : Nat} {s t : ax_S} {z : oS} (hm : m ≤ 4) (h : ∀ q, 49 ≤ q → q ≤ 60 → t.1 q = s.1 q ∧ t.2 q = s.2 q) (hs : RpX m s z) : RpX m t z := fun o ho => RoQ_fr (h _ (by omega) (by omega)).1 (h _ (by omega) (by omega)).2 (h _ (by omega) (by omega)).2 (hs o ho)
theorem RpX_set {m : Nat} {st st1 : ax_S} {s : oS} {o : Nat} {z : oT} (h : RpX m st s) (hf : FrQ (49 + 3 * o) st st1) (hz : RoQ st1 (49 + 3 * o) z) : RpX m st1 (uf s o z) := by
  intro p hp
  by_cases hpo : p = o
  · rw [hpo, uf_s]; exact hz
  · rw [uf_n _ _ hpo]
    exact RoQ_fr (hf.1 _ (by omega)) (hf.2 _ (by omega) (by omega)) (hf.2 _ (by omega) (by omega)) (h p hp)
theorem uf_uf {α : Type} (f : Nat → α) (o : Nat) (x : α) : uf (uf f o x) o (f o) = f := by
  funext p
  unfold uf
  by_cases h : p = o
  · rw [if_pos h, h]
  · rw [if_neg h, if_neg h]
def SFX (s t : ax_S) : Prop := (∀ o, (o < 43 ∨ 60 < o) → t.1 o = s.1 o) ∧ (∀ k, k ≠ 9 → k ≠ 10 → k ≠ 13 → t.1 43 k = s.1 43 k) ∧ (∀ o, (o < 47 ∨ 60 < o) → t.2 o = s.2 o)
theorem SFX.rf (s : ax_S) : SFX s s := ⟨fun _ _ => rfl, fun _ _ _ _ => rfl, fun _ _ => rfl⟩
theorem SFX.tr {s t u : ax_S} (h : SFX s t) (g : SFX t u) : SFX s u := ⟨fun o ho => (g.1 o ho).trans (h.1 o ho), fun k h1 h2 h3 => (g.2.1 k h1 h2 h3).trans (h.2.1 k h1 h2 h3), fun o ho => (g.2.2 o ho).trans (h.2.2 o ho)⟩
theorem SFX.fx {s t : ax_S} (h : SFX s t) : FX s t := fun o ho => ⟨h.1 o (by omega), h.2.2 o (by omega)⟩
theorem FrQ.S {s t : ax_S} {o : Nat} (ho : o < 4) (h : FrQ (49 + 3 * o) s t) : SFX s t := ⟨fun p hp => h.1 p (by omega), fun k _ _ _ => by rw [h.1 43 (by omega)], fun p hp => h.2 p (by omega) (by omega)⟩
theorem SFX.I (s : ax_S) {k : Nat} (hk : k = 9 ∨ k = 10 ∨ k = 13) (v : Int32) : SFX s (ax_sI s 43 k v) := ⟨fun p hp => pI1n _ _ _ (by omega), fun j h1 h2 h3 => by rw [pI1, if_neg (by omega)], fun p _ => by rw [pI2]⟩
theorem SFX.E (s : ax_S) {q : Nat} (hq : q = 47 ∨ q = 48) (i : Nat) (x : Int32) : SFX s (ax_sE s q i x) := ⟨fun p _ => by rw [pE1], fun j _ _ _ => by rw [pE1], fun p hp => by rw [pE2n _ _ _ (by omega)]⟩
def rdX (s0 : ax_S) (p : Nat) (u : Int32) : Prop := bt (s0.1 43 3) p = true ∧ bt u p = false ∧ ∀ i, i < 32 → bt (s0.2 46 p) i = true → bt u i = true
def okX (s0 : ax_S) (p : Nat) (r : Int32) : Prop := bt (s0.1 43 5) p = false ∨ s0.2 45 p = r
def flX (s0 : ax_S) (u : Int32) : Prop := ∀ i, i < 32 → bt (s0.1 43 4) i = true → bt u i = true
theorem mfX {s0 st : ax_S} (hS : SFX s0 st) {p : Nat} (hp : p < 10) (u : Int32) : fX5_mayFollow (nI p) u st = some (cif (rdX s0 p u) 1 0, st) := by
  have e3 := hS.2.1 3 (by decide) (by decide) (by decide)
  have e46 := hS.2.2 46 (by decide)
  unfold fX5_mayFollow fX5_mayFollow_b34 fX5_mayFollow_b35
  rw [e3, show (1 : Int32) <<< (nI p &&& 31) = b1 p from rfl]
  have hb : ((s0.1 43 3 &&& (u ^^^ -1)) &&& b1 p = 0) ↔ ¬ (bt (s0.1 43 3) p = true ∧ bt u p = false) := by
    rw [bt_hit _ hp, bt_and, bt_not _ (by omega)]
    cases bt (s0.1 43 3) p <;> cases bt u p <;> simp
  by_cases h1 : bt (s0.1 43 3) p = true ∧ bt u p = false
  · rw [if_neg (fun hh => hb.mp hh h1), pld hp (by decide), e46]
    by_cases h2 : ∀ i, i < 32 → bt (s0.2 46 p) i = true → bt u i = true
    · rw [if_pos ((bt_sub _ _).mpr h2), cif_p ⟨h1.1, h1.2, h2⟩]; exact prz1 st
    · rw [if_neg (fun hh => h2 ((bt_sub _ _).mp hh)), cif_n (fun hh => h2 hh.2.2)]; exact prz0 st
  · rw [if_pos (hb.mpr h1), cif_n (fun hh => h1 ⟨hh.1, hh.2.1⟩)]; exact prz0 st
theorem agX {s0 st : ax_S} (hS : SFX s0 st) {p : Nat} (hp : p < 10) (r : Int32) : fX5_agrees (nI p) r st = some (cif (okX s0 p r) 1 0, st) := by
  have e5 := hS.2.1 5 (by decide) (by decide) (by decide)
  have e45 := hS.2.2 45 (by decide)
  unfold fX5_agrees fX5_agrees_b21 fX5_agrees_b26
  rw [e5, show (1 : Int32) <<< (nI p &&& 31) = b1 p from rfl]
  by_cases h1 : bt (s0.1 43 5) p = false
  · rw [if_pos ((bt_hit _ hp).mpr h1), cif_p (show okX s0 p r from Or.inl h1)]; exact prz1 st
  · rw [if_neg (fun hh => h1 ((bt_hit _ hp).mp hh)), pld hp (by decide), e45]
    by_cases h2 : s0.2 45 p = r
    · rw [if_pos h2, cif_p (show okX s0 p r from Or.inr h2)]; exact prz1 st
    · rw [if_neg h2, cif_n (fun hh => hh.elim h1 h2)]; exact prz0 st
/-! what was found -/
def MkX (st : ax_S) (acc : List pW) : Prop := ∀ r, r < 1999 → (st.2 48 r = 1 ∧ ∃ p ∈ acc, p.2.toInt = (r : Int) - 999) ∨ (st.2 48 r = 0 ∧ ∀ p ∈ acc, p.2.toInt ≠ (r : Int) - 999)
def accX (of : Bool) (wt : Nat) (st : ax_S) (acc : List pW) : Prop :=
  (of = true → (acc = [] ∧ st.1 43 10 = 0) ∨ ∃ q w, acc = [(q, w)] ∧ st.1 43 10 = 1 ∧ st.1 43 9 = nI q.length ∧ ∀ i, i < q.length → st.2 47 i = nI (q.getD i 0)) ∧
  (of = false → st.1 43 10 = nI acc.length ∧ (wt < 10 → MkX st acc))
def cut (of : Bool) (l : List pW) : List pW := if of then l.take 1 else l
theorem cut_cut (of : Bool) (l m : List pW) : cut of (cut of l ++ m) = cut of (l ++ m) := by
  cases of
  · rfl
  · cases l with
    | nil => rfl
    | cons x l => simp [cut]
theorem cut_no {of : Bool} {l : List pW} (h : of = true → l = []) : cut of l = l := by
  cases of
  · rfl
  · rw [h rfl]; rfl
theorem accX_cut {of : Bool} {wt : Nat} {st : ax_S} {acc : List pW} (h : accX of wt st acc) : cut of acc = acc := by
  cases of
  · rfl
  · rcases h.1 rfl with ⟨h1, -⟩ | ⟨q, w, h1, -⟩ <;> rw [h1] <;> rfl
theorem accX_over {of : Bool} {wt : Nat} {st : ax_S} {acc m : List pW} (h : accX of wt st acc) (ho : of = true) (hn : acc ≠ []) : cut of (acc ++ m) = acc := by
  subst ho
  rcases h.1 rfl with ⟨h1, -⟩ | ⟨q, w, h1, -⟩
  · exact absurd h1 hn
  · rw [h1]; rfl
theorem accX_fr {of : Bool} {wt : Nat} {s t : ax_S} {acc : List pW} (h1 : t.1 43 10 = s.1 43 10) (h2 : t.1 43 9 = s.1 43 9) (h3 : t.2 47 = s.2 47) (h4 : t.2 48 = s.2 48) (h : accX of wt s acc) : accX of wt t acc := by
  unfold accX MkX at h ⊢
  rw [h1, h2, h3, h4]
  exact h
theorem accX_fr2 {of : Bool} {wt : Nat} {s t : ax_S} {acc : List pW} (hno : of = true → acc = []) (h1 : t.1 43 10 = s.1 43 10) (h4 : t.2 48 = s.2 48) (h : accX of wt s acc) : accX of wt t acc := by
  refine ⟨fun ho => ?_, fun ho => ?_⟩
  · rcases h.1 ho with ⟨g1, g2⟩ | ⟨q, w, g1, -⟩
    · exact Or.inl ⟨g1, h1.trans g2⟩
    · rw [hno ho] at g1; cases g1
  · have := h.2 ho
    unfold MkX at this ⊢
    rw [h1, h4]
    exact this
theorem noteX {s0 st : ax_S} {of : Bool} {wt : Nat} {acc : List pW} {pre : List Nat} {w : Int32} (hS : SFX s0 st) (hw : (wt < 10 ∧ s0.1 43 12 = nI wt) ∨ (wt = 99 ∧ s0.1 43 12 = -1)) (hpre : ∀ i, i < pre.length → st.2 47 i = nI (pre.getD i 0)) (hwr : wt < 10 → st.1 43 13 = w) (hacc : accX of wt st acc) (hno : of = true → acc = []) : ∃ st', fX5_noteFound (nI pre.length) st = some (0, st') ∧ SFX s0 st' ∧ accX of wt st' (cut of (acc ++ [(pre, w)])) ∧ st'.1 43 13 = st.1 43 13 ∧ st'.2 47 = st.2 47 ∧ (∀ q, 49 ≤ q → st'.1 q = st.1 q ∧ st'.2 q = st.2 q) := by
  have hf : of = true → st.1 43 10 = 0 := fun ho => by
    rcases hacc.1 ho with ⟨-, g⟩ | ⟨q, w, g, -⟩
    · exact g
    · rw [hno ho] at g; cases g
  have hS2 : SFX s0 (ax_sI (ax_sI st 43 10 (st.1 43 10 + 1)) 43 9 (nI pre.length)) := hS.tr ((SFX.I st (Or.inr (Or.inl rfl)) _).tr (SFX.I _ (Or.inl rfl) _))
  have e12 := hS2.2.1 12 (by decide) (by decide) (by decide)
  have c10 : (ax_sI (ax_sI st 43 10 (st.1 43 10 + 1)) 43 9 (nI pre.length)).1 43 10 = st.1 43 10 + 1 := by simp [pI1]
  have c9 : (ax_sI (ax_sI st 43 10 (st.1 43 10 + 1)) 43 9 (nI pre.length)).1 43 9 = nI pre.length := by simp [pI1]
  have c13 : (ax_sI (ax_sI st 43 10 (st.1 43 10 + 1)) 43 9 (nI pre.length)).1 43 13 = st.1 43 13 := by simp [pI1]
  have cA : (ax_sI (ax_sI st 43 10 (st.1 43 10 + 1)) 43 9 (nI pre.length)).2 = st.2 := by rw [pI2, pI2]
  have cq : ∀ q, 49 ≤ q → (ax_sI (ax_sI st 43 10 (st.1 43 10 + 1)) 43 9 (nI pre.length)).1 q = st.1 q := fun q hq => by rw [pI1n _ _ _ (by omega), pI1n _ _ _ (by omega)]
  unfold fX5_noteFound fX5_noteFound_b53
  rw [pt, pt]
  generalize hst2 : ax_sI (ax_sI st 43 10 (st.1 43 10 + 1)) 43 9 (nI pre.length) = st2 at *
  rw [e12]
  have hone : ∀ (t : ax_S), t.1 43 10 = st.1 43 10 + 1 → t.1 43 9 = nI pre.length → t.2 47 = st.2 47 → of = true → (cut of (acc ++ [(pre, w)]) = [] ∧ t.1 43 10 = 0) ∨ ∃ q w', cut of (acc ++ [(pre, w)]) = [(q, w')] ∧ t.1 43 10 = 1 ∧ t.1 43 9 = nI q.length ∧ ∀ i, i < q.length → t.2 47 i = nI (q.getD i 0) := fun t q1 q2 q3 ho => by
    refine Or.inr ⟨pre, w, ?_, ?_, q2, fun i hi => by rw [q3]; exact hpre i hi⟩
    · rw [hno ho, ho]; rfl
    · rw [q1, hf ho]; rfl
  have hcnt : ∀ (t : ax_S), t.1 43 10 = st.1 43 10 + 1 → of = false → t.1 43 10 = nI (cut of (acc ++ [(pre, w)])).length := fun t q1 ho => by
    rw [q1, (hacc.2 ho).1, ho, nI_1]
    simp [cut]
  rcases hw with ⟨h1, h2⟩ | ⟨h1, h2⟩
  · rw [h2, if_neg (fun hh => by rw [qnem1 (by omega)] at hh; exact hh), c13, hwr h1, pbtwX, pb]
    have e1 : (-999 : Int32).toInt = -999 := by decide
    have e2 : (999 : Int32).toInt = 999 := by decide
    by_cases hb : (-999 : Int32) ≤ w ∧ w ≤ 999
    · have hr := rng _ _ _ hb
      have hi : w + 999 = nI (w.toInt + 999).toNat := by
        apply Int32.toInt_inj.mp
        rw [tadd (by omega) (by omega), nI_toInt (by omega)]
        omega
      rw [if_pos hb, if_neg (by decide), c13, hwr h1, hi, psto (by omega) (by decide), nar1]
      refine ⟨_, rfl, hS2.tr (SFX.E _ (Or.inr rfl) _ _), ⟨hone _ (by rw [pE1]; exact c10) (by rw [pE1]; exact c9) (by rw [pE2n _ _ _ (by decide), cA]), fun ho => ⟨hcnt _ (by rw [pE1]; exact c10) ho, fun _ r hr9 => ?_⟩⟩, by rw [pE1, c13]; exact hwr h1, by rw [pE2n _ _ _ (by decide), cA], fun q hq => ⟨by rw [pE1]; exact cq q hq, by rw [pE2n _ _ _ (by omega), cA]⟩⟩
      rw [pE2, if_pos rfl, ho]
      show (_ ∧ ∃ p ∈ acc ++ [(pre, w)], _) ∨ (_ ∧ ∀ p ∈ acc ++ [(pre, w)], _)
      by_cases hrr : r = (w.toInt + 999).toNat
      · rw [if_pos hrr]
        exact Or.inl ⟨rfl, (pre, w), List.mem_append.mpr (Or.inr (List.mem_singleton.mpr rfl)), by show w.toInt = _; omega⟩
      · rw [if_neg hrr, cA]
        rcases (hacc.2 ho).2 h1 r hr9 with ⟨g1, p, g2, g3⟩ | ⟨g1, g2⟩
        · exact Or.inl ⟨g1, p, List.mem_append.mpr (Or.inl g2), g3⟩
        · refine Or.inr ⟨g1, fun p hp => ?_⟩
          rcases List.mem_append.mp hp with hp | hp
          · exact g2 p hp
          · rw [List.mem_singleton.mp hp]
            show w.toInt ≠ _
            omega
    · rw [if_neg hb, if_pos rfl]
      refine ⟨_, rfl, hS2, ⟨hone _ c10 c9 (by rw [cA]), fun ho => ⟨hcnt _ c10 ho, fun _ r hr9 => ?_⟩⟩, by rw [c13]; exact hwr h1, by rw [cA], fun q hq => ⟨cq q hq, by rw [cA]⟩⟩
      rw [ho, cA]
      show (_ ∧ ∃ p ∈ acc ++ [(pre, w)], _) ∨ (_ ∧ ∀ p ∈ acc ++ [(pre, w)], _)
      rcases (hacc.2 ho).2 h1 r hr9 with ⟨g1, p, g2, g3⟩ | ⟨g1, g2⟩
      · exact Or.inl ⟨g1, p, List.mem_append.mpr (Or.inl g2), g3⟩
      · refine Or.inr ⟨g1, fun p hp => ?_⟩
        rcases List.mem_append.mp hp with hp | hp
        · exact g2 p hp
        · rw [List.mem_singleton.mp hp]
          show w.toInt ≠ _
          intro hh
          apply hb
          rw [Int32.le_iff_toInt_le, Int32.le_iff_toInt_le, e1, e2]
          omega
  · rw [h2, if_pos rfl]
    exact ⟨_, rfl, hS2, ⟨hone _ c10 c9 (by rw [cA]), fun ho => ⟨hcnt _ c10 ho, fun hlt => by omega⟩⟩, c13, by rw [cA], fun q hq => ⟨cq q hq, by rw [cA]⟩⟩
theorem ovX_n {s0 st : ax_S} {of : Bool} {wt : Nat} {acc : List pW} (hS : SFX s0 st) (h11 : s0.1 43 11 = if of then 1 else 0) (hacc : accX of wt st acc) (hno : of = true → acc = []) : fX5_isOver st = some (0, st) := by
  have e11 := hS.2.1 11 (by decide) (by decide) (by decide)
  unfold fX5_isOver fX5_isOver_b18 fX5_isOver_b19
  rw [e11, h11]
  cases of
  · rw [if_pos (by decide)]; exact prz0 st
  · have hf : st.1 43 10 = 0 := by
      rcases hacc.1 rfl with ⟨-, g⟩ | ⟨q, w, g, -⟩
      · exact g
      · rw [hno rfl] at g; cases g
    rw [if_neg (by decide), hf, if_pos (by decide)]; exact prz0 st
theorem ovX_p {s0 st : ax_S} {of : Bool} {wt : Nat} {acc : List pW} (hS : SFX s0 st) (h11 : s0.1 43 11 = if of then 1 else 0) (hacc : accX of wt st acc) (ho : of = true) (hn : acc ≠ []) : fX5_isOver st = some (1, st) := by
  have e11 := hS.2.1 11 (by decide) (by decide) (by decide)
  unfold fX5_isOver fX5_isOver_b18 fX5_isOver_b19
  subst ho
  have hf : st.1 43 10 = 1 := by
    rcases hacc.1 rfl with ⟨g, -⟩ | ⟨q, w, -, g, -⟩
    · exact absurd g hn
    · exact g
  rw [e11, h11, if_neg (by decide), hf, if_neg (by decide)]; exact prz1 st
/-! the search -/
def CtX (s0 : ax_S) (n : vN) (a : vA) (c : vC) (of : Bool) (wt : Nat) : Prop := Good n a c ∧ RX 1 s0 n a c ∧ ((wt < 10 ∧ s0.1 43 12 = nI wt) ∨ (wt = 99 ∧ s0.1 43 12 = -1)) ∧ s0.1 43 11 = (if of then 1 else 0) ∧ (wt < 10 → bt (s0.1 43 4) wt = true)
def StX (s0 : ax_S) (n : vN) (of : Bool) (wt : Nat) (pre : List Nat) (u w : Int32) (st : ax_S) (s : oS) (acc : List pW) : Prop := SFX s0 st ∧ RpX (n 0) st s ∧ (∀ i, i < pre.length → st.2 47 i = nI (pre.getD i 0)) ∧ (bt u wt = true → st.1 43 13 = w) ∧ accX of wt st acc
def ReX (s0 : ax_S) (n : vN) (of : Bool) (wt : Nat) (pre : List Nat) (u : Int32) (st : ax_S) (s : oS) (acc : List pW) (st' : ax_S) : Prop := SFX s0 st' ∧ RpX (n 0) st' s ∧ (∀ i, i < pre.length → st'.2 47 i = st.2 47 i) ∧ (bt u wt = true → st'.1 43 13 = st.1 43 13) ∧ accX of wt st' acc
noncomputable def SX (s0 : ax_S) (n : vN) (a : vA) (c : vC) (wt f : Nat) (u : Int32) (s : oS) (w : Int32) : List pW := spx (n 1) (rdX s0) (okX s0) (flX s0) (exo a c) wt f u s w
def pm (pre : List Nat) (l : List pW) : List pW := l.map (fun z => (pre ++ z.1, z.2))
theorem pm_app (pre : List Nat) (l m : List pW) : pm pre (l ++ m) = pm pre l ++ pm pre m := List.map_append
theorem pm_cons (pre : List Nat) (p : Nat) (l : List pW) : pm pre (l.map (fun z => (p :: z.1, z.2))) = pm (pre ++ [p]) l := by
  unfold pm
  rw [List.map_map]
  congr 1
  funext z
  simp
def ExX (s0 : ax_S) (n : vN) (a : vA) (c : vC) (of : Bool) (wt : Nat) (rc : Int32 → Int32 → ax_S → ax_R) (f : Nat) : Prop :=
  ∀ (st : ax_S) (u : Int32) (s : oS) (w : Int32) (pre : List Nat) (acc : List pW), pre.length + f = 10 → StX s0 n of wt pre u w st s acc → IV s pre.length → (of = true → acc = []) → ∃ st', rc u (nI pre.length) st = some (0, st') ∧ ReX s0 n of wt pre u st s (cut of (acc ++ pm pre (SX s0 n a c wt f u s w))) st'
theorem getq {o : Nat} (h : o < 4) : [49, 52, 55, 58].getD o 0 = 49 + 3 * o := by
  rcases (show o = 0 ∨ o = 1 ∨ o = 2 ∨ o = 3 by omega) with rfl | rfl | rfl | rfl <;> rfl
theorem tryX {s0 : ax_S} {n : vN} {a : vA} {c : vC} {of : Bool} {wt f : Nat} {rc : Int32 → Int32 → ax_S → ax_R} (hC : CtX s0 n a c of wt) (hrc : ExX s0 n a c of wt rc f) {p : Nat} (hp : p < n 1) {st : ax_S} {u : Int32} {s : oS} {w : Int32} {pre : List Nat} {acc : List pW} (hlen : pre.length + (f + 1) = 10) (hst : StX s0 n of wt pre u w st s acc) (hI : IV s pre.length) (hno : of = true → acc = []) (hrd : rdX s0 p u) : ∃ st', fX5_tryNext rc (nI p) u (nI pre.length) st = some (0, st') ∧ ReX s0 n of wt pre u st s (cut of (acc ++ pm pre (spb (rdX s0) (okX s0) (exo a c) wt (SX s0 n a c wt f) u s w p))) st' := by
  obtain ⟨hG, hX, hw, h11, hwr⟩ := hC
  obtain ⟨hS, hR, hpre, hwat, hacc⟩ := hst
  have hb := hG.b
  have hX1 := RX1_fr hS.fx hX
  have ho := (hG.o p hp).1
  have hr := hG.r p
  have hcc := hG.cc p
  have hup : bt u p = false := hrd.2.1
  unfold fX5_tryNext fX5_tryNext_b79 fX5_tryNext_b108
  rw [pld (by omega) (by decide), X_ob hX1 (by omega), pldq (by show a 5 p < 4; omega) (by decide), getq (by omega), pld (by omega) (by decide), X_kd hX1 (by omega), pld (by omega) (by decide), X_fa hX1 (by omega), pld (by omega) (by decide), X_sa hX1 (by omega)]
  obtain ⟨s1, e1, r1, f1⟩ := perfX (hR _ ho) (hI (a 5 p)) (by omega) hr.1 hcc.2.1.2 hcc.2.2.1 (y := c 7 p)
  rw [e1, pb, (hR _ ho).1]
  have hz : (exl (s (a 5 p)) (a 3 p) (c 6 p) (c 7 p)).1 = (exo a c s p).1 := rfl
  have hs' : (exo a c s p).2 = uf s (a 5 p) (exl (s (a 5 p)) (a 3 p) (c 6 p) (c 7 p)).2 := rfl
  have hR1 : RpX (n 0) s1 (exo a c s p).2 := RpX_set hR f1 r1
  have hS1 : SFX s0 s1 := hS.tr (f1.S (by omega))
  have e12 := hS1.2.1 12 (by decide) (by decide) (by decide)
  have g43 : s1.1 43 = st.1 43 := f1.1 43 (by omega)
  have g47 : s1.2 47 = st.2 47 := f1.2 47 (by omega) (by omega)
  have g48 : s1.2 48 = st.2 48 := f1.2 48 (by omega) (by omega)
  -- the watched result
  obtain ⟨s2, k1, k2, k3, k4, k5, k6, k7, k8⟩ : ∃ s2, (∀ G : ax_S → ax_R, (if nI p = s1.1 43 12 then ax_then (ax_sI s1 43 13 (exo a c s p).1) (fun st8 => G st8) else G s1) = G s2) ∧ SFX s0 s2 ∧ RpX (n 0) s2 (exo a c s p).2 ∧ s2.2 = s1.2 ∧ (∀ k, k ≠ 13 → s2.1 43 k = st.1 43 k) ∧ (bt u wt = true → s2.1 43 13 = st.1 43 13) ∧ (p = wt → s2.1 43 13 = (exo a c s p).1) ∧ (p ≠ wt → s2.1 43 13 = st.1 43 13) := by
    by_cases hpw : p = wt
    · have hwt : wt < 10 := by omega
      have h12 : s1.1 43 12 = nI wt := by
        rw [e12]
        rcases hw with ⟨-, h⟩ | ⟨h, -⟩
        · exact h
        · omega
      refine ⟨ax_sI s1 43 13 (exo a c s p).1, fun G => by rw [if_pos (by rw [h12, hpw])]; rfl, hS1.tr (SFX.I _ (Or.inr (Or.inr rfl)) _), RpX_fr (by omega) (fun q h1 h2 => ⟨pI1n _ _ _ (by omega), by rw [pI2]⟩) hR1, by rw [pI2], fun k hk => by rw [pI1, if_neg (by omega), g43], fun hh => ?_, fun _ => by rw [pI1, if_pos ⟨rfl, rfl⟩], fun hh => absurd hpw hh⟩
      rw [← hpw, hup] at hh
      cases hh
    · have h12 : ¬ nI p = s1.1 43 12 := by
        rw [e12]
        rcases hw with ⟨h1, h⟩ | ⟨-, h⟩
        · rw [h]; intro hh; exact hpw ((nI_eq (by omega) (by omega)).mp hh)
        · rw [h]; intro hh; rw [qnem1 (by omega)] at hh; exact hh
      exact ⟨s1, fun G => by rw [if_neg h12], hS1, hR1, rfl, fun k _ => by rw [g43], fun _ => by rw [g43], fun hh => absurd hh hpw, fun _ => by rw [g43]⟩
  rw [hz, k1 (fun st8 => ax_bind (fX5_agrees (nI p) (exo a c s p).1 st8) _), agX k2 (by omega), pb]
  have hacc2 : accX of wt s2 acc := accX_fr2 hno (k5 10 (by decide)) (by rw [k4, g48]) hacc
  have hIV := exo_iv hG.cc hI (by omega) p
  by_cases hok : okX s0 p (exo a c s p).1
  · rw [cif_p hok, if_neg (by decide), psto (by omega) (by decide), nI_1]
    have hl1 : (pre ++ [p]).length = pre.length + 1 := by simp
    have hstX : StX s0 n of wt (pre ++ [p]) (u ||| b1 p) (if p = wt then (exo a c s p).1 else w) (ax_sE s2 47 pre.length (nI p)) (exo a c s p).2 acc := by
      refine ⟨k2.tr (SFX.E _ (Or.inl rfl) _ _), RpX_fr (by omega) (fun q h1 h2 => ⟨by rw [pE1], pE2n _ _ _ (by omega)⟩) k3, fun i hi => ?_, fun hh => ?_, accX_fr2 hno (by rw [pE1]) (pE2n _ _ _ (by decide)) hacc2⟩
      · rw [hl1] at hi
        rw [pE2, if_pos rfl]
        by_cases hil : i = pre.length
        · rw [if_pos hil, hil]
          simp [List.getD]
        · rw [if_neg hil, k4, g47, hpre i (by omega)]
          congr 1
          simp only [List.getD]
          rw [List.getElem?_append_left (by omega)]
      · rw [pE1]
        by_cases hpw : p = wt
        · rw [if_pos hpw]; exact k7 hpw
        · rw [if_neg hpw, k8 hpw]
          refine hwat ?_
          rw [bt_or, bt_b1 (by omega)] at hh
          have : decide (wt = p) = false := decide_eq_false (fun h => hpw h.symm)
          rw [this, Bool.or_false] at hh
          exact hh
    obtain ⟨s4, q1, q2, q3, q4, q5, q6⟩ := hrc _ _ _ _ (pre ++ [p]) acc (by rw [hl1]; omega) hstX (by rw [hl1]; exact hIV.1) hno
    rw [hl1] at q1
    have hbp : (1 : Int32) <<< (nI p &&& 31) = b1 p := rfl
    rw [hbp, q1, pb]
    have hq3 := q3 _ ho
    rw [hs', uf_s] at hq3
    obtain ⟨s5, t1, t2, t3⟩ := takeX (hI (a 5 p)) (by omega) hr.1 hcc.2.1.2 hcc.2.2.1 hq3
    rw [hz] at t1
    rw [t1, pb]
    have u43 : s5.1 43 = s4.1 43 := t3.1 43 (by omega)
    have u47 : s5.2 47 = s4.2 47 := t3.2 47 (by omega) (by omega)
    have u48 : s5.2 48 = s4.2 48 := t3.2 48 (by omega) (by omega)
    refine ⟨s5, rfl, q2.tr (t3.S (by omega)), ?_, fun i hi => ?_, fun hh => ?_, ?_⟩
    · have := RpX_set q3 t3 t2
      rw [hs', uf_uf] at this
      exact this
    · rw [u47, q4 i (by rw [hl1]; omega), pE2, if_pos rfl, if_neg (by omega), k4, g47]
    · have hb2 : bt (u ||| b1 p) wt = true := by rw [bt_or, hh]; rfl
      rw [u43, q5 hb2, pE1, k6 hh]
    · have : pm pre (spb (rdX s0) (okX s0) (exo a c) wt (SX s0 n a c wt f) u s w p) = pm (pre ++ [p]) (SX s0 n a c wt f (u ||| b1 p) (exo a c s p).2 (if p = wt then (exo a c s p).1 else w)) := by
        unfold spb
        rw [cif_p ⟨hrd, hok⟩, pm_cons]
      rw [this]
      exact accX_fr (by rw [u43]) (by rw [u43]) u47 u48 q6
  · rw [cif_n hok, if_pos rfl]
    have hq3 := k3 _ ho
    rw [hs', uf_s] at hq3
    obtain ⟨s5, t1, t2, t3⟩ := takeX (hI (a 5 p)) (by omega) hr.1 hcc.2.1.2 hcc.2.2.1 hq3
    rw [hz] at t1
    rw [t1, pb]
    have u43 : s5.1 43 = s2.1 43 := t3.1 43 (by omega)
    have u47 : s5.2 47 = s2.2 47 := t3.2 47 (by omega) (by omega)
    have u48 : s5.2 48 = s2.2 48 := t3.2 48 (by omega) (by omega)
    refine ⟨s5, rfl, k2.tr (t3.S (by omega)), ?_, fun i hi => ?_, fun hh => ?_, ?_⟩
    · have := RpX_set k3 t3 t2
      rw [hs', uf_uf] at this
      exact this
    · rw [u47, k4, g47]
    · rw [u43, k6 hh]
    · have : pm pre (spb (rdX s0) (okX s0) (exo a c) wt (SX s0 n a c wt f) u s w p) = [] := by
        unfold spb
        rw [cif_n (fun hh => hok hh.2)]
        rfl
      rw [this, List.append_nil, cut_no hno]
      exact accX_fr2 hno (by rw [u43]) u48 hacc2
theorem loopX {s0 : ax_S} {n : vN} {a : vA} {c : vC} {of : Bool} {wt f : Nat} {rc : Int32 → Int32 → ax_S → ax_R} (hC : CtX s0 n a c of wt) (hrc : ExX s0 n a c of wt rc f) {u : Int32} {s : oS} {w : Int32} {pre : List Nat} (hlen : pre.length + (f + 1) = 10) (hI : IV s pre.length) : ∀ (d m i : Nat) (st : ax_S) (acc : List pW), i + d = n 1 → d < m → StX s0 n of wt pre u w st s acc → ∃ st', fX5_extend_L25 rc m u (nI pre.length) (nI i) st = some (0, st') ∧ ReX s0 n of wt pre u st s (cut of (acc ++ pm pre (spw (spb (rdX s0) (okX s0) (exo a c) wt (SX s0 n a c wt f) u s w) d i))) st' := by
  have hb := hC.1.b
  intro d
  induction d with
  | zero =>
    intro m i st acc hi hm hst
    obtain ⟨m, rfl⟩ : ∃ k, m = k + 1 := ⟨m - 1, by omega⟩
    have hX1 := RX1_fr hst.1.fx hC.2.1
    refine ⟨st, ?_, hst.1, hst.2.1, fun _ _ => rfl, fun _ => rfl, ?_⟩
    · rw [fX5_extend_L25, X_n1 hX1, if_pos (nI_le (by omega) (by omega)), fX5_extend_b65]
    · show accX of wt st (cut of (acc ++ []))
      rw [List.append_nil, accX_cut hst.2.2.2.2]
      exact hst.2.2.2.2
  | succ d ih =>
    intro m i st acc hi hm hst
    obtain ⟨m, rfl⟩ : ∃ k, m = k + 1 := ⟨m - 1, by omega⟩
    have hX1 := RX1_fr hst.1.fx hC.2.1
    rw [fX5_extend_L25, X_n1 hX1, if_neg (nI_ge (by omega) (by omega))]
    by_cases hov : of = true ∧ acc ≠ []
    · rw [ovX_p hst.1 hC.2.2.2.1 hst.2.2.2.2 hov.1 hov.2, pb, if_neg (by decide), fX5_extend_b65]
      refine ⟨st, rfl, hst.1, hst.2.1, fun _ _ => rfl, fun _ => rfl, ?_⟩
      rw [accX_over hst.2.2.2.2 hov.1 hov.2]
      exact hst.2.2.2.2
    · have hno : of = true → acc = [] := fun ho => Classical.byContradiction (fun hn => hov ⟨ho, hn⟩)
      rw [ovX_n hst.1 hC.2.2.2.1 hst.2.2.2.2 hno, pb, if_pos rfl, mfX hst.1 (by omega), pb]
      by_cases hrd : rdX s0 i u
      · obtain ⟨s1, t1, t2⟩ := tryX hC hrc (p := i) (by omega) hlen hst hI hno hrd
        rw [cif_p hrd, if_neg (by decide), t1, pb, fX5_extend_b59, nI_1]
        obtain ⟨t2a, t2b, t2c, t2d, t2e⟩ := t2
        have hst1 : StX s0 n of wt pre u w s1 s (cut of (acc ++ pm pre (spb (rdX s0) (okX s0) (exo a c) wt (SX s0 n a c wt f) u s w i))) := ⟨t2a, t2b, fun j hj => by rw [t2c j hj]; exact hst.2.2.1 j hj, fun hh => by rw [t2d hh]; exact hst.2.2.2.1 hh, t2e⟩
        obtain ⟨s2, v1, v2, v3, v4, v5, v6⟩ := ih m (i + 1) s1 _ (by omega) (by omega) hst1
        refine ⟨s2, v1, v2, v3, fun j hj => by rw [v4 j hj, t2c j hj], fun hh => by rw [v5 hh, t2d hh], ?_⟩
        rw [cut_cut, List.append_assoc, ← pm_app] at v6
        exact v6
      · rw [cif_n hrd, if_pos rfl, fX5_extend_b59, nI_1]
        obtain ⟨s2, v1, v2⟩ := ih m (i + 1) st acc (by omega) (by omega) hst
        refine ⟨s2, v1, ?_⟩
        have : spw (spb (rdX s0) (okX s0) (exo a c) wt (SX s0 n a c wt f) u s w) (d + 1) i = spw (spb (rdX s0) (okX s0) (exo a c) wt (SX s0 n a c wt f) u s w) d (i + 1) := by
          rw [spw]
          have h0 : spb (rdX s0) (okX s0) (exo a c) wt (SX s0 n a c wt f) u s w i = [] := by
            unfold spb
            exact cif_n (fun hh => hrd hh.1) _ _
          rw [h0, List.nil_append]
        rw [this]
        exact v2
theorem extX {s0 : ax_S} {n : vN} {a : vA} {c : vC} {of : Bool} {wt : Nat} (hC : CtX s0 n a c of wt) : ∀ (f m : Nat), f < m → ExX s0 n a c of wt (fX5_extend m) f := by
  intro f
  induction f with
  | zero =>
    intro m hm st u s w pre acc hlen hst hI hno
    obtain ⟨m, rfl⟩ : ∃ k, m = k + 1 := ⟨m - 1, by omega⟩
    rw [fX5_extend]
    unfold fX5_extend_o fX5_extend_b16
    have e4 := hst.1.2.1 4 (by decide) (by decide) (by decide)
    have hl : ¬ (nI pre.length < (10 : Int32)) := fun hh => absurd ((qgt_10 (by omega)).mp hh) (by omega)
    rw [e4]
    show ∃ st', _ ∧ ReX s0 n of wt pre u st s (cut of (acc ++ pm pre (cif (flX s0 u) [([], w)] []))) st'
    by_cases hfl : flX s0 u
    · rw [if_pos ((bt_sub _ _).mpr hfl), cif_p hfl]
      obtain ⟨s1, g1, g2, g3, g4, g5, g6⟩ := noteX (w := w) hst.1 hC.2.2.1 hst.2.2.1 (fun hw => hst.2.2.2.1 (hfl wt (by omega) (hC.2.2.2.2 hw))) hst.2.2.2.2 hno
      rw [g1, pb, if_neg hl]
      refine ⟨s1, rfl, g2, RpX_fr hC.1.b.1 (fun q h1 _ => g6 q h1) hst.2.1, fun i _ => by rw [g5], fun _ => g4, ?_⟩
      have : pm pre [(([] : List Nat), w)] = [(pre, w)] := by simp [pm]
      rw [this]
      exact g3
    · rw [if_neg (fun hh => hfl ((bt_sub _ _).mp hh)), cif_n hfl, if_neg hl]
      refine ⟨st, rfl, hst.1, hst.2.1, fun _ _ => rfl, fun _ => rfl, ?_⟩
      show accX of wt st (cut of (acc ++ []))
      rw [List.append_nil, cut_no hno]
      exact hst.2.2.2.2
  | succ f ih =>
    intro m hm st u s w pre acc hlen hst hI hno
    obtain ⟨m, rfl⟩ : ∃ k, m = k + 1 := ⟨m - 1, by omega⟩
    rw [fX5_extend]
    unfold fX5_extend_o fX5_extend_b16
    have hb := hC.1.b
    have e4 := hst.1.2.1 4 (by decide) (by decide) (by decide)
    have hl : nI pre.length < (10 : Int32) := (qgt_10 (by omega)).mpr (by omega)
    rw [e4]
    show ∃ st', _ ∧ ReX s0 n of wt pre u st s (cut of (acc ++ pm pre (cif (flX s0 u) [([], w)] [] ++ spw (spb (rdX s0) (okX s0) (exo a c) wt (SX s0 n a c wt f) u s w) (n 1) 0))) st'
    by_cases hfl : flX s0 u
    · rw [if_pos ((bt_sub _ _).mpr hfl), cif_p hfl]
      obtain ⟨s1, g1, g2, g3, g4, g5, g6⟩ := noteX (w := w) hst.1 hC.2.2.1 hst.2.2.1 (fun hw => hst.2.2.2.1 (hfl wt (by omega) (hC.2.2.2.2 hw))) hst.2.2.2.2 hno
      rw [g1, pb, if_pos hl]
      have hst1 : StX s0 n of wt pre u w s1 s (cut of (acc ++ [(pre, w)])) := ⟨g2, RpX_fr hC.1.b.1 (fun q h1 _ => g6 q h1) hst.2.1, fun j hj => by rw [g5]; exact hst.2.2.1 j hj, fun hh => by rw [g4]; exact hst.2.2.2.1 hh, g3⟩
      obtain ⟨s2, v1, v2, v3, v4, v5, v6⟩ := loopX hC (ih m (by omega)) hlen hI (n 1) 4000 0 s1 _ (by omega) (by omega) hst1
      rw [nI_0] at v1
      refine ⟨s2, v1, v2, v3, fun j hj => by rw [v4 j hj, g5], fun hh => by rw [v5 hh, g4], ?_⟩
      have : pm pre [(([] : List Nat), w)] = [(pre, w)] := by simp [pm]
      rw [pm_app, this, ← List.append_assoc]
      rw [cut_cut] at v6
      exact v6
    · rw [if_neg (fun hh => hfl ((bt_sub _ _).mp hh)), cif_n hfl, if_pos hl]
      obtain ⟨s2, v1, v2⟩ := loopX hC (ih m (by omega)) hlen hI (n 1) 4000 0 st acc (by omega) (by omega) hst
      rw [nI_0] at v1
      exact ⟨s2, v1, v2⟩
