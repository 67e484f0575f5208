/-! THE PURE PART: the search as a list of what it finds. An object's value, head, tail, slots, elements; an operation on it; the sequences found, each with what the watched operation gave. -/
abbrev oT : Type := Int32 × Nat × Nat × (Nat → Int32) × (Nat → Bool)
abbrev oS : Type := Nat → oT
def uf {α : Type} (f : Nat → α) (o : Nat) (x : α) : Nat → α := fun p => if p = o then x else f p
theorem uf_s {α : Type} (f : Nat → α) (o : Nat) (x : α) : uf f o x o = x := if_pos rfl
theorem uf_n {α : Type} (f : Nat → α) {o p : Nat} (x : α) (h : p ≠ o) : uf f o x p = f p := if_neg h
def xi (x : Int32) : Nat := x.toNatClampNeg
def exl (z : oT) (k : Nat) (x y : Int32) : Int32 × oT :=
  if k = 1 then (0, (x, z.2))
  else if k = 2 then (if z.1 = x then (1, (y, z.2)) else (0, z))
  else if k = 4 then (z.1, (z.1 + x, z.2))
  else if k = 5 then (0, (z.1, z.2.1, z.2.2.1 + 1, uf z.2.2.2.1 z.2.2.1 x, z.2.2.2.2))
  else if k = 6 then (if z.2.1 = z.2.2.1 then (-1, z) else (z.2.2.2.1 z.2.1, (z.1, z.2.1 + 1, z.2.2)))
  else if k = 7 then (if z.2.2.2.2 (xi x) then 0 else 1, (z.1, z.2.1, z.2.2.1, z.2.2.2.1, uf z.2.2.2.2 (xi x) true))
  else if k = 8 then (if z.2.2.2.2 (xi x) then 1 else 0, (z.1, z.2.1, z.2.2.1, z.2.2.2.1, uf z.2.2.2.2 (xi x) false))
  else if k = 9 then (if z.2.2.2.2 (xi x) then 1 else 0, z)
  else (z.1, z)
def IVt (z : oT) (d : Nat) : Prop := z.2.1 ≤ z.2.2.1 ∧ z.2.2.1 ≤ d ∧ (-99 * ((d : Int) + 1) ≤ z.1.toInt ∧ z.1.toInt ≤ 99 * ((d : Int) + 1)) ∧ ∀ j, j < z.2.2.1 → 0 ≤ (z.2.2.2.1 j).toInt ∧ (z.2.2.2.1 j).toInt ≤ 99
theorem t0 : (0 : Int32).toInt = 0 := by decide
theorem t1 : (1 : Int32).toInt = 1 := by decide
theorem tm1 : (-1 : Int32).toInt = -1 := by decide
theorem tadd {x y : Int32} (h1 : -100000 ≤ x.toInt ∧ x.toInt ≤ 100000) (h2 : -100000 ≤ y.toInt ∧ y.toInt ≤ 100000) : (x + y).toInt = x.toInt + y.toInt := by
  rw [Int32.toInt_add, Int.bmod_def]
  omega
theorem IVt_up {z : oT} {d e : Nat} (h : IVt z d) (hde : d ≤ e) : IVt z e := ⟨h.1, by have := h.2.1; omega, ⟨by have := h.2.2.1; omega, by have := h.2.2.1; omega⟩, h.2.2.2⟩
theorem exl_iv {z : oT} {d k : Nat} {x y : Int32} (h : IVt z d) (hd : d < 10) (hx : -99 ≤ x.toInt ∧ x.toInt ≤ 99) (hx4 : k ≠ 4 → 0 ≤ x.toInt) (hy : 0 ≤ y.toInt ∧ y.toInt ≤ 99) : IVt (exl z k x y).2 (d + 1) ∧ -1100 ≤ (exl z k x y).1.toInt ∧ (exl z k x y).1.toInt ≤ 1099 := by
  obtain ⟨h1, h2, h3, h4⟩ := h
  have hz : IVt z (d + 1) := IVt_up ⟨h1, h2, h3, h4⟩ (by omega)
  have b0 : -1100 ≤ (0 : Int32).toInt ∧ (0 : Int32).toInt ≤ 1099 := by decide
  have b1' : -1100 ≤ (1 : Int32).toInt ∧ (1 : Int32).toInt ≤ 1099 := by decide
  have bm1 : -1100 ≤ (-1 : Int32).toInt ∧ (-1 : Int32).toInt ≤ 1099 := by decide
  have bv : -1100 ≤ z.1.toInt ∧ z.1.toInt ≤ 1099 := by omega
  unfold exl
  by_cases e1 : k = 1
  · rw [if_pos e1]
    exact ⟨⟨h1, by show z.2.2.1 ≤ d + 1; omega, ⟨by show _ ≤ x.toInt; omega, by show x.toInt ≤ _; omega⟩, h4⟩, b0⟩
  rw [if_neg e1]
  by_cases e2 : k = 2
  · rw [if_pos e2]
    by_cases c : z.1 = x
    · rw [if_pos c]
      exact ⟨⟨h1, by show z.2.2.1 ≤ d + 1; omega, ⟨by show _ ≤ y.toInt; omega, by show y.toInt ≤ _; omega⟩, h4⟩, b1'⟩
    · rw [if_neg c]
      exact ⟨hz, b0⟩
  rw [if_neg e2]
  by_cases e4 : k = 4
  · rw [if_pos e4]
    have := tadd (x := z.1) (y := x) (by omega) (by omega)
    exact ⟨⟨h1, by show z.2.2.1 ≤ d + 1; omega, ⟨by show _ ≤ (z.1 + x).toInt; omega, by show (z.1 + x).toInt ≤ _; omega⟩, h4⟩, bv⟩
  rw [if_neg e4]
  by_cases e5 : k = 5
  · rw [if_pos e5]
    refine ⟨⟨by show z.2.1 ≤ z.2.2.1 + 1; omega, by show z.2.2.1 + 1 ≤ d + 1; omega, hz.2.2.1, fun j hj => ?_⟩, b0⟩
    have hj : j < z.2.2.1 + 1 := hj
    show 0 ≤ (uf z.2.2.2.1 z.2.2.1 x j).toInt ∧ (uf z.2.2.2.1 z.2.2.1 x j).toInt ≤ 99
    unfold uf
    split
    · exact ⟨hx4 e4, hx.2⟩
    · exact h4 j (by omega)
  rw [if_neg e5]
  by_cases e6 : k = 6
  · rw [if_pos e6]
    by_cases c : z.2.1 = z.2.2.1
    · rw [if_pos c]
      exact ⟨hz, bm1⟩
    · rw [if_neg c]
      have := h4 z.2.1 (by omega)
      exact ⟨⟨by show z.2.1 + 1 ≤ z.2.2.1; omega, by show z.2.2.1 ≤ d + 1; omega, hz.2.2.1, h4⟩, by show -1100 ≤ (z.2.2.2.1 z.2.1).toInt; omega, by show (z.2.2.2.1 z.2.1).toInt ≤ 1099; omega⟩
  rw [if_neg e6]
  by_cases e7 : k = 7
  · rw [if_pos e7]
    refine ⟨⟨h1, by show z.2.2.1 ≤ d + 1; omega, hz.2.2.1, h4⟩, ?_⟩
    show -1100 ≤ (if z.2.2.2.2 (xi x) = true then (0 : Int32) else 1).toInt ∧ (if z.2.2.2.2 (xi x) = true then (0 : Int32) else 1).toInt ≤ 1099
    split
    · exact b0
    · exact b1'
  rw [if_neg e7]
  by_cases e8 : k = 8
  · rw [if_pos e8]
    refine ⟨⟨h1, by show z.2.2.1 ≤ d + 1; omega, hz.2.2.1, h4⟩, ?_⟩
    show -1100 ≤ (if z.2.2.2.2 (xi x) = true then (1 : Int32) else 0).toInt ∧ (if z.2.2.2.2 (xi x) = true then (1 : Int32) else 0).toInt ≤ 1099
    split
    · exact b1'
    · exact b0
  rw [if_neg e8]
  by_cases e9 : k = 9
  · rw [if_pos e9]
    refine ⟨hz, ?_⟩
    show -1100 ≤ (if z.2.2.2.2 (xi x) = true then (1 : Int32) else 0).toInt ∧ (if z.2.2.2.2 (xi x) = true then (1 : Int32) else 0).toInt ≤ 1099
    split
    · exact b1'
    · exact b0
  rw [if_neg e9]
  exact ⟨hz, bv⟩
/-- an operation of the recording -/
def exo (a : vA) (c : vC) (s : oS) (p : Nat) : Int32 × oS := ((exl (s (a 5 p)) (a 3 p) (c 6 p) (c 7 p)).1, uf s (a 5 p) (exl (s (a 5 p)) (a 3 p) (c 6 p) (c 7 p)).2)
def IV (s : oS) (d : Nat) : Prop := ∀ o, IVt (s o) d
theorem exo_iv {a : vA} {c : vC} (hC : GdC a c) {s : oS} {d : Nat} (h : IV s d) (hd : d < 10) (p : Nat) : IV (exo a c s p).2 (d + 1) ∧ -1100 ≤ (exo a c s p).1.toInt ∧ (exo a c s p).1.toInt ≤ 1099 := by
  have hc := hC p
  have h1 := exl_iv (h (a 5 p)) hd (k := a 3 p) (x := c 6 p) (y := c 7 p) hc.2.1 hc.2.2.1 hc.2.2.2
  refine ⟨fun o => ?_, h1.2⟩
  show IVt (uf s (a 5 p) (exl (s (a 5 p)) (a 3 p) (c 6 p) (c 7 p)).2 o) (d + 1)
  by_cases ho : o = a 5 p
  · rw [ho, uf_s]; exact h1.1
  · rw [uf_n _ _ ho]; exact IVt_up (h o) (by omega)
/-! lists -/
noncomputable def cif {α : Type} (P : Prop) (x y : α) : α := @ite α P (Classical.propDecidable P) x y
theorem cif_p {α : Type} {P : Prop} (h : P) (x y : α) : cif P x y = x := if_pos h
theorem cif_n {α : Type} {P : Prop} (h : ¬ P) (x y : α) : cif P x y = y := if_neg h
theorem cif_c {α : Type} {P Q : Prop} (h : P ↔ Q) (x y : α) : cif P x y = cif Q x y := by
  rw [propext h]
def spw {α : Type} (g : Nat → List α) : Nat → Nat → List α
  | 0, _ => []
  | d + 1, i => g i ++ spw g d (i + 1)
theorem mem_spw {α : Type} (g : Nat → List α) (x : α) : ∀ (d i : Nat), x ∈ spw g d i ↔ ∃ j, i ≤ j ∧ j < i + d ∧ x ∈ g j := by
  intro d
  induction d with
  | zero =>
    intro i
    refine ⟨fun h => (by simp [spw] at h), fun ⟨j, h1, h2, _⟩ => by omega⟩
  | succ d ih =>
    intro i
    rw [spw, List.mem_append, ih]
    constructor
    · rintro (h | ⟨j, h1, h2, h3⟩)
      · exact ⟨i, by omega, by omega, h⟩
      · exact ⟨j, by omega, by omega, h3⟩
    · rintro ⟨j, h1, h2, h3⟩
      by_cases hji : j = i
      · exact Or.inl (hji ▸ h3)
      · exact Or.inr ⟨j, by omega, by omega, h3⟩
theorem spw_congr {α : Type} {g k : Nat → List α} : ∀ (d i : Nat), (∀ j, i ≤ j → j < i + d → g j = k j) → spw g d i = spw k d i := by
  intro d
  induction d with
  | zero => intro i _; rfl
  | succ d ih =>
    intro i h
    rw [spw, spw, h i (by omega) (by omega), ih (i + 1) (fun j h1 h2 => h j (by omega) (by omega))]
abbrev pW : Type := List Nat × Int32
noncomputable def spb (rd : Nat → Int32 → Prop) (ok : Nat → Int32 → Prop) (ex : oS → Nat → Int32 × oS) (wt : Nat) (rec : Int32 → oS → Int32 → List pW) (u : Int32) (s : oS) (w : Int32) (p : Nat) : List pW :=
  cif (rd p u ∧ ok p (ex s p).1) ((rec (u ||| b1 p) (ex s p).2 (if p = wt then (ex s p).1 else w)).map (fun z => (p :: z.1, z.2))) []
noncomputable def spx (K : Nat) (rd : Nat → Int32 → Prop) (ok : Nat → Int32 → Prop) (fl : Int32 → Prop) (ex : oS → Nat → Int32 × oS) (wt : Nat) : Nat → Int32 → oS → Int32 → List pW
  | 0, u, _, w => cif (fl u) [([], w)] []
  | f + 1, u, s, w => cif (fl u) [([], w)] [] ++ spw (spb rd ok ex wt (spx K rd ok fl ex wt f) u s w) K 0
theorem spx_congr {K : Nat} {rd rd' : Nat → Int32 → Prop} {ok ok' : Nat → Int32 → Prop} {fl fl' : Int32 → Prop} {ex : oS → Nat → Int32 × oS} {wt : Nat} (h1 : ∀ p u r, p < K → ((rd p u ∧ ok p r) ↔ (rd' p u ∧ ok' p r))) (h2 : ∀ u, fl u ↔ fl' u) : ∀ (f : Nat) (u : Int32) (s : oS) (w : Int32), spx K rd ok fl ex wt f u s w = spx K rd' ok' fl' ex wt f u s w := by
  intro f
  induction f with
  | zero => intro u s w; exact cif_c (h2 u) _ _
  | succ f ih =>
    intro u s w
    rw [spx, spx, cif_c (h2 u)]
    congr 1
    refine spw_congr K 0 (fun j _ hj => ?_)
    unfold spb
    rw [cif_c (h1 j u _ (by omega)), ih]
theorem mem_spx_0 {fl : Int32 → Prop} {u w : Int32} {x : pW} : x ∈ cif (fl u) [(([] : List Nat), w)] [] ↔ fl u ∧ x = ([], w) := by
  by_cases h : fl u
  · rw [cif_p h, List.mem_singleton]
    exact ⟨fun g => ⟨h, g⟩, fun g => g.2⟩
  · rw [cif_n h]
    exact ⟨fun g => (by cases g), fun g => absurd g.1 h⟩
theorem mem_spb {rd : Nat → Int32 → Prop} {ok : Nat → Int32 → Prop} {ex : oS → Nat → Int32 × oS} {wt : Nat} {rec : Int32 → oS → Int32 → List pW} {u : Int32} {s : oS} {w : Int32} {p : Nat} {q : List Nat} {z : Int32} : (q, z) ∈ spb rd ok ex wt rec u s w p ↔ rd p u ∧ ok p (ex s p).1 ∧ ∃ q', q = p :: q' ∧ (q', z) ∈ rec (u ||| b1 p) (ex s p).2 (if p = wt then (ex s p).1 else w) := by
  unfold spb
  by_cases h : rd p u ∧ ok p (ex s p).1
  · rw [cif_p h, List.mem_map]
    constructor
    · rintro ⟨⟨q', z'⟩, g1, g2⟩
      cases g2
      exact ⟨h.1, h.2, q', rfl, g1⟩
    · rintro ⟨_, _, q', rfl, g⟩
      exact ⟨(q', z), g, rfl⟩
  · rw [cif_n h]
    exact ⟨fun g => (by cases g), fun g => absurd ⟨g.1, g.2.1⟩ h⟩
theorem mem_spx_s {K : Nat} {rd : Nat → Int32 → Prop} {ok : Nat → Int32 → Prop} {fl : Int32 → Prop} {ex : oS → Nat → Int32 × oS} {wt f : Nat} {u : Int32} {s : oS} {w : Int32} {q : List Nat} {z : Int32} : (q, z) ∈ spx K rd ok fl ex wt (f + 1) u s w ↔ (fl u ∧ q = [] ∧ z = w) ∨ ∃ p q', p < K ∧ rd p u ∧ ok p (ex s p).1 ∧ q = p :: q' ∧ (q', z) ∈ spx K rd ok fl ex wt f (u ||| b1 p) (ex s p).2 (if p = wt then (ex s p).1 else w) := by
  rw [spx, List.mem_append, mem_spx_0, mem_spw]
  constructor
  · rintro (⟨h1, h2⟩ | ⟨j, -, h2, h3⟩)
    · cases h2
      exact Or.inl ⟨h1, rfl, rfl⟩
    · obtain ⟨g1, g2, q', g3, g4⟩ := mem_spb.mp h3
      exact Or.inr ⟨j, q', by omega, g1, g2, g3, g4⟩
  · rintro (⟨h1, rfl, rfl⟩ | ⟨p, q', h1, h2, h3, h4, h5⟩)
    · exact Or.inl ⟨h1, rfl⟩
    · exact Or.inr ⟨p, by omega, by omega, mem_spb.mpr ⟨h2, h3, q', h4, h5⟩⟩
/-- what is found under less is found under more -/
theorem spx_sub {K : Nat} {rd rd' : Nat → Int32 → Prop} {ok ok' : Nat → Int32 → Prop} {fl fl' : Int32 → Prop} {ex : oS → Nat → Int32 × oS} {wt : Nat} (h1 : ∀ p u r, p < K → rd p u → ok p r → rd' p u ∧ ok' p r) (h2 : ∀ u, fl u → fl' u) : ∀ (f : Nat) (u : Int32) (s : oS) (w : Int32) (q : List Nat) (z : Int32), (q, z) ∈ spx K rd ok fl ex wt f u s w → (q, z) ∈ spx K rd' ok' fl' ex wt f u s w := by
  intro f
  induction f with
  | zero =>
    intro u s w q z h
    rw [spx, mem_spx_0] at h ⊢
    exact ⟨h2 u h.1, h.2⟩
  | succ f ih =>
    intro u s w q z h
    rw [mem_spx_s] at h ⊢
    rcases h with ⟨g1, g2, g3⟩ | ⟨p, q', g1, g2, g3, g4, g5⟩
    · exact Or.inl ⟨h2 u g1, g2, g3⟩
    · obtain ⟨k1, k2⟩ := h1 p u _ g1 g2 g3
      exact Or.inr ⟨p, q', g1, k1, k2, g4, ih _ _ _ _ _ g5⟩
/-- one operation more that must stand there, with a result that fits -/
theorem spx_one {K : Nat} {rd : Nat → Int32 → Prop} {ok ok' : Nat → Int32 → Prop} {fl fl' : Int32 → Prop} {ex : oS → Nat → Int32 × oS} {wt' o : Nat} {cnd : Int32 → Prop} (ho : o < 10) (hK : K ≤ 10) (hrd : ∀ p u, rd p u → bt u p = false) (hok : ∀ p r, p < K → (ok' p r ↔ (ok p r ∧ (p = o → cnd r)))) (hfl : ∀ u, fl' u ↔ (fl u ∧ bt u o = true)) : ∀ (f : Nat) (u : Int32) (s : oS) (w w' : Int32) (q : List Nat),
    (∀ z', (q, z') ∈ spx K rd ok' fl' ex wt' f u s w' → ∃ z, (q, z) ∈ spx K rd ok fl ex o f u s w ∧ (bt u o = true → z = w) ∧ (bt u o = false → o ∈ q ∧ cnd z) ∧ (wt' = o → w' = w → z' = z)) ∧
    (∀ z, (q, z) ∈ spx K rd ok fl ex o f u s w → (bt u o = true ∨ (o ∈ q ∧ cnd z)) → ∃ z', (q, z') ∈ spx K rd ok' fl' ex wt' f u s w' ∧ (wt' = o → w' = w → z' = z) ∧ (bt u o = true → z = w)) := by
  intro f
  induction f with
  | zero =>
    intro u s w w' q
    constructor
    · intro z' h
      rw [spx, mem_spx_0, hfl] at h
      obtain ⟨⟨h1, h2⟩, h3⟩ := h
      cases h3
      refine ⟨w, ?_, fun _ => rfl, fun h4 => ?_, fun _ h5 => h5⟩
      · rw [spx, mem_spx_0]; exact ⟨h1, rfl⟩
      · rw [h2] at h4; cases h4
    · intro z h hc
      rw [spx, mem_spx_0] at h
      obtain ⟨h1, h3⟩ := h
      cases h3
      rcases hc with hc | ⟨hc, -⟩
      · refine ⟨w', ?_, fun _ h => h, fun _ => rfl⟩
        rw [spx, mem_spx_0, hfl]
        exact ⟨⟨h1, hc⟩, rfl⟩
      · cases hc
  | succ f ih =>
    intro u s w w' q
    constructor
    · intro z' h
      rw [mem_spx_s] at h
      rcases h with ⟨g1, g2, g3⟩ | ⟨p, q', g1, g2, g3, g4, g5⟩
      · rw [hfl] at g1
        subst g2 g3
        refine ⟨w, ?_, fun _ => rfl, fun h4 => ?_, fun _ h5 => h5⟩
        · rw [mem_spx_s]; exact Or.inl ⟨g1.1, rfl, rfl⟩
        · rw [g1.2] at h4; cases h4
      · obtain ⟨k1, k2⟩ := (hok p _ g1).mp g3
        have hup := hrd p u g2
        obtain ⟨z, i1, i2, i3, i4⟩ := (ih (u ||| b1 p) (ex s p).2 (if p = o then (ex s p).1 else w) _ q').1 z' g5
        refine ⟨z, ?_, fun h4 => ?_, fun h4 => ?_, fun h5 h6 => ?_⟩
        · rw [mem_spx_s]; exact Or.inr ⟨p, q', g1, g2, k1, g4, i1⟩
        · have hpo : p ≠ o := by
            intro hh
            rw [hh, h4] at hup
            cases hup
          rw [if_neg hpo] at i2
          exact i2 (by rw [bt_or, h4]; rfl)
        · by_cases hpo : p = o
          · subst hpo
            have := i2 (by rw [bt_or, bt_b1 (by omega)]; simp)
            rw [if_pos rfl] at this
            rw [g4, this]
            exact ⟨List.mem_cons_self, k2 rfl⟩
          · have := i3 (by rw [bt_or, h4, bt_b1 (by omega)]; simp; exact fun hh => hpo hh.symm)
            rw [g4]
            exact ⟨List.mem_cons_of_mem _ this.1, this.2⟩
        · refine i4 h5 ?_
          rw [h5, h6]
    · intro z h hc
      rw [mem_spx_s] at h
      rcases h with ⟨g1, g2, g3⟩ | ⟨p, q', g1, g2, g3, g4, g5⟩
      · subst g2 g3
        rcases hc with hc | ⟨hc, -⟩
        · refine ⟨w', ?_, fun _ h => h, fun _ => rfl⟩
          rw [mem_spx_s, hfl]
          exact Or.inl ⟨⟨g1, hc⟩, rfl, rfl⟩
        · cases hc
      · have hup := hrd p u g2
        have hlst : bt (u ||| b1 p) o = true ∨ (o ∈ q' ∧ cnd z) := by
          rcases hc with hc | ⟨hc1, hc2⟩
          · exact Or.inl (by rw [bt_or, hc]; rfl)
          · rw [g4] at hc1
            rcases List.mem_cons.mp hc1 with hc1 | hc1
            · exact Or.inl (by rw [bt_or, ← hc1, bt_b1 ho]; simp)
            · exact Or.inr ⟨hc1, hc2⟩
        obtain ⟨z', i1, i2, i3⟩ := (ih (u ||| b1 p) (ex s p).2 (if p = o then (ex s p).1 else w) (if p = wt' then (ex s p).1 else w') q').2 z g5 hlst
        refine ⟨z', ?_, fun h5 h6 => ?_, fun h4 => ?_⟩
        · rw [mem_spx_s]
          refine Or.inr ⟨p, q', g1, g2, (hok p _ g1).mpr ⟨g3, fun hpo => ?_⟩, g4, i1⟩
          have hb : bt (u ||| b1 p) o = true := by rw [bt_or, hpo, bt_b1 ho]; simp
          have hz := i3 hb
          rw [if_pos hpo] at hz
          rcases hc with hc | ⟨-, hc2⟩
          · rw [hpo, hc] at hup; cases hup
          · rw [← hz]; exact hc2
        · refine i2 h5 ?_
          rw [h5, h6]
        · have hpo : p ≠ o := by
            intro hh
            rw [hh, h4] at hup
            cases hup
          have := i3 (by rw [bt_or, h4]; rfl)
          rw [if_neg hpo] at this
          exact this
