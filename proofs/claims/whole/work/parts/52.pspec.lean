/-! THE PURE PART: a text read as commands. ch the characters' codes, T how many; a place and whether it has failed. -/
abbrev sg : Type := Bool × Nat
abbrev cmd : Type := Nat × Nat × Nat × Nat × Int32 × Int32
def nmW : List (List Nat) := [[114, 101, 97, 100], [119, 114, 105, 116, 101], [99, 111, 109, 112, 97, 114, 101, 65, 110, 100, 83, 101, 116], [103, 101, 116], [97, 100, 100], [101, 110, 113, 117, 101, 117, 101], [100, 101, 113, 117, 101, 117, 101], [105, 110, 115, 101, 114, 116], [114, 101, 109, 111, 118, 101], [99, 111, 110, 116, 97, 105, 110, 115]]
def nw (k : Nat) : List Nat := nmW.getD k []
def nl (k : Nat) : Nat := (nw k).length
def nof (k : Nat) : Nat := [0, 5, 11, 25, 29, 33, 41, 49, 56, 63].getD k 72
def acnt (k : Nat) : Nat := if k = 2 then 2 else if k = 0 ∨ k = 3 ∨ k = 6 then 0 else 1
def ca (ch : Nat → Nat) (T p k : Nat) : Prop := p < T ∧ ch p = k
def dgt (ch : Nat → Nat) (T p : Nat) : Prop := p < T ∧ 48 ≤ ch p ∧ ch p ≤ 57
noncomputable def tk (ch : Nat → Nat) (T k : Nat) (s : sg) : sg := cif (s.1 = false ∧ ca ch T s.2 k) (false, s.2 + 1) (true, s.2)
noncomputable def dg (ch : Nat → Nat) (T : Nat) (s : sg) : Nat × sg := cif (s.1 = false ∧ dgt ch T s.2) (ch s.2 - 48, (false, s.2 + 1)) (0, (true, s.2))
noncomputable def ndl (ch : Nat → Nat) (T : Nat) : Nat → Int32 → sg → Int32 × sg
  | 0, x, s => (x, s)
  | f + 1, x, s => cif (dgt ch T s.2) (ndl ch T f (x * 10 + nI (dg ch T s).1) (dg ch T s).2) (x, s)
noncomputable def num1 (ch : Nat → Nat) (T : Nat) (s : sg) : Int32 × sg := ndl ch T 2 (nI (dg ch T s).1) (dg ch T s).2
noncomputable def num (ch : Nat → Nat) (T : Nat) (s : sg) : Int32 × sg := cif (ca ch T s.2 45) (-(num1 ch T (tk ch T 45 s)).1, (num1 ch T (tk ch T 45 s)).2) (num1 ch T s)
noncomputable def mtw (ch : Nat → Nat) (T : Nat) : List Nat → Nat → Nat
  | [], _ => 0
  | c :: w, p => cif (ca ch T p c) (mtw ch T w (p + 1) + 1) 0
noncomputable def naL (ch : Nat → Nat) (T p : Nat) : Nat → Nat → Nat → Nat × sg
  | 0, _, lg => (0, (true, p + lg))
  | d + 1, k, lg => if mtw ch T (nw k) p = nl k then (k, (false, p + nl k)) else naL ch T p d (k + 1) (if lg < mtw ch T (nw k) p then mtw ch T (nw k) p else lg)
noncomputable def na (ch : Nat → Nat) (T : Nat) (s : sg) : Nat × sg := if s.1 then (0, s) else naL ch T s.2 10 0 0
noncomputable def arg1 (ch : Nat → Nat) (T k : Nat) (s : sg) : Int32 × sg := if 1 ≤ acnt k then num ch T s else (0, s)
noncomputable def arg2 (ch : Nat → Nat) (T k : Nat) (s : sg) : Int32 × sg := if 2 ≤ acnt k then num ch T (tk ch T 44 s) else (0, s)
noncomputable def inv4 (ch : Nat → Nat) (T th ob k : Nat) (s : sg) : cmd × sg := ((0, th, ob, k, (arg1 ch T k s).1, (arg2 ch T k (arg1 ch T k s).2).1), tk ch T 41 (arg2 ch T k (arg1 ch T k s).2).2)
noncomputable def inv3 (ch : Nat → Nat) (T th ob : Nat) (s : sg) : cmd × sg := inv4 ch T th ob (na ch T s).1 (tk ch T 40 (na ch T s).2)
noncomputable def inv2 (ch : Nat → Nat) (T th : Nat) (s : sg) : cmd × sg := inv3 ch T th (dg ch T s).1 (tk ch T 46 (dg ch T s).2)
noncomputable def cm1 (ch : Nat → Nat) (T th : Nat) (s : sg) : cmd × sg := cif (ca ch T s.2 33) ((2, th, 0, 0, 0, 0), tk ch T 33 s) (cif (ca ch T s.2 61) ((1, th, 0, 0, (num ch T (tk ch T 61 s)).1, 0), (num ch T (tk ch T 61 s)).2) (inv2 ch T th (tk ch T 46 s)))
noncomputable def cm (ch : Nat → Nat) (T : Nat) (s : sg) : cmd × sg := cm1 ch T (dg ch T s).1 (dg ch T s).2
noncomputable def allP (ch : Nat → Nat) (T : Nat) : Nat → Nat → Option (List cmd) × Nat
  | 0, p => (none, p)
  | f + 1, p => if (cm ch T (false, p)).2.1 then (none, (cm ch T (false, p)).2.2) else if (cm ch T (false, p)).2.2 < T then (if ch (cm ch T (false, p)).2.2 = 59 then (((allP ch T f ((cm ch T (false, p)).2.2 + 1)).1.map (fun l => (cm ch T (false, p)).1 :: l)), (allP ch T f ((cm ch T (false, p)).2.2 + 1)).2) else (none, (cm ch T (false, p)).2.2)) else (some [(cm ch T (false, p)).1], (cm ch T (false, p)).2.2)
/-! once failed, failed; never back -/
theorem tk_f (ch : Nat → Nat) (T k p : Nat) : tk ch T k (true, p) = (true, p) := cif_n (fun h => by cases h.1) _ _
theorem dg_f (ch : Nat → Nat) (T p : Nat) : dg ch T (true, p) = (0, (true, p)) := cif_n (fun h => by cases h.1) _ _
theorem ndl_f (ch : Nat → Nat) (T p : Nat) : ∀ (f : Nat) (x : Int32), (ndl ch T f x (true, p)).2 = (true, p) := by
  intro f
  induction f with
  | zero => intro x; rfl
  | succ f ih =>
    intro x
    rw [ndl]
    by_cases h : dgt ch T p
    · rw [cif_p h, dg_f]; exact ih _
    · rw [cif_n h]
theorem num_f (ch : Nat → Nat) (T p : Nat) : (num ch T (true, p)).2 = (true, p) := by
  unfold num num1
  by_cases h : ca ch T p 45
  · rw [cif_p h, tk_f, dg_f]; exact ndl_f ch T p 2 _
  · rw [cif_n h, dg_f]; exact ndl_f ch T p 2 _
theorem na_f (ch : Nat → Nat) (T p : Nat) : na ch T (true, p) = (0, (true, p)) := rfl
theorem arg1_f (ch : Nat → Nat) (T k p : Nat) : (arg1 ch T k (true, p)).2 = (true, p) := by
  unfold arg1
  split
  · exact num_f ch T p
  · rfl
theorem arg2_f (ch : Nat → Nat) (T k p : Nat) : (arg2 ch T k (true, p)).2 = (true, p) := by
  unfold arg2
  split
  · rw [tk_f]; exact num_f ch T p
  · rfl
theorem inv4_f (ch : Nat → Nat) (T th ob k p : Nat) : (inv4 ch T th ob k (true, p)).2 = (true, p) := by
  unfold inv4
  show tk ch T 41 (arg2 ch T k (arg1 ch T k (true, p)).2).2 = _
  rw [arg1_f, arg2_f, tk_f]
theorem inv3_f (ch : Nat → Nat) (T th ob p : Nat) : (inv3 ch T th ob (true, p)).2 = (true, p) := by
  unfold inv3
  rw [na_f, tk_f]; exact inv4_f ch T th ob _ p
theorem inv2_f (ch : Nat → Nat) (T th p : Nat) : (inv2 ch T th (true, p)).2 = (true, p) := by
  unfold inv2
  rw [dg_f, tk_f]; exact inv3_f ch T th _ p
theorem cm1_f (ch : Nat → Nat) (T th p : Nat) : (cm1 ch T th (true, p)).2 = (true, p) := by
  unfold cm1
  by_cases h : ca ch T p 33
  · rw [cif_p h, tk_f]
  · rw [cif_n h]
    by_cases h : ca ch T p 61
    · rw [cif_p h, tk_f]; exact num_f ch T p
    · rw [cif_n h, tk_f]; exact inv2_f ch T th p
theorem cm_f (ch : Nat → Nat) (T p : Nat) : (cm ch T (true, p)).2 = (true, p) := by
  unfold cm
  rw [dg_f]
  exact cm1_f ch T 0 p
theorem cases_sg (s : sg) : s = (true, s.2) ∨ s = (false, s.2) := by
  rcases s with ⟨b, p⟩
  cases b
  · exact Or.inr rfl
  · exact Or.inl rfl
/-- forward, and not beyond the end -/
def fw (T : Nat) (s t : sg) : Prop := s.2 ≤ t.2 ∧ (s.2 ≤ T → t.2 ≤ T)
theorem fw.rf (T : Nat) (s : sg) : fw T s s := ⟨Nat.le_refl _, fun h => h⟩
theorem fw.tr {T : Nat} {s t u : sg} (h : fw T s t) (g : fw T t u) : fw T s u := ⟨Nat.le_trans h.1 g.1, fun x => g.2 (h.2 x)⟩
theorem tk_w (ch : Nat → Nat) (T k : Nat) (s : sg) : fw T s (tk ch T k s) := by
  unfold tk
  by_cases h : s.1 = false ∧ ca ch T s.2 k
  · rw [cif_p h]; exact ⟨Nat.le_succ _, fun _ => h.2.1⟩
  · rw [cif_n h]; exact ⟨Nat.le_refl _, fun h => h⟩
theorem dg_w (ch : Nat → Nat) (T : Nat) (s : sg) : fw T s (dg ch T s).2 := by
  unfold dg
  by_cases h : s.1 = false ∧ dgt ch T s.2
  · rw [cif_p h]; exact ⟨Nat.le_succ _, fun _ => h.2.1⟩
  · rw [cif_n h]; exact ⟨Nat.le_refl _, fun h => h⟩
theorem ndl_w (ch : Nat → Nat) (T : Nat) : ∀ (f : Nat) (x : Int32) (s : sg), fw T s (ndl ch T f x s).2 := by
  intro f
  induction f with
  | zero => intro x s; exact fw.rf T s
  | succ f ih =>
    intro x s
    rw [ndl]
    by_cases h : dgt ch T s.2
    · rw [cif_p h]; exact (dg_w ch T s).tr (ih _ _)
    · rw [cif_n h]; exact fw.rf T s
theorem num1_w (ch : Nat → Nat) (T : Nat) (s : sg) : fw T s (num1 ch T s).2 := (dg_w ch T s).tr (ndl_w ch T 2 _ _)
theorem num_w (ch : Nat → Nat) (T : Nat) (s : sg) : fw T s (num ch T s).2 := by
  unfold num
  by_cases h : ca ch T s.2 45
  · rw [cif_p h]; exact (tk_w ch T 45 s).tr (num1_w ch T _)
  · rw [cif_n h]; exact num1_w ch T s
theorem mtw_le (ch : Nat → Nat) (T : Nat) : ∀ (w : List Nat) (p : Nat), p ≤ T → p + mtw ch T w p ≤ T := by
  intro w
  induction w with
  | nil => intro p h; exact h
  | cons c w ih =>
    intro p h
    rw [mtw]
    by_cases hc : ca ch T p c
    · rw [cif_p hc]
      have := ih (p + 1) hc.1
      omega
    · rw [cif_n hc]; exact h
theorem mtw_len (ch : Nat → Nat) (T : Nat) : ∀ (w : List Nat) (p : Nat), mtw ch T w p ≤ w.length := by
  intro w
  induction w with
  | nil => intro p; exact Nat.le_refl 0
  | cons c w ih =>
    intro p
    rw [mtw]
    by_cases hc : ca ch T p c
    · rw [cif_p hc]
      have := ih (p + 1)
      simp only [List.length_cons]
      omega
    · rw [cif_n hc]; exact Nat.zero_le _
theorem mtw_at (ch : Nat → Nat) (T : Nat) : ∀ (w : List Nat) (p i : Nat), i < mtw ch T w p → ca ch T (p + i) (w.getD i 0) := by
  intro w
  induction w with
  | nil => intro p i h; exact absurd h (Nat.not_lt_zero _)
  | cons c w ih =>
    intro p i h
    rw [mtw] at h
    by_cases hc : ca ch T p c
    · rw [cif_p hc] at h
      rcases i with - | i
      · exact hc
      · have := ih (p + 1) i (by omega)
        rw [show p + 1 + i = p + (i + 1) by omega] at this
        exact this
    · rw [cif_n hc] at h
      exact absurd h (Nat.not_lt_zero _)
theorem naL_w (ch : Nat → Nat) (T p : Nat) : ∀ (d k lg : Nat), (p ≤ T → p + lg ≤ T) → fw T (false, p) (naL ch T p d k lg).2 := by
  intro d
  induction d with
  | zero => intro k lg h; exact ⟨Nat.le_add_right _ _, h⟩
  | succ d ih =>
    intro k lg h
    rw [naL]
    split
    · rename_i hm
      exact ⟨Nat.le_add_right _ _, fun hp => by
        have := mtw_le ch T (nw k) p hp
        show p + nl k ≤ T
        omega⟩
    · refine ih (k + 1) _ (fun hp => ?_)
      have := mtw_le ch T (nw k) p hp
      have := h hp
      split <;> omega
theorem na_w (ch : Nat → Nat) (T : Nat) (s : sg) : fw T s (na ch T s).2 := by
  unfold na
  rcases s with ⟨b, p⟩
  cases b
  · exact naL_w ch T p 10 0 0 (fun h => h)
  · exact fw.rf T _
theorem arg1_w (ch : Nat → Nat) (T k : Nat) (s : sg) : fw T s (arg1 ch T k s).2 := by
  unfold arg1
  split
  · exact num_w ch T s
  · exact fw.rf T s
theorem arg2_w (ch : Nat → Nat) (T k : Nat) (s : sg) : fw T s (arg2 ch T k s).2 := by
  unfold arg2
  split
  · exact (tk_w ch T 44 s).tr (num_w ch T _)
  · exact fw.rf T s
theorem inv2_w (ch : Nat → Nat) (T th : Nat) (s : sg) : fw T s (inv2 ch T th s).2 :=
  (dg_w ch T s).tr ((tk_w ch T 46 _).tr ((na_w ch T _).tr ((tk_w ch T 40 _).tr ((arg1_w ch T _ _).tr ((arg2_w ch T _ _).tr (tk_w ch T 41 _))))))
theorem cm1_w (ch : Nat → Nat) (T th : Nat) (s : sg) : fw T s (cm1 ch T th s).2 := by
  unfold cm1
  by_cases h : ca ch T s.2 33
  · rw [cif_p h]; exact tk_w ch T 33 s
  · rw [cif_n h]
    by_cases h : ca ch T s.2 61
    · rw [cif_p h]; exact (tk_w ch T 61 s).tr (num_w ch T _)
    · rw [cif_n h]; exact (tk_w ch T 46 s).tr (inv2_w ch T th _)
theorem cm_w (ch : Nat → Nat) (T : Nat) (s : sg) : fw T s (cm ch T s).2 := (dg_w ch T s).tr (cm1_w ch T _ _)
theorem tk_ok {ch : Nat → Nat} {T k p : Nat} (h : (tk ch T k (false, p)).1 = false) : (tk ch T k (false, p)).2 = p + 1 := by
  unfold tk at h ⊢
  by_cases hc : (false, p).1 = false ∧ ca ch T (false, p).2 k
  · rw [cif_p hc]
  · rw [cif_n hc] at h; cases h
/-- a command is two characters at least -/
theorem cm_2 {ch : Nat → Nat} {T p : Nat} (h : (cm ch T (false, p)).2.1 = false) : p + 2 ≤ (cm ch T (false, p)).2.2 := by
  unfold cm at h ⊢
  by_cases hd : (false, p).1 = false ∧ dgt ch T (false, p).2
  · have e : dg ch T (false, p) = (ch p - 48, (false, p + 1)) := cif_p hd _ _
    rw [e] at h ⊢
    unfold cm1 at h ⊢
    by_cases h1 : ca ch T (p + 1) 33
    · rw [cif_p h1] at h ⊢
      have := tk_ok h
      show p + 2 ≤ (tk ch T 33 (false, p + 1)).2
      omega
    · rw [cif_n h1] at h ⊢
      by_cases h2 : ca ch T (p + 1) 61
      · rw [cif_p h2] at h ⊢
        have e2 : tk ch T 61 (false, p + 1) = (false, p + 2) := cif_p ⟨rfl, h2⟩ _ _
        rw [e2]
        exact (num_w ch T (false, p + 2)).1
      · rw [cif_n h2] at h ⊢
        rcases cases_sg (tk ch T 46 (false, p + 1)) with h3 | h3
        · rw [h3, inv2_f] at h
          cases h
        · have h4 := tk_ok (ch := ch) (T := T) (k := 46) (p := p + 1) (by rw [h3])
          have := (inv2_w ch T (ch p - 48) (tk ch T 46 (false, p + 1))).1
          show p + 2 ≤ (inv2 ch T (ch p - 48) (tk ch T 46 (false, p + 1))).2.2
          omega
  · have e : dg ch T (false, p) = (0, (true, p)) := cif_n hd _ _
    rw [e, cm1_f] at h
    cases h
/-! names: only one can stand there whole -/
theorem nw_apart : ∀ j, j < 10 → ∀ k, k < 10 → j ≠ k → ∃ i, i < 13 ∧ (i < nl j ∧ i < nl k ∧ (nw j).getD i 0 ≠ (nw k).getD i 0) := by decide +kernel
theorem nm_one {ch : Nat → Nat} {T p j k : Nat} (hj : j < 10) (hk : k < 10) (hjk : j ≠ k) (h : mtw ch T (nw k) p = nl k) : mtw ch T (nw j) p < nl k ∧ mtw ch T (nw j) p ≠ nl j := by
  obtain ⟨i, -, h1, h2, h3⟩ := nw_apart j hj k hk hjk
  have hle : mtw ch T (nw j) p ≤ i := by
    refine Nat.not_lt.mp (fun hlt => ?_)
    have a1 := (mtw_at ch T (nw j) p i hlt).2
    have a2 := (mtw_at ch T (nw k) p i (by omega)).2
    exact h3 (a1.symm.trans a2)
  omega
theorem na_lt (ch : Nat → Nat) (T p : Nat) : ∀ (d k lg : Nat), k + d = 10 → (naL ch T p d k lg).1 < 10 := by
  intro d
  induction d with
  | zero => intro k lg _; show 0 < 10; omega
  | succ d ih =>
    intro k lg h
    rw [naL]
    split
    · show k < 10; omega
    · exact ih (k + 1) _ (by omega)
theorem na_l10 (ch : Nat → Nat) (T : Nat) (s : sg) : (na ch T s).1 < 10 := by
  unfold na
  split
  · exact Nat.succ_pos 9
  · exact na_lt ch T s.2 10 0 0 rfl
