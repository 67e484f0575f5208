/-! THE PURE PART: tools. Numbers below 2^31 as nI, loads and stores at such an index, bits of a mask. -/
theorem pb (r : Int32) (st : ax_S) (g : Int32 → ax_S → ax_R) : ax_bind (some (r, st)) g = g r st := rfl
theorem pt (st : ax_S) (g : ax_S → ax_R) : ax_then st g = g st := rfl
theorem pld {st : ax_S} {o n j : Nat} {g : Int32 → ax_R} (h : j < n) (hn : n ≤ 2147483648) : ax_ld st o n (nI j) g = g (st.2 o j) := by
  have hj : j < 2 ^ 31 := by omega
  rw [ax_ld, nI_clamp hj, if_pos ⟨nI_pos' hj, h⟩]
theorem psto {st : ax_S} {o n j : Nat} {x : Int32} {g : ax_S → ax_R} (h : j < n) (hn : n ≤ 2147483648) : ax_sto st o n (nI j) x g = g (ax_sE st o j x) := by
  have hj : j < 2 ^ 31 := by omega
  rw [ax_sto, nI_clamp hj, if_pos ⟨nI_pos' hj, h⟩]
theorem pldq {qs : List Nat} {j : Nat} {g : Nat → ax_R} (h : j < qs.length) (hn : qs.length ≤ 2147483648) : ax_ldq qs (nI j) g = g (qs.getD j 0) := by
  have hj : j < 2 ^ 31 := by omega
  rw [ax_ldq, nI_clamp hj, if_pos ⟨nI_pos' hj, h⟩]
theorem prz0 (st : ax_S) : ax_rz 0 st = some (0, st) := if_pos (Or.inl rfl)
theorem prz1 (st : ax_S) : ax_rz 1 st = some (1, st) := if_pos (Or.inr rfl)
theorem przi (c : Prop) [Decidable c] (st : ax_S) : ax_rz (if c then 1 else 0) st = some (if c then 1 else 0, st) := by
  split
  · exact prz1 st
  · exact prz0 st
theorem ppz0 (st : ax_S) (o k : Nat) (g : ax_S → ax_R) : ax_putz st o k 0 g = g (ax_sI st o k 0) := if_pos (Or.inl rfl)
theorem ppz1 (st : ax_S) (o k : Nat) (g : ax_S → ax_R) : ax_putz st o k 1 g = g (ax_sI st o k 1) := if_pos (Or.inr rfl)
theorem pI2 (st : ax_S) (o k : Nat) (v : Int32) : (ax_sI st o k v).2 = st.2 := id rfl
theorem pI1 (st : ax_S) (o k : Nat) (v : Int32) (a b : Nat) : (ax_sI st o k v).1 a b = if a = o ∧ b = k then v else st.1 a b := id rfl
theorem pE1 (st : ax_S) (o i : Nat) (x : Int32) : (ax_sE st o i x).1 = st.1 := id rfl
theorem pE2 (st : ax_S) (o i : Nat) (x : Int32) (a j : Nat) : (ax_sE st o i x).2 a j = if a = o then (if j = i then x else st.2 o j) else st.2 a j := by
  unfold ax_sE ax_sA upd
  by_cases h : a = o
  · subst h; simp
  · simp [h]
theorem pA1 (st : ax_S) (o : Nat) (f : Nat → Int32) : (ax_sA st o f).1 = st.1 := id rfl
theorem pA2 (st : ax_S) (o : Nat) (f : Nat → Int32) (a : Nat) : (ax_sA st o f).2 a = if a = o then f else st.2 a := id rfl
theorem nar0 : vp_nar .boolean (0 : Int32) = 0 := by decide +kernel
theorem nar1 : vp_nar .boolean (1 : Int32) = 1 := by decide +kernel
theorem pmx {a b : Nat} (ha : a < 2147483648) (hb : b < 2147483648) : ax_mx (nI a) (nI b) = nI (if a < b then b else a) := by
  unfold ax_mx
  by_cases h : a < b
  · rw [if_pos ((nI_ltI ha hb).mpr h), if_pos h]
  · rw [if_neg (fun hh => h ((nI_ltI ha hb).mp hh)), if_neg h]
theorem pu_i32_le (x y : Int32) : (x ≤ y) = (x.toInt ≤ y.toInt) := propext Int32.le_iff_toInt_le
theorem pu_sub1 {a : Nat} (h : 1 ≤ a) : nI a - 1 = nI (a - 1) := by
  obtain ⟨k, rfl⟩ : ∃ k, a = k + 1 := ⟨a - 1, by omega⟩
  exact nI_pred k
theorem pu_subI (a b : Nat) (h : b ≤ a) : nI a - nI b = nI (a - b) := by
  have h1 : nI a = nI (a - b) + nI b := by rw [nI_add, Nat.sub_add_cancel h]
  rw [h1, Int32.add_sub_cancel]
/-- a number kept one above: 0 stands for -1 -/
theorem pu_m1 {a : Nat} (h : a < 2147483648) : (nI a - 1 = -1) = (a = 0) := by
  apply propext
  constructor
  · intro h1
    have h2 : nI a = nI 0 := by
      have h3 := congrArg (fun z => z + 1) h1
      simp only [Int32.sub_add_cancel] at h3
      rw [h3]; decide
    exact (nI_eq (by omega) (by decide)).mp h2
  · intro h1
    subst h1
    decide
theorem pu_has {n : Nat} {x : Int32} (hn : n < 2147483648) : (0 ≤ x ∧ x ≤ nI n - 1) ↔ ∃ j, j < n ∧ x = nI j := by
  have hn' : (nI n).toInt = n := nI_toInt hn
  have h0 : (0 : Int32).toInt = 0 := by decide
  have h1 : (1 : Int32).toInt = 1 := by decide
  have hs : (nI n - 1).toInt = (n : Int) - 1 := by
    rw [Int32.toInt_sub, hn', h1]
    rw [Int.bmod_def]
    omega
  rw [Int32.le_iff_toInt_le, Int32.le_iff_toInt_le, hs, h0]
  constructor
  · intro h
    refine ⟨x.toInt.toNat, by omega, ?_⟩
    apply Int32.toInt_inj.mp
    rw [nI_toInt (by omega)]
    omega
  · rintro ⟨j, hj, rfl⟩
    rw [nI_toInt (by omega)]
    omega
theorem pu_in {lo hi : Int32} {n : Nat} {x : Int32} (hlo : lo = 0) (hhi : hi = nI n) (hn : n < 2147483648) : (lo ≤ x ∧ x ≤ hi) ↔ ∃ j, j ≤ n ∧ x = nI j := by
  have hn' : (nI n).toInt = n := nI_toInt hn
  have h0 : (0 : Int32).toInt = 0 := by decide
  rw [hlo, hhi, Int32.le_iff_toInt_le, Int32.le_iff_toInt_le, hn', h0]
  constructor
  · intro h
    refine ⟨x.toInt.toNat, by omega, ?_⟩
    apply Int32.toInt_inj.mp
    rw [nI_toInt (by omega)]
    omega
  · rintro ⟨j, hj, rfl⟩
    rw [nI_toInt (by omega)]
    omega
theorem pbtwX (x lo hi : Int32) (st : ax_S) : fX8_isBetween x lo hi st = some (if lo ≤ x ∧ x ≤ hi then 1 else 0, st) := by
  unfold fX8_isBetween fX8_isBetween_b14 fX8_isBetween_b15
  by_cases h1 : x < lo
  · rw [if_pos h1, if_neg (fun h => Int32.not_le.mpr h1 h.1)]; exact prz0 st
  · by_cases h2 : hi < x
    · rw [if_neg h1, if_pos h2, if_neg (fun h => Int32.not_le.mpr h2 h.2)]; exact prz0 st
    · rw [if_neg h1, if_neg h2, if_pos ⟨Int32.not_lt.mp h1, Int32.not_lt.mp h2⟩]; exact prz1 st
theorem pbtwM (x lo hi : Int32) (st : ax_S) : fX9_isIn x lo hi st = some (if lo ≤ x ∧ x ≤ hi then 1 else 0, st) := by
  unfold fX9_isIn fX9_isIn_b14 fX9_isIn_b15
  by_cases h1 : x < lo
  · rw [if_pos h1, if_neg (fun h => Int32.not_le.mpr h1 h.1)]; exact prz0 st
  · by_cases h2 : hi < x
    · rw [if_neg h1, if_pos h2, if_neg (fun h => Int32.not_le.mpr h2 h.2)]; exact prz0 st
    · rw [if_neg h1, if_neg h2, if_pos ⟨Int32.not_lt.mp h1, Int32.not_lt.mp h2⟩]; exact prz1 st

theorem qle_0 {a : Nat} (h : a < 2147483648) : ((0 : Int32) ≤ nI a) = (0 ≤ a) := propext (nI_leI (a := 0) (by decide) h)
theorem qge_0 {a : Nat} (h : a < 2147483648) : (nI a ≤ (0 : Int32)) = (a ≤ 0) := propext (nI_leI (b := 0) h (by decide))
theorem qlt_0 {a : Nat} (h : a < 2147483648) : ((0 : Int32) < nI a) = (0 < a) := propext (nI_ltI (a := 0) (by decide) h)
theorem qgt_0 {a : Nat} (h : a < 2147483648) : (nI a < (0 : Int32)) = (a < 0) := propext (nI_ltI (b := 0) h (by decide))
theorem qeq_0 {a : Nat} (h : a < 2147483648) : (nI a = (0 : Int32)) = (a = 0) := propext (nI_eq (b := 0) h (by decide))
theorem qle_1 {a : Nat} (h : a < 2147483648) : ((1 : Int32) ≤ nI a) = (1 ≤ a) := propext (nI_leI (a := 1) (by decide) h)
theorem qge_1 {a : Nat} (h : a < 2147483648) : (nI a ≤ (1 : Int32)) = (a ≤ 1) := propext (nI_leI (b := 1) h (by decide))
theorem qlt_1 {a : Nat} (h : a < 2147483648) : ((1 : Int32) < nI a) = (1 < a) := propext (nI_ltI (a := 1) (by decide) h)
theorem qgt_1 {a : Nat} (h : a < 2147483648) : (nI a < (1 : Int32)) = (a < 1) := propext (nI_ltI (b := 1) h (by decide))
theorem qeq_1 {a : Nat} (h : a < 2147483648) : (nI a = (1 : Int32)) = (a = 1) := propext (nI_eq (b := 1) h (by decide))
theorem qle_2 {a : Nat} (h : a < 2147483648) : ((2 : Int32) ≤ nI a) = (2 ≤ a) := propext (nI_leI (a := 2) (by decide) h)
theorem qge_2 {a : Nat} (h : a < 2147483648) : (nI a ≤ (2 : Int32)) = (a ≤ 2) := propext (nI_leI (b := 2) h (by decide))
theorem qlt_2 {a : Nat} (h : a < 2147483648) : ((2 : Int32) < nI a) = (2 < a) := propext (nI_ltI (a := 2) (by decide) h)
theorem qgt_2 {a : Nat} (h : a < 2147483648) : (nI a < (2 : Int32)) = (a < 2) := propext (nI_ltI (b := 2) h (by decide))
theorem qeq_2 {a : Nat} (h : a < 2147483648) : (nI a = (2 : Int32)) = (a = 2) := propext (nI_eq (b := 2) h (by decide))
theorem qle_3 {a : Nat} (h : a < 2147483648) : ((3 : Int32) ≤ nI a) = (3 ≤ a) := propext (nI_leI (a := 3) (by decide) h)
theorem qge_3 {a : Nat} (h : a < 2147483648) : (nI a ≤ (3 : Int32)) = (a ≤ 3) := propext (nI_leI (b := 3) h (by decide))
theorem qlt_3 {a : Nat} (h : a < 2147483648) : ((3 : Int32) < nI a) = (3 < a) := propext (nI_ltI (a := 3) (by decide) h)
theorem qgt_3 {a : Nat} (h : a < 2147483648) : (nI a < (3 : Int32)) = (a < 3) := propext (nI_ltI (b := 3) h (by decide))
theorem qeq_3 {a : Nat} (h : a < 2147483648) : (nI a = (3 : Int32)) = (a = 3) := propext (nI_eq (b := 3) h (by decide))
theorem qle_4 {a : Nat} (h : a < 2147483648) : ((4 : Int32) ≤ nI a) = (4 ≤ a) := propext (nI_leI (a := 4) (by decide) h)
theorem qge_4 {a : Nat} (h : a < 2147483648) : (nI a ≤ (4 : Int32)) = (a ≤ 4) := propext (nI_leI (b := 4) h (by decide))
theorem qlt_4 {a : Nat} (h : a < 2147483648) : ((4 : Int32) < nI a) = (4 < a) := propext (nI_ltI (a := 4) (by decide) h)
theorem qgt_4 {a : Nat} (h : a < 2147483648) : (nI a < (4 : Int32)) = (a < 4) := propext (nI_ltI (b := 4) h (by decide))
theorem qeq_4 {a : Nat} (h : a < 2147483648) : (nI a = (4 : Int32)) = (a = 4) := propext (nI_eq (b := 4) h (by decide))
theorem qle_5 {a : Nat} (h : a < 2147483648) : ((5 : Int32) ≤ nI a) = (5 ≤ a) := propext (nI_leI (a := 5) (by decide) h)
theorem qge_5 {a : Nat} (h : a < 2147483648) : (nI a ≤ (5 : Int32)) = (a ≤ 5) := propext (nI_leI (b := 5) h (by decide))
theorem qlt_5 {a : Nat} (h : a < 2147483648) : ((5 : Int32) < nI a) = (5 < a) := propext (nI_ltI (a := 5) (by decide) h)
theorem qgt_5 {a : Nat} (h : a < 2147483648) : (nI a < (5 : Int32)) = (a < 5) := propext (nI_ltI (b := 5) h (by decide))
theorem qeq_5 {a : Nat} (h : a < 2147483648) : (nI a = (5 : Int32)) = (a = 5) := propext (nI_eq (b := 5) h (by decide))
theorem qle_6 {a : Nat} (h : a < 2147483648) : ((6 : Int32) ≤ nI a) = (6 ≤ a) := propext (nI_leI (a := 6) (by decide) h)
theorem qge_6 {a : Nat} (h : a < 2147483648) : (nI a ≤ (6 : Int32)) = (a ≤ 6) := propext (nI_leI (b := 6) h (by decide))
theorem qlt_6 {a : Nat} (h : a < 2147483648) : ((6 : Int32) < nI a) = (6 < a) := propext (nI_ltI (a := 6) (by decide) h)
theorem qgt_6 {a : Nat} (h : a < 2147483648) : (nI a < (6 : Int32)) = (a < 6) := propext (nI_ltI (b := 6) h (by decide))
theorem qeq_6 {a : Nat} (h : a < 2147483648) : (nI a = (6 : Int32)) = (a = 6) := propext (nI_eq (b := 6) h (by decide))
theorem qle_7 {a : Nat} (h : a < 2147483648) : ((7 : Int32) ≤ nI a) = (7 ≤ a) := propext (nI_leI (a := 7) (by decide) h)
theorem qge_7 {a : Nat} (h : a < 2147483648) : (nI a ≤ (7 : Int32)) = (a ≤ 7) := propext (nI_leI (b := 7) h (by decide))
theorem qlt_7 {a : Nat} (h : a < 2147483648) : ((7 : Int32) < nI a) = (7 < a) := propext (nI_ltI (a := 7) (by decide) h)
theorem qgt_7 {a : Nat} (h : a < 2147483648) : (nI a < (7 : Int32)) = (a < 7) := propext (nI_ltI (b := 7) h (by decide))
theorem qeq_7 {a : Nat} (h : a < 2147483648) : (nI a = (7 : Int32)) = (a = 7) := propext (nI_eq (b := 7) h (by decide))
theorem qle_8 {a : Nat} (h : a < 2147483648) : ((8 : Int32) ≤ nI a) = (8 ≤ a) := propext (nI_leI (a := 8) (by decide) h)
theorem qge_8 {a : Nat} (h : a < 2147483648) : (nI a ≤ (8 : Int32)) = (a ≤ 8) := propext (nI_leI (b := 8) h (by decide))
theorem qlt_8 {a : Nat} (h : a < 2147483648) : ((8 : Int32) < nI a) = (8 < a) := propext (nI_ltI (a := 8) (by decide) h)
theorem qgt_8 {a : Nat} (h : a < 2147483648) : (nI a < (8 : Int32)) = (a < 8) := propext (nI_ltI (b := 8) h (by decide))
theorem qeq_8 {a : Nat} (h : a < 2147483648) : (nI a = (8 : Int32)) = (a = 8) := propext (nI_eq (b := 8) h (by decide))
theorem qle_9 {a : Nat} (h : a < 2147483648) : ((9 : Int32) ≤ nI a) = (9 ≤ a) := propext (nI_leI (a := 9) (by decide) h)
theorem qge_9 {a : Nat} (h : a < 2147483648) : (nI a ≤ (9 : Int32)) = (a ≤ 9) := propext (nI_leI (b := 9) h (by decide))
theorem qlt_9 {a : Nat} (h : a < 2147483648) : ((9 : Int32) < nI a) = (9 < a) := propext (nI_ltI (a := 9) (by decide) h)
theorem qgt_9 {a : Nat} (h : a < 2147483648) : (nI a < (9 : Int32)) = (a < 9) := propext (nI_ltI (b := 9) h (by decide))
theorem qeq_9 {a : Nat} (h : a < 2147483648) : (nI a = (9 : Int32)) = (a = 9) := propext (nI_eq (b := 9) h (by decide))
theorem qle_10 {a : Nat} (h : a < 2147483648) : ((10 : Int32) ≤ nI a) = (10 ≤ a) := propext (nI_leI (a := 10) (by decide) h)
theorem qge_10 {a : Nat} (h : a < 2147483648) : (nI a ≤ (10 : Int32)) = (a ≤ 10) := propext (nI_leI (b := 10) h (by decide))
theorem qlt_10 {a : Nat} (h : a < 2147483648) : ((10 : Int32) < nI a) = (10 < a) := propext (nI_ltI (a := 10) (by decide) h)
theorem qgt_10 {a : Nat} (h : a < 2147483648) : (nI a < (10 : Int32)) = (a < 10) := propext (nI_ltI (b := 10) h (by decide))
theorem qeq_10 {a : Nat} (h : a < 2147483648) : (nI a = (10 : Int32)) = (a = 10) := propext (nI_eq (b := 10) h (by decide))
theorem qle_24 {a : Nat} (h : a < 2147483648) : ((24 : Int32) ≤ nI a) = (24 ≤ a) := propext (nI_leI (a := 24) (by decide) h)
theorem qge_24 {a : Nat} (h : a < 2147483648) : (nI a ≤ (24 : Int32)) = (a ≤ 24) := propext (nI_leI (b := 24) h (by decide))
theorem qlt_24 {a : Nat} (h : a < 2147483648) : ((24 : Int32) < nI a) = (24 < a) := propext (nI_ltI (a := 24) (by decide) h)
theorem qgt_24 {a : Nat} (h : a < 2147483648) : (nI a < (24 : Int32)) = (a < 24) := propext (nI_ltI (b := 24) h (by decide))
theorem qeq_24 {a : Nat} (h : a < 2147483648) : (nI a = (24 : Int32)) = (a = 24) := propext (nI_eq (b := 24) h (by decide))
theorem qle_60 {a : Nat} (h : a < 2147483648) : ((60 : Int32) ≤ nI a) = (60 ≤ a) := propext (nI_leI (a := 60) (by decide) h)
theorem qge_60 {a : Nat} (h : a < 2147483648) : (nI a ≤ (60 : Int32)) = (a ≤ 60) := propext (nI_leI (b := 60) h (by decide))
theorem qlt_60 {a : Nat} (h : a < 2147483648) : ((60 : Int32) < nI a) = (60 < a) := propext (nI_ltI (a := 60) (by decide) h)
theorem qgt_60 {a : Nat} (h : a < 2147483648) : (nI a < (60 : Int32)) = (a < 60) := propext (nI_ltI (b := 60) h (by decide))
theorem qeq_60 {a : Nat} (h : a < 2147483648) : (nI a = (60 : Int32)) = (a = 60) := propext (nI_eq (b := 60) h (by decide))
theorem qle_99 {a : Nat} (h : a < 2147483648) : ((99 : Int32) ≤ nI a) = (99 ≤ a) := propext (nI_leI (a := 99) (by decide) h)
theorem qge_99 {a : Nat} (h : a < 2147483648) : (nI a ≤ (99 : Int32)) = (a ≤ 99) := propext (nI_leI (b := 99) h (by decide))
theorem qlt_99 {a : Nat} (h : a < 2147483648) : ((99 : Int32) < nI a) = (99 < a) := propext (nI_ltI (a := 99) (by decide) h)
theorem qgt_99 {a : Nat} (h : a < 2147483648) : (nI a < (99 : Int32)) = (a < 99) := propext (nI_ltI (b := 99) h (by decide))
theorem qeq_99 {a : Nat} (h : a < 2147483648) : (nI a = (99 : Int32)) = (a = 99) := propext (nI_eq (b := 99) h (by decide))
theorem qle_100 {a : Nat} (h : a < 2147483648) : ((100 : Int32) ≤ nI a) = (100 ≤ a) := propext (nI_leI (a := 100) (by decide) h)
theorem qge_100 {a : Nat} (h : a < 2147483648) : (nI a ≤ (100 : Int32)) = (a ≤ 100) := propext (nI_leI (b := 100) h (by decide))
theorem qlt_100 {a : Nat} (h : a < 2147483648) : ((100 : Int32) < nI a) = (100 < a) := propext (nI_ltI (a := 100) (by decide) h)
theorem qgt_100 {a : Nat} (h : a < 2147483648) : (nI a < (100 : Int32)) = (a < 100) := propext (nI_ltI (b := 100) h (by decide))
theorem qeq_100 {a : Nat} (h : a < 2147483648) : (nI a = (100 : Int32)) = (a = 100) := propext (nI_eq (b := 100) h (by decide))
theorem qle_120 {a : Nat} (h : a < 2147483648) : ((120 : Int32) ≤ nI a) = (120 ≤ a) := propext (nI_leI (a := 120) (by decide) h)
theorem qge_120 {a : Nat} (h : a < 2147483648) : (nI a ≤ (120 : Int32)) = (a ≤ 120) := propext (nI_leI (b := 120) h (by decide))
theorem qlt_120 {a : Nat} (h : a < 2147483648) : ((120 : Int32) < nI a) = (120 < a) := propext (nI_ltI (a := 120) (by decide) h)
theorem qgt_120 {a : Nat} (h : a < 2147483648) : (nI a < (120 : Int32)) = (a < 120) := propext (nI_ltI (b := 120) h (by decide))
theorem qeq_120 {a : Nat} (h : a < 2147483648) : (nI a = (120 : Int32)) = (a = 120) := propext (nI_eq (b := 120) h (by decide))
theorem qle_400 {a : Nat} (h : a < 2147483648) : ((400 : Int32) ≤ nI a) = (400 ≤ a) := propext (nI_leI (a := 400) (by decide) h)
theorem qge_400 {a : Nat} (h : a < 2147483648) : (nI a ≤ (400 : Int32)) = (a ≤ 400) := propext (nI_leI (b := 400) h (by decide))
theorem qlt_400 {a : Nat} (h : a < 2147483648) : ((400 : Int32) < nI a) = (400 < a) := propext (nI_ltI (a := 400) (by decide) h)
theorem qgt_400 {a : Nat} (h : a < 2147483648) : (nI a < (400 : Int32)) = (a < 400) := propext (nI_ltI (b := 400) h (by decide))
theorem qeq_400 {a : Nat} (h : a < 2147483648) : (nI a = (400 : Int32)) = (a = 400) := propext (nI_eq (b := 400) h (by decide))
theorem qle_1999 {a : Nat} (h : a < 2147483648) : ((1999 : Int32) ≤ nI a) = (1999 ≤ a) := propext (nI_leI (a := 1999) (by decide) h)
theorem qge_1999 {a : Nat} (h : a < 2147483648) : (nI a ≤ (1999 : Int32)) = (a ≤ 1999) := propext (nI_leI (b := 1999) h (by decide))
theorem qlt_1999 {a : Nat} (h : a < 2147483648) : ((1999 : Int32) < nI a) = (1999 < a) := propext (nI_ltI (a := 1999) (by decide) h)
theorem qgt_1999 {a : Nat} (h : a < 2147483648) : (nI a < (1999 : Int32)) = (a < 1999) := propext (nI_ltI (b := 1999) h (by decide))
theorem qeq_1999 {a : Nat} (h : a < 2147483648) : (nI a = (1999 : Int32)) = (a = 1999) := propext (nI_eq (b := 1999) h (by decide))
theorem qle_2200 {a : Nat} (h : a < 2147483648) : ((2200 : Int32) ≤ nI a) = (2200 ≤ a) := propext (nI_leI (a := 2200) (by decide) h)
theorem qge_2200 {a : Nat} (h : a < 2147483648) : (nI a ≤ (2200 : Int32)) = (a ≤ 2200) := propext (nI_leI (b := 2200) h (by decide))
theorem qlt_2200 {a : Nat} (h : a < 2147483648) : ((2200 : Int32) < nI a) = (2200 < a) := propext (nI_ltI (a := 2200) (by decide) h)
theorem qgt_2200 {a : Nat} (h : a < 2147483648) : (nI a < (2200 : Int32)) = (a < 2200) := propext (nI_ltI (b := 2200) h (by decide))
theorem qeq_2200 {a : Nat} (h : a < 2147483648) : (nI a = (2200 : Int32)) = (a = 2200) := propext (nI_eq (b := 2200) h (by decide))
theorem qle_11 {a : Nat} (h : a < 2147483648) : ((11 : Int32) ≤ nI a) = (11 ≤ a) := propext (nI_leI (a := 11) (by decide) h)
theorem qge_11 {a : Nat} (h : a < 2147483648) : (nI a ≤ (11 : Int32)) = (a ≤ 11) := propext (nI_leI (b := 11) h (by decide))
theorem qlt_11 {a : Nat} (h : a < 2147483648) : ((11 : Int32) < nI a) = (11 < a) := propext (nI_ltI (a := 11) (by decide) h)
theorem qgt_11 {a : Nat} (h : a < 2147483648) : (nI a < (11 : Int32)) = (a < 11) := propext (nI_ltI (b := 11) h (by decide))
theorem qeq_11 {a : Nat} (h : a < 2147483648) : (nI a = (11 : Int32)) = (a = 11) := propext (nI_eq (b := 11) h (by decide))
theorem qle_59 {a : Nat} (h : a < 2147483648) : ((59 : Int32) ≤ nI a) = (59 ≤ a) := propext (nI_leI (a := 59) (by decide) h)
theorem qge_59 {a : Nat} (h : a < 2147483648) : (nI a ≤ (59 : Int32)) = (a ≤ 59) := propext (nI_leI (b := 59) h (by decide))
theorem qlt_59 {a : Nat} (h : a < 2147483648) : ((59 : Int32) < nI a) = (59 < a) := propext (nI_ltI (a := 59) (by decide) h)
theorem qgt_59 {a : Nat} (h : a < 2147483648) : (nI a < (59 : Int32)) = (a < 59) := propext (nI_ltI (b := 59) h (by decide))
theorem qeq_59 {a : Nat} (h : a < 2147483648) : (nI a = (59 : Int32)) = (a = 59) := propext (nI_eq (b := 59) h (by decide))
theorem qle {a b : Nat} (h : a < 2147483648) (hb : b < 2147483648) : (nI a ≤ nI b) = (a ≤ b) := propext (nI_leI h hb)
theorem qlt {a b : Nat} (h : a < 2147483648) (hb : b < 2147483648) : (nI a < nI b) = (a < b) := propext (nI_ltI h hb)
theorem qeq {a b : Nat} (h : a < 2147483648) (hb : b < 2147483648) : (nI a = nI b) = (a = b) := propext (nI_eq h hb)
theorem qnem10 {a : Nat} (h : a < 2147483648) : (nI a = (-10 : Int32)) = False := by
  apply propext
  constructor
  · intro h1
    have h2 := congrArg Int32.toInt h1
    have h3 : (-10 : Int32).toInt = -10 := by decide
    rw [nI_toInt (by omega), h3] at h2
    omega
  · exact False.elim
theorem qnem1 {a : Nat} (h : a < 2147483648) : (nI a = (-1 : Int32)) = False := by
  apply propext
  constructor
  · intro h1
    have h2 := congrArg Int32.toInt h1
    have h3 : (-1 : Int32).toInt = -1 := by decide
    rw [nI_toInt (by omega), h3] at h2
    omega
  · exact False.elim
/-! bits -/
def bt (m : Int32) (i : Nat) : Bool := m.toBitVec.getLsbD i
def b1 (j : Nat) : Int32 := (1 : Int32) <<< (nI j &&& 31)
theorem bt_or (m k : Int32) (i : Nat) : bt (m ||| k) i = (bt m i || bt k i) := by
  unfold bt; rw [Int32.toBitVec_or, BitVec.getLsbD_or]
theorem bt_and (m k : Int32) (i : Nat) : bt (m &&& k) i = (bt m i && bt k i) := by
  unfold bt; rw [Int32.toBitVec_and, BitVec.getLsbD_and]
theorem bt_ge (m : Int32) {i : Nat} (h : 32 ≤ i) : bt m i = false := BitVec.getLsbD_of_ge _ _ h
theorem bt_not (m : Int32) {i : Nat} (h : i < 32) : bt (m ^^^ (-1 : Int32)) i = !bt m i := by
  unfold bt
  rw [Int32.toBitVec_xor, BitVec.getLsbD_xor]
  have h1 : (-1 : Int32).toBitVec = BitVec.allOnes 32 := by decide
  rw [h1, BitVec.getLsbD_allOnes]
  simp [h]
theorem bt_0 (i : Nat) : bt 0 i = false := by
  unfold bt
  have h1 : (0 : Int32).toBitVec = 0#32 := rfl
  rw [h1, BitVec.getLsbD_zero]
theorem bt_ext {m k : Int32} (h : ∀ i, i < 32 → bt m i = bt k i) : m = k := by
  apply Int32.toBitVec_inj.mp
  apply BitVec.eq_of_getLsbD_eq
  intro i hi
  exact h i hi
theorem bt_b1a : ∀ j, j < 10 → ∀ i, i < 32 → bt (b1 j) i = decide (i = j) := by decide +kernel
theorem bt_b1 {j : Nat} (hj : j < 10) (i : Nat) : bt (b1 j) i = decide (i = j) := by
  by_cases hi : i < 32
  · exact bt_b1a j hj i hi
  · rw [bt_ge _ (by omega)]
    exact (decide_eq_false (by omega)).symm
theorem bt_eq0 (m : Int32) : (m = 0) ↔ ∀ i, i < 32 → bt m i = false := by
  constructor
  · rintro rfl i _
    exact bt_0 i
  · intro h
    exact bt_ext (fun i hi => by rw [h i hi, bt_0])
/-- a mask has no bit that another lacks -/
theorem bt_sub (m k : Int32) : (m &&& (k ^^^ (-1 : Int32)) = 0) ↔ ∀ i, i < 32 → bt m i = true → bt k i = true := by
  rw [bt_eq0]
  constructor
  · intro h i hi hm
    have := h i hi
    rw [bt_and, bt_not _ hi, hm] at this
    simpa using this
  · intro h i hi
    rw [bt_and, bt_not _ hi]
    cases hm : bt m i with
    | false => rfl
    | true => rw [h i hi hm]; rfl
theorem bt_hit (m : Int32) {j : Nat} (hj : j < 10) : (m &&& b1 j = 0) ↔ bt m j = false := by
  rw [bt_eq0]
  constructor
  · intro h
    have := h j (by omega)
    rw [bt_and, bt_b1 hj] at this
    simpa using this
  · intro h i hi
    rw [bt_and, bt_b1 hj]
    by_cases hij : i = j
    · subst hij; rw [h]; rfl
    · simp [hij]
theorem bt_shr (m : Int32) {j : Nat} (hj : j < 10) : (m >>> (nI j &&& 31)) &&& (1 : Int32) = if bt m j then 1 else 0 := by
  have hsm : ∀ j, j < 10 → ((nI j &&& 31).toBitVec.smod 32).toNat = j := by decide +kernel
  have hone : ∀ i, i < 32 → bt 1 i = decide (i = 0) := by decide +kernel
  have hb : bt (m >>> (nI j &&& 31)) 0 = bt m j := by
    unfold bt
    rw [Int32.toBitVec_shiftRight, BitVec.sshiftRight_eq', hsm j hj, BitVec.getLsbD_sshiftRight]
    have : 0 + j < 32 := by omega
    simp [this]
    omega
  apply bt_ext
  intro i hi
  rw [bt_and, hone i hi]
  by_cases h0 : i = 0
  · subst h0
    rw [hb]
    cases bt m j
    · simp [bt_0]
    · simp [hone 0 (by omega)]
  · cases bt m j
    · simp [bt_0, h0]
    · simp [hone i hi, h0]
theorem bt_shr0 (m : Int32) {j : Nat} (hj : j < 10) : (((m >>> (nI j &&& 31)) &&& (1 : Int32)) = 0) ↔ bt m j = false := by
  rw [bt_shr m hj]
  cases bt m j <;> decide
theorem bt_shr1 (m : Int32) {j : Nat} (hj : j < 10) : (((m >>> (nI j &&& 31)) &&& (1 : Int32)) = 1) ↔ bt m j = true := by
  rw [bt_shr m hj]
  cases bt m j <;> decide
/-- how many of the first m are not 0 -/
def vcnt (f : Nat → Nat) : Nat → Nat
  | 0 => 0
  | m + 1 => vcnt f m + (if f m = 0 then 0 else 1)
theorem vcnt_le (f : Nat → Nat) (m : Nat) : vcnt f m ≤ m := by
  induction m with
  | zero => exact Nat.le_refl 0
  | succ m ih => unfold vcnt; split <;> omega
theorem vcnt_congr {f g : Nat → Nat} {m : Nat} (h : ∀ i, i < m → (f i = 0 ↔ g i = 0)) : vcnt f m = vcnt g m := by
  induction m with
  | zero => rfl
  | succ m ih =>
    unfold vcnt
    rw [ih (fun i hi => h i (by omega))]
    have := h m (by omega)
    by_cases hf : f m = 0
    · rw [if_pos hf, if_pos (this.mp hf)]
    · rw [if_neg hf, if_neg (fun hh => hf (this.mpr hh))]
theorem vcnt_up {f g : Nat → Nat} {m i : Nat} (hi : i < m) (h : ∀ j, j < m → j ≠ i → (f j = 0 ↔ g j = 0)) (hf : f i = 0) (hg : g i ≠ 0) : vcnt g m = vcnt f m + 1 := by
  induction m with
  | zero => omega
  | succ m ih =>
    unfold vcnt
    by_cases him : i = m
    · subst him
      rw [if_pos hf, if_neg hg, vcnt_congr (f := g) (g := f) (fun j hj => (h j (by omega) (by omega)).symm)]
    · rw [ih (by omega) (fun j hj => h j (by omega))]
      have := h m (by omega) (fun hh => him hh.symm)
      by_cases hfm : f m = 0
      · rw [if_pos hfm, if_pos (this.mp hfm)]
      · rw [if_neg hfm, if_neg (fun hh => hfm (this.mpr hh))]
theorem vcnt_lt {f : Nat → Nat} {m i : Nat} (hi : i < m) (hf : f i = 0) : vcnt f m < m := by
  have h := vcnt_up (f := f) (g := fun j => if j = i then 1 else f j) hi (fun j hj hji => by simp [hji]) hf (by simp)
  have := vcnt_le (fun j => if j = i then 1 else f j) m
  omega
