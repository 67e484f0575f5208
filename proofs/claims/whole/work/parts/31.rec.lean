/-! THE PURE PART: a recording in numbers: n 0 objects, 1 operations, 2 events, 3 ordered; a 3 kinds, 4 threads, 5 objects, 8 invoked, 9 responded (one above, 0 for none), 11 forms, 12 threads and 13 operations of events, 14 order, 17 pending (one above), 18 crashed; c 1 types, 2 initials, 6 and 7 arguments, 10 results. -/
abbrev vN : Type := Nat → Nat
abbrev vA : Type := Nat → Nat → Nat
abbrev vC : Type := Nat → Nat → Int32
def sN (n : vN) (i v : Nat) : vN := fun k => if k = i then v else n k
def sV (a : vA) (o i v : Nat) : vA := fun p j => if p = o ∧ j = i then v else a p j
def sC (c : vC) (o i : Nat) (v : Int32) : vC := fun p j => if p = o ∧ j = i then v else c p j
def GdB (n : vN) (a : vA) : Prop := n 0 ≤ 4 ∧ n 1 ≤ 10 ∧ n 2 = n 1 + vcnt (a 9) (n 1) + vcnt (a 18) 4 ∧ n 3 ≤ n 1
def GdR (a : vA) : Prop := ∀ j, a 3 j < 10 ∧ a 4 j < 4 ∧ a 5 j < 4 ∧ a 8 j < 24 ∧ a 9 j < 25 ∧ a 11 j < 3 ∧ a 12 j < 4 ∧ a 13 j < 10 ∧ a 14 j < 10 ∧ a 17 j < 11 ∧ a 18 j < 2
def GdC (a : vA) (c : vC) : Prop := ∀ j, (-99 ≤ (c 2 j).toInt ∧ (c 2 j).toInt ≤ 99) ∧ (-99 ≤ (c 6 j).toInt ∧ (c 6 j).toInt ≤ 99) ∧ (a 3 j ≠ 4 → 0 ≤ (c 6 j).toInt) ∧ (0 ≤ (c 7 j).toInt ∧ (c 7 j).toInt ≤ 99)
def GdO (n : vN) (a : vA) : Prop := ∀ i, i < n 1 → a 5 i < n 0 ∧ a 8 i < n 2 ∧ a 11 (a 8 i) = 0 ∧ a 13 (a 8 i) = i ∧ (a 9 i ≠ 0 → a 8 i + 1 < a 9 i ∧ a 9 i ≤ n 2 ∧ a 11 (a 9 i - 1) = 1 ∧ a 13 (a 9 i - 1) = i)
def GdT (n : vN) (a : vA) : Prop := ∀ i j, i < j → j < n 1 → a 8 i < a 8 j ∧ (a 4 i = a 4 j → a 9 i ≠ 0 ∧ a 9 i ≤ a 8 j)
def GdE (n : vN) (a : vA) : Prop := ∀ e, e < n 2 → (a 11 e = 0 → a 13 e < n 1 ∧ a 8 (a 13 e) = e ∧ a 12 e = a 4 (a 13 e)) ∧ (a 11 e = 1 → a 13 e < n 1 ∧ a 9 (a 13 e) = e + 1 ∧ a 12 e = a 4 (a 13 e)) ∧ (a 11 e = 2 → a 18 (a 12 e) = 1)
def GdX (n : vN) (a : vA) : Prop := ∀ e f, e < f → f < n 2 → a 11 e = 2 → a 12 f ≠ a 12 e
def GdP (n : vN) (a : vA) : Prop := ∀ t, t < 4 → (a 18 t = 1 → ∃ e, e < n 2 ∧ a 11 e = 2 ∧ a 12 e = t) ∧ (a 17 t ≠ 0 → a 17 t - 1 < n 1 ∧ a 4 (a 17 t - 1) = t ∧ a 9 (a 17 t - 1) = 0)
def GdQ (n : vN) (a : vA) : Prop := ∀ i, i < n 1 → a 9 i = 0 → a 17 (a 4 i) = i + 1
def GdS (n : vN) (a : vA) : Prop := (∀ i, i < n 3 → a 14 i < n 1) ∧ (∀ i j, i < j → j < n 3 → a 14 i ≠ a 14 j)
def Good (n : vN) (a : vA) (c : vC) : Prop := GdB n a ∧ GdR a ∧ GdC a c ∧ GdO n a ∧ GdT n a ∧ GdE n a ∧ GdX n a ∧ GdP n a ∧ GdQ n a ∧ GdS n a
theorem Good.b {n : vN} {a : vA} {c : vC} (h : Good n a c) : n 0 ≤ 4 ∧ n 1 ≤ 10 ∧ n 2 ≤ 24 ∧ n 3 ≤ n 1 := by
  obtain ⟨⟨h0, h1, h2, h3⟩, -⟩ := h
  have := vcnt_le (a 9) (n 1)
  have := vcnt_le (a 18) 4
  omega
theorem Good.r {n : vN} {a : vA} {c : vC} (h : Good n a c) : GdR a := h.2.1
theorem Good.cc {n : vN} {a : vA} {c : vC} (h : Good n a c) : GdC a c := h.2.2.1
theorem Good.o {n : vN} {a : vA} {c : vC} (h : Good n a c) : GdO n a := h.2.2.2.1
theorem Good.t {n : vN} {a : vA} {c : vC} (h : Good n a c) : GdT n a := h.2.2.2.2.1
theorem Good.e {n : vN} {a : vA} {c : vC} (h : Good n a c) : GdE n a := h.2.2.2.2.2.1
theorem Good.x {n : vN} {a : vA} {c : vC} (h : Good n a c) : GdX n a := h.2.2.2.2.2.2.1
theorem Good.p {n : vN} {a : vA} {c : vC} (h : Good n a c) : GdP n a := h.2.2.2.2.2.2.2.1
theorem Good.q {n : vN} {a : vA} {c : vC} (h : Good n a c) : GdQ n a := h.2.2.2.2.2.2.2.2.1
theorem Good.s {n : vN} {a : vA} {c : vC} (h : Good n a c) : GdS n a := h.2.2.2.2.2.2.2.2.2

def RX (b : Nat) (st : ax_S) (n : vN) (a : vA) (c : vC) : Prop :=
  (st.1 (b + 1) 0 = nI (n 0) ∧ st.1 (b + 4) 4 = nI (n 1) ∧ st.1 (b + 4) 0 = nI (n 2) ∧ st.1 (b + 19) 0 = nI (n 3)) ∧
  (∀ j, j < 4 → st.2 (b + 2) j = c 1 j ∧ st.2 (b + 3) j = c 2 j ∧ st.2 (b + 16) j = nI (a 17 j) - 1 ∧ st.2 (b + 17) j = nI (a 18 j)) ∧
  (∀ j, j < 10 → st.2 (b + 8) j = nI (a 3 j) ∧ st.2 (b + 9) j = nI (a 4 j) ∧ st.2 (b + 10) j = nI (a 5 j) ∧ st.2 (b + 11) j = c 6 j ∧ st.2 (b + 12) j = c 7 j ∧ st.2 (b + 13) j = nI (a 8 j) ∧ st.2 (b + 14) j = nI (a 9 j) - 1 ∧ st.2 (b + 15) j = c 10 j ∧ st.2 (b + 20) j = nI (a 14 j)) ∧
  (∀ j, j < 24 → st.2 (b + 5) j = nI (a 11 j) ∧ st.2 (b + 6) j = nI (a 12 j) ∧ (j < n 2 → a 11 j ≠ 2 → st.2 (b + 7) j = nI (a 13 j)))
def RM (st : ax_S) (n : vN) (a : vA) (c : vC) : Prop :=
  (st.1 0 0 = nI (n 0) ∧ st.1 0 3 = nI (n 1) ∧ st.1 0 12 = nI (n 2) ∧ st.1 0 16 = nI (n 3)) ∧
  (∀ j, j < 4 → st.2 1 j = c 1 j ∧ st.2 2 j = c 2 j) ∧
  (∀ j, j < 10 → st.2 3 j = nI (a 3 j) ∧ st.2 4 j = nI (a 4 j) ∧ st.2 5 j = nI (a 5 j) ∧ st.2 6 j = c 6 j ∧ st.2 7 j = c 7 j ∧ st.2 8 j = nI (a 8 j) ∧ st.2 9 j = nI (a 9 j) - 1 ∧ st.2 10 j = c 10 j ∧ st.2 14 j = nI (a 14 j)) ∧
  (∀ j, j < 24 → st.2 11 j = nI (a 11 j) ∧ st.2 12 j = nI (a 12 j) ∧ (j < n 2 → a 11 j ≠ 2 → st.2 13 j = nI (a 13 j)))
def RS (st : ax_S) (n : vN) (a : vA) (c : vC) : Prop :=
  (st.2 27 0 = nI (n 0) ∧ st.2 27 1 = nI (n 1) ∧ st.2 27 2 = nI (n 2) ∧ st.2 27 3 = nI (n 3)) ∧
  (∀ j, j < 4 → st.2 27 (4 + j) = c 1 j ∧ st.2 27 (8 + j) = c 2 j) ∧
  (∀ j, j < 10 → st.2 27 (12 + j) = nI (a 3 j) ∧ st.2 27 (22 + j) = nI (a 4 j) ∧ st.2 27 (32 + j) = nI (a 5 j) ∧ st.2 27 (42 + j) = c 6 j ∧ st.2 27 (52 + j) = c 7 j ∧ st.2 27 (62 + j) = nI (a 8 j) ∧ st.2 27 (72 + j) = nI (a 9 j) - 1 ∧ st.2 27 (82 + j) = c 10 j ∧ st.2 27 (164 + j) = nI (a 14 j)) ∧
  (∀ j, j < 24 → st.2 27 (92 + j) = nI (a 11 j) ∧ st.2 27 (116 + j) = nI (a 12 j) ∧ (j < n 2 → a 11 j ≠ 2 → st.2 27 (140 + j) = nI (a 13 j)))
theorem X_n0 {st : ax_S} {n : vN} {a : vA} {c : vC} (h : RX 1 st n a c) : st.1 2 0 = nI (n 0) := h.1.1
theorem X_n1 {st : ax_S} {n : vN} {a : vA} {c : vC} (h : RX 1 st n a c) : st.1 5 4 = nI (n 1) := h.1.2.1
theorem X_n2 {st : ax_S} {n : vN} {a : vA} {c : vC} (h : RX 1 st n a c) : st.1 5 0 = nI (n 2) := h.1.2.2.1
theorem X_n3 {st : ax_S} {n : vN} {a : vA} {c : vC} (h : RX 1 st n a c) : st.1 20 0 = nI (n 3) := h.1.2.2.2
theorem X_ty {st : ax_S} {n : vN} {a : vA} {c : vC} (h : RX 1 st n a c) {j : Nat} (hj : j < 4) : st.2 3 j = c 1 j := (h.2.1 j hj).1
theorem X_in {st : ax_S} {n : vN} {a : vA} {c : vC} (h : RX 1 st n a c) {j : Nat} (hj : j < 4) : st.2 4 j = c 2 j := (h.2.1 j hj).2.1
theorem X_pn {st : ax_S} {n : vN} {a : vA} {c : vC} (h : RX 1 st n a c) {j : Nat} (hj : j < 4) : st.2 17 j = nI (a 17 j) - 1 := (h.2.1 j hj).2.2.1
theorem X_cr {st : ax_S} {n : vN} {a : vA} {c : vC} (h : RX 1 st n a c) {j : Nat} (hj : j < 4) : st.2 18 j = nI (a 18 j) := (h.2.1 j hj).2.2.2
theorem X_kd {st : ax_S} {n : vN} {a : vA} {c : vC} (h : RX 1 st n a c) {j : Nat} (hj : j < 10) : st.2 9 j = nI (a 3 j) := (h.2.2.1 j hj).1
theorem X_th {st : ax_S} {n : vN} {a : vA} {c : vC} (h : RX 1 st n a c) {j : Nat} (hj : j < 10) : st.2 10 j = nI (a 4 j) := (h.2.2.1 j hj).2.1
theorem X_ob {st : ax_S} {n : vN} {a : vA} {c : vC} (h : RX 1 st n a c) {j : Nat} (hj : j < 10) : st.2 11 j = nI (a 5 j) := (h.2.2.1 j hj).2.2.1
theorem X_fa {st : ax_S} {n : vN} {a : vA} {c : vC} (h : RX 1 st n a c) {j : Nat} (hj : j < 10) : st.2 12 j = c 6 j := (h.2.2.1 j hj).2.2.2.1
theorem X_sa {st : ax_S} {n : vN} {a : vA} {c : vC} (h : RX 1 st n a c) {j : Nat} (hj : j < 10) : st.2 13 j = c 7 j := (h.2.2.1 j hj).2.2.2.2.1
theorem X_iv {st : ax_S} {n : vN} {a : vA} {c : vC} (h : RX 1 st n a c) {j : Nat} (hj : j < 10) : st.2 14 j = nI (a 8 j) := (h.2.2.1 j hj).2.2.2.2.2.1
theorem X_rs {st : ax_S} {n : vN} {a : vA} {c : vC} (h : RX 1 st n a c) {j : Nat} (hj : j < 10) : st.2 15 j = nI (a 9 j) - 1 := (h.2.2.1 j hj).2.2.2.2.2.2.1
theorem X_re {st : ax_S} {n : vN} {a : vA} {c : vC} (h : RX 1 st n a c) {j : Nat} (hj : j < 10) : st.2 16 j = c 10 j := (h.2.2.1 j hj).2.2.2.2.2.2.2.1
theorem X_od {st : ax_S} {n : vN} {a : vA} {c : vC} (h : RX 1 st n a c) {j : Nat} (hj : j < 10) : st.2 21 j = nI (a 14 j) := (h.2.2.1 j hj).2.2.2.2.2.2.2.2
theorem X_fo {st : ax_S} {n : vN} {a : vA} {c : vC} (h : RX 1 st n a c) {j : Nat} (hj : j < 24) : st.2 6 j = nI (a 11 j) := (h.2.2.2 j hj).1
theorem X_te {st : ax_S} {n : vN} {a : vA} {c : vC} (h : RX 1 st n a c) {j : Nat} (hj : j < 24) : st.2 7 j = nI (a 12 j) := (h.2.2.2 j hj).2.1
theorem X_oe {st : ax_S} {n : vN} {a : vA} {c : vC} (h : RX 1 st n a c) {j : Nat} (hj : j < 24) (hE : j < n 2) (hf : a 11 j ≠ 2) : st.2 8 j = nI (a 13 j) := (h.2.2.2 j hj).2.2 hE hf
theorem M_n0 {st : ax_S} {n : vN} {a : vA} {c : vC} (h : RM st n a c) : st.1 0 0 = nI (n 0) := h.1.1
theorem M_n1 {st : ax_S} {n : vN} {a : vA} {c : vC} (h : RM st n a c) : st.1 0 3 = nI (n 1) := h.1.2.1
theorem M_n2 {st : ax_S} {n : vN} {a : vA} {c : vC} (h : RM st n a c) : st.1 0 12 = nI (n 2) := h.1.2.2.1
theorem M_n3 {st : ax_S} {n : vN} {a : vA} {c : vC} (h : RM st n a c) : st.1 0 16 = nI (n 3) := h.1.2.2.2
theorem M_ty {st : ax_S} {n : vN} {a : vA} {c : vC} (h : RM st n a c) {j : Nat} (hj : j < 4) : st.2 1 j = c 1 j := (h.2.1 j hj).1
theorem M_in {st : ax_S} {n : vN} {a : vA} {c : vC} (h : RM st n a c) {j : Nat} (hj : j < 4) : st.2 2 j = c 2 j := (h.2.1 j hj).2
theorem M_kd {st : ax_S} {n : vN} {a : vA} {c : vC} (h : RM st n a c) {j : Nat} (hj : j < 10) : st.2 3 j = nI (a 3 j) := (h.2.2.1 j hj).1
theorem M_th {st : ax_S} {n : vN} {a : vA} {c : vC} (h : RM st n a c) {j : Nat} (hj : j < 10) : st.2 4 j = nI (a 4 j) := (h.2.2.1 j hj).2.1
theorem M_ob {st : ax_S} {n : vN} {a : vA} {c : vC} (h : RM st n a c) {j : Nat} (hj : j < 10) : st.2 5 j = nI (a 5 j) := (h.2.2.1 j hj).2.2.1
theorem M_fa {st : ax_S} {n : vN} {a : vA} {c : vC} (h : RM st n a c) {j : Nat} (hj : j < 10) : st.2 6 j = c 6 j := (h.2.2.1 j hj).2.2.2.1
theorem M_sa {st : ax_S} {n : vN} {a : vA} {c : vC} (h : RM st n a c) {j : Nat} (hj : j < 10) : st.2 7 j = c 7 j := (h.2.2.1 j hj).2.2.2.2.1
theorem M_iv {st : ax_S} {n : vN} {a : vA} {c : vC} (h : RM st n a c) {j : Nat} (hj : j < 10) : st.2 8 j = nI (a 8 j) := (h.2.2.1 j hj).2.2.2.2.2.1
theorem M_rs {st : ax_S} {n : vN} {a : vA} {c : vC} (h : RM st n a c) {j : Nat} (hj : j < 10) : st.2 9 j = nI (a 9 j) - 1 := (h.2.2.1 j hj).2.2.2.2.2.2.1
theorem M_re {st : ax_S} {n : vN} {a : vA} {c : vC} (h : RM st n a c) {j : Nat} (hj : j < 10) : st.2 10 j = c 10 j := (h.2.2.1 j hj).2.2.2.2.2.2.2.1
theorem M_od {st : ax_S} {n : vN} {a : vA} {c : vC} (h : RM st n a c) {j : Nat} (hj : j < 10) : st.2 14 j = nI (a 14 j) := (h.2.2.1 j hj).2.2.2.2.2.2.2.2
theorem M_fo {st : ax_S} {n : vN} {a : vA} {c : vC} (h : RM st n a c) {j : Nat} (hj : j < 24) : st.2 11 j = nI (a 11 j) := (h.2.2.2 j hj).1
theorem M_te {st : ax_S} {n : vN} {a : vA} {c : vC} (h : RM st n a c) {j : Nat} (hj : j < 24) : st.2 12 j = nI (a 12 j) := (h.2.2.2 j hj).2.1
theorem M_oe {st : ax_S} {n : vN} {a : vA} {c : vC} (h : RM st n a c) {j : Nat} (hj : j < 24) (hE : j < n 2) (hf : a 11 j ≠ 2) : st.2 13 j = nI (a 13 j) := (h.2.2.2 j hj).2.2 hE hf
def nmL : List Nat := [114, 101, 97, 100, 32, 119, 114, 105, 116, 101, 32, 99, 111, 109, 112, 97, 114, 101, 65, 110, 100, 83, 101, 116, 32, 103, 101, 116, 32, 97, 100, 100, 32, 101, 110, 113, 117, 101, 117, 101, 32, 100, 101, 113, 117, 101, 117, 101, 32, 105, 110, 115, 101, 114, 116, 32, 114, 101, 109, 111, 118, 101, 32, 99, 111, 110, 116, 97, 105, 110, 115, 32]
def Rcur (sx sm : ax_S) : Prop := ∃ n a c, Good n a c ∧ RX 1 sx n a c ∧ RM sm n a c
def Rsav (sx sm : ax_S) : Prop := (sx.1 0 5 = 0 ∧ sm.1 0 41 = 0) ∨ (sx.1 0 5 = 1 ∧ sm.1 0 41 = 1 ∧ ∃ n a c, Good n a c ∧ RX 22 sx n a c ∧ RS sm n a c)
def Rtxt (sx sm : ax_S) : Prop := ∃ T, T ≤ 120 ∧ sx.1 61 0 = nI T ∧ sm.1 0 36 = nI T ∧ ∀ j, j < T → ∃ ch, ch < 127 ∧ sx.2 62 j = nI ch ∧ sm.2 25 j = nI ch
def Rnam (sm : ax_S) : Prop := ∀ j, j < 72 → sm.2 24 j = nI (nmL.getD j 0)
def Rl (sx sm : ax_S) : Prop := Rcur sx sm ∧ Rsav sx sm ∧ Rtxt sx sm ∧ Rnam sm

theorem RX_fr {b : Nat} {s t : ax_S} {n : vN} {a : vA} {c : vC} (hf : ∀ o, b + 1 ≤ o → o ≤ b + 20 → o ≠ b + 18 → t.1 o = s.1 o ∧ t.2 o = s.2 o) (h : RX b s n a c) : RX b t n a c := by
  unfold RX at h ⊢
  simp only [(hf (b + 1) (by omega) (by omega) (by omega)).1, (hf (b + 2) (by omega) (by omega) (by omega)).2, (hf (b + 3) (by omega) (by omega) (by omega)).2, (hf (b + 4) (by omega) (by omega) (by omega)).1, (hf (b + 5) (by omega) (by omega) (by omega)).2, (hf (b + 6) (by omega) (by omega) (by omega)).2, (hf (b + 7) (by omega) (by omega) (by omega)).2, (hf (b + 8) (by omega) (by omega) (by omega)).2, (hf (b + 9) (by omega) (by omega) (by omega)).2, (hf (b + 10) (by omega) (by omega) (by omega)).2, (hf (b + 11) (by omega) (by omega) (by omega)).2, (hf (b + 12) (by omega) (by omega) (by omega)).2, (hf (b + 13) (by omega) (by omega) (by omega)).2, (hf (b + 14) (by omega) (by omega) (by omega)).2, (hf (b + 15) (by omega) (by omega) (by omega)).2, (hf (b + 16) (by omega) (by omega) (by omega)).2, (hf (b + 17) (by omega) (by omega) (by omega)).2, (hf (b + 19) (by omega) (by omega) (by omega)).1, (hf (b + 20) (by omega) (by omega) (by omega)).2]
  exact h
/-- what a call leaves as it was that only reckons -/
def FX (s t : ax_S) : Prop := ∀ o, ((o ≤ 42 ∧ o ≠ 19) ∨ o = 61 ∨ o = 62) → t.1 o = s.1 o ∧ t.2 o = s.2 o
def FM (s t : ax_S) : Prop := (∀ k, (k ≤ 16 ∨ k = 36 ∨ k = 41) → t.1 0 k = s.1 0 k) ∧ (∀ o, (o ≤ 14 ∨ o = 24 ∨ o = 25 ∨ o = 27) → t.2 o = s.2 o)
theorem FX.rf (s : ax_S) : FX s s := fun _ _ => ⟨rfl, rfl⟩
theorem FM.rf (s : ax_S) : FM s s := ⟨fun _ _ => rfl, fun _ _ => rfl⟩
theorem FX.tr {s t u : ax_S} (h : FX s t) (g : FX t u) : FX s u := fun o ho => ⟨(g o ho).1.trans (h o ho).1, (g o ho).2.trans (h o ho).2⟩
theorem FM.tr {s t u : ax_S} (h : FM s t) (g : FM t u) : FM s u := ⟨fun o ho => (g.1 o ho).trans (h.1 o ho), fun o ho => (g.2 o ho).trans (h.2 o ho)⟩
theorem RX1_fr {s t : ax_S} {n : vN} {a : vA} {c : vC} (hf : FX s t) (h : RX 1 s n a c) : RX 1 t n a c := RX_fr (fun o h1 h2 h3 => hf o (Or.inl ⟨by omega, by omega⟩)) h
theorem RX22_fr {s t : ax_S} {n : vN} {a : vA} {c : vC} (hf : FX s t) (h : RX 22 s n a c) : RX 22 t n a c := RX_fr (fun o h1 h2 h3 => hf o (Or.inl ⟨by omega, by omega⟩)) h
theorem RM_fr {s t : ax_S} {n : vN} {a : vA} {c : vC} (hf : FM s t) (h : RM s n a c) : RM t n a c := by
  unfold RM at h ⊢
  rw [hf.1 0 (by omega), hf.1 3 (by omega), hf.1 12 (by omega), hf.1 16 (by omega)]
  simp only [hf.2 1 (Or.inl (by decide)), hf.2 2 (Or.inl (by decide)), hf.2 3 (Or.inl (by decide)), hf.2 4 (Or.inl (by decide)), hf.2 5 (Or.inl (by decide)), hf.2 6 (Or.inl (by decide)), hf.2 7 (Or.inl (by decide)), hf.2 8 (Or.inl (by decide)), hf.2 9 (Or.inl (by decide)), hf.2 10 (Or.inl (by decide)), hf.2 11 (Or.inl (by decide)), hf.2 12 (Or.inl (by decide)), hf.2 13 (Or.inl (by decide)), hf.2 14 (Or.inl (by decide))]
  exact h
theorem RS_fr {s t : ax_S} {n : vN} {a : vA} {c : vC} (hf : t.2 27 = s.2 27) (h : RS s n a c) : RS t n a c := by
  unfold RS at h ⊢
  rw [hf]
  exact h
theorem Rl_fr {sx sm tx tm : ax_S} (h : Rl sx sm) (hx : FX sx tx) (hm : FM sm tm) : Rl tx tm := by
  obtain ⟨⟨n, a, c, h1, h2, h3⟩, h4, ⟨T, h5, h6, h7, h8⟩, h9⟩ := h
  refine ⟨⟨n, a, c, h1, RX1_fr hx h2, RM_fr hm h3⟩, ?_, ⟨T, h5, ?_, ?_, ?_⟩, ?_⟩
  · unfold Rsav at h4 ⊢
    rw [(hx 0 (by omega)).1, hm.1 41 (by omega)]
    rcases h4 with g | ⟨g1, g2, n, a, c, g3, g4, g5⟩
    · exact Or.inl g
    · exact Or.inr ⟨g1, g2, n, a, c, g3, RX22_fr hx g4, RS_fr (hm.2 27 (by omega)) g5⟩
  · rw [(hx 61 (by omega)).1]; exact h6
  · rw [hm.1 36 (by omega)]; exact h7
  · rw [(hx 62 (by omega)).2, hm.2 25 (by omega)]; exact h8
  · unfold Rnam at h9 ⊢
    rw [hm.2 24 (by omega)]; exact h9
