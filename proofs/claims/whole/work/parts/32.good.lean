/-! THE PURE PART: what each event does to a recording, and that it stays good. -/
def nInv (n : vN) : vN := sN (sN (sN n 1 (n 1 + 1)) 2 (n 2 + 1)) 3 0
def aInv (n : vN) (a : vA) (k t o : Nat) : vA := sV (sV (sV (sV (sV (sV (sV (sV (sV a 3 (n 1) k) 4 (n 1) t) 5 (n 1) o) 8 (n 1) (n 2)) 9 (n 1) 0) 11 (n 2) 0) 12 (n 2) t) 13 (n 2) (n 1)) 17 t (n 1 + 1)
def cInv (n : vN) (c : vC) (x y : Int32) : vC := sC (sC c 6 (n 1) x) 7 (n 1) y
def nRsp (n : vN) : vN := sN (sN n 2 (n 2 + 1)) 3 0
def aRsp (n : vN) (a : vA) (t i : Nat) : vA := sV (sV (sV (sV (sV a 9 i (n 2 + 1)) 11 (n 2) 1) 12 (n 2) t) 13 (n 2) i) 17 t 0
def aCrs (n : vN) (a : vA) (t : Nat) : vA := sV (sV (sV a 11 (n 2) 2) 12 (n 2) t) 18 t 1
theorem Good_inv {n : vN} {a : vA} {c : vC} (h : Good n a c) {k t o : Nat} {x y : Int32} (hK : n 1 < 10) (hk : k < 10) (ht : t < 4) (ho : o < n 0) (hx : -99 ≤ x.toInt ∧ x.toInt ≤ 99) (hx4 : k ≠ 4 → 0 ≤ x.toInt) (hy : 0 ≤ y.toInt ∧ y.toInt ≤ 99) (hcr : a 18 t = 0) (hpn : a 17 t = 0) : Good (nInv n) (aInv n a k t o) (cInv n c x y) := by
  have hb := h.b
  have hE : n 2 < 24 := by
    have h1 := h.1.2.2.1
    have := vcnt_le (a 9) (n 1)
    have := vcnt_le (a 18) 4
    omega
  refine ⟨⟨?_, ?_, ?_, ?_⟩, ?_, ?_, ?_, ?_, ?_, ?_, ?_, ?_, ?_⟩
  · simp [nInv, sN]; omega
  · simp [nInv, sN]; omega
  · have h1 := h.1.2.2.1
    have e1 : vcnt ((aInv n a k t o) 9) (n 1 + 1) = vcnt (a 9) (n 1) := by
      show vcnt ((aInv n a k t o) 9) (n 1) + (if (aInv n a k t o) 9 (n 1) = 0 then 0 else 1) = _
      rw [vcnt_congr (f := (aInv n a k t o) 9) (g := a 9) (fun i hi => by have : i ≠ n 1 := by omega
                                                                          simp [aInv, sV, this])]
      simp [aInv, sV]
    have e2 : vcnt ((aInv n a k t o) 18) 4 = vcnt (a 18) 4 := vcnt_congr (fun i hi => by simp [aInv, sV])
    show n 2 + 1 = (n 1 + 1) + vcnt ((aInv n a k t o) 9) (n 1 + 1) + vcnt ((aInv n a k t o) 18) 4
    rw [e1, e2]; omega
  · simp [nInv, sN]
  · intro j
    have := h.r j
    simp only [aInv, sV]
    grind
  · intro j
    have := h.cc j
    simp only [aInv, sV, cInv, sC]
    grind
  · intro i hi
    have h1 : i < n 1 + 1 := hi
    by_cases hin : i = n 1
    · subst hin
      simp [aInv, nInv, sV, sN]
      omega
    · have h2 := h.o i (by omega)
      simp only [aInv, nInv, sV, sN]
      grind
  · intro i j hij hj
    have h1 : j < n 1 + 1 := hj
    have hi := h.o i (by omega)
    have hp := (h.p t ht).2
    have hq := h.q i (by omega)
    by_cases hjn : j = n 1
    · subst hjn
      have : i ≠ n 1 := by omega
      simp [aInv, nInv, sV, sN, this]
      refine ⟨by omega, fun h4 => ?_⟩
      have : a 9 i ≠ 0 := by
        intro h0
        have := hq h0
        rw [h4] at this
        omega
      omega
    · have h2 := h.t i j hij (by omega)
      have : i ≠ n 1 := by omega
      simp [aInv, nInv, sV, sN, this, hjn]
      exact h2
  · intro e he
    have h1 : e < n 2 + 1 := he
    by_cases hen : e = n 2
    · subst hen
      simp [aInv, nInv, sV, sN]
    · have h2 := h.e e (by omega)
      have h3 := h.r e
      simp only [aInv, nInv, sV, sN]
      grind
  · intro e f hef hf
    have h1 : f < n 2 + 1 := hf
    have hen : e ≠ n 2 := by omega
    by_cases hfn : f = n 2
    · subst hfn
      have h2 := (h.e e (by omega)).2.2
      simp [aInv, nInv, sV, sN, hen]
      intro h3 h4
      have := h2 h3
      rw [← h4, hcr] at this
      omega
    · have h2 := h.x e f hef (by omega)
      simp [aInv, nInv, sV, sN, hen, hfn]
      exact h2
  · intro u hu
    have h2 := h.p u hu
    by_cases hut : u = t
    · subst hut
      simp [aInv, nInv, sV, sN]
      omega
    · refine ⟨fun h3 => ?_, fun h3 => ?_⟩
      · obtain ⟨e, g1, g2, g3⟩ := h2.1 (by simpa [aInv, sV] using h3)
        have : e ≠ n 2 := by omega
        exact ⟨e, by simp [nInv, sN]; omega, by simp [aInv, sV, this]; exact g2, by simp [aInv, sV, this]; exact g3⟩
      · have h4 := h2.2 (by simpa [aInv, sV, hut] using h3)
        have h5 : a 17 u - 1 ≠ n 1 := by omega
        simp [aInv, nInv, sV, sN, hut, h5]
        omega
  · intro i hi h9
    have h1 : i < n 1 + 1 := hi
    by_cases hin : i = n 1
    · subst hin
      simp [aInv, sV]
    · have h2 := h.q i (by omega)
      have h4 : a 9 i = 0 := by simpa [aInv, sV, hin] using h9
      have h3 : a 4 i ≠ t := by
        intro h5
        have := h2 h4
        rw [h5] at this
        omega
      simp [aInv, sV, hin, h3]
      exact h2 h4
  · refine ⟨fun i hi => ?_, fun i j _ hj => ?_⟩
    · simp [nInv, sN] at hi
    · simp [nInv, sN] at hj
theorem Good_rsp {n : vN} {a : vA} {c : vC} (h : Good n a c) {i t : Nat} (hi : i < n 1) (h9 : a 9 i = 0) (h4 : a 4 i = t) (hcr : a 18 t = 0) : Good (nRsp n) (aRsp n a t i) c := by
  have hb := h.b
  have ht : t < 4 := by have := (h.r i).2.1; omega
  have hpn : a 17 t = i + 1 := by have := h.q i hi h9; rw [h4] at this; exact this
  have hE : n 2 < 24 := by
    have h1 := h.1.2.2.1
    have := vcnt_lt hi h9
    have := vcnt_le (a 18) 4
    omega
  refine ⟨⟨?_, ?_, ?_, ?_⟩, ?_, ?_, ?_, ?_, ?_, ?_, ?_, ?_, ?_⟩
  · simp [nRsp, sN]; omega
  · simp [nRsp, sN]; omega
  · have h1 := h.1.2.2.1
    have e1 : vcnt ((aRsp n a t i) 9) (n 1) = vcnt (a 9) (n 1) + 1 := vcnt_up hi (fun j hj hji => by simp [aRsp, sV, hji]) h9 (by simp [aRsp, sV])
    have e2 : vcnt ((aRsp n a t i) 18) 4 = vcnt (a 18) 4 := vcnt_congr (fun i hi => by simp [aRsp, sV])
    show n 2 + 1 = n 1 + vcnt ((aRsp n a t i) 9) (n 1) + vcnt ((aRsp n a t i) 18) 4
    rw [e1, e2]; omega
  · simp [nRsp, sN]
  · intro j
    have := h.r j
    have := h.r i
    simp only [aRsp, sV]
    grind
  · intro j
    have := h.cc j
    simp only [aRsp, sV]
    grind
  · intro j hj
    have h1 : j < n 1 := hj
    have h2 := h.o j h1
    simp only [aRsp, nRsp, sV, sN]
    grind
  · intro p q hpq hq
    have h1 : q < n 1 := hq
    have h2 := h.t p q hpq h1
    simp only [aRsp, sV]
    grind
  · intro e he
    have h1 : e < n 2 + 1 := he
    by_cases hen : e = n 2
    · subst hen
      simp [aRsp, nRsp, sV, sN, h4]
      exact hi
    · have h2 := h.e e (by omega)
      simp only [aRsp, nRsp, sV, sN]
      grind
  · intro e f hef hf
    have h1 : f < n 2 + 1 := hf
    have hen : e ≠ n 2 := by omega
    by_cases hfn : f = n 2
    · subst hfn
      have h2 := (h.e e (by omega)).2.2
      simp [aRsp, sV, hen]
      intro h3 h5
      have := h2 h3
      rw [← h5, hcr] at this
      omega
    · have h2 := h.x e f hef (by omega)
      simp [aRsp, sV, hen, hfn]
      exact h2
  · intro u hu
    have h2 := h.p u hu
    refine ⟨fun h3 => ?_, fun h3 => ?_⟩
    · obtain ⟨e, g1, g2, g3⟩ := h2.1 (by simpa [aRsp, sV] using h3)
      have : e ≠ n 2 := by omega
      exact ⟨e, by simp [nRsp, sN]; omega, by simp [aRsp, sV, this]; exact g2, by simp [aRsp, sV, this]; exact g3⟩
    · by_cases hut : u = t
      · subst hut
        simp [aRsp, sV] at h3
      · have h5 := h2.2 (by simpa [aRsp, sV, hut] using h3)
        have h6 : a 17 u - 1 ≠ i := by
          intro h7
          rw [h7] at h5
          omega
        simp [aRsp, nRsp, sV, sN, hut, h6]
        exact h5
  · intro j hj h0
    have h1 : j < n 1 := hj
    by_cases hji : j = i
    · subst hji
      simp [aRsp, sV] at h0
    · have h2 := h.q j h1 (by simpa [aRsp, sV, hji] using h0)
      have h3 : a 4 j ≠ t := by
        intro h5
        rw [h5] at h2
        omega
      simp [aRsp, sV, h3]
      exact h2
  · refine ⟨fun i hi => ?_, fun i j _ hj => ?_⟩
    · simp [nRsp, sN] at hi
    · simp [nRsp, sN] at hj
theorem Good_crs {n : vN} {a : vA} {c : vC} (h : Good n a c) {t : Nat} (ht : t < 4) (hcr : a 18 t = 0) : Good (nRsp n) (aCrs n a t) c := by
  have hb := h.b
  have hE : n 2 < 24 := by
    have h1 := h.1.2.2.1
    have := vcnt_lt ht hcr
    have := vcnt_le (a 9) (n 1)
    omega
  refine ⟨⟨?_, ?_, ?_, ?_⟩, ?_, ?_, ?_, ?_, ?_, ?_, ?_, ?_, ?_⟩
  · simp [nRsp, sN]; omega
  · simp [nRsp, sN]; omega
  · have h1 := h.1.2.2.1
    have e1 : vcnt ((aCrs n a t) 9) (n 1) = vcnt (a 9) (n 1) := vcnt_congr (fun i hi => by simp [aCrs, sV])
    have e2 : vcnt ((aCrs n a t) 18) 4 = vcnt (a 18) 4 + 1 := vcnt_up ht (fun j hj hji => by simp [aCrs, sV, hji]) hcr (by simp [aCrs, sV])
    show n 2 + 1 = n 1 + vcnt ((aCrs n a t) 9) (n 1) + vcnt ((aCrs n a t) 18) 4
    rw [e1, e2]; omega
  · simp [nRsp, sN]
  · intro j
    have := h.r j
    simp only [aCrs, sV]
    grind
  · intro j
    have := h.cc j
    simp only [aCrs, sV]
    grind
  · intro j hj
    have h1 : j < n 1 := hj
    have h2 := h.o j h1
    simp only [aCrs, nRsp, sV, sN]
    grind
  · intro p q hpq hq
    have h1 : q < n 1 := hq
    have h2 := h.t p q hpq h1
    simp only [aCrs, sV]
    grind
  · intro e he
    have h1 : e < n 2 + 1 := he
    by_cases hen : e = n 2
    · subst hen
      simp [aCrs, nRsp, sV, sN]
    · have h2 := h.e e (by omega)
      simp only [aCrs, nRsp, sV, sN]
      grind
  · intro e f hef hf
    have h1 : f < n 2 + 1 := hf
    have hen : e ≠ n 2 := by omega
    by_cases hfn : f = n 2
    · subst hfn
      have h2 := (h.e e (by omega)).2.2
      simp [aCrs, sV, hen]
      intro h3 h5
      have := h2 h3
      rw [← h5, hcr] at this
      omega
    · have h2 := h.x e f hef (by omega)
      simp [aCrs, sV, hen, hfn]
      exact h2
  · intro u hu
    have h2 := h.p u hu
    refine ⟨fun h3 => ?_, fun h3 => ?_⟩
    · by_cases hut : u = t
      · subst hut
        exact ⟨n 2, by simp [nRsp, sN], by simp [aCrs, sV], by simp [aCrs, sV]⟩
      · obtain ⟨e, g1, g2, g3⟩ := h2.1 (by simpa [aCrs, sV, hut] using h3)
        have : e ≠ n 2 := by omega
        exact ⟨e, by simp [nRsp, sN]; omega, by simp [aCrs, sV, this]; exact g2, by simp [aCrs, sV, this]; exact g3⟩
    · have h5 := h2.2 (by simpa [aCrs, sV] using h3)
      simp [aCrs, nRsp, sV, sN]
      exact h5
  · intro j hj h0
    have h2 := h.q j hj (by simpa [aCrs, sV] using h0)
    simp [aCrs, sV]
    exact h2
  · refine ⟨fun i hi => ?_, fun i j _ hj => ?_⟩
    · simp [nRsp, sN] at hi
    · simp [nRsp, sN] at hj
/-! one event less -/
def nUn0 (n : vN) : vN := sN (sN (sN n 1 (n 1 - 1)) 2 (n 2 - 1)) 3 0
def nUn1 (n : vN) : vN := sN (sN n 2 (n 2 - 1)) 3 0
theorem Good_un0 {n : vN} {a : vA} {c : vC} (h : Good n a c) (h2 : n 2 ≠ 0) (hf : a 11 (n 2 - 1) = 0) : n 1 ≠ 0 ∧ Good (nUn0 n) (sV a 17 (a 12 (n 2 - 1)) 0) c := by
  have hb := h.b
  have he := (h.e (n 2 - 1) (by omega)).1 hf
  have hi : a 13 (n 2 - 1) = n 1 - 1 := by
    by_cases hh : a 13 (n 2 - 1) = n 1 - 1
    · exact hh
    · have h3 := (h.t (a 13 (n 2 - 1)) (n 1 - 1) (by omega) (by omega)).1
      have h4 := h.o (n 1 - 1) (by omega)
      omega
  rw [hi] at he
  have hk := h.o (n 1 - 1) (by omega)
  have h9 : a 9 (n 1 - 1) = 0 := by
    by_cases hh : a 9 (n 1 - 1) = 0
    · exact hh
    · have := hk.2.2.2.2 hh
      omega
  generalize hk1 : n 1 - 1 = k at *
  generalize he1 : n 2 - 1 = z at *
  have hk2 : n 1 = k + 1 := by omega
  have hz2 : n 2 = z + 1 := by omega
  refine ⟨by omega, ⟨?_, ?_, ?_, ?_⟩, ?_, ?_, ?_, ?_, ?_, ?_, ?_, ?_, ?_⟩
  · simp [nUn0, sN]; omega
  · simp [nUn0, sN]; omega
  · have h1 := h.1.2.2.1
    have e1 : vcnt (a 9) (n 1) = vcnt (a 9) k := by
      rw [hk2]; show vcnt (a 9) k + (if a 9 k = 0 then 0 else 1) = _
      rw [if_pos h9]; omega
    have e3 : vcnt ((sV a 17 (a 12 z) 0) 9) k = vcnt (a 9) k := vcnt_congr (fun i hi => by simp [sV])
    have e2 : vcnt ((sV a 17 (a 12 z) 0) 18) 4 = vcnt (a 18) 4 := vcnt_congr (fun i hi => by simp [sV])
    show n 2 - 1 = (n 1 - 1) + vcnt ((sV a 17 (a 12 z) 0) 9) (n 1 - 1) + vcnt ((sV a 17 (a 12 z) 0) 18) 4
    rw [hk1, he1, e2, e3]; omega
  · simp [nUn0, sN]
  · intro j
    have := h.r j
    simp only [sV]
    grind
  · intro j
    have := h.cc j
    simp only [sV]
    grind
  · intro i hi
    have h1 : i < n 1 - 1 := hi
    have g1 := h.o i (by omega)
    have g2 := h.t i k (by omega) (by omega)
    have g3 : a 9 i ≠ n 2 := by
      intro h3
      have := g1.2.2.2.2 (by omega)
      rw [h3, he1] at this
      omega
    simp [nUn0, sV, sN]
    refine ⟨g1.1, by omega, g1.2.2.1, g1.2.2.2.1, fun h3 => ?_⟩
    have := g1.2.2.2.2 h3
    omega
  · intro i j hij hj
    have h1 : j < n 1 - 1 := hj
    have g1 := h.t i j hij (by omega)
    simpa [sV] using g1
  · intro e hez
    have h1 : e < n 2 - 1 := hez
    have g1 := h.e e (by omega)
    simp [nUn0, sV, sN]
    refine ⟨fun h3 => ?_, fun h3 => ?_, fun h3 => g1.2.2 h3⟩
    · have g2 := g1.1 h3
      have : a 13 e ≠ k := by
        intro h5
        rw [h5] at g2
        omega
      refine ⟨by omega, g2.2⟩
    · have g2 := g1.2.1 h3
      have : a 13 e ≠ k := by
        intro h5
        rw [h5] at g2
        omega
      refine ⟨by omega, g2.2⟩
  · intro e f hef hfz
    have h1 : f < n 2 - 1 := hfz
    have g1 := h.x e f hef (by omega)
    simpa [sV] using g1
  · intro u hu
    have g1 := h.p u hu
    refine ⟨fun h3 => ?_, fun h3 => ?_⟩
    · obtain ⟨e, q1, q2, q3⟩ := g1.1 (by simpa [sV] using h3)
      have : e ≠ z := by
        intro h5
        rw [h5] at q2
        omega
      exact ⟨e, by simp [nUn0, sN]; omega, by simpa [sV] using q2, by simpa [sV] using q3⟩
    · by_cases hut : u = a 12 z
      · simp [sV, hut] at h3
      · have g2 := g1.2 (by simpa [sV, hut] using h3)
        have g3 : a 17 u - 1 ≠ k := by
          intro h5
          rw [h5] at g2
          omega
        simp [nUn0, sV, sN, hut]
        exact ⟨by omega, g2.2⟩
  · intro i hi h0
    have h1 : i < n 1 - 1 := hi
    have g1 := h.q i (by omega) (by simpa [sV] using h0)
    have g2 := h.t i k (by omega) (by omega)
    have g3 : a 9 i = 0 := by simpa [sV] using h0
    have g4 : a 4 i ≠ a 12 z := by
      intro h5
      have := g2.2 (by omega)
      omega
    simp [sV, g4]
    exact g1
  · refine ⟨fun i hi => ?_, fun i j _ hj => ?_⟩
    · simp [nUn0, sN] at hi
    · simp [nUn0, sN] at hj
theorem Good_un1 {n : vN} {a : vA} {c : vC} (h : Good n a c) (h2 : n 2 ≠ 0) (hf : a 11 (n 2 - 1) = 1) : a 13 (n 2 - 1) < n 1 ∧ Good (nUn1 n) (sV (sV a 9 (a 13 (n 2 - 1)) 0) 17 (a 12 (n 2 - 1)) (a 13 (n 2 - 1) + 1)) c := by
  have hb := h.b
  have he := (h.e (n 2 - 1) (by omega)).2.1 hf
  generalize hi : a 13 (n 2 - 1) = i at *
  have hk := h.o i (by omega)
  generalize he1 : n 2 - 1 = z at *
  have hz2 : n 2 = z + 1 := by omega
  have h9 := hk.2.2.2.2 (by omega)
  refine ⟨by omega, ⟨?_, ?_, ?_, ?_⟩, ?_, ?_, ?_, ?_, ?_, ?_, ?_, ?_, ?_⟩
  · simp [nUn1, sN]; omega
  · simp [nUn1, sN]; omega
  · have h1 := h.1.2.2.1
    have e1 : vcnt (a 9) (n 1) = vcnt ((sV (sV a 9 i 0) 17 (a 12 z) (i + 1)) 9) (n 1) + 1 := vcnt_up he.1 (fun j hj hji => by simp [sV, hji]) (by simp [sV]) (by omega)
    have e2 : vcnt ((sV (sV a 9 i 0) 17 (a 12 z) (i + 1)) 18) 4 = vcnt (a 18) 4 := vcnt_congr (fun i hi => by simp [sV])
    show n 2 - 1 = n 1 + vcnt ((sV (sV a 9 i 0) 17 (a 12 z) (i + 1)) 9) (n 1) + vcnt ((sV (sV a 9 i 0) 17 (a 12 z) (i + 1)) 18) 4
    rw [e2]; omega
  · simp [nUn1, sN]
  · intro j
    have := h.r j
    simp only [sV]
    grind
  · intro j
    have := h.cc j
    simp only [sV]
    grind
  · intro j hj
    have h1 : j < n 1 := hj
    have g1 := h.o j (by omega)
    have g3 : a 8 j ≠ z := by
      intro h3
      rw [h3] at g1
      omega
    by_cases hji : j = i
    · subst hji
      simp [nUn1, sV, sN]
      refine ⟨g1.1, by omega, g1.2.2.1, g1.2.2.2.1⟩
    · have g4 : a 9 j ≠ z + 1 := by
        intro h3
        have := g1.2.2.2.2 (by omega)
        rw [h3] at this
        simp at this
        omega
      simp [nUn1, sV, sN, hji]
      refine ⟨g1.1, by omega, g1.2.2.1, g1.2.2.2.1, fun h3 => ?_⟩
      have := g1.2.2.2.2 h3
      omega
  · intro p q hpq hq
    have h1 : q < n 1 := hq
    have g1 := h.t p q hpq (by omega)
    have g2 := h.o q (by omega)
    by_cases hpi : p = i
    · subst hpi
      simp [sV]
      refine ⟨g1.1, fun h3 => ?_⟩
      have := g1.2 h3
      omega
    · simp [sV, hpi]
      exact g1
  · intro e hez
    have h1 : e < n 2 - 1 := hez
    have g1 := h.e e (by omega)
    simp [nUn1, sV, sN]
    refine ⟨fun h3 => g1.1 h3, fun h3 => ?_, fun h3 => g1.2.2 h3⟩
    have g2 := g1.2.1 h3
    have : a 13 e ≠ i := by
      intro h5
      rw [h5] at g2
      omega
    simp [this]
    exact g2
  · intro e f hef hfz
    have h1 : f < n 2 - 1 := hfz
    have g1 := h.x e f hef (by omega)
    simpa [sV] using g1
  · intro u hu
    have g1 := h.p u hu
    refine ⟨fun h3 => ?_, fun h3 => ?_⟩
    · obtain ⟨e, q1, q2, q3⟩ := g1.1 (by simpa [sV] using h3)
      have : e ≠ z := by
        intro h5
        rw [h5] at q2
        omega
      exact ⟨e, by simp [nUn1, sN]; omega, by simpa [sV] using q2, by simpa [sV] using q3⟩
    · by_cases hut : u = a 12 z
      · simp [nUn1, sV, sN, hut]
        omega
      · have g2 := g1.2 (by simpa [sV, hut] using h3)
        have g3 : a 17 u - 1 ≠ i := by
          intro h5
          rw [h5] at g2
          omega
        simp [nUn1, sV, sN, hut, g3]
        exact g2
  · intro j hj h0
    have h1 : j < n 1 := hj
    by_cases hji : j = i
    · subst hji
      simp [sV]
      omega
    · have g5 : a 9 j = 0 := by simpa [sV, hji] using h0
      have g1 := h.q j h1 g5
      have g4 : a 4 j ≠ a 12 z := by
        intro h5
        rcases Nat.lt_or_gt_of_ne hji with g6 | g6
        · have := (h.t j i g6 he.1).2 (by omega)
          omega
        · have := (h.t i j g6 h1).2 (by omega)
          have := h.o j h1
          omega
      simp [sV, g4]
      exact g1
  · refine ⟨fun i hi => ?_, fun i j _ hj => ?_⟩
    · simp [nUn1, sN] at hi
    · simp [nUn1, sN] at hj
theorem Good_un2 {n : vN} {a : vA} {c : vC} (h : Good n a c) (h2 : n 2 ≠ 0) (hf : a 11 (n 2 - 1) = 2) : Good (nUn1 n) (sV a 18 (a 12 (n 2 - 1)) 0) c := by
  have hb := h.b
  have he := (h.e (n 2 - 1) (by omega)).2.2 hf
  have ht := (h.r (n 2 - 1)).2.2.2.2.2.2.1
  generalize he1 : n 2 - 1 = z at *
  have hz2 : n 2 = z + 1 := by omega
  refine ⟨⟨?_, ?_, ?_, ?_⟩, ?_, ?_, ?_, ?_, ?_, ?_, ?_, ?_, ?_⟩
  · simp [nUn1, sN]; omega
  · simp [nUn1, sN]; omega
  · have h1 := h.1.2.2.1
    have e1 : vcnt ((sV a 18 (a 12 z) 0) 9) (n 1) = vcnt (a 9) (n 1) := vcnt_congr (fun i hi => by simp [sV])
    have e2 : vcnt (a 18) 4 = vcnt ((sV a 18 (a 12 z) 0) 18) 4 + 1 := vcnt_up ht (fun j hj hji => by simp [sV, hji]) (by simp [sV]) (by omega)
    show n 2 - 1 = n 1 + vcnt ((sV a 18 (a 12 z) 0) 9) (n 1) + vcnt ((sV a 18 (a 12 z) 0) 18) 4
    rw [e1]; omega
  · simp [nUn1, sN]
  · intro j
    have := h.r j
    simp only [sV]
    grind
  · intro j
    have := h.cc j
    simp only [sV]
    grind
  · intro j hj
    have h1 : j < n 1 := hj
    have g1 := h.o j (by omega)
    have g3 : a 8 j ≠ z := by
      intro h3
      rw [h3] at g1
      omega
    have g4 : a 9 j ≠ z + 1 := by
      intro h3
      have := g1.2.2.2.2 (by omega)
      rw [h3] at this
      simp at this
      omega
    simp [nUn1, sV, sN]
    refine ⟨g1.1, by omega, g1.2.2.1, g1.2.2.2.1, fun h3 => ?_⟩
    have := g1.2.2.2.2 h3
    omega
  · intro p q hpq hq
    have h1 : q < n 1 := hq
    have g1 := h.t p q hpq (by omega)
    simpa [sV] using g1
  · intro e hez
    have h1 : e < n 2 - 1 := hez
    have g1 := h.e e (by omega)
    simp [nUn1, sV, sN]
    refine ⟨fun h3 => g1.1 h3, fun h3 => g1.2.1 h3, fun h3 => ?_⟩
    have g2 := h.x e z (by omega) (by omega) h3
    have g3 : a 12 e ≠ a 12 z := fun hh => g2 hh.symm
    simp [g3]
    exact g1.2.2 h3
  · intro e f hef hfz
    have h1 : f < n 2 - 1 := hfz
    have g1 := h.x e f hef (by omega)
    simpa [sV] using g1
  · intro u hu
    have g1 := h.p u hu
    refine ⟨fun h3 => ?_, fun h3 => ?_⟩
    · by_cases hut : u = a 12 z
      · simp [sV, hut] at h3
      · obtain ⟨e, q1, q2, q3⟩ := g1.1 (by simpa [sV, hut] using h3)
        have : e ≠ z := by
          intro h5
          rw [h5] at q3
          omega
        exact ⟨e, by simp [nUn1, sN]; omega, by simpa [sV] using q2, by simpa [sV] using q3⟩
    · have g2 := g1.2 (by simpa [sV] using h3)
      simp [nUn1, sV, sN]
      exact g2
  · intro j hj h0
    have g1 := h.q j hj (by simpa [sV] using h0)
    simpa [sV] using g1
  · refine ⟨fun i hi => ?_, fun i j _ hj => ?_⟩
    · simp [nUn1, sN] at hi
    · simp [nUn1, sN] at hj
