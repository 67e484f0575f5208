def ax_all (D : va_G) (ad : Nat → Nat) (ca : Nat → ClassId) (st : ax_S) (H : Heap) : Nat → ax_L → Prop
  | _, [] => True
  | k, e :: l => va_at D vwCl (ad k, ax_cell ad ca st k e) H ∧ ax_all D ad ca st H (k + 1) l
theorem ax_allc {D : va_G} {ad : Nat → Nat} {ca : Nat → ClassId} {st : ax_S} {H : Heap} {k k' : Nat} {e : ax_E} {l : ax_L} (h : va_at D vwCl (ad k, ax_cell ad ca st k e) H) (hk : k + 1 = k') (t : ax_all D ad ca st H k' l) : ax_all D ad ca st H k (e :: l) := ⟨h, hk ▸ t⟩
theorem ax_all_at {D : va_G} {ad : Nat → Nat} {ca : Nat → ClassId} {st : ax_S} {H : Heap} : ∀ (l : ax_L) (k : Nat), ax_all D ad ca st H k l → ∀ (i : Nat) (e : ax_E), l[i]? = some e → va_at D vwCl (ad (k + i), ax_cell ad ca st (k + i) e) H
  | [], _, _, i, e, h => by cases h
  | e0 :: l, k, ha, i, e, h => by
    cases i with
    | zero => cases h; exact ha.1
    | succ i =>
      have := ax_all_at l (k + 1) ha.2 i e h
      rw [Nat.add_assoc, Nat.add_comm 1 i] at this
      exact this
theorem ax_all_P {D : va_G} {L : ax_L} {ad : Nat → Nat} {ca : Nat → ClassId} {st : ax_S} {H : Heap} (h : ax_all D ad ca st H 0 L) : va_P D vwCl (ax_W L ad ca st) H := by
  intro k q hq
  obtain ⟨e, he, rfl⟩ := ax_W_in hq
  have := ax_all_at L 0 h k e he
  rw [Nat.zero_add] at this
  exact this
theorem ax_sts {D : va_G} {H : Heap} {q : Nat} {c : ClassId} (ad : Nat → Nat) (h : va_at D vwCl (q, .inl (c, 4, .inr (.inr (.inr (.inr (va_up (va_up (va_up (va_up (fun _ => none) (0 : Int32).toNatClampNeg (some (ad 49))) (1 : Int32).toNatClampNeg (some (ad 52))) (2 : Int32).toNatClampNeg (some (ad 55))) (3 : Int32).toNatClampNeg (some (ad 58)))))))) H) : va_at D vwCl (q, .inl (c, 4, .inr (.inr (.inr (.inr (fun j => (([49, 52, 55, 58] : List Nat)[j]?).map ad)))))) H := by
  have e : (va_up (va_up (va_up (va_up (fun _ => none) (0 : Int32).toNatClampNeg (some (ad 49))) (1 : Int32).toNatClampNeg (some (ad 52))) (2 : Int32).toNatClampNeg (some (ad 55))) (3 : Int32).toNatClampNeg (some (ad 58))) = (fun j => (([49, 52, 55, 58] : List Nat)[j]?).map ad) := by
    funext j
    match j with
    | 0 => rfl
    | 1 => rfl
    | 2 => rfl
    | 3 => rfl
    | j + 4 =>
      show (if j + 4 = 3 then _ else if j + 4 = 2 then _ else if j + 4 = 1 then _ else if j + 4 = 0 then _ else none) = none
      rw [if_neg (by omega), if_neg (by omega), if_neg (by omega), if_neg (by omega)]
  rw [e] at h
  exact h
def ax_flds (ad : Nat → Nat) (st : ax_S) (o : Nat) : Nat → List (Option Nat) → List Value
  | _, [] => []
  | k, f :: l => ax_fld ad st o k f :: ax_flds ad st o (k + 1) l
theorem ax_flds_at {ad : Nat → Nat} {st : ax_S} {o : Nat} : ∀ (l : List (Option Nat)) (k i : Nat), (ax_flds ad st o k l)[i]? = (l[i]?).map (ax_fld ad st o (k + i))
  | [], _, _ => rfl
  | f :: l, k, i => by
    cases i with
    | zero => rfl
    | succ i =>
      have := ax_flds_at (ad := ad) (st := st) (o := o) l (k + 1) i
      rw [Nat.add_assoc, Nat.add_comm 1 i] at this
      exact this
theorem ax_ob {D : va_G} {H : Heap} {q : Nat} {ad : Nat → Nat} {ca : Nat → ClassId} {st : ax_S} {o ci : Nat} {fs : List (Option Nat)} (h : va_at D vwCl (q, .inr (ci, ax_flds ad st o 0 fs)) H) : va_at D vwCl (q, ax_cell ad ca st o (.inr (.inr (ci, fs)))) H := by
  have e : ax_flds ad st o 0 fs = fs.mapIdx (ax_fld ad st o) := by
    apply List.ext_getElem?
    intro i
    rw [ax_flds_at, List.getElem?_mapIdx, Nat.zero_add]
  rw [e] at h
  exact h
def ax_kk (s : State) (ca : Nat → ClassId) (k : Nat) : ax_E → Prop
  | .inl q => ArrOfT s (ca k) q.1 ∧ va_RA s (ca k) q.1
  | .inr (.inl q) => ArrOfT s (ca k) (.object q.1) ∧ va_RA s (ca k) (.object q.1)
  | .inr (.inr _) => True
def ax_kal (s : State) (ca : Nat → ClassId) : Nat → ax_L → Prop
  | _, [] => True
  | k, e :: l => ax_kk s ca k e ∧ ax_kal s ca (k + 1) l
theorem ax_kalc {s : State} {ca : Nat → ClassId} {k k' : Nat} {e : ax_E} {l : ax_L} (h : ax_kk s ca k e) (hk : k + 1 = k') (t : ax_kal s ca k' l) : ax_kal s ca k (e :: l) := ⟨h, hk ▸ t⟩
theorem ax_kal_at {s : State} {ca : Nat → ClassId} : ∀ (l : ax_L) (k : Nat), ax_kal s ca k l → ∀ (i : Nat) (e : ax_E), l[i]? = some e → ax_kk s ca (k + i) e
  | [], _, _, i, e, h => by cases h
  | e0 :: l, k, ha, i, e, h => by
    cases i with
    | zero => cases h; exact ha.1
    | succ i =>
      have := ax_kal_at l (k + 1) ha.2 i e h
      rw [Nat.add_assoc, Nat.add_comm 1 i] at this
      exact this
theorem ax_kal_K {D : va_G} {L : ax_L} {ca : Nat → ClassId} {s : State} (h0 : va_K D vwCl [] s) (h : ax_kal s ca 0 L) : ax_K D L ca s := by
  refine ⟨h0, fun o ty n he => ?_, fun o C qs he => ?_⟩
  · have := ax_kal_at L 0 h o _ he
    rw [Nat.zero_add] at this; exact this
  · have := ax_kal_at L 0 h o _ he
    rw [Nat.zero_add] at this; exact this
def ax_kys (ws : va_W) (ad : Nat → Nat) : Nat → List Nat → Prop
  | _, [] => True
  | k, p :: l => (∃ e, ws[p]? = some (ad k, e)) ∧ ax_kys ws ad (k + 1) l
theorem ax_kysc {ws : va_W} {ad : Nat → Nat} {k k' p : Nat} {l : List Nat} (h : ∃ e, ws[p]? = some (ad k, e)) (hk : k + 1 = k') (t : ax_kys ws ad k' l) : ax_kys ws ad k (p :: l) := ⟨h, hk ▸ t⟩
theorem ax_kys_at {ws : va_W} {ad : Nat → Nat} : ∀ (l : List Nat) (k : Nat), ax_kys ws ad k l → ∀ (i : Nat), i < l.length → ∃ e, ws[l.getD i 0]? = some (ad (k + i), e)
  | [], _, _, i, h => absurd h (Nat.not_lt_zero _)
  | p :: l, k, ha, i, h => by
    cases i with
    | zero => exact ha.1
    | succ i =>
      have := ax_kys_at l (k + 1) ha.2 i (Nat.lt_of_succ_lt_succ h)
      rw [Nat.add_assoc, Nat.add_comm 1 i] at this
      exact this
theorem ax_kys_0 {ws : va_W} {ad : Nat → Nat} {l : List Nat} (h : ax_kys ws ad 0 l) (i : Nat) (hi : i < l.length) : ∃ e, ws[l.getD i 0]? = some (ad i, e) := by
  have := ax_kys_at l 0 h i hi
  rw [Nat.zero_add] at this; exact this
def st0X : ax_S := (fun _ _ => 0, fun o => if o = 17 ∨ o = 38 then (upd (upd (upd (upd (fun _ => 0) (0 : Int32).toNatClampNeg (-1)) (1 : Int32).toNatClampNeg (-1)) (2 : Int32).toNatClampNeg (-1)) (3 : Int32).toNatClampNeg (-1)) else if o = 18 ∨ o = 39 then (upd (upd (upd (upd (fun _ => 0) (0 : Int32).toNatClampNeg (vp_nar .boolean (0))) (1 : Int32).toNatClampNeg (vp_nar .boolean (0))) (2 : Int32).toNatClampNeg (vp_nar .boolean (0))) (3 : Int32).toNatClampNeg (vp_nar .boolean (0))) else fun _ => 0)
set_option maxHeartbeats 8000000 in
set_option maxRecDepth 100000 in
theorem sX_P {dC : Nat → ClassId} {dI : Nat → Nat → Nat} {s : State} {H : Heap} {ad : Nat → Nat} {ca : Nat → ClassId} (hP : va_P (dC, dI) vwCl [((ad 0), .inr (8, [.ref (ad 1), .ref (ad 22), .ref (ad 43), .ref (ad 61), .ref (ad 63), .int (0)])), ((ad 2), .inr (1, [.int 0, .ref (ad 3), .ref (ad 4)])), ((ad 3), .inl ((ca 3), 4, .inl (fun _ => 0))), ((ad 4), .inl ((ca 4), 4, .inl (fun _ => 0))), ((ad 6), .inl ((ca 6), 24, .inl (fun _ => 0))), ((ad 7), .inl ((ca 7), 24, .inl (fun _ => 0))), ((ad 8), .inl ((ca 8), 24, .inl (fun _ => 0))), ((ad 9), .inl ((ca 9), 10, .inl (fun _ => 0))), ((ad 10), .inl ((ca 10), 10, .inl (fun _ => 0))), ((ad 11), .inl ((ca 11), 10, .inl (fun _ => 0))), ((ad 12), .inl ((ca 12), 10, .inl (fun _ => 0))), ((ad 13), .inl ((ca 13), 10, .inl (fun _ => 0))), ((ad 14), .inl ((ca 14), 10, .inl (fun _ => 0))), ((ad 15), .inl ((ca 15), 10, .inl (fun _ => 0))), ((ad 16), .inl ((ca 16), 10, .inl (fun _ => 0))), ((ad 19), .inl ((ca 19), 10, .inl (fun _ => 0))), ((ad 5), .inr (0, [.int (0), .ref (ad 6), .ref (ad 7), .ref (ad 8), .int (0), .ref (ad 9), .ref (ad 10), .ref (ad 11), .ref (ad 12), .ref (ad 13), .ref (ad 14), .ref (ad 15), .ref (ad 16), .ref (ad 17), .ref (ad 18), .ref (ad 19)])), ((ad 17), .inl ((ca 17), 4, .inl (upd (upd (upd (upd (fun _ => 0) (0 : Int32).toNatClampNeg (-1)) (1 : Int32).toNatClampNeg (-1)) (2 : Int32).toNatClampNeg (-1)) (3 : Int32).toNatClampNeg (-1)))), ((ad 18), .inl ((ca 18), 4, .inl (upd (upd (upd (upd (fun _ => 0) (0 : Int32).toNatClampNeg (vp_nar .boolean (0))) (1 : Int32).toNatClampNeg (vp_nar .boolean (0))) (2 : Int32).toNatClampNeg (vp_nar .boolean (0))) (3 : Int32).toNatClampNeg (vp_nar .boolean (0))))), ((ad 20), .inr (2, [.int 0, .ref (ad 21)])), ((ad 21), .inl ((ca 21), 10, .inl (fun _ => 0))), ((ad 22), .inr (4, [.ref (ad 23), .ref (ad 26), .ref (ad 41)])), ((ad 23), .inr (1, [.int 0, .ref (ad 24), .ref (ad 25)])), ((ad 24), .inl ((ca 24), 4, .inl (fun _ => 0))), ((ad 25), .inl ((ca 25), 4, .inl (fun _ => 0))), ((ad 27), .inl ((ca 27), 24, .inl (fun _ => 0))), ((ad 28), .inl ((ca 28), 24, .inl (fun _ => 0))), ((ad 29), .inl ((ca 29), 24, .inl (fun _ => 0))), ((ad 30), .inl ((ca 30), 10, .inl (fun _ => 0))), ((ad 31), .inl ((ca 31), 10, .inl (fun _ => 0))), ((ad 32), .inl ((ca 32), 10, .inl (fun _ => 0))), ((ad 33), .inl ((ca 33), 10, .inl (fun _ => 0))), ((ad 34), .inl ((ca 34), 10, .inl (fun _ => 0))), ((ad 35), .inl ((ca 35), 10, .inl (fun _ => 0))), ((ad 36), .inl ((ca 36), 10, .inl (fun _ => 0))), ((ad 37), .inl ((ca 37), 10, .inl (fun _ => 0))), ((ad 40), .inl ((ca 40), 10, .inl (fun _ => 0))), ((ad 26), .inr (0, [.int (0), .ref (ad 27), .ref (ad 28), .ref (ad 29), .int (0), .ref (ad 30), .ref (ad 31), .ref (ad 32), .ref (ad 33), .ref (ad 34), .ref (ad 35), .ref (ad 36), .ref (ad 37), .ref (ad 38), .ref (ad 39), .ref (ad 40)])), ((ad 38), .inl ((ca 38), 4, .inl (upd (upd (upd (upd (fun _ => 0) (0 : Int32).toNatClampNeg (-1)) (1 : Int32).toNatClampNeg (-1)) (2 : Int32).toNatClampNeg (-1)) (3 : Int32).toNatClampNeg (-1)))), ((ad 39), .inl ((ca 39), 4, .inl (upd (upd (upd (upd (fun _ => 0) (0 : Int32).toNatClampNeg (vp_nar .boolean (0))) (1 : Int32).toNatClampNeg (vp_nar .boolean (0))) (2 : Int32).toNatClampNeg (vp_nar .boolean (0))) (3 : Int32).toNatClampNeg (vp_nar .boolean (0))))), ((ad 41), .inr (2, [.int 0, .ref (ad 42)])), ((ad 42), .inl ((ca 42), 10, .inl (fun _ => 0))), ((ad 43), .inr (5, [.ref (ad 2), .ref (ad 5), .ref (ad 44), .int 0, .int 0, .int 0, .ref (ad 45), .ref (ad 46), .ref (ad 47), .int 0, .int 0, .int 0, .int 0, .int 0, .ref (ad 48)])), ((ad 1), .inr (4, [.ref (ad 2), .ref (ad 5), .ref (ad 20)])), ((ad 44), .inl ((ca 44), 4, .inr (.inr (.inr (.inr (va_up (va_up (va_up (va_up (fun _ => none) (0 : Int32).toNatClampNeg (some (ad 49))) (1 : Int32).toNatClampNeg (some (ad 52))) (2 : Int32).toNatClampNeg (some (ad 55))) (3 : Int32).toNatClampNeg (some (ad 58)))))))), ((ad 45), .inl ((ca 45), 10, .inl (fun _ => 0))), ((ad 46), .inl ((ca 46), 10, .inl (fun _ => 0))), ((ad 47), .inl ((ca 47), 10, .inl (fun _ => 0))), ((ad 48), .inl ((ca 48), 1999, .inl (fun _ => 0))), ((ad 49), .inr (6, [.int 0, .ref (ad 50), .int 0, .int 0, .ref (ad 51)])), ((ad 50), .inl ((ca 50), 10, .inl (fun _ => 0))), ((ad 51), .inl ((ca 51), 100, .inl (fun _ => 0))), ((ad 52), .inr (6, [.int 0, .ref (ad 53), .int 0, .int 0, .ref (ad 54)])), ((ad 53), .inl ((ca 53), 10, .inl (fun _ => 0))), ((ad 54), .inl ((ca 54), 100, .inl (fun _ => 0))), ((ad 55), .inr (6, [.int 0, .ref (ad 56), .int 0, .int 0, .ref (ad 57)])), ((ad 56), .inl ((ca 56), 10, .inl (fun _ => 0))), ((ad 57), .inl ((ca 57), 100, .inl (fun _ => 0))), ((ad 58), .inr (6, [.int 0, .ref (ad 59), .int 0, .int 0, .ref (ad 60)])), ((ad 59), .inl ((ca 59), 10, .inl (fun _ => 0))), ((ad 60), .inl ((ca 60), 100, .inl (fun _ => 0))), ((ad 61), .inr (7, [.int 0, .ref (ad 62)])), ((ad 62), .inl ((ca 62), 120, .inl (fun _ => 0))), ((ad 63), .inr (3, [.int 0, .ref (ad 64), .ref (ad 65), .ref (ad 66), .ref (ad 67), .ref (ad 68), .ref (ad 69), .ref (ad 61), .int 0, .int 0])), ((ad 64), .inl ((ca 64), 60, .inl (fun _ => 0))), ((ad 65), .inl ((ca 65), 60, .inl (fun _ => 0))), ((ad 66), .inl ((ca 66), 60, .inl (fun _ => 0))), ((ad 67), .inl ((ca 67), 60, .inl (fun _ => 0))), ((ad 68), .inl ((ca 68), 60, .inl (fun _ => 0))), ((ad 69), .inl ((ca 69), 60, .inl (fun _ => 0)))] H) : va_P (dC, dI) vwCl (ax_W LX ad ca st0X) H := by
  refine ax_all_P ?_
  unfold LX
  refine ax_allc (ax_ob (hP 0 _ rfl)) (k' := 1) rfl ?_
  refine ax_allc (ax_ob (hP 43 _ rfl)) (k' := 2) rfl ?_
  refine ax_allc (ax_ob (hP 1 _ rfl)) (k' := 3) rfl ?_
  refine ax_allc (hP 2 _ rfl) (k' := 4) rfl ?_
  refine ax_allc (hP 3 _ rfl) (k' := 5) rfl ?_
  refine ax_allc (ax_ob (hP 16 _ rfl)) (k' := 6) rfl ?_
  refine ax_allc (hP 4 _ rfl) (k' := 7) rfl ?_
  refine ax_allc (hP 5 _ rfl) (k' := 8) rfl ?_
  refine ax_allc (hP 6 _ rfl) (k' := 9) rfl ?_
  refine ax_allc (hP 7 _ rfl) (k' := 10) rfl ?_
  refine ax_allc (hP 8 _ rfl) (k' := 11) rfl ?_
  refine ax_allc (hP 9 _ rfl) (k' := 12) rfl ?_
  refine ax_allc (hP 10 _ rfl) (k' := 13) rfl ?_
  refine ax_allc (hP 11 _ rfl) (k' := 14) rfl ?_
  refine ax_allc (hP 12 _ rfl) (k' := 15) rfl ?_
  refine ax_allc (hP 13 _ rfl) (k' := 16) rfl ?_
  refine ax_allc (hP 14 _ rfl) (k' := 17) rfl ?_
  refine ax_allc (hP 17 _ rfl) (k' := 18) rfl ?_
  refine ax_allc (hP 18 _ rfl) (k' := 19) rfl ?_
  refine ax_allc (hP 15 _ rfl) (k' := 20) rfl ?_
  refine ax_allc (ax_ob (hP 19 _ rfl)) (k' := 21) rfl ?_
  refine ax_allc (hP 20 _ rfl) (k' := 22) rfl ?_
  refine ax_allc (ax_ob (hP 21 _ rfl)) (k' := 23) rfl ?_
  refine ax_allc (ax_ob (hP 22 _ rfl)) (k' := 24) rfl ?_
  refine ax_allc (hP 23 _ rfl) (k' := 25) rfl ?_
  refine ax_allc (hP 24 _ rfl) (k' := 26) rfl ?_
  refine ax_allc (ax_ob (hP 37 _ rfl)) (k' := 27) rfl ?_
  refine ax_allc (hP 25 _ rfl) (k' := 28) rfl ?_
  refine ax_allc (hP 26 _ rfl) (k' := 29) rfl ?_
  refine ax_allc (hP 27 _ rfl) (k' := 30) rfl ?_
  refine ax_allc (hP 28 _ rfl) (k' := 31) rfl ?_
  refine ax_allc (hP 29 _ rfl) (k' := 32) rfl ?_
  refine ax_allc (hP 30 _ rfl) (k' := 33) rfl ?_
  refine ax_allc (hP 31 _ rfl) (k' := 34) rfl ?_
  refine ax_allc (hP 32 _ rfl) (k' := 35) rfl ?_
  refine ax_allc (hP 33 _ rfl) (k' := 36) rfl ?_
  refine ax_allc (hP 34 _ rfl) (k' := 37) rfl ?_
  refine ax_allc (hP 35 _ rfl) (k' := 38) rfl ?_
  refine ax_allc (hP 38 _ rfl) (k' := 39) rfl ?_
  refine ax_allc (hP 39 _ rfl) (k' := 40) rfl ?_
  refine ax_allc (hP 36 _ rfl) (k' := 41) rfl ?_
  refine ax_allc (ax_ob (hP 40 _ rfl)) (k' := 42) rfl ?_
  refine ax_allc (hP 41 _ rfl) (k' := 43) rfl ?_
  refine ax_allc (ax_ob (hP 42 _ rfl)) (k' := 44) rfl ?_
  refine ax_allc (ax_sts ad (hP 44 _ rfl)) (k' := 45) rfl ?_
  refine ax_allc (hP 45 _ rfl) (k' := 46) rfl ?_
  refine ax_allc (hP 46 _ rfl) (k' := 47) rfl ?_
  refine ax_allc (hP 47 _ rfl) (k' := 48) rfl ?_
  refine ax_allc (hP 48 _ rfl) (k' := 49) rfl ?_
  refine ax_allc (ax_ob (hP 49 _ rfl)) (k' := 50) rfl ?_
  refine ax_allc (hP 50 _ rfl) (k' := 51) rfl ?_
  refine ax_allc (hP 51 _ rfl) (k' := 52) rfl ?_
  refine ax_allc (ax_ob (hP 52 _ rfl)) (k' := 53) rfl ?_
  refine ax_allc (hP 53 _ rfl) (k' := 54) rfl ?_
  refine ax_allc (hP 54 _ rfl) (k' := 55) rfl ?_
  refine ax_allc (ax_ob (hP 55 _ rfl)) (k' := 56) rfl ?_
  refine ax_allc (hP 56 _ rfl) (k' := 57) rfl ?_
  refine ax_allc (hP 57 _ rfl) (k' := 58) rfl ?_
  refine ax_allc (ax_ob (hP 58 _ rfl)) (k' := 59) rfl ?_
  refine ax_allc (hP 59 _ rfl) (k' := 60) rfl ?_
  refine ax_allc (hP 60 _ rfl) (k' := 61) rfl ?_
  refine ax_allc (ax_ob (hP 61 _ rfl)) (k' := 62) rfl ?_
  refine ax_allc (hP 62 _ rfl) (k' := 63) rfl ?_
  refine ax_allc (ax_ob (hP 63 _ rfl)) (k' := 64) rfl ?_
  refine ax_allc (hP 64 _ rfl) (k' := 65) rfl ?_
  refine ax_allc (hP 65 _ rfl) (k' := 66) rfl ?_
  refine ax_allc (hP 66 _ rfl) (k' := 67) rfl ?_
  refine ax_allc (hP 67 _ rfl) (k' := 68) rfl ?_
  refine ax_allc (hP 68 _ rfl) (k' := 69) rfl ?_
  refine ax_allc (hP 69 _ rfl) (k' := 70) rfl ?_
  exact trivial
set_option maxHeartbeats 8000000 in
set_option maxRecDepth 100000 in
theorem sX_K {dC : Nat → ClassId} {dI : Nat → Nat → Nat} {s : State} {H : Heap} {ad : Nat → Nat} {ca : Nat → ClassId} (hK : va_K (dC, dI) vwCl [((ca 3), .int), ((ca 4), .int), ((ca 6), .int), ((ca 7), .int), ((ca 8), .int), ((ca 9), .int), ((ca 10), .int), ((ca 11), .int), ((ca 12), .int), ((ca 13), .int), ((ca 14), .int), ((ca 15), .int), ((ca 16), .int), ((ca 19), .int), ((ca 17), .int), ((ca 18), .boolean), ((ca 21), .int), ((ca 24), .int), ((ca 25), .int), ((ca 27), .int), ((ca 28), .int), ((ca 29), .int), ((ca 30), .int), ((ca 31), .int), ((ca 32), .int), ((ca 33), .int), ((ca 34), .int), ((ca 35), .int), ((ca 36), .int), ((ca 37), .int), ((ca 40), .int), ((ca 38), .int), ((ca 39), .boolean), ((ca 42), .int), ((ca 44), .object "LinearizabilityChecker$SharedState"), ((ca 45), .int), ((ca 46), .int), ((ca 47), .int), ((ca 48), .boolean), ((ca 50), .int), ((ca 51), .boolean), ((ca 53), .int), ((ca 54), .boolean), ((ca 56), .int), ((ca 57), .boolean), ((ca 59), .int), ((ca 60), .boolean), ((ca 62), .char), ((ca 64), .int), ((ca 65), .int), ((ca 66), .int), ((ca 67), .int), ((ca 68), .int), ((ca 69), .int)] s) : ax_K (dC, dI) LX ca s := by
  refine ax_kal_K (hK.sub (tys' := []) [] rfl) ?_
  unfold LX
  refine ax_kalc trivial (k' := 1) rfl ?_
  refine ax_kalc trivial (k' := 2) rfl ?_
  refine ax_kalc trivial (k' := 3) rfl ?_
  refine ax_kalc (hK.2 0 _ rfl) (k' := 4) rfl ?_
  refine ax_kalc (hK.2 1 _ rfl) (k' := 5) rfl ?_
  refine ax_kalc trivial (k' := 6) rfl ?_
  refine ax_kalc (hK.2 2 _ rfl) (k' := 7) rfl ?_
  refine ax_kalc (hK.2 3 _ rfl) (k' := 8) rfl ?_
  refine ax_kalc (hK.2 4 _ rfl) (k' := 9) rfl ?_
  refine ax_kalc (hK.2 5 _ rfl) (k' := 10) rfl ?_
  refine ax_kalc (hK.2 6 _ rfl) (k' := 11) rfl ?_
  refine ax_kalc (hK.2 7 _ rfl) (k' := 12) rfl ?_
  refine ax_kalc (hK.2 8 _ rfl) (k' := 13) rfl ?_
  refine ax_kalc (hK.2 9 _ rfl) (k' := 14) rfl ?_
  refine ax_kalc (hK.2 10 _ rfl) (k' := 15) rfl ?_
  refine ax_kalc (hK.2 11 _ rfl) (k' := 16) rfl ?_
  refine ax_kalc (hK.2 12 _ rfl) (k' := 17) rfl ?_
  refine ax_kalc (hK.2 14 _ rfl) (k' := 18) rfl ?_
  refine ax_kalc (hK.2 15 _ rfl) (k' := 19) rfl ?_
  refine ax_kalc (hK.2 13 _ rfl) (k' := 20) rfl ?_
  refine ax_kalc trivial (k' := 21) rfl ?_
  refine ax_kalc (hK.2 16 _ rfl) (k' := 22) rfl ?_
  refine ax_kalc trivial (k' := 23) rfl ?_
  refine ax_kalc trivial (k' := 24) rfl ?_
  refine ax_kalc (hK.2 17 _ rfl) (k' := 25) rfl ?_
  refine ax_kalc (hK.2 18 _ rfl) (k' := 26) rfl ?_
  refine ax_kalc trivial (k' := 27) rfl ?_
  refine ax_kalc (hK.2 19 _ rfl) (k' := 28) rfl ?_
  refine ax_kalc (hK.2 20 _ rfl) (k' := 29) rfl ?_
  refine ax_kalc (hK.2 21 _ rfl) (k' := 30) rfl ?_
  refine ax_kalc (hK.2 22 _ rfl) (k' := 31) rfl ?_
  refine ax_kalc (hK.2 23 _ rfl) (k' := 32) rfl ?_
  refine ax_kalc (hK.2 24 _ rfl) (k' := 33) rfl ?_
  refine ax_kalc (hK.2 25 _ rfl) (k' := 34) rfl ?_
  refine ax_kalc (hK.2 26 _ rfl) (k' := 35) rfl ?_
  refine ax_kalc (hK.2 27 _ rfl) (k' := 36) rfl ?_
  refine ax_kalc (hK.2 28 _ rfl) (k' := 37) rfl ?_
  refine ax_kalc (hK.2 29 _ rfl) (k' := 38) rfl ?_
  refine ax_kalc (hK.2 31 _ rfl) (k' := 39) rfl ?_
  refine ax_kalc (hK.2 32 _ rfl) (k' := 40) rfl ?_
  refine ax_kalc (hK.2 30 _ rfl) (k' := 41) rfl ?_
  refine ax_kalc trivial (k' := 42) rfl ?_
  refine ax_kalc (hK.2 33 _ rfl) (k' := 43) rfl ?_
  refine ax_kalc trivial (k' := 44) rfl ?_
  refine ax_kalc (hK.2 34 _ rfl) (k' := 45) rfl ?_
  refine ax_kalc (hK.2 35 _ rfl) (k' := 46) rfl ?_
  refine ax_kalc (hK.2 36 _ rfl) (k' := 47) rfl ?_
  refine ax_kalc (hK.2 37 _ rfl) (k' := 48) rfl ?_
  refine ax_kalc (hK.2 38 _ rfl) (k' := 49) rfl ?_
  refine ax_kalc trivial (k' := 50) rfl ?_
  refine ax_kalc (hK.2 39 _ rfl) (k' := 51) rfl ?_
  refine ax_kalc (hK.2 40 _ rfl) (k' := 52) rfl ?_
  refine ax_kalc trivial (k' := 53) rfl ?_
  refine ax_kalc (hK.2 41 _ rfl) (k' := 54) rfl ?_
  refine ax_kalc (hK.2 42 _ rfl) (k' := 55) rfl ?_
  refine ax_kalc trivial (k' := 56) rfl ?_
  refine ax_kalc (hK.2 43 _ rfl) (k' := 57) rfl ?_
  refine ax_kalc (hK.2 44 _ rfl) (k' := 58) rfl ?_
  refine ax_kalc trivial (k' := 59) rfl ?_
  refine ax_kalc (hK.2 45 _ rfl) (k' := 60) rfl ?_
  refine ax_kalc (hK.2 46 _ rfl) (k' := 61) rfl ?_
  refine ax_kalc trivial (k' := 62) rfl ?_
  refine ax_kalc (hK.2 47 _ rfl) (k' := 63) rfl ?_
  refine ax_kalc trivial (k' := 64) rfl ?_
  refine ax_kalc (hK.2 48 _ rfl) (k' := 65) rfl ?_
  refine ax_kalc (hK.2 49 _ rfl) (k' := 66) rfl ?_
  refine ax_kalc (hK.2 50 _ rfl) (k' := 67) rfl ?_
  refine ax_kalc (hK.2 51 _ rfl) (k' := 68) rfl ?_
  refine ax_kalc (hK.2 52 _ rfl) (k' := 69) rfl ?_
  refine ax_kalc (hK.2 53 _ rfl) (k' := 70) rfl ?_
  exact trivial
def pi_X : List Nat := [0, 43, 1, 2, 3, 16, 4, 5, 6, 7, 8, 9, 10, 11, 12, 13, 14, 17, 18, 15, 19, 20, 21, 22, 23, 24, 37, 25, 26, 27, 28, 29, 30, 31, 32, 33, 34, 35, 38, 39, 36, 40, 41, 42, 44, 45, 46, 47, 48, 49, 50, 51, 52, 53, 54, 55, 56, 57, 58, 59, 60, 61, 62, 63, 64, 65, 66, 67, 68, 69]
set_option maxHeartbeats 8000000 in
set_option maxRecDepth 100000 in
theorem sX_key {ad : Nat → Nat} {ca : Nat → ClassId} : ∀ i, i < 70 → ∃ e, ([((ad 0), .inr (8, [.ref (ad 1), .ref (ad 22), .ref (ad 43), .ref (ad 61), .ref (ad 63), .int (0)])), ((ad 2), .inr (1, [.int 0, .ref (ad 3), .ref (ad 4)])), ((ad 3), .inl ((ca 3), 4, .inl (fun _ => 0))), ((ad 4), .inl ((ca 4), 4, .inl (fun _ => 0))), ((ad 6), .inl ((ca 6), 24, .inl (fun _ => 0))), ((ad 7), .inl ((ca 7), 24, .inl (fun _ => 0))), ((ad 8), .inl ((ca 8), 24, .inl (fun _ => 0))), ((ad 9), .inl ((ca 9), 10, .inl (fun _ => 0))), ((ad 10), .inl ((ca 10), 10, .inl (fun _ => 0))), ((ad 11), .inl ((ca 11), 10, .inl (fun _ => 0))), ((ad 12), .inl ((ca 12), 10, .inl (fun _ => 0))), ((ad 13), .inl ((ca 13), 10, .inl (fun _ => 0))), ((ad 14), .inl ((ca 14), 10, .inl (fun _ => 0))), ((ad 15), .inl ((ca 15), 10, .inl (fun _ => 0))), ((ad 16), .inl ((ca 16), 10, .inl (fun _ => 0))), ((ad 19), .inl ((ca 19), 10, .inl (fun _ => 0))), ((ad 5), .inr (0, [.int (0), .ref (ad 6), .ref (ad 7), .ref (ad 8), .int (0), .ref (ad 9), .ref (ad 10), .ref (ad 11), .ref (ad 12), .ref (ad 13), .ref (ad 14), .ref (ad 15), .ref (ad 16), .ref (ad 17), .ref (ad 18), .ref (ad 19)])), ((ad 17), .inl ((ca 17), 4, .inl (upd (upd (upd (upd (fun _ => 0) (0 : Int32).toNatClampNeg (-1)) (1 : Int32).toNatClampNeg (-1)) (2 : Int32).toNatClampNeg (-1)) (3 : Int32).toNatClampNeg (-1)))), ((ad 18), .inl ((ca 18), 4, .inl (upd (upd (upd (upd (fun _ => 0) (0 : Int32).toNatClampNeg (vp_nar .boolean (0))) (1 : Int32).toNatClampNeg (vp_nar .boolean (0))) (2 : Int32).toNatClampNeg (vp_nar .boolean (0))) (3 : Int32).toNatClampNeg (vp_nar .boolean (0))))), ((ad 20), .inr (2, [.int 0, .ref (ad 21)])), ((ad 21), .inl ((ca 21), 10, .inl (fun _ => 0))), ((ad 22), .inr (4, [.ref (ad 23), .ref (ad 26), .ref (ad 41)])), ((ad 23), .inr (1, [.int 0, .ref (ad 24), .ref (ad 25)])), ((ad 24), .inl ((ca 24), 4, .inl (fun _ => 0))), ((ad 25), .inl ((ca 25), 4, .inl (fun _ => 0))), ((ad 27), .inl ((ca 27), 24, .inl (fun _ => 0))), ((ad 28), .inl ((ca 28), 24, .inl (fun _ => 0))), ((ad 29), .inl ((ca 29), 24, .inl (fun _ => 0))), ((ad 30), .inl ((ca 30), 10, .inl (fun _ => 0))), ((ad 31), .inl ((ca 31), 10, .inl (fun _ => 0))), ((ad 32), .inl ((ca 32), 10, .inl (fun _ => 0))), ((ad 33), .inl ((ca 33), 10, .inl (fun _ => 0))), ((ad 34), .inl ((ca 34), 10, .inl (fun _ => 0))), ((ad 35), .inl ((ca 35), 10, .inl (fun _ => 0))), ((ad 36), .inl ((ca 36), 10, .inl (fun _ => 0))), ((ad 37), .inl ((ca 37), 10, .inl (fun _ => 0))), ((ad 40), .inl ((ca 40), 10, .inl (fun _ => 0))), ((ad 26), .inr (0, [.int (0), .ref (ad 27), .ref (ad 28), .ref (ad 29), .int (0), .ref (ad 30), .ref (ad 31), .ref (ad 32), .ref (ad 33), .ref (ad 34), .ref (ad 35), .ref (ad 36), .ref (ad 37), .ref (ad 38), .ref (ad 39), .ref (ad 40)])), ((ad 38), .inl ((ca 38), 4, .inl (upd (upd (upd (upd (fun _ => 0) (0 : Int32).toNatClampNeg (-1)) (1 : Int32).toNatClampNeg (-1)) (2 : Int32).toNatClampNeg (-1)) (3 : Int32).toNatClampNeg (-1)))), ((ad 39), .inl ((ca 39), 4, .inl (upd (upd (upd (upd (fun _ => 0) (0 : Int32).toNatClampNeg (vp_nar .boolean (0))) (1 : Int32).toNatClampNeg (vp_nar .boolean (0))) (2 : Int32).toNatClampNeg (vp_nar .boolean (0))) (3 : Int32).toNatClampNeg (vp_nar .boolean (0))))), ((ad 41), .inr (2, [.int 0, .ref (ad 42)])), ((ad 42), .inl ((ca 42), 10, .inl (fun _ => 0))), ((ad 43), .inr (5, [.ref (ad 2), .ref (ad 5), .ref (ad 44), .int 0, .int 0, .int 0, .ref (ad 45), .ref (ad 46), .ref (ad 47), .int 0, .int 0, .int 0, .int 0, .int 0, .ref (ad 48)])), ((ad 1), .inr (4, [.ref (ad 2), .ref (ad 5), .ref (ad 20)])), ((ad 44), .inl ((ca 44), 4, .inr (.inr (.inr (.inr (va_up (va_up (va_up (va_up (fun _ => none) (0 : Int32).toNatClampNeg (some (ad 49))) (1 : Int32).toNatClampNeg (some (ad 52))) (2 : Int32).toNatClampNeg (some (ad 55))) (3 : Int32).toNatClampNeg (some (ad 58)))))))), ((ad 45), .inl ((ca 45), 10, .inl (fun _ => 0))), ((ad 46), .inl ((ca 46), 10, .inl (fun _ => 0))), ((ad 47), .inl ((ca 47), 10, .inl (fun _ => 0))), ((ad 48), .inl ((ca 48), 1999, .inl (fun _ => 0))), ((ad 49), .inr (6, [.int 0, .ref (ad 50), .int 0, .int 0, .ref (ad 51)])), ((ad 50), .inl ((ca 50), 10, .inl (fun _ => 0))), ((ad 51), .inl ((ca 51), 100, .inl (fun _ => 0))), ((ad 52), .inr (6, [.int 0, .ref (ad 53), .int 0, .int 0, .ref (ad 54)])), ((ad 53), .inl ((ca 53), 10, .inl (fun _ => 0))), ((ad 54), .inl ((ca 54), 100, .inl (fun _ => 0))), ((ad 55), .inr (6, [.int 0, .ref (ad 56), .int 0, .int 0, .ref (ad 57)])), ((ad 56), .inl ((ca 56), 10, .inl (fun _ => 0))), ((ad 57), .inl ((ca 57), 100, .inl (fun _ => 0))), ((ad 58), .inr (6, [.int 0, .ref (ad 59), .int 0, .int 0, .ref (ad 60)])), ((ad 59), .inl ((ca 59), 10, .inl (fun _ => 0))), ((ad 60), .inl ((ca 60), 100, .inl (fun _ => 0))), ((ad 61), .inr (7, [.int 0, .ref (ad 62)])), ((ad 62), .inl ((ca 62), 120, .inl (fun _ => 0))), ((ad 63), .inr (3, [.int 0, .ref (ad 64), .ref (ad 65), .ref (ad 66), .ref (ad 67), .ref (ad 68), .ref (ad 69), .ref (ad 61), .int 0, .int 0])), ((ad 64), .inl ((ca 64), 60, .inl (fun _ => 0))), ((ad 65), .inl ((ca 65), 60, .inl (fun _ => 0))), ((ad 66), .inl ((ca 66), 60, .inl (fun _ => 0))), ((ad 67), .inl ((ca 67), 60, .inl (fun _ => 0))), ((ad 68), .inl ((ca 68), 60, .inl (fun _ => 0))), ((ad 69), .inl ((ca 69), 60, .inl (fun _ => 0)))] : va_W)[pi_X.getD i 0]? = some (ad i, e) := by
  refine fun i hi => ax_kys_0 ?_ i (show i < pi_X.length from hi)
  unfold pi_X
  refine ax_kysc ⟨_, rfl⟩ (k' := 1) rfl ?_
  refine ax_kysc ⟨_, rfl⟩ (k' := 2) rfl ?_
  refine ax_kysc ⟨_, rfl⟩ (k' := 3) rfl ?_
  refine ax_kysc ⟨_, rfl⟩ (k' := 4) rfl ?_
  refine ax_kysc ⟨_, rfl⟩ (k' := 5) rfl ?_
  refine ax_kysc ⟨_, rfl⟩ (k' := 6) rfl ?_
  refine ax_kysc ⟨_, rfl⟩ (k' := 7) rfl ?_
  refine ax_kysc ⟨_, rfl⟩ (k' := 8) rfl ?_
  refine ax_kysc ⟨_, rfl⟩ (k' := 9) rfl ?_
  refine ax_kysc ⟨_, rfl⟩ (k' := 10) rfl ?_
  refine ax_kysc ⟨_, rfl⟩ (k' := 11) rfl ?_
  refine ax_kysc ⟨_, rfl⟩ (k' := 12) rfl ?_
  refine ax_kysc ⟨_, rfl⟩ (k' := 13) rfl ?_
  refine ax_kysc ⟨_, rfl⟩ (k' := 14) rfl ?_
  refine ax_kysc ⟨_, rfl⟩ (k' := 15) rfl ?_
  refine ax_kysc ⟨_, rfl⟩ (k' := 16) rfl ?_
  refine ax_kysc ⟨_, rfl⟩ (k' := 17) rfl ?_
  refine ax_kysc ⟨_, rfl⟩ (k' := 18) rfl ?_
  refine ax_kysc ⟨_, rfl⟩ (k' := 19) rfl ?_
  refine ax_kysc ⟨_, rfl⟩ (k' := 20) rfl ?_
  refine ax_kysc ⟨_, rfl⟩ (k' := 21) rfl ?_
  refine ax_kysc ⟨_, rfl⟩ (k' := 22) rfl ?_
  refine ax_kysc ⟨_, rfl⟩ (k' := 23) rfl ?_
  refine ax_kysc ⟨_, rfl⟩ (k' := 24) rfl ?_
  refine ax_kysc ⟨_, rfl⟩ (k' := 25) rfl ?_
  refine ax_kysc ⟨_, rfl⟩ (k' := 26) rfl ?_
  refine ax_kysc ⟨_, rfl⟩ (k' := 27) rfl ?_
  refine ax_kysc ⟨_, rfl⟩ (k' := 28) rfl ?_
  refine ax_kysc ⟨_, rfl⟩ (k' := 29) rfl ?_
  refine ax_kysc ⟨_, rfl⟩ (k' := 30) rfl ?_
  refine ax_kysc ⟨_, rfl⟩ (k' := 31) rfl ?_
  refine ax_kysc ⟨_, rfl⟩ (k' := 32) rfl ?_
  refine ax_kysc ⟨_, rfl⟩ (k' := 33) rfl ?_
  refine ax_kysc ⟨_, rfl⟩ (k' := 34) rfl ?_
  refine ax_kysc ⟨_, rfl⟩ (k' := 35) rfl ?_
  refine ax_kysc ⟨_, rfl⟩ (k' := 36) rfl ?_
  refine ax_kysc ⟨_, rfl⟩ (k' := 37) rfl ?_
  refine ax_kysc ⟨_, rfl⟩ (k' := 38) rfl ?_
  refine ax_kysc ⟨_, rfl⟩ (k' := 39) rfl ?_
  refine ax_kysc ⟨_, rfl⟩ (k' := 40) rfl ?_
  refine ax_kysc ⟨_, rfl⟩ (k' := 41) rfl ?_
  refine ax_kysc ⟨_, rfl⟩ (k' := 42) rfl ?_
  refine ax_kysc ⟨_, rfl⟩ (k' := 43) rfl ?_
  refine ax_kysc ⟨_, rfl⟩ (k' := 44) rfl ?_
  refine ax_kysc ⟨_, rfl⟩ (k' := 45) rfl ?_
  refine ax_kysc ⟨_, rfl⟩ (k' := 46) rfl ?_
  refine ax_kysc ⟨_, rfl⟩ (k' := 47) rfl ?_
  refine ax_kysc ⟨_, rfl⟩ (k' := 48) rfl ?_
  refine ax_kysc ⟨_, rfl⟩ (k' := 49) rfl ?_
  refine ax_kysc ⟨_, rfl⟩ (k' := 50) rfl ?_
  refine ax_kysc ⟨_, rfl⟩ (k' := 51) rfl ?_
  refine ax_kysc ⟨_, rfl⟩ (k' := 52) rfl ?_
  refine ax_kysc ⟨_, rfl⟩ (k' := 53) rfl ?_
  refine ax_kysc ⟨_, rfl⟩ (k' := 54) rfl ?_
  refine ax_kysc ⟨_, rfl⟩ (k' := 55) rfl ?_
  refine ax_kysc ⟨_, rfl⟩ (k' := 56) rfl ?_
  refine ax_kysc ⟨_, rfl⟩ (k' := 57) rfl ?_
  refine ax_kysc ⟨_, rfl⟩ (k' := 58) rfl ?_
  refine ax_kysc ⟨_, rfl⟩ (k' := 59) rfl ?_
  refine ax_kysc ⟨_, rfl⟩ (k' := 60) rfl ?_
  refine ax_kysc ⟨_, rfl⟩ (k' := 61) rfl ?_
  refine ax_kysc ⟨_, rfl⟩ (k' := 62) rfl ?_
  refine ax_kysc ⟨_, rfl⟩ (k' := 63) rfl ?_
  refine ax_kysc ⟨_, rfl⟩ (k' := 64) rfl ?_
  refine ax_kysc ⟨_, rfl⟩ (k' := 65) rfl ?_
  refine ax_kysc ⟨_, rfl⟩ (k' := 66) rfl ?_
  refine ax_kysc ⟨_, rfl⟩ (k' := 67) rfl ?_
  refine ax_kysc ⟨_, rfl⟩ (k' := 68) rfl ?_
  refine ax_kysc ⟨_, rfl⟩ (k' := 69) rfl ?_
  refine ax_kysc ⟨_, rfl⟩ (k' := 70) rfl ?_
  exact trivial
set_option maxRecDepth 100000 in
theorem sX_ad (a0 a1 a2 a3 a4 a5 a6 a7 a8 a9 a10 a11 a12 a13 a14 a15 a16 a17 a18 a19 a20 a21 a22 a23 a24 a25 a26 a27 a28 a29 a30 a31 a32 a33 a34 a35 a36 a37 a38 a39 a40 a41 a42 a43 a44 a45 a46 a47 a48 a49 a50 a51 a52 a53 a54 a55 a56 a57 a58 a59 a60 a61 a62 a63 a64 a65 a66 a67 a68 a69 : Nat) (adK adV : Nat → Nat) : ∃ ad : Nat → Nat, (ad 0 = a0 ∧ ad 1 = a1 ∧ ad 2 = a2 ∧ ad 3 = a3 ∧ ad 4 = a4 ∧ ad 5 = a5 ∧ ad 6 = a6 ∧ ad 7 = a7 ∧ ad 8 = a8 ∧ ad 9 = a9 ∧ ad 10 = a10 ∧ ad 11 = a11 ∧ ad 12 = a12 ∧ ad 13 = a13 ∧ ad 14 = a14 ∧ ad 15 = a15 ∧ ad 16 = a16 ∧ ad 17 = a17 ∧ ad 18 = a18 ∧ ad 19 = a19 ∧ ad 20 = a20 ∧ ad 21 = a21 ∧ ad 22 = a22 ∧ ad 23 = a23 ∧ ad 24 = a24 ∧ ad 25 = a25 ∧ ad 26 = a26 ∧ ad 27 = a27 ∧ ad 28 = a28 ∧ ad 29 = a29 ∧ ad 30 = a30 ∧ ad 31 = a31 ∧ ad 32 = a32 ∧ ad 33 = a33 ∧ ad 34 = a34 ∧ ad 35 = a35 ∧ ad 36 = a36 ∧ ad 37 = a37 ∧ ad 38 = a38 ∧ ad 39 = a39 ∧ ad 40 = a40 ∧ ad 41 = a41 ∧ ad 42 = a42 ∧ ad 43 = a43 ∧ ad 44 = a44 ∧ ad 45 = a45 ∧ ad 46 = a46 ∧ ad 47 = a47 ∧ ad 48 = a48 ∧ ad 49 = a49 ∧ ad 50 = a50 ∧ ad 51 = a51 ∧ ad 52 = a52 ∧ ad 53 = a53 ∧ ad 54 = a54 ∧ ad 55 = a55 ∧ ad 56 = a56 ∧ ad 57 = a57 ∧ ad 58 = a58 ∧ ad 59 = a59 ∧ ad 60 = a60 ∧ ad 61 = a61 ∧ ad 62 = a62 ∧ ad 63 = a63 ∧ ad 64 = a64 ∧ ad 65 = a65 ∧ ad 66 = a66 ∧ ad 67 = a67 ∧ ad 68 = a68 ∧ ad 69 = a69) ∧ ∀ i, i < 10 → ad (1000 + i) = adK i ∧ ad (2000 + i) = adV i := by
  refine ⟨fun k => if k < 70 then ([a0, a1, a2, a3, a4, a5, a6, a7, a8, a9, a10, a11, a12, a13, a14, a15, a16, a17, a18, a19, a20, a21, a22, a23, a24, a25, a26, a27, a28, a29, a30, a31, a32, a33, a34, a35, a36, a37, a38, a39, a40, a41, a42, a43, a44, a45, a46, a47, a48, a49, a50, a51, a52, a53, a54, a55, a56, a57, a58, a59, a60, a61, a62, a63, a64, a65, a66, a67, a68, a69] : List Nat).getD k 0 else if k < 2000 then adK (k - 1000) else adV (k - 2000), ⟨rfl, rfl, rfl, rfl, rfl, rfl, rfl, rfl, rfl, rfl, rfl, rfl, rfl, rfl, rfl, rfl, rfl, rfl, rfl, rfl, rfl, rfl, rfl, rfl, rfl, rfl, rfl, rfl, rfl, rfl, rfl, rfl, rfl, rfl, rfl, rfl, rfl, rfl, rfl, rfl, rfl, rfl, rfl, rfl, rfl, rfl, rfl, rfl, rfl, rfl, rfl, rfl, rfl, rfl, rfl, rfl, rfl, rfl, rfl, rfl, rfl, rfl, rfl, rfl, rfl, rfl, rfl, rfl, rfl, rfl⟩, fun i hi => ⟨?_, ?_⟩⟩
  · show (if 1000 + i < 70 then _ else if 1000 + i < 2000 then adK (1000 + i - 1000) else _) = _
    rw [if_neg (by omega), if_pos (by omega), Nat.add_sub_cancel_left]
  · show (if 2000 + i < 70 then _ else if 2000 + i < 2000 then _ else adV (2000 + i - 2000)) = _
    rw [if_neg (by omega), if_neg (by omega), Nat.add_sub_cancel_left]
set_option maxRecDepth 100000 in
theorem sX_ca (c3 c4 c6 c7 c8 c9 c10 c11 c12 c13 c14 c15 c16 c17 c18 c19 c21 c24 c25 c27 c28 c29 c30 c31 c32 c33 c34 c35 c36 c37 c38 c39 c40 c42 c44 c45 c46 c47 c48 c50 c51 c53 c54 c56 c57 c59 c60 c62 c64 c65 c66 c67 c68 c69 : ClassId) : ∃ ca : Nat → ClassId, ca 3 = c3 ∧ ca 4 = c4 ∧ ca 6 = c6 ∧ ca 7 = c7 ∧ ca 8 = c8 ∧ ca 9 = c9 ∧ ca 10 = c10 ∧ ca 11 = c11 ∧ ca 12 = c12 ∧ ca 13 = c13 ∧ ca 14 = c14 ∧ ca 15 = c15 ∧ ca 16 = c16 ∧ ca 17 = c17 ∧ ca 18 = c18 ∧ ca 19 = c19 ∧ ca 21 = c21 ∧ ca 24 = c24 ∧ ca 25 = c25 ∧ ca 27 = c27 ∧ ca 28 = c28 ∧ ca 29 = c29 ∧ ca 30 = c30 ∧ ca 31 = c31 ∧ ca 32 = c32 ∧ ca 33 = c33 ∧ ca 34 = c34 ∧ ca 35 = c35 ∧ ca 36 = c36 ∧ ca 37 = c37 ∧ ca 38 = c38 ∧ ca 39 = c39 ∧ ca 40 = c40 ∧ ca 42 = c42 ∧ ca 44 = c44 ∧ ca 45 = c45 ∧ ca 46 = c46 ∧ ca 47 = c47 ∧ ca 48 = c48 ∧ ca 50 = c50 ∧ ca 51 = c51 ∧ ca 53 = c53 ∧ ca 54 = c54 ∧ ca 56 = c56 ∧ ca 57 = c57 ∧ ca 59 = c59 ∧ ca 60 = c60 ∧ ca 62 = c62 ∧ ca 64 = c64 ∧ ca 65 = c65 ∧ ca 66 = c66 ∧ ca 67 = c67 ∧ ca 68 = c68 ∧ ca 69 = c69 := ⟨fun k => ([c3, c3, c3, c3, c4, c3, c6, c7, c8, c9, c10, c11, c12, c13, c14, c15, c16, c17, c18, c19, c3, c21, c3, c3, c24, c25, c3, c27, c28, c29, c30, c31, c32, c33, c34, c35, c36, c37, c38, c39, c40, c3, c42, c3, c44, c45, c46, c47, c48, c3, c50, c51, c3, c53, c54, c3, c56, c57, c3, c59, c60, c3, c62, c3, c64, c65, c66, c67, c68, c69] : List ClassId).getD k c3, rfl, rfl, rfl, rfl, rfl, rfl, rfl, rfl, rfl, rfl, rfl, rfl, rfl, rfl, rfl, rfl, rfl, rfl, rfl, rfl, rfl, rfl, rfl, rfl, rfl, rfl, rfl, rfl, rfl, rfl, rfl, rfl, rfl, rfl, rfl, rfl, rfl, rfl, rfl, rfl, rfl, rfl, rfl, rfl, rfl, rfl, rfl, rfl, rfl, rfl, rfl, rfl, rfl, rfl⟩
theorem pi_Xi : ∀ i, i < 70 → ∀ j, j < 70 → pi_X.getD i 0 = pi_X.getD j 0 → i = j := by decide +kernel
theorem pi_in {ws : va_W} {A : Nat → Prop} {pi : List Nat} {n : Nat} {ad : Nat → Nat} (hD : va_D A ws) (key : ∀ i, i < n → ∃ e, ws[pi.getD i 0]? = some (ad i, e)) (hi : ∀ i, i < n → ∀ j, j < n → pi.getD i 0 = pi.getD j 0 → i = j) : ∀ i j, i < n → j < n → ad i = ad j → i = j := by
  intro i j h1 h2 h
  obtain ⟨e1, g1⟩ := key i h1
  obtain ⟨e2, g2⟩ := key j h2
  exact hi i h1 j h2 (hD.1 _ _ _ _ g1 g2 h)
