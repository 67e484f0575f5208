def st0X : ax_S := (fun _ _ => 0, fun o => if o = 17 ∨ o = 38 then (upd (upd (upd (upd (fun _ => 0) (0 : Int32).toNatClampNeg (-1)) (1 : Int32).toNatClampNeg (-1)) (2 : Int32).toNatClampNeg (-1)) (3 : Int32).toNatClampNeg (-1)) else if o = 18 ∨ o = 39 then (upd (upd (upd (upd (fun _ => 0) (0 : Int32).toNatClampNeg (vp_nar .boolean (0))) (1 : Int32).toNatClampNeg (vp_nar .boolean (0))) (2 : Int32).toNatClampNeg (vp_nar .boolean (0))) (3 : Int32).toNatClampNeg (vp_nar .boolean (0))) else fun _ => 0)
def st0M : ax_S := (fun _ _ => 0, fun o => if o = 24 then (upd (upd (upd (upd (upd (upd (upd (upd (upd (upd (upd (upd (upd (upd (upd (upd (upd (upd (upd (upd (upd (upd (upd (upd (upd (upd (upd (upd (upd (upd (upd (upd (upd (upd (upd (upd (upd (upd (upd (upd (upd (upd (upd (upd (upd (upd (upd (upd (upd (upd (upd (upd (upd (upd (upd (upd (upd (upd (upd (upd (upd (upd (upd (upd (upd (upd (upd (upd (upd (upd (upd (upd (fun _ => 0) (0 : Int32).toNatClampNeg (vp_nar .char (114))) (1 : Int32).toNatClampNeg (vp_nar .char (101))) (2 : Int32).toNatClampNeg (vp_nar .char (97))) (3 : Int32).toNatClampNeg (vp_nar .char (100))) (4 : Int32).toNatClampNeg (vp_nar .char (32))) (5 : Int32).toNatClampNeg (vp_nar .char (119))) (6 : Int32).toNatClampNeg (vp_nar .char (114))) (7 : Int32).toNatClampNeg (vp_nar .char (105))) (8 : Int32).toNatClampNeg (vp_nar .char (116))) (9 : Int32).toNatClampNeg (vp_nar .char (101))) (10 : Int32).toNatClampNeg (vp_nar .char (32))) (11 : Int32).toNatClampNeg (vp_nar .char (99))) (12 : Int32).toNatClampNeg (vp_nar .char (111))) (13 : Int32).toNatClampNeg (vp_nar .char (109))) (14 : Int32).toNatClampNeg (vp_nar .char (112))) (15 : Int32).toNatClampNeg (vp_nar .char (97))) (16 : Int32).toNatClampNeg (vp_nar .char (114))) (17 : Int32).toNatClampNeg (vp_nar .char (101))) (18 : Int32).toNatClampNeg (vp_nar .char (65))) (19 : Int32).toNatClampNeg (vp_nar .char (110))) (20 : Int32).toNatClampNeg (vp_nar .char (100))) (21 : Int32).toNatClampNeg (vp_nar .char (83))) (22 : Int32).toNatClampNeg (vp_nar .char (101))) (23 : Int32).toNatClampNeg (vp_nar .char (116))) (24 : Int32).toNatClampNeg (vp_nar .char (32))) (25 : Int32).toNatClampNeg (vp_nar .char (103))) (26 : Int32).toNatClampNeg (vp_nar .char (101))) (27 : Int32).toNatClampNeg (vp_nar .char (116))) (28 : Int32).toNatClampNeg (vp_nar .char (32))) (29 : Int32).toNatClampNeg (vp_nar .char (97))) (30 : Int32).toNatClampNeg (vp_nar .char (100))) (31 : Int32).toNatClampNeg (vp_nar .char (100))) (32 : Int32).toNatClampNeg (vp_nar .char (32))) (33 : Int32).toNatClampNeg (vp_nar .char (101))) (34 : Int32).toNatClampNeg (vp_nar .char (110))) (35 : Int32).toNatClampNeg (vp_nar .char (113))) (36 : Int32).toNatClampNeg (vp_nar .char (117))) (37 : Int32).toNatClampNeg (vp_nar .char (101))) (38 : Int32).toNatClampNeg (vp_nar .char (117))) (39 : Int32).toNatClampNeg (vp_nar .char (101))) (40 : Int32).toNatClampNeg (vp_nar .char (32))) (41 : Int32).toNatClampNeg (vp_nar .char (100))) (42 : Int32).toNatClampNeg (vp_nar .char (101))) (43 : Int32).toNatClampNeg (vp_nar .char (113))) (44 : Int32).toNatClampNeg (vp_nar .char (117))) (45 : Int32).toNatClampNeg (vp_nar .char (101))) (46 : Int32).toNatClampNeg (vp_nar .char (117))) (47 : Int32).toNatClampNeg (vp_nar .char (101))) (48 : Int32).toNatClampNeg (vp_nar .char (32))) (49 : Int32).toNatClampNeg (vp_nar .char (105))) (50 : Int32).toNatClampNeg (vp_nar .char (110))) (51 : Int32).toNatClampNeg (vp_nar .char (115))) (52 : Int32).toNatClampNeg (vp_nar .char (101))) (53 : Int32).toNatClampNeg (vp_nar .char (114))) (54 : Int32).toNatClampNeg (vp_nar .char (116))) (55 : Int32).toNatClampNeg (vp_nar .char (32))) (56 : Int32).toNatClampNeg (vp_nar .char (114))) (57 : Int32).toNatClampNeg (vp_nar .char (101))) (58 : Int32).toNatClampNeg (vp_nar .char (109))) (59 : Int32).toNatClampNeg (vp_nar .char (111))) (60 : Int32).toNatClampNeg (vp_nar .char (118))) (61 : Int32).toNatClampNeg (vp_nar .char (101))) (62 : Int32).toNatClampNeg (vp_nar .char (32))) (63 : Int32).toNatClampNeg (vp_nar .char (99))) (64 : Int32).toNatClampNeg (vp_nar .char (111))) (65 : Int32).toNatClampNeg (vp_nar .char (110))) (66 : Int32).toNatClampNeg (vp_nar .char (116))) (67 : Int32).toNatClampNeg (vp_nar .char (97))) (68 : Int32).toNatClampNeg (vp_nar .char (105))) (69 : Int32).toNatClampNeg (vp_nar .char (110))) (70 : Int32).toNatClampNeg (vp_nar .char (115))) (71 : Int32).toNatClampNeg (vp_nar .char (32))) else fun _ => 0)
def ax_all (D : va_G) (ad : Nat → Nat) (ca : Nat → ClassId) (st : ax_S) (H : Heap) : Nat → ax_L → Prop
  | _, [] => True
  | k, e :: l => va_at D vwCl (ad k, ax_cell ad ca st k e) H ∧ ax_all D ad ca st H (k + 1) l
theorem ax_allc {D : va_G} {ad : Nat → Nat} {ca : Nat → ClassId} {st : ax_S} {H : Heap} {k k' : Nat} {e : ax_E} {l : ax_L} (h : va_at D vwCl (ad k, ax_cell ad ca st k e) H) (hk : k + 1 = k') (t : ax_all D ad ca st H k' l) : ax_all D ad ca st H k (e :: l) := ⟨h, hk ▸ t⟩
theorem ax_all_at {D : va_G} {ad : Nat → Nat} {ca : Nat → ClassId} {st : ax_S} {H : Heap} : ∀ (l : ax_L) (k : Nat), ax_all D ad ca st H k l → ∀ (i : Nat) (e : ax_E), l[i]? = some e → va_at D vwCl (ad (k + i), ax_cell ad ca st (k + i) e) H
  | [], _, _, i, e, h => by cases h
  | e0 :: l, k, ha, i, e, h => by
    cases i with
    | zero => cases h; exact ha.1
    | succ i =>
      have := ax_all_at l (k + 1) ha.2 i e h
      rw [Nat.add_assoc, Nat.add_comm 1 i] at this
      exact this
theorem ax_all_P {D : va_G} {L : ax_L} {ad : Nat → Nat} {ca : Nat → ClassId} {st : ax_S} {H : Heap} (h : ax_all D ad ca st H 0 L) : va_P D vwCl (ax_W L ad ca st) H := by
  intro k q hq
  obtain ⟨e, he, rfl⟩ := ax_W_in hq
  have := ax_all_at L 0 h k e he
  rw [Nat.zero_add] at this
  exact this
theorem ax_sts {D : va_G} {H : Heap} {q : Nat} {c : ClassId} (ad : Nat → Nat) (h : va_at D vwCl (q, .inl (c, 4, .inr (.inr (.inr (.inr (va_up (va_up (va_up (va_up (fun _ => none) (0 : Int32).toNatClampNeg (some (ad 49))) (1 : Int32).toNatClampNeg (some (ad 52))) (2 : Int32).toNatClampNeg (some (ad 55))) (3 : Int32).toNatClampNeg (some (ad 58)))))))) H) : va_at D vwCl (q, .inl (c, 4, .inr (.inr (.inr (.inr (fun j => (([49, 52, 55, 58] : List Nat)[j]?).map ad)))))) H := by
  have e : (va_up (va_up (va_up (va_up (fun _ => none) (0 : Int32).toNatClampNeg (some (ad 49))) (1 : Int32).toNatClampNeg (some (ad 52))) (2 : Int32).toNatClampNeg (some (ad 55))) (3 : Int32).toNatClampNeg (some (ad 58))) = (fun j => (([49, 52, 55, 58] : List Nat)[j]?).map ad) := by
    funext j
    match j with
    | 0 => rfl
    | 1 => rfl
    | 2 => rfl
    | 3 => rfl
    | j + 4 =>
      show (if j + 4 = 3 then _ else if j + 4 = 2 then _ else if j + 4 = 1 then _ else if j + 4 = 0 then _ else none) = none
      rw [if_neg (by omega), if_neg (by omega), if_neg (by omega), if_neg (by omega)]
  rw [e] at h
  exact h
def ax_flds (ad : Nat → Nat) (st : ax_S) (o : Nat) : Nat → List (Option Nat) → List Value
  | _, [] => []
  | k, f :: l => ax_fld ad st o k f :: ax_flds ad st o (k + 1) l
theorem ax_flds_at {ad : Nat → Nat} {st : ax_S} {o : Nat} : ∀ (l : List (Option Nat)) (k i : Nat), (ax_flds ad st o k l)[i]? = (l[i]?).map (ax_fld ad st o (k + i))
  | [], _, _ => rfl
  | f :: l, k, i => by
    cases i with
    | zero => rfl
    | succ i =>
      have := ax_flds_at (ad := ad) (st := st) (o := o) l (k + 1) i
      rw [Nat.add_assoc, Nat.add_comm 1 i] at this
      exact this
theorem ax_ob {D : va_G} {H : Heap} {q : Nat} {ad : Nat → Nat} {ca : Nat → ClassId} {st : ax_S} {o ci : Nat} {fs : List (Option Nat)} (h : va_at D vwCl (q, .inr (ci, ax_flds ad st o 0 fs)) H) : va_at D vwCl (q, ax_cell ad ca st o (.inr (.inr (ci, fs)))) H := by
  have e : ax_flds ad st o 0 fs = fs.mapIdx (ax_fld ad st o) := by
    apply List.ext_getElem?
    intro i
    rw [ax_flds_at, List.getElem?_mapIdx, Nat.zero_add]
  rw [e] at h
  exact h
def ax_kk (s : State) (ca : Nat → ClassId) (k : Nat) : ax_E → Prop
  | .inl q => ArrOfT s (ca k) q.1 ∧ va_RA s (ca k) q.1
  | .inr (.inl q) => ArrOfT s (ca k) (.object q.1) ∧ va_RA s (ca k) (.object q.1)
  | .inr (.inr _) => True
def ax_kal (s : State) (ca : Nat → ClassId) : Nat → ax_L → Prop
  | _, [] => True
  | k, e :: l => ax_kk s ca k e ∧ ax_kal s ca (k + 1) l
theorem ax_kalc {s : State} {ca : Nat → ClassId} {k k' : Nat} {e : ax_E} {l : ax_L} (h : ax_kk s ca k e) (hk : k + 1 = k') (t : ax_kal s ca k' l) : ax_kal s ca k (e :: l) := ⟨h, hk ▸ t⟩
theorem ax_kal_at {s : State} {ca : Nat → ClassId} : ∀ (l : ax_L) (k : Nat), ax_kal s ca k l → ∀ (i : Nat) (e : ax_E), l[i]? = some e → ax_kk s ca (k + i) e
  | [], _, _, i, e, h => by cases h
  | e0 :: l, k, ha, i, e, h => by
    cases i with
    | zero => cases h; exact ha.1
    | succ i =>
      have := ax_kal_at l (k + 1) ha.2 i e h
      rw [Nat.add_assoc, Nat.add_comm 1 i] at this
      exact this
theorem ax_kal_K {D : va_G} {L : ax_L} {ca : Nat → ClassId} {s : State} (h0 : va_K D vwCl [] s) (h : ax_kal s ca 0 L) : ax_K D L ca s := by
  refine ⟨h0, fun o ty n he => ?_, fun o C qs he => ?_⟩
  · have := ax_kal_at L 0 h o _ he
    rw [Nat.zero_add] at this; exact this
  · have := ax_kal_at L 0 h o _ he
    rw [Nat.zero_add] at this; exact this
def ax_kys (ws : va_W) (ad : Nat → Nat) : Nat → List Nat → Prop
  | _, [] => True
  | k, p :: l => (∃ e, ws[p]? = some (ad k, e)) ∧ ax_kys ws ad (k + 1) l
theorem ax_kysc {ws : va_W} {ad : Nat → Nat} {k k' p : Nat} {l : List Nat} (h : ∃ e, ws[p]? = some (ad k, e)) (hk : k + 1 = k') (t : ax_kys ws ad k' l) : ax_kys ws ad k (p :: l) := ⟨h, hk ▸ t⟩
theorem ax_kys_at {ws : va_W} {ad : Nat → Nat} : ∀ (l : List Nat) (k : Nat), ax_kys ws ad k l → ∀ (i : Nat), i < l.length → ∃ e, ws[l.getD i 0]? = some (ad (k + i), e)
  | [], _, _, i, h => absurd h (Nat.not_lt_zero _)
  | p :: l, k, ha, i, h => by
    cases i with
    | zero => exact ha.1
    | succ i =>
      have := ax_kys_at l (k + 1) ha.2 i (Nat.lt_of_succ_lt_succ h)
      rw [Nat.add_assoc, Nat.add_comm 1 i] at this
      exact this
theorem ax_kys_0 {ws : va_W} {ad : Nat → Nat} {l : List Nat} (h : ax_kys ws ad 0 l) (i : Nat) (hi : i < l.length) : ∃ e, ws[l.getD i 0]? = some (ad i, e) := by
  have := ax_kys_at l 0 h i hi
  rw [Nat.zero_add] at this; exact this
set_option maxHeartbeats 8000000 in
set_option maxRecDepth 100000 in
theorem sX_P {dC : Nat → ClassId} {dI : Nat → Nat → Nat} {s : State} {H : Heap} {adX adM : Nat → Nat} {caX caM : Nat → ClassId} (hP : va_P (dC, dI) vwCl [((adX 0), .inr (8, [.ref (adX 1), .ref (adX 22), .ref (adX 43), .ref (adX 61), .ref (adX 63), .int (0)])), ((adX 2), .inr (1, [.int 0, .ref (adX 3), .ref (adX 4)])), ((adX 3), .inl ((caX 3), 4, .inl (fun _ => 0))), ((adX 4), .inl ((caX 4), 4, .inl (fun _ => 0))), ((adX 6), .inl ((caX 6), 24, .inl (fun _ => 0))), ((adX 7), .inl ((caX 7), 24, .inl (fun _ => 0))), ((adX 8), .inl ((caX 8), 24, .inl (fun _ => 0))), ((adX 9), .inl ((caX 9), 10, .inl (fun _ => 0))), ((adX 10), .inl ((caX 10), 10, .inl (fun _ => 0))), ((adX 11), .inl ((caX 11), 10, .inl (fun _ => 0))), ((adX 12), .inl ((caX 12), 10, .inl (fun _ => 0))), ((adX 13), .inl ((caX 13), 10, .inl (fun _ => 0))), ((adX 14), .inl ((caX 14), 10, .inl (fun _ => 0))), ((adX 15), .inl ((caX 15), 10, .inl (fun _ => 0))), ((adX 16), .inl ((caX 16), 10, .inl (fun _ => 0))), ((adX 19), .inl ((caX 19), 10, .inl (fun _ => 0))), ((adX 5), .inr (0, [.int (0), .ref (adX 6), .ref (adX 7), .ref (adX 8), .int (0), .ref (adX 9), .ref (adX 10), .ref (adX 11), .ref (adX 12), .ref (adX 13), .ref (adX 14), .ref (adX 15), .ref (adX 16), .ref (adX 17), .ref (adX 18), .ref (adX 19)])), ((adX 17), .inl ((caX 17), 4, .inl (upd (upd (upd (upd (fun _ => 0) (0 : Int32).toNatClampNeg (-1)) (1 : Int32).toNatClampNeg (-1)) (2 : Int32).toNatClampNeg (-1)) (3 : Int32).toNatClampNeg (-1)))), ((adX 18), .inl ((caX 18), 4, .inl (upd (upd (upd (upd (fun _ => 0) (0 : Int32).toNatClampNeg (vp_nar .boolean (0))) (1 : Int32).toNatClampNeg (vp_nar .boolean (0))) (2 : Int32).toNatClampNeg (vp_nar .boolean (0))) (3 : Int32).toNatClampNeg (vp_nar .boolean (0))))), ((adX 20), .inr (2, [.int 0, .ref (adX 21)])), ((adX 21), .inl ((caX 21), 10, .inl (fun _ => 0))), ((adX 22), .inr (4, [.ref (adX 23), .ref (adX 26), .ref (adX 41)])), ((adX 23), .inr (1, [.int 0, .ref (adX 24), .ref (adX 25)])), ((adX 24), .inl ((caX 24), 4, .inl (fun _ => 0))), ((adX 25), .inl ((caX 25), 4, .inl (fun _ => 0))), ((adX 27), .inl ((caX 27), 24, .inl (fun _ => 0))), ((adX 28), .inl ((caX 28), 24, .inl (fun _ => 0))), ((adX 29), .inl ((caX 29), 24, .inl (fun _ => 0))), ((adX 30), .inl ((caX 30), 10, .inl (fun _ => 0))), ((adX 31), .inl ((caX 31), 10, .inl (fun _ => 0))), ((adX 32), .inl ((caX 32), 10, .inl (fun _ => 0))), ((adX 33), .inl ((caX 33), 10, .inl (fun _ => 0))), ((adX 34), .inl ((caX 34), 10, .inl (fun _ => 0))), ((adX 35), .inl ((caX 35), 10, .inl (fun _ => 0))), ((adX 36), .inl ((caX 36), 10, .inl (fun _ => 0))), ((adX 37), .inl ((caX 37), 10, .inl (fun _ => 0))), ((adX 40), .inl ((caX 40), 10, .inl (fun _ => 0))), ((adX 26), .inr (0, [.int (0), .ref (adX 27), .ref (adX 28), .ref (adX 29), .int (0), .ref (adX 30), .ref (adX 31), .ref (adX 32), .ref (adX 33), .ref (adX 34), .ref (adX 35), .ref (adX 36), .ref (adX 37), .ref (adX 38), .ref (adX 39), .ref (adX 40)])), ((adX 38), .inl ((caX 38), 4, .inl (upd (upd (upd (upd (fun _ => 0) (0 : Int32).toNatClampNeg (-1)) (1 : Int32).toNatClampNeg (-1)) (2 : Int32).toNatClampNeg (-1)) (3 : Int32).toNatClampNeg (-1)))), ((adX 39), .inl ((caX 39), 4, .inl (upd (upd (upd (upd (fun _ => 0) (0 : Int32).toNatClampNeg (vp_nar .boolean (0))) (1 : Int32).toNatClampNeg (vp_nar .boolean (0))) (2 : Int32).toNatClampNeg (vp_nar .boolean (0))) (3 : Int32).toNatClampNeg (vp_nar .boolean (0))))), ((adX 41), .inr (2, [.int 0, .ref (adX 42)])), ((adX 42), .inl ((caX 42), 10, .inl (fun _ => 0))), ((adX 43), .inr (5, [.ref (adX 2), .ref (adX 5), .ref (adX 44), .int 0, .int 0, .int 0, .ref (adX 45), .ref (adX 46), .ref (adX 47), .int 0, .int 0, .int 0, .int 0, .int 0, .ref (adX 48)])), ((adX 1), .inr (4, [.ref (adX 2), .ref (adX 5), .ref (adX 20)])), ((adX 44), .inl ((caX 44), 4, .inr (.inr (.inr (.inr (va_up (va_up (va_up (va_up (fun _ => none) (0 : Int32).toNatClampNeg (some (adX 49))) (1 : Int32).toNatClampNeg (some (adX 52))) (2 : Int32).toNatClampNeg (some (adX 55))) (3 : Int32).toNatClampNeg (some (adX 58)))))))), ((adX 45), .inl ((caX 45), 10, .inl (fun _ => 0))), ((adX 46), .inl ((caX 46), 10, .inl (fun _ => 0))), ((adX 47), .inl ((caX 47), 10, .inl (fun _ => 0))), ((adX 48), .inl ((caX 48), 1999, .inl (fun _ => 0))), ((adX 49), .inr (6, [.int 0, .ref (adX 50), .int 0, .int 0, .ref (adX 51)])), ((adX 50), .inl ((caX 50), 10, .inl (fun _ => 0))), ((adX 51), .inl ((caX 51), 100, .inl (fun _ => 0))), ((adX 52), .inr (6, [.int 0, .ref (adX 53), .int 0, .int 0, .ref (adX 54)])), ((adX 53), .inl ((caX 53), 10, .inl (fun _ => 0))), ((adX 54), .inl ((caX 54), 100, .inl (fun _ => 0))), ((adX 55), .inr (6, [.int 0, .ref (adX 56), .int 0, .int 0, .ref (adX 57)])), ((adX 56), .inl ((caX 56), 10, .inl (fun _ => 0))), ((adX 57), .inl ((caX 57), 100, .inl (fun _ => 0))), ((adX 58), .inr (6, [.int 0, .ref (adX 59), .int 0, .int 0, .ref (adX 60)])), ((adX 59), .inl ((caX 59), 10, .inl (fun _ => 0))), ((adX 60), .inl ((caX 60), 100, .inl (fun _ => 0))), ((adX 61), .inr (7, [.int 0, .ref (adX 62)])), ((adX 62), .inl ((caX 62), 120, .inl (fun _ => 0))), ((adX 63), .inr (3, [.int 0, .ref (adX 64), .ref (adX 65), .ref (adX 66), .ref (adX 67), .ref (adX 68), .ref (adX 69), .ref (adX 61), .int 0, .int 0])), ((adX 64), .inl ((caX 64), 60, .inl (fun _ => 0))), ((adX 65), .inl ((caX 65), 60, .inl (fun _ => 0))), ((adX 66), .inl ((caX 66), 60, .inl (fun _ => 0))), ((adX 67), .inl ((caX 67), 60, .inl (fun _ => 0))), ((adX 68), .inl ((caX 68), 60, .inl (fun _ => 0))), ((adX 69), .inl ((caX 69), 60, .inl (fun _ => 0))), ((adM 0), .inr (9, [.int 0, .ref (adM 1), .ref (adM 2), .int 0, .ref (adM 3), .ref (adM 4), .ref (adM 5), .ref (adM 6), .ref (adM 7), .ref (adM 8), .ref (adM 9), .ref (adM 10), .int 0, .ref (adM 11), .ref (adM 12), .ref (adM 13), .int 0, .ref (adM 14), .ref (adM 15), .ref (adM 16), .ref (adM 17), .ref (adM 18), .ref (adM 19), .ref (adM 20), .int 0, .int 0, .int 0, .int 0, .int 0, .int 0, .int 0, .ref (adM 21), .ref (adM 22), .ref (adM 23), .ref (adM 24), .ref (adM 25), .int 0, .int 0, .int 0, .int 0, .ref (adM 26), .int 0, .ref (adM 27), .int 0])), ((adM 1), .inl ((caM 1), 4, .inl (fun _ => 0))), ((adM 2), .inl ((caM 2), 4, .inl (fun _ => 0))), ((adM 3), .inl ((caM 3), 10, .inl (fun _ => 0))), ((adM 4), .inl ((caM 4), 10, .inl (fun _ => 0))), ((adM 5), .inl ((caM 5), 10, .inl (fun _ => 0))), ((adM 6), .inl ((caM 6), 10, .inl (fun _ => 0))), ((adM 7), .inl ((caM 7), 10, .inl (fun _ => 0))), ((adM 8), .inl ((caM 8), 10, .inl (fun _ => 0))), ((adM 9), .inl ((caM 9), 10, .inl (fun _ => 0))), ((adM 10), .inl ((caM 10), 10, .inl (fun _ => 0))), ((adM 11), .inl ((caM 11), 24, .inl (fun _ => 0))), ((adM 12), .inl ((caM 12), 24, .inl (fun _ => 0))), ((adM 13), .inl ((caM 13), 24, .inl (fun _ => 0))), ((adM 14), .inl ((caM 14), 10, .inl (fun _ => 0))), ((adM 15), .inl ((caM 15), 10, .inl (fun _ => 0))), ((adM 16), .inl ((caM 16), 4, .inl (fun _ => 0))), ((adM 17), .inl ((caM 17), 40, .inl (fun _ => 0))), ((adM 18), .inl ((caM 18), 4, .inl (fun _ => 0))), ((adM 19), .inl ((caM 19), 4, .inl (fun _ => 0))), ((adM 20), .inl ((caM 20), 400, .inl (fun _ => 0))), ((adM 21), .inl ((caM 21), 10, .inl (fun _ => 0))), ((adM 22), .inl ((caM 22), 10, .inl (fun _ => 0))), ((adM 23), .inl ((caM 23), 2200, .inl (fun _ => 0))), ((adM 24), .inl ((caM 24), 72, .inl (upd (upd (upd (upd (upd (upd (upd (upd (upd (upd (upd (upd (upd (upd (upd (upd (upd (upd (upd (upd (upd (upd (upd (upd (upd (upd (upd (upd (upd (upd (upd (upd (upd (upd (upd (upd (upd (upd (upd (upd (upd (upd (upd (upd (upd (upd (upd (upd (upd (upd (upd (upd (upd (upd (upd (upd (upd (upd (upd (upd (upd (upd (upd (upd (upd (upd (upd (upd (upd (upd (upd (upd (fun _ => 0) (0 : Int32).toNatClampNeg (vp_nar .char (114))) (1 : Int32).toNatClampNeg (vp_nar .char (101))) (2 : Int32).toNatClampNeg (vp_nar .char (97))) (3 : Int32).toNatClampNeg (vp_nar .char (100))) (4 : Int32).toNatClampNeg (vp_nar .char (32))) (5 : Int32).toNatClampNeg (vp_nar .char (119))) (6 : Int32).toNatClampNeg (vp_nar .char (114))) (7 : Int32).toNatClampNeg (vp_nar .char (105))) (8 : Int32).toNatClampNeg (vp_nar .char (116))) (9 : Int32).toNatClampNeg (vp_nar .char (101))) (10 : Int32).toNatClampNeg (vp_nar .char (32))) (11 : Int32).toNatClampNeg (vp_nar .char (99))) (12 : Int32).toNatClampNeg (vp_nar .char (111))) (13 : Int32).toNatClampNeg (vp_nar .char (109))) (14 : Int32).toNatClampNeg (vp_nar .char (112))) (15 : Int32).toNatClampNeg (vp_nar .char (97))) (16 : Int32).toNatClampNeg (vp_nar .char (114))) (17 : Int32).toNatClampNeg (vp_nar .char (101))) (18 : Int32).toNatClampNeg (vp_nar .char (65))) (19 : Int32).toNatClampNeg (vp_nar .char (110))) (20 : Int32).toNatClampNeg (vp_nar .char (100))) (21 : Int32).toNatClampNeg (vp_nar .char (83))) (22 : Int32).toNatClampNeg (vp_nar .char (101))) (23 : Int32).toNatClampNeg (vp_nar .char (116))) (24 : Int32).toNatClampNeg (vp_nar .char (32))) (25 : Int32).toNatClampNeg (vp_nar .char (103))) (26 : Int32).toNatClampNeg (vp_nar .char (101))) (27 : Int32).toNatClampNeg (vp_nar .char (116))) (28 : Int32).toNatClampNeg (vp_nar .char (32))) (29 : Int32).toNatClampNeg (vp_nar .char (97))) (30 : Int32).toNatClampNeg (vp_nar .char (100))) (31 : Int32).toNatClampNeg (vp_nar .char (100))) (32 : Int32).toNatClampNeg (vp_nar .char (32))) (33 : Int32).toNatClampNeg (vp_nar .char (101))) (34 : Int32).toNatClampNeg (vp_nar .char (110))) (35 : Int32).toNatClampNeg (vp_nar .char (113))) (36 : Int32).toNatClampNeg (vp_nar .char (117))) (37 : Int32).toNatClampNeg (vp_nar .char (101))) (38 : Int32).toNatClampNeg (vp_nar .char (117))) (39 : Int32).toNatClampNeg (vp_nar .char (101))) (40 : Int32).toNatClampNeg (vp_nar .char (32))) (41 : Int32).toNatClampNeg (vp_nar .char (100))) (42 : Int32).toNatClampNeg (vp_nar .char (101))) (43 : Int32).toNatClampNeg (vp_nar .char (113))) (44 : Int32).toNatClampNeg (vp_nar .char (117))) (45 : Int32).toNatClampNeg (vp_nar .char (101))) (46 : Int32).toNatClampNeg (vp_nar .char (117))) (47 : Int32).toNatClampNeg (vp_nar .char (101))) (48 : Int32).toNatClampNeg (vp_nar .char (32))) (49 : Int32).toNatClampNeg (vp_nar .char (105))) (50 : Int32).toNatClampNeg (vp_nar .char (110))) (51 : Int32).toNatClampNeg (vp_nar .char (115))) (52 : Int32).toNatClampNeg (vp_nar .char (101))) (53 : Int32).toNatClampNeg (vp_nar .char (114))) (54 : Int32).toNatClampNeg (vp_nar .char (116))) (55 : Int32).toNatClampNeg (vp_nar .char (32))) (56 : Int32).toNatClampNeg (vp_nar .char (114))) (57 : Int32).toNatClampNeg (vp_nar .char (101))) (58 : Int32).toNatClampNeg (vp_nar .char (109))) (59 : Int32).toNatClampNeg (vp_nar .char (111))) (60 : Int32).toNatClampNeg (vp_nar .char (118))) (61 : Int32).toNatClampNeg (vp_nar .char (101))) (62 : Int32).toNatClampNeg (vp_nar .char (32))) (63 : Int32).toNatClampNeg (vp_nar .char (99))) (64 : Int32).toNatClampNeg (vp_nar .char (111))) (65 : Int32).toNatClampNeg (vp_nar .char (110))) (66 : Int32).toNatClampNeg (vp_nar .char (116))) (67 : Int32).toNatClampNeg (vp_nar .char (97))) (68 : Int32).toNatClampNeg (vp_nar .char (105))) (69 : Int32).toNatClampNeg (vp_nar .char (110))) (70 : Int32).toNatClampNeg (vp_nar .char (115))) (71 : Int32).toNatClampNeg (vp_nar .char (32))))), ((adM 25), .inl ((caM 25), 120, .inl (fun _ => 0))), ((adM 26), .inl ((caM 26), 4, .inl (fun _ => 0))), ((adM 27), .inl ((caM 27), 174, .inl (fun _ => 0)))] H) : va_P (dC, dI) vwCl (ax_W LX adX caX st0X) H := by
  refine ax_all_P ?_
  unfold LX
  refine ax_allc (ax_ob (hP 0 _ rfl)) (k' := 1) rfl ?_
  refine ax_allc (ax_ob (hP 43 _ rfl)) (k' := 2) rfl ?_
  refine ax_allc (ax_ob (hP 1 _ rfl)) (k' := 3) rfl ?_
  refine ax_allc (hP 2 _ rfl) (k' := 4) rfl ?_
  refine ax_allc (hP 3 _ rfl) (k' := 5) rfl ?_
  refine ax_allc (ax_ob (hP 16 _ rfl)) (k' := 6) rfl ?_
  refine ax_allc (hP 4 _ rfl) (k' := 7) rfl ?_
  refine ax_allc (hP 5 _ rfl) (k' := 8) rfl ?_
  refine ax_allc (hP 6 _ rfl) (k' := 9) rfl ?_
  refine ax_allc (hP 7 _ rfl) (k' := 10) rfl ?_
  refine ax_allc (hP 8 _ rfl) (k' := 11) rfl ?_
  refine ax_allc (hP 9 _ rfl) (k' := 12) rfl ?_
  refine ax_allc (hP 10 _ rfl) (k' := 13) rfl ?_
  refine ax_allc (hP 11 _ rfl) (k' := 14) rfl ?_
  refine ax_allc (hP 12 _ rfl) (k' := 15) rfl ?_
  refine ax_allc (hP 13 _ rfl) (k' := 16) rfl ?_
  refine ax_allc (hP 14 _ rfl) (k' := 17) rfl ?_
  refine ax_allc (hP 17 _ rfl) (k' := 18) rfl ?_
  refine ax_allc (hP 18 _ rfl) (k' := 19) rfl ?_
  refine ax_allc (hP 15 _ rfl) (k' := 20) rfl ?_
  refine ax_allc (ax_ob (hP 19 _ rfl)) (k' := 21) rfl ?_
  refine ax_allc (hP 20 _ rfl) (k' := 22) rfl ?_
  refine ax_allc (ax_ob (hP 21 _ rfl)) (k' := 23) rfl ?_
  refine ax_allc (ax_ob (hP 22 _ rfl)) (k' := 24) rfl ?_
  refine ax_allc (hP 23 _ rfl) (k' := 25) rfl ?_
  refine ax_allc (hP 24 _ rfl) (k' := 26) rfl ?_
  refine ax_allc (ax_ob (hP 37 _ rfl)) (k' := 27) rfl ?_
  refine ax_allc (hP 25 _ rfl) (k' := 28) rfl ?_
  refine ax_allc (hP 26 _ rfl) (k' := 29) rfl ?_
  refine ax_allc (hP 27 _ rfl) (k' := 30) rfl ?_
  refine ax_allc (hP 28 _ rfl) (k' := 31) rfl ?_
  refine ax_allc (hP 29 _ rfl) (k' := 32) rfl ?_
  refine ax_allc (hP 30 _ rfl) (k' := 33) rfl ?_
  refine ax_allc (hP 31 _ rfl) (k' := 34) rfl ?_
  refine ax_allc (hP 32 _ rfl) (k' := 35) rfl ?_
  refine ax_allc (hP 33 _ rfl) (k' := 36) rfl ?_
  refine ax_allc (hP 34 _ rfl) (k' := 37) rfl ?_
  refine ax_allc (hP 35 _ rfl) (k' := 38) rfl ?_
  refine ax_allc (hP 38 _ rfl) (k' := 39) rfl ?_
  refine ax_allc (hP 39 _ rfl) (k' := 40) rfl ?_
  refine ax_allc (hP 36 _ rfl) (k' := 41) rfl ?_
  refine ax_allc (ax_ob (hP 40 _ rfl)) (k' := 42) rfl ?_
  refine ax_allc (hP 41 _ rfl) (k' := 43) rfl ?_
  refine ax_allc (ax_ob (hP 42 _ rfl)) (k' := 44) rfl ?_
  refine ax_allc (ax_sts adX (hP 44 _ rfl)) (k' := 45) rfl ?_
  refine ax_allc (hP 45 _ rfl) (k' := 46) rfl ?_
  refine ax_allc (hP 46 _ rfl) (k' := 47) rfl ?_
  refine ax_allc (hP 47 _ rfl) (k' := 48) rfl ?_
  refine ax_allc (hP 48 _ rfl) (k' := 49) rfl ?_
  refine ax_allc (ax_ob (hP 49 _ rfl)) (k' := 50) rfl ?_
  refine ax_allc (hP 50 _ rfl) (k' := 51) rfl ?_
  refine ax_allc (hP 51 _ rfl) (k' := 52) rfl ?_
  refine ax_allc (ax_ob (hP 52 _ rfl)) (k' := 53) rfl ?_
  refine ax_allc (hP 53 _ rfl) (k' := 54) rfl ?_
  refine ax_allc (hP 54 _ rfl) (k' := 55) rfl ?_
  refine ax_allc (ax_ob (hP 55 _ rfl)) (k' := 56) rfl ?_
  refine ax_allc (hP 56 _ rfl) (k' := 57) rfl ?_
  refine ax_allc (hP 57 _ rfl) (k' := 58) rfl ?_
  refine ax_allc (ax_ob (hP 58 _ rfl)) (k' := 59) rfl ?_
  refine ax_allc (hP 59 _ rfl) (k' := 60) rfl ?_
  refine ax_allc (hP 60 _ rfl) (k' := 61) rfl ?_
  refine ax_allc (ax_ob (hP 61 _ rfl)) (k' := 62) rfl ?_
  refine ax_allc (hP 62 _ rfl) (k' := 63) rfl ?_
  refine ax_allc (ax_ob (hP 63 _ rfl)) (k' := 64) rfl ?_
  refine ax_allc (hP 64 _ rfl) (k' := 65) rfl ?_
  refine ax_allc (hP 65 _ rfl) (k' := 66) rfl ?_
  refine ax_allc (hP 66 _ rfl) (k' := 67) rfl ?_
  refine ax_allc (hP 67 _ rfl) (k' := 68) rfl ?_
  refine ax_allc (hP 68 _ rfl) (k' := 69) rfl ?_
  refine ax_allc (hP 69 _ rfl) (k' := 70) rfl ?_
  exact trivial
set_option maxHeartbeats 8000000 in
set_option maxRecDepth 100000 in
theorem sX_K {dC : Nat → ClassId} {dI : Nat → Nat → Nat} {s : State} {H : Heap} {adX adM : Nat → Nat} {caX caM : Nat → ClassId} (hK : va_K (dC, dI) vwCl [((caX 3), .int), ((caX 4), .int), ((caX 6), .int), ((caX 7), .int), ((caX 8), .int), ((caX 9), .int), ((caX 10), .int), ((caX 11), .int), ((caX 12), .int), ((caX 13), .int), ((caX 14), .int), ((caX 15), .int), ((caX 16), .int), ((caX 19), .int), ((caX 17), .int), ((caX 18), .boolean), ((caX 21), .int), ((caX 24), .int), ((caX 25), .int), ((caX 27), .int), ((caX 28), .int), ((caX 29), .int), ((caX 30), .int), ((caX 31), .int), ((caX 32), .int), ((caX 33), .int), ((caX 34), .int), ((caX 35), .int), ((caX 36), .int), ((caX 37), .int), ((caX 40), .int), ((caX 38), .int), ((caX 39), .boolean), ((caX 42), .int), ((caX 44), .object "LinearizabilityChecker$SharedState"), ((caX 45), .int), ((caX 46), .int), ((caX 47), .int), ((caX 48), .boolean), ((caX 50), .int), ((caX 51), .boolean), ((caX 53), .int), ((caX 54), .boolean), ((caX 56), .int), ((caX 57), .boolean), ((caX 59), .int), ((caX 60), .boolean), ((caX 62), .char), ((caX 64), .int), ((caX 65), .int), ((caX 66), .int), ((caX 67), .int), ((caX 68), .int), ((caX 69), .int), ((caM 1), .int), ((caM 2), .int), ((caM 3), .int), ((caM 4), .int), ((caM 5), .int), ((caM 6), .int), ((caM 7), .int), ((caM 8), .int), ((caM 9), .int), ((caM 10), .int), ((caM 11), .int), ((caM 12), .int), ((caM 13), .int), ((caM 14), .int), ((caM 15), .int), ((caM 16), .int), ((caM 17), .int), ((caM 18), .int), ((caM 19), .int), ((caM 20), .boolean), ((caM 21), .int), ((caM 22), .int), ((caM 23), .boolean), ((caM 24), .char), ((caM 25), .int), ((caM 26), .int), ((caM 27), .int)] s) : ax_K (dC, dI) LX caX s := by
  refine ax_kal_K (hK.sub (tys' := []) [] rfl) ?_
  unfold LX
  refine ax_kalc trivial (k' := 1) rfl ?_
  refine ax_kalc trivial (k' := 2) rfl ?_
  refine ax_kalc trivial (k' := 3) rfl ?_
  refine ax_kalc (hK.2 0 _ rfl) (k' := 4) rfl ?_
  refine ax_kalc (hK.2 1 _ rfl) (k' := 5) rfl ?_
  refine ax_kalc trivial (k' := 6) rfl ?_
  refine ax_kalc (hK.2 2 _ rfl) (k' := 7) rfl ?_
  refine ax_kalc (hK.2 3 _ rfl) (k' := 8) rfl ?_
  refine ax_kalc (hK.2 4 _ rfl) (k' := 9) rfl ?_
  refine ax_kalc (hK.2 5 _ rfl) (k' := 10) rfl ?_
  refine ax_kalc (hK.2 6 _ rfl) (k' := 11) rfl ?_
  refine ax_kalc (hK.2 7 _ rfl) (k' := 12) rfl ?_
  refine ax_kalc (hK.2 8 _ rfl) (k' := 13) rfl ?_
  refine ax_kalc (hK.2 9 _ rfl) (k' := 14) rfl ?_
  refine ax_kalc (hK.2 10 _ rfl) (k' := 15) rfl ?_
  refine ax_kalc (hK.2 11 _ rfl) (k' := 16) rfl ?_
  refine ax_kalc (hK.2 12 _ rfl) (k' := 17) rfl ?_
  refine ax_kalc (hK.2 14 _ rfl) (k' := 18) rfl ?_
  refine ax_kalc (hK.2 15 _ rfl) (k' := 19) rfl ?_
  refine ax_kalc (hK.2 13 _ rfl) (k' := 20) rfl ?_
  refine ax_kalc trivial (k' := 21) rfl ?_
  refine ax_kalc (hK.2 16 _ rfl) (k' := 22) rfl ?_
  refine ax_kalc trivial (k' := 23) rfl ?_
  refine ax_kalc trivial (k' := 24) rfl ?_
  refine ax_kalc (hK.2 17 _ rfl) (k' := 25) rfl ?_
  refine ax_kalc (hK.2 18 _ rfl) (k' := 26) rfl ?_
  refine ax_kalc trivial (k' := 27) rfl ?_
  refine ax_kalc (hK.2 19 _ rfl) (k' := 28) rfl ?_
  refine ax_kalc (hK.2 20 _ rfl) (k' := 29) rfl ?_
  refine ax_kalc (hK.2 21 _ rfl) (k' := 30) rfl ?_
  refine ax_kalc (hK.2 22 _ rfl) (k' := 31) rfl ?_
  refine ax_kalc (hK.2 23 _ rfl) (k' := 32) rfl ?_
  refine ax_kalc (hK.2 24 _ rfl) (k' := 33) rfl ?_
  refine ax_kalc (hK.2 25 _ rfl) (k' := 34) rfl ?_
  refine ax_kalc (hK.2 26 _ rfl) (k' := 35) rfl ?_
  refine ax_kalc (hK.2 27 _ rfl) (k' := 36) rfl ?_
  refine ax_kalc (hK.2 28 _ rfl) (k' := 37) rfl ?_
  refine ax_kalc (hK.2 29 _ rfl) (k' := 38) rfl ?_
  refine ax_kalc (hK.2 31 _ rfl) (k' := 39) rfl ?_
  refine ax_kalc (hK.2 32 _ rfl) (k' := 40) rfl ?_
  refine ax_kalc (hK.2 30 _ rfl) (k' := 41) rfl ?_
  refine ax_kalc trivial (k' := 42) rfl ?_
  refine ax_kalc (hK.2 33 _ rfl) (k' := 43) rfl ?_
  refine ax_kalc trivial (k' := 44) rfl ?_
  refine ax_kalc (hK.2 34 _ rfl) (k' := 45) rfl ?_
  refine ax_kalc (hK.2 35 _ rfl) (k' := 46) rfl ?_
  refine ax_kalc (hK.2 36 _ rfl) (k' := 47) rfl ?_
  refine ax_kalc (hK.2 37 _ rfl) (k' := 48) rfl ?_
  refine ax_kalc (hK.2 38 _ rfl) (k' := 49) rfl ?_
  refine ax_kalc trivial (k' := 50) rfl ?_
  refine ax_kalc (hK.2 39 _ rfl) (k' := 51) rfl ?_
  refine ax_kalc (hK.2 40 _ rfl) (k' := 52) rfl ?_
  refine ax_kalc trivial (k' := 53) rfl ?_
  refine ax_kalc (hK.2 41 _ rfl) (k' := 54) rfl ?_
  refine ax_kalc (hK.2 42 _ rfl) (k' := 55) rfl ?_
  refine ax_kalc trivial (k' := 56) rfl ?_
  refine ax_kalc (hK.2 43 _ rfl) (k' := 57) rfl ?_
  refine ax_kalc (hK.2 44 _ rfl) (k' := 58) rfl ?_
  refine ax_kalc trivial (k' := 59) rfl ?_
  refine ax_kalc (hK.2 45 _ rfl) (k' := 60) rfl ?_
  refine ax_kalc (hK.2 46 _ rfl) (k' := 61) rfl ?_
  refine ax_kalc trivial (k' := 62) rfl ?_
  refine ax_kalc (hK.2 47 _ rfl) (k' := 63) rfl ?_
  refine ax_kalc trivial (k' := 64) rfl ?_
  refine ax_kalc (hK.2 48 _ rfl) (k' := 65) rfl ?_
  refine ax_kalc (hK.2 49 _ rfl) (k' := 66) rfl ?_
  refine ax_kalc (hK.2 50 _ rfl) (k' := 67) rfl ?_
  refine ax_kalc (hK.2 51 _ rfl) (k' := 68) rfl ?_
  refine ax_kalc (hK.2 52 _ rfl) (k' := 69) rfl ?_
  refine ax_kalc (hK.2 53 _ rfl) (k' := 70) rfl ?_
  exact trivial
def pi_X : List Nat := [0, 43, 1, 2, 3, 16, 4, 5, 6, 7, 8, 9, 10, 11, 12, 13, 14, 17, 18, 15, 19, 20, 21, 22, 23, 24, 37, 25, 26, 27, 28, 29, 30, 31, 32, 33, 34, 35, 38, 39, 36, 40, 41, 42, 44, 45, 46, 47, 48, 49, 50, 51, 52, 53, 54, 55, 56, 57, 58, 59, 60, 61, 62, 63, 64, 65, 66, 67, 68, 69]
set_option maxHeartbeats 8000000 in
set_option maxRecDepth 100000 in
theorem sX_key {adX adM : Nat → Nat} {caX caM : Nat → ClassId} : ∀ i, i < 70 → ∃ e, ([((adX 0), .inr (8, [.ref (adX 1), .ref (adX 22), .ref (adX 43), .ref (adX 61), .ref (adX 63), .int (0)])), ((adX 2), .inr (1, [.int 0, .ref (adX 3), .ref (adX 4)])), ((adX 3), .inl ((caX 3), 4, .inl (fun _ => 0))), ((adX 4), .inl ((caX 4), 4, .inl (fun _ => 0))), ((adX 6), .inl ((caX 6), 24, .inl (fun _ => 0))), ((adX 7), .inl ((caX 7), 24, .inl (fun _ => 0))), ((adX 8), .inl ((caX 8), 24, .inl (fun _ => 0))), ((adX 9), .inl ((caX 9), 10, .inl (fun _ => 0))), ((adX 10), .inl ((caX 10), 10, .inl (fun _ => 0))), ((adX 11), .inl ((caX 11), 10, .inl (fun _ => 0))), ((adX 12), .inl ((caX 12), 10, .inl (fun _ => 0))), ((adX 13), .inl ((caX 13), 10, .inl (fun _ => 0))), ((adX 14), .inl ((caX 14), 10, .inl (fun _ => 0))), ((adX 15), .inl ((caX 15), 10, .inl (fun _ => 0))), ((adX 16), .inl ((caX 16), 10, .inl (fun _ => 0))), ((adX 19), .inl ((caX 19), 10, .inl (fun _ => 0))), ((adX 5), .inr (0, [.int (0), .ref (adX 6), .ref (adX 7), .ref (adX 8), .int (0), .ref (adX 9), .ref (adX 10), .ref (adX 11), .ref (adX 12), .ref (adX 13), .ref (adX 14), .ref (adX 15), .ref (adX 16), .ref (adX 17), .ref (adX 18), .ref (adX 19)])), ((adX 17), .inl ((caX 17), 4, .inl (upd (upd (upd (upd (fun _ => 0) (0 : Int32).toNatClampNeg (-1)) (1 : Int32).toNatClampNeg (-1)) (2 : Int32).toNatClampNeg (-1)) (3 : Int32).toNatClampNeg (-1)))), ((adX 18), .inl ((caX 18), 4, .inl (upd (upd (upd (upd (fun _ => 0) (0 : Int32).toNatClampNeg (vp_nar .boolean (0))) (1 : Int32).toNatClampNeg (vp_nar .boolean (0))) (2 : Int32).toNatClampNeg (vp_nar .boolean (0))) (3 : Int32).toNatClampNeg (vp_nar .boolean (0))))), ((adX 20), .inr (2, [.int 0, .ref (adX 21)])), ((adX 21), .inl ((caX 21), 10, .inl (fun _ => 0))), ((adX 22), .inr (4, [.ref (adX 23), .ref (adX 26), .ref (adX 41)])), ((adX 23), .inr (1, [.int 0, .ref (adX 24), .ref (adX 25)])), ((adX 24), .inl ((caX 24), 4, .inl (fun _ => 0))), ((adX 25), .inl ((caX 25), 4, .inl (fun _ => 0))), ((adX 27), .inl ((caX 27), 24, .inl (fun _ => 0))), ((adX 28), .inl ((caX 28), 24, .inl (fun _ => 0))), ((adX 29), .inl ((caX 29), 24, .inl (fun _ => 0))), ((adX 30), .inl ((caX 30), 10, .inl (fun _ => 0))), ((adX 31), .inl ((caX 31), 10, .inl (fun _ => 0))), ((adX 32), .inl ((caX 32), 10, .inl (fun _ => 0))), ((adX 33), .inl ((caX 33), 10, .inl (fun _ => 0))), ((adX 34), .inl ((caX 34), 10, .inl (fun _ => 0))), ((adX 35), .inl ((caX 35), 10, .inl (fun _ => 0))), ((adX 36), .inl ((caX 36), 10, .inl (fun _ => 0))), ((adX 37), .inl ((caX 37), 10, .inl (fun _ => 0))), ((adX 40), .inl ((caX 40), 10, .inl (fun _ => 0))), ((adX 26), .inr (0, [.int (0), .ref (adX 27), .ref (adX 28), .ref (adX 29), .int (0), .ref (adX 30), .ref (adX 31), .ref (adX 32), .ref (adX 33), .ref (adX 34), .ref (adX 35), .ref (adX 36), .ref (adX 37), .ref (adX 38), .ref (adX 39), .ref (adX 40)])), ((adX 38), .inl ((caX 38), 4, .inl (upd (upd (upd (upd (fun _ => 0) (0 : Int32).toNatClampNeg (-1)) (1 : Int32).toNatClampNeg (-1)) (2 : Int32).toNatClampNeg (-1)) (3 : Int32).toNatClampNeg (-1)))), ((adX 39), .inl ((caX 39), 4, .inl (upd (upd (upd (upd (fun _ => 0) (0 : Int32).toNatClampNeg (vp_nar .boolean (0))) (1 : Int32).toNatClampNeg (vp_nar .boolean (0))) (2 : Int32).toNatClampNeg (vp_nar .boolean (0))) (3 : Int32).toNatClampNeg (vp_nar .boolean (0))))), ((adX 41), .inr (2, [.int 0, .ref (adX 42)])), ((adX 42), .inl ((caX 42), 10, .inl (fun _ => 0))), ((adX 43), .inr (5, [.ref (adX 2), .ref (adX 5), .ref (adX 44), .int 0, .int 0, .int 0, .ref (adX 45), .ref (adX 46), .ref (adX 47), .int 0, .int 0, .int 0, .int 0, .int 0, .ref (adX 48)])), ((adX 1), .inr (4, [.ref (adX 2), .ref (adX 5), .ref (adX 20)])), ((adX 44), .inl ((caX 44), 4, .inr (.inr (.inr (.inr (va_up (va_up (va_up (va_up (fun _ => none) (0 : Int32).toNatClampNeg (some (adX 49))) (1 : Int32).toNatClampNeg (some (adX 52))) (2 : Int32).toNatClampNeg (some (adX 55))) (3 : Int32).toNatClampNeg (some (adX 58)))))))), ((adX 45), .inl ((caX 45), 10, .inl (fun _ => 0))), ((adX 46), .inl ((caX 46), 10, .inl (fun _ => 0))), ((adX 47), .inl ((caX 47), 10, .inl (fun _ => 0))), ((adX 48), .inl ((caX 48), 1999, .inl (fun _ => 0))), ((adX 49), .inr (6, [.int 0, .ref (adX 50), .int 0, .int 0, .ref (adX 51)])), ((adX 50), .inl ((caX 50), 10, .inl (fun _ => 0))), ((adX 51), .inl ((caX 51), 100, .inl (fun _ => 0))), ((adX 52), .inr (6, [.int 0, .ref (adX 53), .int 0, .int 0, .ref (adX 54)])), ((adX 53), .inl ((caX 53), 10, .inl (fun _ => 0))), ((adX 54), .inl ((caX 54), 100, .inl (fun _ => 0))), ((adX 55), .inr (6, [.int 0, .ref (adX 56), .int 0, .int 0, .ref (adX 57)])), ((adX 56), .inl ((caX 56), 10, .inl (fun _ => 0))), ((adX 57), .inl ((caX 57), 100, .inl (fun _ => 0))), ((adX 58), .inr (6, [.int 0, .ref (adX 59), .int 0, .int 0, .ref (adX 60)])), ((adX 59), .inl ((caX 59), 10, .inl (fun _ => 0))), ((adX 60), .inl ((caX 60), 100, .inl (fun _ => 0))), ((adX 61), .inr (7, [.int 0, .ref (adX 62)])), ((adX 62), .inl ((caX 62), 120, .inl (fun _ => 0))), ((adX 63), .inr (3, [.int 0, .ref (adX 64), .ref (adX 65), .ref (adX 66), .ref (adX 67), .ref (adX 68), .ref (adX 69), .ref (adX 61), .int 0, .int 0])), ((adX 64), .inl ((caX 64), 60, .inl (fun _ => 0))), ((adX 65), .inl ((caX 65), 60, .inl (fun _ => 0))), ((adX 66), .inl ((caX 66), 60, .inl (fun _ => 0))), ((adX 67), .inl ((caX 67), 60, .inl (fun _ => 0))), ((adX 68), .inl ((caX 68), 60, .inl (fun _ => 0))), ((adX 69), .inl ((caX 69), 60, .inl (fun _ => 0))), ((adM 0), .inr (9, [.int 0, .ref (adM 1), .ref (adM 2), .int 0, .ref (adM 3), .ref (adM 4), .ref (adM 5), .ref (adM 6), .ref (adM 7), .ref (adM 8), .ref (adM 9), .ref (adM 10), .int 0, .ref (adM 11), .ref (adM 12), .ref (adM 13), .int 0, .ref (adM 14), .ref (adM 15), .ref (adM 16), .ref (adM 17), .ref (adM 18), .ref (adM 19), .ref (adM 20), .int 0, .int 0, .int 0, .int 0, .int 0, .int 0, .int 0, .ref (adM 21), .ref (adM 22), .ref (adM 23), .ref (adM 24), .ref (adM 25), .int 0, .int 0, .int 0, .int 0, .ref (adM 26), .int 0, .ref (adM 27), .int 0])), ((adM 1), .inl ((caM 1), 4, .inl (fun _ => 0))), ((adM 2), .inl ((caM 2), 4, .inl (fun _ => 0))), ((adM 3), .inl ((caM 3), 10, .inl (fun _ => 0))), ((adM 4), .inl ((caM 4), 10, .inl (fun _ => 0))), ((adM 5), .inl ((caM 5), 10, .inl (fun _ => 0))), ((adM 6), .inl ((caM 6), 10, .inl (fun _ => 0))), ((adM 7), .inl ((caM 7), 10, .inl (fun _ => 0))), ((adM 8), .inl ((caM 8), 10, .inl (fun _ => 0))), ((adM 9), .inl ((caM 9), 10, .inl (fun _ => 0))), ((adM 10), .inl ((caM 10), 10, .inl (fun _ => 0))), ((adM 11), .inl ((caM 11), 24, .inl (fun _ => 0))), ((adM 12), .inl ((caM 12), 24, .inl (fun _ => 0))), ((adM 13), .inl ((caM 13), 24, .inl (fun _ => 0))), ((adM 14), .inl ((caM 14), 10, .inl (fun _ => 0))), ((adM 15), .inl ((caM 15), 10, .inl (fun _ => 0))), ((adM 16), .inl ((caM 16), 4, .inl (fun _ => 0))), ((adM 17), .inl ((caM 17), 40, .inl (fun _ => 0))), ((adM 18), .inl ((caM 18), 4, .inl (fun _ => 0))), ((adM 19), .inl ((caM 19), 4, .inl (fun _ => 0))), ((adM 20), .inl ((caM 20), 400, .inl (fun _ => 0))), ((adM 21), .inl ((caM 21), 10, .inl (fun _ => 0))), ((adM 22), .inl ((caM 22), 10, .inl (fun _ => 0))), ((adM 23), .inl ((caM 23), 2200, .inl (fun _ => 0))), ((adM 24), .inl ((caM 24), 72, .inl (upd (upd (upd (upd (upd (upd (upd (upd (upd (upd (upd (upd (upd (upd (upd (upd (upd (upd (upd (upd (upd (upd (upd (upd (upd (upd (upd (upd (upd (upd (upd (upd (upd (upd (upd (upd (upd (upd (upd (upd (upd (upd (upd (upd (upd (upd (upd (upd (upd (upd (upd (upd (upd (upd (upd (upd (upd (upd (upd (upd (upd (upd (upd (upd (upd (upd (upd (upd (upd (upd (upd (upd (fun _ => 0) (0 : Int32).toNatClampNeg (vp_nar .char (114))) (1 : Int32).toNatClampNeg (vp_nar .char (101))) (2 : Int32).toNatClampNeg (vp_nar .char (97))) (3 : Int32).toNatClampNeg (vp_nar .char (100))) (4 : Int32).toNatClampNeg (vp_nar .char (32))) (5 : Int32).toNatClampNeg (vp_nar .char (119))) (6 : Int32).toNatClampNeg (vp_nar .char (114))) (7 : Int32).toNatClampNeg (vp_nar .char (105))) (8 : Int32).toNatClampNeg (vp_nar .char (116))) (9 : Int32).toNatClampNeg (vp_nar .char (101))) (10 : Int32).toNatClampNeg (vp_nar .char (32))) (11 : Int32).toNatClampNeg (vp_nar .char (99))) (12 : Int32).toNatClampNeg (vp_nar .char (111))) (13 : Int32).toNatClampNeg (vp_nar .char (109))) (14 : Int32).toNatClampNeg (vp_nar .char (112))) (15 : Int32).toNatClampNeg (vp_nar .char (97))) (16 : Int32).toNatClampNeg (vp_nar .char (114))) (17 : Int32).toNatClampNeg (vp_nar .char (101))) (18 : Int32).toNatClampNeg (vp_nar .char (65))) (19 : Int32).toNatClampNeg (vp_nar .char (110))) (20 : Int32).toNatClampNeg (vp_nar .char (100))) (21 : Int32).toNatClampNeg (vp_nar .char (83))) (22 : Int32).toNatClampNeg (vp_nar .char (101))) (23 : Int32).toNatClampNeg (vp_nar .char (116))) (24 : Int32).toNatClampNeg (vp_nar .char (32))) (25 : Int32).toNatClampNeg (vp_nar .char (103))) (26 : Int32).toNatClampNeg (vp_nar .char (101))) (27 : Int32).toNatClampNeg (vp_nar .char (116))) (28 : Int32).toNatClampNeg (vp_nar .char (32))) (29 : Int32).toNatClampNeg (vp_nar .char (97))) (30 : Int32).toNatClampNeg (vp_nar .char (100))) (31 : Int32).toNatClampNeg (vp_nar .char (100))) (32 : Int32).toNatClampNeg (vp_nar .char (32))) (33 : Int32).toNatClampNeg (vp_nar .char (101))) (34 : Int32).toNatClampNeg (vp_nar .char (110))) (35 : Int32).toNatClampNeg (vp_nar .char (113))) (36 : Int32).toNatClampNeg (vp_nar .char (117))) (37 : Int32).toNatClampNeg (vp_nar .char (101))) (38 : Int32).toNatClampNeg (vp_nar .char (117))) (39 : Int32).toNatClampNeg (vp_nar .char (101))) (40 : Int32).toNatClampNeg (vp_nar .char (32))) (41 : Int32).toNatClampNeg (vp_nar .char (100))) (42 : Int32).toNatClampNeg (vp_nar .char (101))) (43 : Int32).toNatClampNeg (vp_nar .char (113))) (44 : Int32).toNatClampNeg (vp_nar .char (117))) (45 : Int32).toNatClampNeg (vp_nar .char (101))) (46 : Int32).toNatClampNeg (vp_nar .char (117))) (47 : Int32).toNatClampNeg (vp_nar .char (101))) (48 : Int32).toNatClampNeg (vp_nar .char (32))) (49 : Int32).toNatClampNeg (vp_nar .char (105))) (50 : Int32).toNatClampNeg (vp_nar .char (110))) (51 : Int32).toNatClampNeg (vp_nar .char (115))) (52 : Int32).toNatClampNeg (vp_nar .char (101))) (53 : Int32).toNatClampNeg (vp_nar .char (114))) (54 : Int32).toNatClampNeg (vp_nar .char (116))) (55 : Int32).toNatClampNeg (vp_nar .char (32))) (56 : Int32).toNatClampNeg (vp_nar .char (114))) (57 : Int32).toNatClampNeg (vp_nar .char (101))) (58 : Int32).toNatClampNeg (vp_nar .char (109))) (59 : Int32).toNatClampNeg (vp_nar .char (111))) (60 : Int32).toNatClampNeg (vp_nar .char (118))) (61 : Int32).toNatClampNeg (vp_nar .char (101))) (62 : Int32).toNatClampNeg (vp_nar .char (32))) (63 : Int32).toNatClampNeg (vp_nar .char (99))) (64 : Int32).toNatClampNeg (vp_nar .char (111))) (65 : Int32).toNatClampNeg (vp_nar .char (110))) (66 : Int32).toNatClampNeg (vp_nar .char (116))) (67 : Int32).toNatClampNeg (vp_nar .char (97))) (68 : Int32).toNatClampNeg (vp_nar .char (105))) (69 : Int32).toNatClampNeg (vp_nar .char (110))) (70 : Int32).toNatClampNeg (vp_nar .char (115))) (71 : Int32).toNatClampNeg (vp_nar .char (32))))), ((adM 25), .inl ((caM 25), 120, .inl (fun _ => 0))), ((adM 26), .inl ((caM 26), 4, .inl (fun _ => 0))), ((adM 27), .inl ((caM 27), 174, .inl (fun _ => 0)))] : va_W)[pi_X.getD i 0]? = some (adX i, e) := by
  refine fun i hi => ax_kys_0 ?_ i (show i < pi_X.length from hi)
  unfold pi_X
  refine ax_kysc ⟨_, rfl⟩ (k' := 1) rfl ?_
  refine ax_kysc ⟨_, rfl⟩ (k' := 2) rfl ?_
  refine ax_kysc ⟨_, rfl⟩ (k' := 3) rfl ?_
  refine ax_kysc ⟨_, rfl⟩ (k' := 4) rfl ?_
  refine ax_kysc ⟨_, rfl⟩ (k' := 5) rfl ?_
  refine ax_kysc ⟨_, rfl⟩ (k' := 6) rfl ?_
  refine ax_kysc ⟨_, rfl⟩ (k' := 7) rfl ?_
  refine ax_kysc ⟨_, rfl⟩ (k' := 8) rfl ?_
  refine ax_kysc ⟨_, rfl⟩ (k' := 9) rfl ?_
  refine ax_kysc ⟨_, rfl⟩ (k' := 10) rfl ?_
  refine ax_kysc ⟨_, rfl⟩ (k' := 11) rfl ?_
  refine ax_kysc ⟨_, rfl⟩ (k' := 12) rfl ?_
  refine ax_kysc ⟨_, rfl⟩ (k' := 13) rfl ?_
  refine ax_kysc ⟨_, rfl⟩ (k' := 14) rfl ?_
  refine ax_kysc ⟨_, rfl⟩ (k' := 15) rfl ?_
  refine ax_kysc ⟨_, rfl⟩ (k' := 16) rfl ?_
  refine ax_kysc ⟨_, rfl⟩ (k' := 17) rfl ?_
  refine ax_kysc ⟨_, rfl⟩ (k' := 18) rfl ?_
  refine ax_kysc ⟨_, rfl⟩ (k' := 19) rfl ?_
  refine ax_kysc ⟨_, rfl⟩ (k' := 20) rfl ?_
  refine ax_kysc ⟨_, rfl⟩ (k' := 21) rfl ?_
  refine ax_kysc ⟨_, rfl⟩ (k' := 22) rfl ?_
  refine ax_kysc ⟨_, rfl⟩ (k' := 23) rfl ?_
  refine ax_kysc ⟨_, rfl⟩ (k' := 24) rfl ?_
  refine ax_kysc ⟨_, rfl⟩ (k' := 25) rfl ?_
  refine ax_kysc ⟨_, rfl⟩ (k' := 26) rfl ?_
  refine ax_kysc ⟨_, rfl⟩ (k' := 27) rfl ?_
  refine ax_kysc ⟨_, rfl⟩ (k' := 28) rfl ?_
  refine ax_kysc ⟨_, rfl⟩ (k' := 29) rfl ?_
  refine ax_kysc ⟨_, rfl⟩ (k' := 30) rfl ?_
  refine ax_kysc ⟨_, rfl⟩ (k' := 31) rfl ?_
  refine ax_kysc ⟨_, rfl⟩ (k' := 32) rfl ?_
  refine ax_kysc ⟨_, rfl⟩ (k' := 33) rfl ?_
  refine ax_kysc ⟨_, rfl⟩ (k' := 34) rfl ?_
  refine ax_kysc ⟨_, rfl⟩ (k' := 35) rfl ?_
  refine ax_kysc ⟨_, rfl⟩ (k' := 36) rfl ?_
  refine ax_kysc ⟨_, rfl⟩ (k' := 37) rfl ?_
  refine ax_kysc ⟨_, rfl⟩ (k' := 38) rfl ?_
  refine ax_kysc ⟨_, rfl⟩ (k' := 39) rfl ?_
  refine ax_kysc ⟨_, rfl⟩ (k' := 40) rfl ?_
  refine ax_kysc ⟨_, rfl⟩ (k' := 41) rfl ?_
  refine ax_kysc ⟨_, rfl⟩ (k' := 42) rfl ?_
  refine ax_kysc ⟨_, rfl⟩ (k' := 43) rfl ?_
  refine ax_kysc ⟨_, rfl⟩ (k' := 44) rfl ?_
  refine ax_kysc ⟨_, rfl⟩ (k' := 45) rfl ?_
  refine ax_kysc ⟨_, rfl⟩ (k' := 46) rfl ?_
  refine ax_kysc ⟨_, rfl⟩ (k' := 47) rfl ?_
  refine ax_kysc ⟨_, rfl⟩ (k' := 48) rfl ?_
  refine ax_kysc ⟨_, rfl⟩ (k' := 49) rfl ?_
  refine ax_kysc ⟨_, rfl⟩ (k' := 50) rfl ?_
  refine ax_kysc ⟨_, rfl⟩ (k' := 51) rfl ?_
  refine ax_kysc ⟨_, rfl⟩ (k' := 52) rfl ?_
  refine ax_kysc ⟨_, rfl⟩ (k' := 53) rfl ?_
  refine ax_kysc ⟨_, rfl⟩ (k' := 54) rfl ?_
  refine ax_kysc ⟨_, rfl⟩ (k' := 55) rfl ?_
  refine ax_kysc ⟨_, rfl⟩ (k' := 56) rfl ?_
  refine ax_kysc ⟨_, rfl⟩ (k' := 57) rfl ?_
  refine ax_kysc ⟨_, rfl⟩ (k' := 58) rfl ?_
  refine ax_kysc ⟨_, rfl⟩ (k' := 59) rfl ?_
  refine ax_kysc ⟨_, rfl⟩ (k' := 60) rfl ?_
  refine ax_kysc ⟨_, rfl⟩ (k' := 61) rfl ?_
  refine ax_kysc ⟨_, rfl⟩ (k' := 62) rfl ?_
  refine ax_kysc ⟨_, rfl⟩ (k' := 63) rfl ?_
  refine ax_kysc ⟨_, rfl⟩ (k' := 64) rfl ?_
  refine ax_kysc ⟨_, rfl⟩ (k' := 65) rfl ?_
  refine ax_kysc ⟨_, rfl⟩ (k' := 66) rfl ?_
  refine ax_kysc ⟨_, rfl⟩ (k' := 67) rfl ?_
  refine ax_kysc ⟨_, rfl⟩ (k' := 68) rfl ?_
  refine ax_kysc ⟨_, rfl⟩ (k' := 69) rfl ?_
  refine ax_kysc ⟨_, rfl⟩ (k' := 70) rfl ?_
  exact trivial
set_option maxRecDepth 100000 in
theorem sX_ad (a0 a1 a2 a3 a4 a5 a6 a7 a8 a9 a10 a11 a12 a13 a14 a15 a16 a17 a18 a19 a20 a21 a22 a23 a24 a25 a26 a27 a28 a29 a30 a31 a32 a33 a34 a35 a36 a37 a38 a39 a40 a41 a42 a43 a44 a45 a46 a47 a48 a49 a50 a51 a52 a53 a54 a55 a56 a57 a58 a59 a60 a61 a62 a63 a64 a65 a66 a67 a68 a69 : Nat) (adK adV : Nat → Nat) : ∃ ad : Nat → Nat, (ad 0 = a0 ∧ ad 1 = a1 ∧ ad 2 = a2 ∧ ad 3 = a3 ∧ ad 4 = a4 ∧ ad 5 = a5 ∧ ad 6 = a6 ∧ ad 7 = a7 ∧ ad 8 = a8 ∧ ad 9 = a9 ∧ ad 10 = a10 ∧ ad 11 = a11 ∧ ad 12 = a12 ∧ ad 13 = a13 ∧ ad 14 = a14 ∧ ad 15 = a15 ∧ ad 16 = a16 ∧ ad 17 = a17 ∧ ad 18 = a18 ∧ ad 19 = a19 ∧ ad 20 = a20 ∧ ad 21 = a21 ∧ ad 22 = a22 ∧ ad 23 = a23 ∧ ad 24 = a24 ∧ ad 25 = a25 ∧ ad 26 = a26 ∧ ad 27 = a27 ∧ ad 28 = a28 ∧ ad 29 = a29 ∧ ad 30 = a30 ∧ ad 31 = a31 ∧ ad 32 = a32 ∧ ad 33 = a33 ∧ ad 34 = a34 ∧ ad 35 = a35 ∧ ad 36 = a36 ∧ ad 37 = a37 ∧ ad 38 = a38 ∧ ad 39 = a39 ∧ ad 40 = a40 ∧ ad 41 = a41 ∧ ad 42 = a42 ∧ ad 43 = a43 ∧ ad 44 = a44 ∧ ad 45 = a45 ∧ ad 46 = a46 ∧ ad 47 = a47 ∧ ad 48 = a48 ∧ ad 49 = a49 ∧ ad 50 = a50 ∧ ad 51 = a51 ∧ ad 52 = a52 ∧ ad 53 = a53 ∧ ad 54 = a54 ∧ ad 55 = a55 ∧ ad 56 = a56 ∧ ad 57 = a57 ∧ ad 58 = a58 ∧ ad 59 = a59 ∧ ad 60 = a60 ∧ ad 61 = a61 ∧ ad 62 = a62 ∧ ad 63 = a63 ∧ ad 64 = a64 ∧ ad 65 = a65 ∧ ad 66 = a66 ∧ ad 67 = a67 ∧ ad 68 = a68 ∧ ad 69 = a69) ∧ ∀ i, i < 10 → ad (1000 + i) = adK i ∧ ad (2000 + i) = adV i := by
  refine ⟨fun k => if k < 70 then ([a0, a1, a2, a3, a4, a5, a6, a7, a8, a9, a10, a11, a12, a13, a14, a15, a16, a17, a18, a19, a20, a21, a22, a23, a24, a25, a26, a27, a28, a29, a30, a31, a32, a33, a34, a35, a36, a37, a38, a39, a40, a41, a42, a43, a44, a45, a46, a47, a48, a49, a50, a51, a52, a53, a54, a55, a56, a57, a58, a59, a60, a61, a62, a63, a64, a65, a66, a67, a68, a69] : List Nat).getD k 0 else if k < 2000 then adK (k - 1000) else adV (k - 2000), ⟨rfl, rfl, rfl, rfl, rfl, rfl, rfl, rfl, rfl, rfl, rfl, rfl, rfl, rfl, rfl, rfl, rfl, rfl, rfl, rfl, rfl, rfl, rfl, rfl, rfl, rfl, rfl, rfl, rfl, rfl, rfl, rfl, rfl, rfl, rfl, rfl, rfl, rfl, rfl, rfl, rfl, rfl, rfl, rfl, rfl, rfl, rfl, rfl, rfl, rfl, rfl, rfl, rfl, rfl, rfl, rfl, rfl, rfl, rfl, rfl, rfl, rfl, rfl, rfl, rfl, rfl, rfl, rfl, rfl, rfl⟩, fun i hi => ⟨?_, ?_⟩⟩
  · show (if 1000 + i < 70 then _ else if 1000 + i < 2000 then adK (1000 + i - 1000) else _) = _
    rw [if_neg (by omega), if_pos (by omega), Nat.add_sub_cancel_left]
  · show (if 2000 + i < 70 then _ else if 2000 + i < 2000 then _ else adV (2000 + i - 2000)) = _
    rw [if_neg (by omega), if_neg (by omega), Nat.add_sub_cancel_left]
set_option maxRecDepth 100000 in
theorem sX_ca (c3 c4 c6 c7 c8 c9 c10 c11 c12 c13 c14 c15 c16 c17 c18 c19 c21 c24 c25 c27 c28 c29 c30 c31 c32 c33 c34 c35 c36 c37 c38 c39 c40 c42 c44 c45 c46 c47 c48 c50 c51 c53 c54 c56 c57 c59 c60 c62 c64 c65 c66 c67 c68 c69 : ClassId) : ∃ ca : Nat → ClassId, ca 3 = c3 ∧ ca 4 = c4 ∧ ca 6 = c6 ∧ ca 7 = c7 ∧ ca 8 = c8 ∧ ca 9 = c9 ∧ ca 10 = c10 ∧ ca 11 = c11 ∧ ca 12 = c12 ∧ ca 13 = c13 ∧ ca 14 = c14 ∧ ca 15 = c15 ∧ ca 16 = c16 ∧ ca 17 = c17 ∧ ca 18 = c18 ∧ ca 19 = c19 ∧ ca 21 = c21 ∧ ca 24 = c24 ∧ ca 25 = c25 ∧ ca 27 = c27 ∧ ca 28 = c28 ∧ ca 29 = c29 ∧ ca 30 = c30 ∧ ca 31 = c31 ∧ ca 32 = c32 ∧ ca 33 = c33 ∧ ca 34 = c34 ∧ ca 35 = c35 ∧ ca 36 = c36 ∧ ca 37 = c37 ∧ ca 38 = c38 ∧ ca 39 = c39 ∧ ca 40 = c40 ∧ ca 42 = c42 ∧ ca 44 = c44 ∧ ca 45 = c45 ∧ ca 46 = c46 ∧ ca 47 = c47 ∧ ca 48 = c48 ∧ ca 50 = c50 ∧ ca 51 = c51 ∧ ca 53 = c53 ∧ ca 54 = c54 ∧ ca 56 = c56 ∧ ca 57 = c57 ∧ ca 59 = c59 ∧ ca 60 = c60 ∧ ca 62 = c62 ∧ ca 64 = c64 ∧ ca 65 = c65 ∧ ca 66 = c66 ∧ ca 67 = c67 ∧ ca 68 = c68 ∧ ca 69 = c69 := ⟨fun k => ([c3, c3, c3, c3, c4, c3, c6, c7, c8, c9, c10, c11, c12, c13, c14, c15, c16, c17, c18, c19, c3, c21, c3, c3, c24, c25, c3, c27, c28, c29, c30, c31, c32, c33, c34, c35, c36, c37, c38, c39, c40, c3, c42, c3, c44, c45, c46, c47, c48, c3, c50, c51, c3, c53, c54, c3, c56, c57, c3, c59, c60, c3, c62, c3, c64, c65, c66, c67, c68, c69] : List ClassId).getD k c3, rfl, rfl, rfl, rfl, rfl, rfl, rfl, rfl, rfl, rfl, rfl, rfl, rfl, rfl, rfl, rfl, rfl, rfl, rfl, rfl, rfl, rfl, rfl, rfl, rfl, rfl, rfl, rfl, rfl, rfl, rfl, rfl, rfl, rfl, rfl, rfl, rfl, rfl, rfl, rfl, rfl, rfl, rfl, rfl, rfl, rfl, rfl, rfl, rfl, rfl, rfl, rfl, rfl, rfl⟩
set_option maxHeartbeats 8000000 in
set_option maxRecDepth 100000 in
theorem sM_P {dC : Nat → ClassId} {dI : Nat → Nat → Nat} {s : State} {H : Heap} {adX adM : Nat → Nat} {caX caM : Nat → ClassId} (hP : va_P (dC, dI) vwCl [((adX 0), .inr (8, [.ref (adX 1), .ref (adX 22), .ref (adX 43), .ref (adX 61), .ref (adX 63), .int (0)])), ((adX 2), .inr (1, [.int 0, .ref (adX 3), .ref (adX 4)])), ((adX 3), .inl ((caX 3), 4, .inl (fun _ => 0))), ((adX 4), .inl ((caX 4), 4, .inl (fun _ => 0))), ((adX 6), .inl ((caX 6), 24, .inl (fun _ => 0))), ((adX 7), .inl ((caX 7), 24, .inl (fun _ => 0))), ((adX 8), .inl ((caX 8), 24, .inl (fun _ => 0))), ((adX 9), .inl ((caX 9), 10, .inl (fun _ => 0))), ((adX 10), .inl ((caX 10), 10, .inl (fun _ => 0))), ((adX 11), .inl ((caX 11), 10, .inl (fun _ => 0))), ((adX 12), .inl ((caX 12), 10, .inl (fun _ => 0))), ((adX 13), .inl ((caX 13), 10, .inl (fun _ => 0))), ((adX 14), .inl ((caX 14), 10, .inl (fun _ => 0))), ((adX 15), .inl ((caX 15), 10, .inl (fun _ => 0))), ((adX 16), .inl ((caX 16), 10, .inl (fun _ => 0))), ((adX 19), .inl ((caX 19), 10, .inl (fun _ => 0))), ((adX 5), .inr (0, [.int (0), .ref (adX 6), .ref (adX 7), .ref (adX 8), .int (0), .ref (adX 9), .ref (adX 10), .ref (adX 11), .ref (adX 12), .ref (adX 13), .ref (adX 14), .ref (adX 15), .ref (adX 16), .ref (adX 17), .ref (adX 18), .ref (adX 19)])), ((adX 17), .inl ((caX 17), 4, .inl (upd (upd (upd (upd (fun _ => 0) (0 : Int32).toNatClampNeg (-1)) (1 : Int32).toNatClampNeg (-1)) (2 : Int32).toNatClampNeg (-1)) (3 : Int32).toNatClampNeg (-1)))), ((adX 18), .inl ((caX 18), 4, .inl (upd (upd (upd (upd (fun _ => 0) (0 : Int32).toNatClampNeg (vp_nar .boolean (0))) (1 : Int32).toNatClampNeg (vp_nar .boolean (0))) (2 : Int32).toNatClampNeg (vp_nar .boolean (0))) (3 : Int32).toNatClampNeg (vp_nar .boolean (0))))), ((adX 20), .inr (2, [.int 0, .ref (adX 21)])), ((adX 21), .inl ((caX 21), 10, .inl (fun _ => 0))), ((adX 22), .inr (4, [.ref (adX 23), .ref (adX 26), .ref (adX 41)])), ((adX 23), .inr (1, [.int 0, .ref (adX 24), .ref (adX 25)])), ((adX 24), .inl ((caX 24), 4, .inl (fun _ => 0))), ((adX 25), .inl ((caX 25), 4, .inl (fun _ => 0))), ((adX 27), .inl ((caX 27), 24, .inl (fun _ => 0))), ((adX 28), .inl ((caX 28), 24, .inl (fun _ => 0))), ((adX 29), .inl ((caX 29), 24, .inl (fun _ => 0))), ((adX 30), .inl ((caX 30), 10, .inl (fun _ => 0))), ((adX 31), .inl ((caX 31), 10, .inl (fun _ => 0))), ((adX 32), .inl ((caX 32), 10, .inl (fun _ => 0))), ((adX 33), .inl ((caX 33), 10, .inl (fun _ => 0))), ((adX 34), .inl ((caX 34), 10, .inl (fun _ => 0))), ((adX 35), .inl ((caX 35), 10, .inl (fun _ => 0))), ((adX 36), .inl ((caX 36), 10, .inl (fun _ => 0))), ((adX 37), .inl ((caX 37), 10, .inl (fun _ => 0))), ((adX 40), .inl ((caX 40), 10, .inl (fun _ => 0))), ((adX 26), .inr (0, [.int (0), .ref (adX 27), .ref (adX 28), .ref (adX 29), .int (0), .ref (adX 30), .ref (adX 31), .ref (adX 32), .ref (adX 33), .ref (adX 34), .ref (adX 35), .ref (adX 36), .ref (adX 37), .ref (adX 38), .ref (adX 39), .ref (adX 40)])), ((adX 38), .inl ((caX 38), 4, .inl (upd (upd (upd (upd (fun _ => 0) (0 : Int32).toNatClampNeg (-1)) (1 : Int32).toNatClampNeg (-1)) (2 : Int32).toNatClampNeg (-1)) (3 : Int32).toNatClampNeg (-1)))), ((adX 39), .inl ((caX 39), 4, .inl (upd (upd (upd (upd (fun _ => 0) (0 : Int32).toNatClampNeg (vp_nar .boolean (0))) (1 : Int32).toNatClampNeg (vp_nar .boolean (0))) (2 : Int32).toNatClampNeg (vp_nar .boolean (0))) (3 : Int32).toNatClampNeg (vp_nar .boolean (0))))), ((adX 41), .inr (2, [.int 0, .ref (adX 42)])), ((adX 42), .inl ((caX 42), 10, .inl (fun _ => 0))), ((adX 43), .inr (5, [.ref (adX 2), .ref (adX 5), .ref (adX 44), .int 0, .int 0, .int 0, .ref (adX 45), .ref (adX 46), .ref (adX 47), .int 0, .int 0, .int 0, .int 0, .int 0, .ref (adX 48)])), ((adX 1), .inr (4, [.ref (adX 2), .ref (adX 5), .ref (adX 20)])), ((adX 44), .inl ((caX 44), 4, .inr (.inr (.inr (.inr (va_up (va_up (va_up (va_up (fun _ => none) (0 : Int32).toNatClampNeg (some (adX 49))) (1 : Int32).toNatClampNeg (some (adX 52))) (2 : Int32).toNatClampNeg (some (adX 55))) (3 : Int32).toNatClampNeg (some (adX 58)))))))), ((adX 45), .inl ((caX 45), 10, .inl (fun _ => 0))), ((adX 46), .inl ((caX 46), 10, .inl (fun _ => 0))), ((adX 47), .inl ((caX 47), 10, .inl (fun _ => 0))), ((adX 48), .inl ((caX 48), 1999, .inl (fun _ => 0))), ((adX 49), .inr (6, [.int 0, .ref (adX 50), .int 0, .int 0, .ref (adX 51)])), ((adX 50), .inl ((caX 50), 10, .inl (fun _ => 0))), ((adX 51), .inl ((caX 51), 100, .inl (fun _ => 0))), ((adX 52), .inr (6, [.int 0, .ref (adX 53), .int 0, .int 0, .ref (adX 54)])), ((adX 53), .inl ((caX 53), 10, .inl (fun _ => 0))), ((adX 54), .inl ((caX 54), 100, .inl (fun _ => 0))), ((adX 55), .inr (6, [.int 0, .ref (adX 56), .int 0, .int 0, .ref (adX 57)])), ((adX 56), .inl ((caX 56), 10, .inl (fun _ => 0))), ((adX 57), .inl ((caX 57), 100, .inl (fun _ => 0))), ((adX 58), .inr (6, [.int 0, .ref (adX 59), .int 0, .int 0, .ref (adX 60)])), ((adX 59), .inl ((caX 59), 10, .inl (fun _ => 0))), ((adX 60), .inl ((caX 60), 100, .inl (fun _ => 0))), ((adX 61), .inr (7, [.int 0, .ref (adX 62)])), ((adX 62), .inl ((caX 62), 120, .inl (fun _ => 0))), ((adX 63), .inr (3, [.int 0, .ref (adX 64), .ref (adX 65), .ref (adX 66), .ref (adX 67), .ref (adX 68), .ref (adX 69), .ref (adX 61), .int 0, .int 0])), ((adX 64), .inl ((caX 64), 60, .inl (fun _ => 0))), ((adX 65), .inl ((caX 65), 60, .inl (fun _ => 0))), ((adX 66), .inl ((caX 66), 60, .inl (fun _ => 0))), ((adX 67), .inl ((caX 67), 60, .inl (fun _ => 0))), ((adX 68), .inl ((caX 68), 60, .inl (fun _ => 0))), ((adX 69), .inl ((caX 69), 60, .inl (fun _ => 0))), ((adM 0), .inr (9, [.int 0, .ref (adM 1), .ref (adM 2), .int 0, .ref (adM 3), .ref (adM 4), .ref (adM 5), .ref (adM 6), .ref (adM 7), .ref (adM 8), .ref (adM 9), .ref (adM 10), .int 0, .ref (adM 11), .ref (adM 12), .ref (adM 13), .int 0, .ref (adM 14), .ref (adM 15), .ref (adM 16), .ref (adM 17), .ref (adM 18), .ref (adM 19), .ref (adM 20), .int 0, .int 0, .int 0, .int 0, .int 0, .int 0, .int 0, .ref (adM 21), .ref (adM 22), .ref (adM 23), .ref (adM 24), .ref (adM 25), .int 0, .int 0, .int 0, .int 0, .ref (adM 26), .int 0, .ref (adM 27), .int 0])), ((adM 1), .inl ((caM 1), 4, .inl (fun _ => 0))), ((adM 2), .inl ((caM 2), 4, .inl (fun _ => 0))), ((adM 3), .inl ((caM 3), 10, .inl (fun _ => 0))), ((adM 4), .inl ((caM 4), 10, .inl (fun _ => 0))), ((adM 5), .inl ((caM 5), 10, .inl (fun _ => 0))), ((adM 6), .inl ((caM 6), 10, .inl (fun _ => 0))), ((adM 7), .inl ((caM 7), 10, .inl (fun _ => 0))), ((adM 8), .inl ((caM 8), 10, .inl (fun _ => 0))), ((adM 9), .inl ((caM 9), 10, .inl (fun _ => 0))), ((adM 10), .inl ((caM 10), 10, .inl (fun _ => 0))), ((adM 11), .inl ((caM 11), 24, .inl (fun _ => 0))), ((adM 12), .inl ((caM 12), 24, .inl (fun _ => 0))), ((adM 13), .inl ((caM 13), 24, .inl (fun _ => 0))), ((adM 14), .inl ((caM 14), 10, .inl (fun _ => 0))), ((adM 15), .inl ((caM 15), 10, .inl (fun _ => 0))), ((adM 16), .inl ((caM 16), 4, .inl (fun _ => 0))), ((adM 17), .inl ((caM 17), 40, .inl (fun _ => 0))), ((adM 18), .inl ((caM 18), 4, .inl (fun _ => 0))), ((adM 19), .inl ((caM 19), 4, .inl (fun _ => 0))), ((adM 20), .inl ((caM 20), 400, .inl (fun _ => 0))), ((adM 21), .inl ((caM 21), 10, .inl (fun _ => 0))), ((adM 22), .inl ((caM 22), 10, .inl (fun _ => 0))), ((adM 23), .inl ((caM 23), 2200, .inl (fun _ => 0))), ((adM 24), .inl ((caM 24), 72, .inl (upd (upd (upd (upd (upd (upd (upd (upd (upd (upd (upd (upd (upd (upd (upd (upd (upd (upd (upd (upd (upd (upd (upd (upd (upd (upd (upd (upd (upd (upd (upd (upd (upd (upd (upd (upd (upd (upd (upd (upd (upd (upd (upd (upd (upd (upd (upd (upd (upd (upd (upd (upd (upd (upd (upd (upd (upd (upd (upd (upd (upd (upd (upd (upd (upd (upd (upd (upd (upd (upd (upd (upd (fun _ => 0) (0 : Int32).toNatClampNeg (vp_nar .char (114))) (1 : Int32).toNatClampNeg (vp_nar .char (101))) (2 : Int32).toNatClampNeg (vp_nar .char (97))) (3 : Int32).toNatClampNeg (vp_nar .char (100))) (4 : Int32).toNatClampNeg (vp_nar .char (32))) (5 : Int32).toNatClampNeg (vp_nar .char (119))) (6 : Int32).toNatClampNeg (vp_nar .char (114))) (7 : Int32).toNatClampNeg (vp_nar .char (105))) (8 : Int32).toNatClampNeg (vp_nar .char (116))) (9 : Int32).toNatClampNeg (vp_nar .char (101))) (10 : Int32).toNatClampNeg (vp_nar .char (32))) (11 : Int32).toNatClampNeg (vp_nar .char (99))) (12 : Int32).toNatClampNeg (vp_nar .char (111))) (13 : Int32).toNatClampNeg (vp_nar .char (109))) (14 : Int32).toNatClampNeg (vp_nar .char (112))) (15 : Int32).toNatClampNeg (vp_nar .char (97))) (16 : Int32).toNatClampNeg (vp_nar .char (114))) (17 : Int32).toNatClampNeg (vp_nar .char (101))) (18 : Int32).toNatClampNeg (vp_nar .char (65))) (19 : Int32).toNatClampNeg (vp_nar .char (110))) (20 : Int32).toNatClampNeg (vp_nar .char (100))) (21 : Int32).toNatClampNeg (vp_nar .char (83))) (22 : Int32).toNatClampNeg (vp_nar .char (101))) (23 : Int32).toNatClampNeg (vp_nar .char (116))) (24 : Int32).toNatClampNeg (vp_nar .char (32))) (25 : Int32).toNatClampNeg (vp_nar .char (103))) (26 : Int32).toNatClampNeg (vp_nar .char (101))) (27 : Int32).toNatClampNeg (vp_nar .char (116))) (28 : Int32).toNatClampNeg (vp_nar .char (32))) (29 : Int32).toNatClampNeg (vp_nar .char (97))) (30 : Int32).toNatClampNeg (vp_nar .char (100))) (31 : Int32).toNatClampNeg (vp_nar .char (100))) (32 : Int32).toNatClampNeg (vp_nar .char (32))) (33 : Int32).toNatClampNeg (vp_nar .char (101))) (34 : Int32).toNatClampNeg (vp_nar .char (110))) (35 : Int32).toNatClampNeg (vp_nar .char (113))) (36 : Int32).toNatClampNeg (vp_nar .char (117))) (37 : Int32).toNatClampNeg (vp_nar .char (101))) (38 : Int32).toNatClampNeg (vp_nar .char (117))) (39 : Int32).toNatClampNeg (vp_nar .char (101))) (40 : Int32).toNatClampNeg (vp_nar .char (32))) (41 : Int32).toNatClampNeg (vp_nar .char (100))) (42 : Int32).toNatClampNeg (vp_nar .char (101))) (43 : Int32).toNatClampNeg (vp_nar .char (113))) (44 : Int32).toNatClampNeg (vp_nar .char (117))) (45 : Int32).toNatClampNeg (vp_nar .char (101))) (46 : Int32).toNatClampNeg (vp_nar .char (117))) (47 : Int32).toNatClampNeg (vp_nar .char (101))) (48 : Int32).toNatClampNeg (vp_nar .char (32))) (49 : Int32).toNatClampNeg (vp_nar .char (105))) (50 : Int32).toNatClampNeg (vp_nar .char (110))) (51 : Int32).toNatClampNeg (vp_nar .char (115))) (52 : Int32).toNatClampNeg (vp_nar .char (101))) (53 : Int32).toNatClampNeg (vp_nar .char (114))) (54 : Int32).toNatClampNeg (vp_nar .char (116))) (55 : Int32).toNatClampNeg (vp_nar .char (32))) (56 : Int32).toNatClampNeg (vp_nar .char (114))) (57 : Int32).toNatClampNeg (vp_nar .char (101))) (58 : Int32).toNatClampNeg (vp_nar .char (109))) (59 : Int32).toNatClampNeg (vp_nar .char (111))) (60 : Int32).toNatClampNeg (vp_nar .char (118))) (61 : Int32).toNatClampNeg (vp_nar .char (101))) (62 : Int32).toNatClampNeg (vp_nar .char (32))) (63 : Int32).toNatClampNeg (vp_nar .char (99))) (64 : Int32).toNatClampNeg (vp_nar .char (111))) (65 : Int32).toNatClampNeg (vp_nar .char (110))) (66 : Int32).toNatClampNeg (vp_nar .char (116))) (67 : Int32).toNatClampNeg (vp_nar .char (97))) (68 : Int32).toNatClampNeg (vp_nar .char (105))) (69 : Int32).toNatClampNeg (vp_nar .char (110))) (70 : Int32).toNatClampNeg (vp_nar .char (115))) (71 : Int32).toNatClampNeg (vp_nar .char (32))))), ((adM 25), .inl ((caM 25), 120, .inl (fun _ => 0))), ((adM 26), .inl ((caM 26), 4, .inl (fun _ => 0))), ((adM 27), .inl ((caM 27), 174, .inl (fun _ => 0)))] H) : va_P (dC, dI) vwCl (ax_W LM adM caM st0M) H := by
  refine ax_all_P ?_
  unfold LM
  refine ax_allc (ax_ob (hP 70 _ rfl)) (k' := 1) rfl ?_
  refine ax_allc (hP 71 _ rfl) (k' := 2) rfl ?_
  refine ax_allc (hP 72 _ rfl) (k' := 3) rfl ?_
  refine ax_allc (hP 73 _ rfl) (k' := 4) rfl ?_
  refine ax_allc (hP 74 _ rfl) (k' := 5) rfl ?_
  refine ax_allc (hP 75 _ rfl) (k' := 6) rfl ?_
  refine ax_allc (hP 76 _ rfl) (k' := 7) rfl ?_
  refine ax_allc (hP 77 _ rfl) (k' := 8) rfl ?_
  refine ax_allc (hP 78 _ rfl) (k' := 9) rfl ?_
  refine ax_allc (hP 79 _ rfl) (k' := 10) rfl ?_
  refine ax_allc (hP 80 _ rfl) (k' := 11) rfl ?_
  refine ax_allc (hP 81 _ rfl) (k' := 12) rfl ?_
  refine ax_allc (hP 82 _ rfl) (k' := 13) rfl ?_
  refine ax_allc (hP 83 _ rfl) (k' := 14) rfl ?_
  refine ax_allc (hP 84 _ rfl) (k' := 15) rfl ?_
  refine ax_allc (hP 85 _ rfl) (k' := 16) rfl ?_
  refine ax_allc (hP 86 _ rfl) (k' := 17) rfl ?_
  refine ax_allc (hP 87 _ rfl) (k' := 18) rfl ?_
  refine ax_allc (hP 88 _ rfl) (k' := 19) rfl ?_
  refine ax_allc (hP 89 _ rfl) (k' := 20) rfl ?_
  refine ax_allc (hP 90 _ rfl) (k' := 21) rfl ?_
  refine ax_allc (hP 91 _ rfl) (k' := 22) rfl ?_
  refine ax_allc (hP 92 _ rfl) (k' := 23) rfl ?_
  refine ax_allc (hP 93 _ rfl) (k' := 24) rfl ?_
  refine ax_allc (hP 94 _ rfl) (k' := 25) rfl ?_
  refine ax_allc (hP 95 _ rfl) (k' := 26) rfl ?_
  refine ax_allc (hP 96 _ rfl) (k' := 27) rfl ?_
  refine ax_allc (hP 97 _ rfl) (k' := 28) rfl ?_
  exact trivial
set_option maxHeartbeats 8000000 in
set_option maxRecDepth 100000 in
theorem sM_K {dC : Nat → ClassId} {dI : Nat → Nat → Nat} {s : State} {H : Heap} {adX adM : Nat → Nat} {caX caM : Nat → ClassId} (hK : va_K (dC, dI) vwCl [((caX 3), .int), ((caX 4), .int), ((caX 6), .int), ((caX 7), .int), ((caX 8), .int), ((caX 9), .int), ((caX 10), .int), ((caX 11), .int), ((caX 12), .int), ((caX 13), .int), ((caX 14), .int), ((caX 15), .int), ((caX 16), .int), ((caX 19), .int), ((caX 17), .int), ((caX 18), .boolean), ((caX 21), .int), ((caX 24), .int), ((caX 25), .int), ((caX 27), .int), ((caX 28), .int), ((caX 29), .int), ((caX 30), .int), ((caX 31), .int), ((caX 32), .int), ((caX 33), .int), ((caX 34), .int), ((caX 35), .int), ((caX 36), .int), ((caX 37), .int), ((caX 40), .int), ((caX 38), .int), ((caX 39), .boolean), ((caX 42), .int), ((caX 44), .object "LinearizabilityChecker$SharedState"), ((caX 45), .int), ((caX 46), .int), ((caX 47), .int), ((caX 48), .boolean), ((caX 50), .int), ((caX 51), .boolean), ((caX 53), .int), ((caX 54), .boolean), ((caX 56), .int), ((caX 57), .boolean), ((caX 59), .int), ((caX 60), .boolean), ((caX 62), .char), ((caX 64), .int), ((caX 65), .int), ((caX 66), .int), ((caX 67), .int), ((caX 68), .int), ((caX 69), .int), ((caM 1), .int), ((caM 2), .int), ((caM 3), .int), ((caM 4), .int), ((caM 5), .int), ((caM 6), .int), ((caM 7), .int), ((caM 8), .int), ((caM 9), .int), ((caM 10), .int), ((caM 11), .int), ((caM 12), .int), ((caM 13), .int), ((caM 14), .int), ((caM 15), .int), ((caM 16), .int), ((caM 17), .int), ((caM 18), .int), ((caM 19), .int), ((caM 20), .boolean), ((caM 21), .int), ((caM 22), .int), ((caM 23), .boolean), ((caM 24), .char), ((caM 25), .int), ((caM 26), .int), ((caM 27), .int)] s) : ax_K (dC, dI) LM caM s := by
  refine ax_kal_K (hK.sub (tys' := []) [] rfl) ?_
  unfold LM
  refine ax_kalc trivial (k' := 1) rfl ?_
  refine ax_kalc (hK.2 54 _ rfl) (k' := 2) rfl ?_
  refine ax_kalc (hK.2 55 _ rfl) (k' := 3) rfl ?_
  refine ax_kalc (hK.2 56 _ rfl) (k' := 4) rfl ?_
  refine ax_kalc (hK.2 57 _ rfl) (k' := 5) rfl ?_
  refine ax_kalc (hK.2 58 _ rfl) (k' := 6) rfl ?_
  refine ax_kalc (hK.2 59 _ rfl) (k' := 7) rfl ?_
  refine ax_kalc (hK.2 60 _ rfl) (k' := 8) rfl ?_
  refine ax_kalc (hK.2 61 _ rfl) (k' := 9) rfl ?_
  refine ax_kalc (hK.2 62 _ rfl) (k' := 10) rfl ?_
  refine ax_kalc (hK.2 63 _ rfl) (k' := 11) rfl ?_
  refine ax_kalc (hK.2 64 _ rfl) (k' := 12) rfl ?_
  refine ax_kalc (hK.2 65 _ rfl) (k' := 13) rfl ?_
  refine ax_kalc (hK.2 66 _ rfl) (k' := 14) rfl ?_
  refine ax_kalc (hK.2 67 _ rfl) (k' := 15) rfl ?_
  refine ax_kalc (hK.2 68 _ rfl) (k' := 16) rfl ?_
  refine ax_kalc (hK.2 69 _ rfl) (k' := 17) rfl ?_
  refine ax_kalc (hK.2 70 _ rfl) (k' := 18) rfl ?_
  refine ax_kalc (hK.2 71 _ rfl) (k' := 19) rfl ?_
  refine ax_kalc (hK.2 72 _ rfl) (k' := 20) rfl ?_
  refine ax_kalc (hK.2 73 _ rfl) (k' := 21) rfl ?_
  refine ax_kalc (hK.2 74 _ rfl) (k' := 22) rfl ?_
  refine ax_kalc (hK.2 75 _ rfl) (k' := 23) rfl ?_
  refine ax_kalc (hK.2 76 _ rfl) (k' := 24) rfl ?_
  refine ax_kalc (hK.2 77 _ rfl) (k' := 25) rfl ?_
  refine ax_kalc (hK.2 78 _ rfl) (k' := 26) rfl ?_
  refine ax_kalc (hK.2 79 _ rfl) (k' := 27) rfl ?_
  refine ax_kalc (hK.2 80 _ rfl) (k' := 28) rfl ?_
  exact trivial
def pi_M : List Nat := [70, 71, 72, 73, 74, 75, 76, 77, 78, 79, 80, 81, 82, 83, 84, 85, 86, 87, 88, 89, 90, 91, 92, 93, 94, 95, 96, 97]
set_option maxHeartbeats 8000000 in
set_option maxRecDepth 100000 in
theorem sM_key {adX adM : Nat → Nat} {caX caM : Nat → ClassId} : ∀ i, i < 28 → ∃ e, ([((adX 0), .inr (8, [.ref (adX 1), .ref (adX 22), .ref (adX 43), .ref (adX 61), .ref (adX 63), .int (0)])), ((adX 2), .inr (1, [.int 0, .ref (adX 3), .ref (adX 4)])), ((adX 3), .inl ((caX 3), 4, .inl (fun _ => 0))), ((adX 4), .inl ((caX 4), 4, .inl (fun _ => 0))), ((adX 6), .inl ((caX 6), 24, .inl (fun _ => 0))), ((adX 7), .inl ((caX 7), 24, .inl (fun _ => 0))), ((adX 8), .inl ((caX 8), 24, .inl (fun _ => 0))), ((adX 9), .inl ((caX 9), 10, .inl (fun _ => 0))), ((adX 10), .inl ((caX 10), 10, .inl (fun _ => 0))), ((adX 11), .inl ((caX 11), 10, .inl (fun _ => 0))), ((adX 12), .inl ((caX 12), 10, .inl (fun _ => 0))), ((adX 13), .inl ((caX 13), 10, .inl (fun _ => 0))), ((adX 14), .inl ((caX 14), 10, .inl (fun _ => 0))), ((adX 15), .inl ((caX 15), 10, .inl (fun _ => 0))), ((adX 16), .inl ((caX 16), 10, .inl (fun _ => 0))), ((adX 19), .inl ((caX 19), 10, .inl (fun _ => 0))), ((adX 5), .inr (0, [.int (0), .ref (adX 6), .ref (adX 7), .ref (adX 8), .int (0), .ref (adX 9), .ref (adX 10), .ref (adX 11), .ref (adX 12), .ref (adX 13), .ref (adX 14), .ref (adX 15), .ref (adX 16), .ref (adX 17), .ref (adX 18), .ref (adX 19)])), ((adX 17), .inl ((caX 17), 4, .inl (upd (upd (upd (upd (fun _ => 0) (0 : Int32).toNatClampNeg (-1)) (1 : Int32).toNatClampNeg (-1)) (2 : Int32).toNatClampNeg (-1)) (3 : Int32).toNatClampNeg (-1)))), ((adX 18), .inl ((caX 18), 4, .inl (upd (upd (upd (upd (fun _ => 0) (0 : Int32).toNatClampNeg (vp_nar .boolean (0))) (1 : Int32).toNatClampNeg (vp_nar .boolean (0))) (2 : Int32).toNatClampNeg (vp_nar .boolean (0))) (3 : Int32).toNatClampNeg (vp_nar .boolean (0))))), ((adX 20), .inr (2, [.int 0, .ref (adX 21)])), ((adX 21), .inl ((caX 21), 10, .inl (fun _ => 0))), ((adX 22), .inr (4, [.ref (adX 23), .ref (adX 26), .ref (adX 41)])), ((adX 23), .inr (1, [.int 0, .ref (adX 24), .ref (adX 25)])), ((adX 24), .inl ((caX 24), 4, .inl (fun _ => 0))), ((adX 25), .inl ((caX 25), 4, .inl (fun _ => 0))), ((adX 27), .inl ((caX 27), 24, .inl (fun _ => 0))), ((adX 28), .inl ((caX 28), 24, .inl (fun _ => 0))), ((adX 29), .inl ((caX 29), 24, .inl (fun _ => 0))), ((adX 30), .inl ((caX 30), 10, .inl (fun _ => 0))), ((adX 31), .inl ((caX 31), 10, .inl (fun _ => 0))), ((adX 32), .inl ((caX 32), 10, .inl (fun _ => 0))), ((adX 33), .inl ((caX 33), 10, .inl (fun _ => 0))), ((adX 34), .inl ((caX 34), 10, .inl (fun _ => 0))), ((adX 35), .inl ((caX 35), 10, .inl (fun _ => 0))), ((adX 36), .inl ((caX 36), 10, .inl (fun _ => 0))), ((adX 37), .inl ((caX 37), 10, .inl (fun _ => 0))), ((adX 40), .inl ((caX 40), 10, .inl (fun _ => 0))), ((adX 26), .inr (0, [.int (0), .ref (adX 27), .ref (adX 28), .ref (adX 29), .int (0), .ref (adX 30), .ref (adX 31), .ref (adX 32), .ref (adX 33), .ref (adX 34), .ref (adX 35), .ref (adX 36), .ref (adX 37), .ref (adX 38), .ref (adX 39), .ref (adX 40)])), ((adX 38), .inl ((caX 38), 4, .inl (upd (upd (upd (upd (fun _ => 0) (0 : Int32).toNatClampNeg (-1)) (1 : Int32).toNatClampNeg (-1)) (2 : Int32).toNatClampNeg (-1)) (3 : Int32).toNatClampNeg (-1)))), ((adX 39), .inl ((caX 39), 4, .inl (upd (upd (upd (upd (fun _ => 0) (0 : Int32).toNatClampNeg (vp_nar .boolean (0))) (1 : Int32).toNatClampNeg (vp_nar .boolean (0))) (2 : Int32).toNatClampNeg (vp_nar .boolean (0))) (3 : Int32).toNatClampNeg (vp_nar .boolean (0))))), ((adX 41), .inr (2, [.int 0, .ref (adX 42)])), ((adX 42), .inl ((caX 42), 10, .inl (fun _ => 0))), ((adX 43), .inr (5, [.ref (adX 2), .ref (adX 5), .ref (adX 44), .int 0, .int 0, .int 0, .ref (adX 45), .ref (adX 46), .ref (adX 47), .int 0, .int 0, .int 0, .int 0, .int 0, .ref (adX 48)])), ((adX 1), .inr (4, [.ref (adX 2), .ref (adX 5), .ref (adX 20)])), ((adX 44), .inl ((caX 44), 4, .inr (.inr (.inr (.inr (va_up (va_up (va_up (va_up (fun _ => none) (0 : Int32).toNatClampNeg (some (adX 49))) (1 : Int32).toNatClampNeg (some (adX 52))) (2 : Int32).toNatClampNeg (some (adX 55))) (3 : Int32).toNatClampNeg (some (adX 58)))))))), ((adX 45), .inl ((caX 45), 10, .inl (fun _ => 0))), ((adX 46), .inl ((caX 46), 10, .inl (fun _ => 0))), ((adX 47), .inl ((caX 47), 10, .inl (fun _ => 0))), ((adX 48), .inl ((caX 48), 1999, .inl (fun _ => 0))), ((adX 49), .inr (6, [.int 0, .ref (adX 50), .int 0, .int 0, .ref (adX 51)])), ((adX 50), .inl ((caX 50), 10, .inl (fun _ => 0))), ((adX 51), .inl ((caX 51), 100, .inl (fun _ => 0))), ((adX 52), .inr (6, [.int 0, .ref (adX 53), .int 0, .int 0, .ref (adX 54)])), ((adX 53), .inl ((caX 53), 10, .inl (fun _ => 0))), ((adX 54), .inl ((caX 54), 100, .inl (fun _ => 0))), ((adX 55), .inr (6, [.int 0, .ref (adX 56), .int 0, .int 0, .ref (adX 57)])), ((adX 56), .inl ((caX 56), 10, .inl (fun _ => 0))), ((adX 57), .inl ((caX 57), 100, .inl (fun _ => 0))), ((adX 58), .inr (6, [.int 0, .ref (adX 59), .int 0, .int 0, .ref (adX 60)])), ((adX 59), .inl ((caX 59), 10, .inl (fun _ => 0))), ((adX 60), .inl ((caX 60), 100, .inl (fun _ => 0))), ((adX 61), .inr (7, [.int 0, .ref (adX 62)])), ((adX 62), .inl ((caX 62), 120, .inl (fun _ => 0))), ((adX 63), .inr (3, [.int 0, .ref (adX 64), .ref (adX 65), .ref (adX 66), .ref (adX 67), .ref (adX 68), .ref (adX 69), .ref (adX 61), .int 0, .int 0])), ((adX 64), .inl ((caX 64), 60, .inl (fun _ => 0))), ((adX 65), .inl ((caX 65), 60, .inl (fun _ => 0))), ((adX 66), .inl ((caX 66), 60, .inl (fun _ => 0))), ((adX 67), .inl ((caX 67), 60, .inl (fun _ => 0))), ((adX 68), .inl ((caX 68), 60, .inl (fun _ => 0))), ((adX 69), .inl ((caX 69), 60, .inl (fun _ => 0))), ((adM 0), .inr (9, [.int 0, .ref (adM 1), .ref (adM 2), .int 0, .ref (adM 3), .ref (adM 4), .ref (adM 5), .ref (adM 6), .ref (adM 7), .ref (adM 8), .ref (adM 9), .ref (adM 10), .int 0, .ref (adM 11), .ref (adM 12), .ref (adM 13), .int 0, .ref (adM 14), .ref (adM 15), .ref (adM 16), .ref (adM 17), .ref (adM 18), .ref (adM 19), .ref (adM 20), .int 0, .int 0, .int 0, .int 0, .int 0, .int 0, .int 0, .ref (adM 21), .ref (adM 22), .ref (adM 23), .ref (adM 24), .ref (adM 25), .int 0, .int 0, .int 0, .int 0, .ref (adM 26), .int 0, .ref (adM 27), .int 0])), ((adM 1), .inl ((caM 1), 4, .inl (fun _ => 0))), ((adM 2), .inl ((caM 2), 4, .inl (fun _ => 0))), ((adM 3), .inl ((caM 3), 10, .inl (fun _ => 0))), ((adM 4), .inl ((caM 4), 10, .inl (fun _ => 0))), ((adM 5), .inl ((caM 5), 10, .inl (fun _ => 0))), ((adM 6), .inl ((caM 6), 10, .inl (fun _ => 0))), ((adM 7), .inl ((caM 7), 10, .inl (fun _ => 0))), ((adM 8), .inl ((caM 8), 10, .inl (fun _ => 0))), ((adM 9), .inl ((caM 9), 10, .inl (fun _ => 0))), ((adM 10), .inl ((caM 10), 10, .inl (fun _ => 0))), ((adM 11), .inl ((caM 11), 24, .inl (fun _ => 0))), ((adM 12), .inl ((caM 12), 24, .inl (fun _ => 0))), ((adM 13), .inl ((caM 13), 24, .inl (fun _ => 0))), ((adM 14), .inl ((caM 14), 10, .inl (fun _ => 0))), ((adM 15), .inl ((caM 15), 10, .inl (fun _ => 0))), ((adM 16), .inl ((caM 16), 4, .inl (fun _ => 0))), ((adM 17), .inl ((caM 17), 40, .inl (fun _ => 0))), ((adM 18), .inl ((caM 18), 4, .inl (fun _ => 0))), ((adM 19), .inl ((caM 19), 4, .inl (fun _ => 0))), ((adM 20), .inl ((caM 20), 400, .inl (fun _ => 0))), ((adM 21), .inl ((caM 21), 10, .inl (fun _ => 0))), ((adM 22), .inl ((caM 22), 10, .inl (fun _ => 0))), ((adM 23), .inl ((caM 23), 2200, .inl (fun _ => 0))), ((adM 24), .inl ((caM 24), 72, .inl (upd (upd (upd (upd (upd (upd (upd (upd (upd (upd (upd (upd (upd (upd (upd (upd (upd (upd (upd (upd (upd (upd (upd (upd (upd (upd (upd (upd (upd (upd (upd (upd (upd (upd (upd (upd (upd (upd (upd (upd (upd (upd (upd (upd (upd (upd (upd (upd (upd (upd (upd (upd (upd (upd (upd (upd (upd (upd (upd (upd (upd (upd (upd (upd (upd (upd (upd (upd (upd (upd (upd (upd (fun _ => 0) (0 : Int32).toNatClampNeg (vp_nar .char (114))) (1 : Int32).toNatClampNeg (vp_nar .char (101))) (2 : Int32).toNatClampNeg (vp_nar .char (97))) (3 : Int32).toNatClampNeg (vp_nar .char (100))) (4 : Int32).toNatClampNeg (vp_nar .char (32))) (5 : Int32).toNatClampNeg (vp_nar .char (119))) (6 : Int32).toNatClampNeg (vp_nar .char (114))) (7 : Int32).toNatClampNeg (vp_nar .char (105))) (8 : Int32).toNatClampNeg (vp_nar .char (116))) (9 : Int32).toNatClampNeg (vp_nar .char (101))) (10 : Int32).toNatClampNeg (vp_nar .char (32))) (11 : Int32).toNatClampNeg (vp_nar .char (99))) (12 : Int32).toNatClampNeg (vp_nar .char (111))) (13 : Int32).toNatClampNeg (vp_nar .char (109))) (14 : Int32).toNatClampNeg (vp_nar .char (112))) (15 : Int32).toNatClampNeg (vp_nar .char (97))) (16 : Int32).toNatClampNeg (vp_nar .char (114))) (17 : Int32).toNatClampNeg (vp_nar .char (101))) (18 : Int32).toNatClampNeg (vp_nar .char (65))) (19 : Int32).toNatClampNeg (vp_nar .char (110))) (20 : Int32).toNatClampNeg (vp_nar .char (100))) (21 : Int32).toNatClampNeg (vp_nar .char (83))) (22 : Int32).toNatClampNeg (vp_nar .char (101))) (23 : Int32).toNatClampNeg (vp_nar .char (116))) (24 : Int32).toNatClampNeg (vp_nar .char (32))) (25 : Int32).toNatClampNeg (vp_nar .char (103))) (26 : Int32).toNatClampNeg (vp_nar .char (101))) (27 : Int32).toNatClampNeg (vp_nar .char (116))) (28 : Int32).toNatClampNeg (vp_nar .char (32))) (29 : Int32).toNatClampNeg (vp_nar .char (97))) (30 : Int32).toNatClampNeg (vp_nar .char (100))) (31 : Int32).toNatClampNeg (vp_nar .char (100))) (32 : Int32).toNatClampNeg (vp_nar .char (32))) (33 : Int32).toNatClampNeg (vp_nar .char (101))) (34 : Int32).toNatClampNeg (vp_nar .char (110))) (35 : Int32).toNatClampNeg (vp_nar .char (113))) (36 : Int32).toNatClampNeg (vp_nar .char (117))) (37 : Int32).toNatClampNeg (vp_nar .char (101))) (38 : Int32).toNatClampNeg (vp_nar .char (117))) (39 : Int32).toNatClampNeg (vp_nar .char (101))) (40 : Int32).toNatClampNeg (vp_nar .char (32))) (41 : Int32).toNatClampNeg (vp_nar .char (100))) (42 : Int32).toNatClampNeg (vp_nar .char (101))) (43 : Int32).toNatClampNeg (vp_nar .char (113))) (44 : Int32).toNatClampNeg (vp_nar .char (117))) (45 : Int32).toNatClampNeg (vp_nar .char (101))) (46 : Int32).toNatClampNeg (vp_nar .char (117))) (47 : Int32).toNatClampNeg (vp_nar .char (101))) (48 : Int32).toNatClampNeg (vp_nar .char (32))) (49 : Int32).toNatClampNeg (vp_nar .char (105))) (50 : Int32).toNatClampNeg (vp_nar .char (110))) (51 : Int32).toNatClampNeg (vp_nar .char (115))) (52 : Int32).toNatClampNeg (vp_nar .char (101))) (53 : Int32).toNatClampNeg (vp_nar .char (114))) (54 : Int32).toNatClampNeg (vp_nar .char (116))) (55 : Int32).toNatClampNeg (vp_nar .char (32))) (56 : Int32).toNatClampNeg (vp_nar .char (114))) (57 : Int32).toNatClampNeg (vp_nar .char (101))) (58 : Int32).toNatClampNeg (vp_nar .char (109))) (59 : Int32).toNatClampNeg (vp_nar .char (111))) (60 : Int32).toNatClampNeg (vp_nar .char (118))) (61 : Int32).toNatClampNeg (vp_nar .char (101))) (62 : Int32).toNatClampNeg (vp_nar .char (32))) (63 : Int32).toNatClampNeg (vp_nar .char (99))) (64 : Int32).toNatClampNeg (vp_nar .char (111))) (65 : Int32).toNatClampNeg (vp_nar .char (110))) (66 : Int32).toNatClampNeg (vp_nar .char (116))) (67 : Int32).toNatClampNeg (vp_nar .char (97))) (68 : Int32).toNatClampNeg (vp_nar .char (105))) (69 : Int32).toNatClampNeg (vp_nar .char (110))) (70 : Int32).toNatClampNeg (vp_nar .char (115))) (71 : Int32).toNatClampNeg (vp_nar .char (32))))), ((adM 25), .inl ((caM 25), 120, .inl (fun _ => 0))), ((adM 26), .inl ((caM 26), 4, .inl (fun _ => 0))), ((adM 27), .inl ((caM 27), 174, .inl (fun _ => 0)))] : va_W)[pi_M.getD i 0]? = some (adM i, e) := by
  refine fun i hi => ax_kys_0 ?_ i (show i < pi_M.length from hi)
  unfold pi_M
  refine ax_kysc ⟨_, rfl⟩ (k' := 1) rfl ?_
  refine ax_kysc ⟨_, rfl⟩ (k' := 2) rfl ?_
  refine ax_kysc ⟨_, rfl⟩ (k' := 3) rfl ?_
  refine ax_kysc ⟨_, rfl⟩ (k' := 4) rfl ?_
  refine ax_kysc ⟨_, rfl⟩ (k' := 5) rfl ?_
  refine ax_kysc ⟨_, rfl⟩ (k' := 6) rfl ?_
  refine ax_kysc ⟨_, rfl⟩ (k' := 7) rfl ?_
  refine ax_kysc ⟨_, rfl⟩ (k' := 8) rfl ?_
  refine ax_kysc ⟨_, rfl⟩ (k' := 9) rfl ?_
  refine ax_kysc ⟨_, rfl⟩ (k' := 10) rfl ?_
  refine ax_kysc ⟨_, rfl⟩ (k' := 11) rfl ?_
  refine ax_kysc ⟨_, rfl⟩ (k' := 12) rfl ?_
  refine ax_kysc ⟨_, rfl⟩ (k' := 13) rfl ?_
  refine ax_kysc ⟨_, rfl⟩ (k' := 14) rfl ?_
  refine ax_kysc ⟨_, rfl⟩ (k' := 15) rfl ?_
  refine ax_kysc ⟨_, rfl⟩ (k' := 16) rfl ?_
  refine ax_kysc ⟨_, rfl⟩ (k' := 17) rfl ?_
  refine ax_kysc ⟨_, rfl⟩ (k' := 18) rfl ?_
  refine ax_kysc ⟨_, rfl⟩ (k' := 19) rfl ?_
  refine ax_kysc ⟨_, rfl⟩ (k' := 20) rfl ?_
  refine ax_kysc ⟨_, rfl⟩ (k' := 21) rfl ?_
  refine ax_kysc ⟨_, rfl⟩ (k' := 22) rfl ?_
  refine ax_kysc ⟨_, rfl⟩ (k' := 23) rfl ?_
  refine ax_kysc ⟨_, rfl⟩ (k' := 24) rfl ?_
  refine ax_kysc ⟨_, rfl⟩ (k' := 25) rfl ?_
  refine ax_kysc ⟨_, rfl⟩ (k' := 26) rfl ?_
  refine ax_kysc ⟨_, rfl⟩ (k' := 27) rfl ?_
  refine ax_kysc ⟨_, rfl⟩ (k' := 28) rfl ?_
  exact trivial
set_option maxRecDepth 100000 in
theorem sM_ad (a0 a1 a2 a3 a4 a5 a6 a7 a8 a9 a10 a11 a12 a13 a14 a15 a16 a17 a18 a19 a20 a21 a22 a23 a24 a25 a26 a27 : Nat) (adK adV : Nat → Nat) : ∃ ad : Nat → Nat, (ad 0 = a0 ∧ ad 1 = a1 ∧ ad 2 = a2 ∧ ad 3 = a3 ∧ ad 4 = a4 ∧ ad 5 = a5 ∧ ad 6 = a6 ∧ ad 7 = a7 ∧ ad 8 = a8 ∧ ad 9 = a9 ∧ ad 10 = a10 ∧ ad 11 = a11 ∧ ad 12 = a12 ∧ ad 13 = a13 ∧ ad 14 = a14 ∧ ad 15 = a15 ∧ ad 16 = a16 ∧ ad 17 = a17 ∧ ad 18 = a18 ∧ ad 19 = a19 ∧ ad 20 = a20 ∧ ad 21 = a21 ∧ ad 22 = a22 ∧ ad 23 = a23 ∧ ad 24 = a24 ∧ ad 25 = a25 ∧ ad 26 = a26 ∧ ad 27 = a27) ∧ ∀ i, i < 10 → ad (1000 + i) = adK i ∧ ad (2000 + i) = adV i := by
  refine ⟨fun k => if k < 28 then ([a0, a1, a2, a3, a4, a5, a6, a7, a8, a9, a10, a11, a12, a13, a14, a15, a16, a17, a18, a19, a20, a21, a22, a23, a24, a25, a26, a27] : List Nat).getD k 0 else if k < 2000 then adK (k - 1000) else adV (k - 2000), ⟨rfl, rfl, rfl, rfl, rfl, rfl, rfl, rfl, rfl, rfl, rfl, rfl, rfl, rfl, rfl, rfl, rfl, rfl, rfl, rfl, rfl, rfl, rfl, rfl, rfl, rfl, rfl, rfl⟩, fun i hi => ⟨?_, ?_⟩⟩
  · show (if 1000 + i < 28 then _ else if 1000 + i < 2000 then adK (1000 + i - 1000) else _) = _
    rw [if_neg (by omega), if_pos (by omega), Nat.add_sub_cancel_left]
  · show (if 2000 + i < 28 then _ else if 2000 + i < 2000 then _ else adV (2000 + i - 2000)) = _
    rw [if_neg (by omega), if_neg (by omega), Nat.add_sub_cancel_left]
set_option maxRecDepth 100000 in
theorem sM_ca (c1 c2 c3 c4 c5 c6 c7 c8 c9 c10 c11 c12 c13 c14 c15 c16 c17 c18 c19 c20 c21 c22 c23 c24 c25 c26 c27 : ClassId) : ∃ ca : Nat → ClassId, ca 1 = c1 ∧ ca 2 = c2 ∧ ca 3 = c3 ∧ ca 4 = c4 ∧ ca 5 = c5 ∧ ca 6 = c6 ∧ ca 7 = c7 ∧ ca 8 = c8 ∧ ca 9 = c9 ∧ ca 10 = c10 ∧ ca 11 = c11 ∧ ca 12 = c12 ∧ ca 13 = c13 ∧ ca 14 = c14 ∧ ca 15 = c15 ∧ ca 16 = c16 ∧ ca 17 = c17 ∧ ca 18 = c18 ∧ ca 19 = c19 ∧ ca 20 = c20 ∧ ca 21 = c21 ∧ ca 22 = c22 ∧ ca 23 = c23 ∧ ca 24 = c24 ∧ ca 25 = c25 ∧ ca 26 = c26 ∧ ca 27 = c27 := ⟨fun k => ([c1, c1, c2, c3, c4, c5, c6, c7, c8, c9, c10, c11, c12, c13, c14, c15, c16, c17, c18, c19, c20, c21, c22, c23, c24, c25, c26, c27] : List ClassId).getD k c1, rfl, rfl, rfl, rfl, rfl, rfl, rfl, rfl, rfl, rfl, rfl, rfl, rfl, rfl, rfl, rfl, rfl, rfl, rfl, rfl, rfl, rfl, rfl, rfl, rfl, rfl, rfl⟩
theorem pi_Xi : ∀ i, i < 70 → ∀ j, j < 70 → pi_X.getD i 0 = pi_X.getD j 0 → i = j := by decide +kernel
theorem pi_Mi : ∀ i, i < 28 → ∀ j, j < 28 → pi_M.getD i 0 = pi_M.getD j 0 → i = j := by decide +kernel
theorem pi_XM : ∀ i, i < 70 → ∀ j, j < 28 → pi_X.getD i 0 ≠ pi_M.getD j 0 := by decide +kernel
theorem pi_in {ws : va_W} {A : Nat → Prop} {pi : List Nat} {n : Nat} {ad : Nat → Nat} (hD : va_D A ws) (key : ∀ i, i < n → ∃ e, ws[pi.getD i 0]? = some (ad i, e)) (hi : ∀ i, i < n → ∀ j, j < n → pi.getD i 0 = pi.getD j 0 → i = j) : ∀ i j, i < n → j < n → ad i = ad j → i = j := by
  intro i j h1 h2 h
  obtain ⟨e1, g1⟩ := key i h1
  obtain ⟨e2, g2⟩ := key j h2
  exact hi i h1 j h2 (hD.1 _ _ _ _ g1 g2 h)
