/-! the JDK's String: length and charAt of the ten texts -/
theorem ax_lens : ∀ j, j < 10 → ax_len.getD j 0 = (ax_byt.getD j []).length ∧ ax_len.getD j 0 < 20 := by decide +kernel
theorem ax_chars : ∀ j, j < 10 → ∀ i, i < ax_len.getD j 0 → (0 : Int32) ≤ (ax_byt.getD j []).getD i 0 ∧ ax_c16 ((ax_byt.getD j []).getD i 0 &&& 255) = (ax_byt.getD j []).getD i 0 ∧ narrow .char (.int ((ax_byt.getD j []).getD i 0)) = .int ((ax_byt.getD j []).getD i 0) := by decide +kernel
def fJ_length (j : Int32) (st : ax_S) : ax_R := if j.toNatClampNeg < 10 then some (Int32.ofNat (ax_len.getD j.toNatClampNeg 0), st) else none
def fJ_charAt (j i : Int32) (st : ax_S) : ax_R := if j.toNatClampNeg < 10 ∧ 0 ≤ i ∧ i.toNatClampNeg < ax_len.getD j.toNatClampNeg 0 then some ((ax_byt.getD j.toNatClampNeg []).getD i.toNatClampNeg 0, st) else none
section AXT
variable {C : ax_C} {X : ax_X} {L : ax_L} {nL rk : Nat} {res : ax_R} {pc : Nat} {lv : List (Option ax_V)} {stk : List ax_V} {st : ax_S} {cc : ByteArray} {own : String} {rt : Option FieldType} {d : Nat}
theorem ax_sval (hC : ax_ok C X L cc own nL rt d) {idx j : Nat} (hj : j < 10) (hk : Cond.fieldLink own idx "java/lang/String" "value" "[B" ∈ wsL_law) (hd : decode cc pc = .ok (.getfield idx, 3)) (kk : AW C X L nL rk res (pc + 3) lv (.inr (2000 + j) :: stk) st) : AW C X L nL rk res pc lv (.inr (1000 + j) :: stk) st := by
  obtain ⟨p, l, e, R, s, m, args, below, meth, c⟩ := C
  obtain ⟨D, ad, ca, A⟩ := X
  obtain ⟨hx, hb, hml, hown, hts, hK, hij, hA, hR, hr, hlk, hstr⟩ := hC
  intro r st' hres H locs ls hP hS hl
  exact vk_getf hx hb (hstr.1.1 j hj).2.2.1 hS hown (hts _ hk) (fun _ h => h) hd (kk r st' hres H locs ls hP hS hl)
theorem ax_scod (hC : ax_ok C X L cc own nL rt d) {idx j : Nat} (hj : j < 10) (hk : Cond.fieldLink own idx "java/lang/String" "coder" "B" ∈ wsL_law) (hd : decode cc pc = .ok (.getfield idx, 3)) (kk : AW C X L nL rk res (pc + 3) lv (.inl 0 :: stk) st) : AW C X L nL rk res pc lv (.inr (1000 + j) :: stk) st := by
  obtain ⟨p, l, e, R, s, m, args, below, meth, c⟩ := C
  obtain ⟨D, ad, ca, A⟩ := X
  obtain ⟨hx, hb, hml, hown, hts, hK, hij, hA, hR, hr, hlk, hstr⟩ := hC
  intro r st' hres H locs ls hP hS hl
  exact vk_getf hx hb (hstr.1.1 j hj).2.1 hS hown (hts _ hk) (fun _ h => h) hd (kk r st' hres H locs ls hP hS hl)
theorem ax_scomp (hC : ax_ok C X L cc own nL rt d) {idx : Nat} (hk : Cond.fieldLink own idx "java/lang/String" "COMPACT_STRINGS" "Z" ∈ wsL_law) (hd : decode cc pc = .ok (.getstatic idx, 3)) (kk : AW C X L nL rk res (pc + 3) lv (.inl 1 :: stk) st) : AW C X L nL rk res pc lv stk st := by
  obtain ⟨p, l, e, R, s, m, args, below, meth, c⟩ := C
  obtain ⟨D, ad, ca, A⟩ := X
  obtain ⟨hx, hb, hml, hown, hts, hK, hij, hA, hR, hr, hlk, hstr⟩ := hC
  intro r st' hres H locs ls hP hS hl
  exact va_gets hx hb hstr.2.2.1 hS hown (hts _ hk) (fun _ h => h) hd (kk r st' hres H locs ls hP hS hl)
theorem ax_slen (hC : ax_ok C X L cc own nL rt d) {j : Nat} (hj : j < 10) (hd : decode cc pc = .ok (.arraylength, 1)) (kk : AW C X L nL rk res (pc + 1) lv (.inl (Int32.ofNat (ax_len.getD j 0)) :: stk) st) : AW C X L nL rk res pc lv (.inr (2000 + j) :: stk) st := by
  obtain ⟨p, l, e, R, s, m, args, below, meth, c⟩ := C
  obtain ⟨D, ad, ca, A⟩ := X
  obtain ⟨hx, hb, hml, hown, hts, hK, hij, hA, hR, hr, hlk, hstr⟩ := hC
  intro r st' hres H locs ls hP hS hl
  exact va_tlen hx hb (hstr.1.1 j hj).2.2.2 hS rfl hd (kk r st' hres H locs ls hP hS hl)
theorem ax_sbyte (hC : ax_ok C X L cc own nL rt d) {j : Nat} {i : Int32} (hj : j < 10) (hi : 0 ≤ i ∧ i.toNatClampNeg < ax_len.getD j 0) (hd : decode cc pc = .ok (.baload, 1)) (kk : AW C X L nL rk res (pc + 1) lv (.inl ((ax_byt.getD j []).getD i.toNatClampNeg 0) :: stk) st) : AW C X L nL rk res pc lv (.inl i :: .inr (2000 + j) :: stk) st := by
  obtain ⟨p, l, e, R, s, m, args, below, meth, c⟩ := C
  obtain ⟨D, ad, ca, A⟩ := X
  obtain ⟨hx, hb, hml, hown, hts, hK, hij, hA, hR, hr, hlk, hstr⟩ := hC
  intro r st' hres H locs ls hP hS hl
  exact va_tb hx hb (hstr.1.1 j hj).2.2.2 hS (ax_vin hi) rfl hd (kk r st' hres H locs ls hP hS hl)
/-- an end with an answer that its type bears -/
theorem ax_nret {ty : FieldType} (hC : ax_ok C X L cc own nL (some ty) d) {x : Int32} (hn : narrow ty (.int x) = .int x) (hd : decode cc pc = .ok (.ireturn, 1)) : AW C X L nL 1 (some (x, st)) pc lv [.inl x] st := by
  obtain ⟨p, l, e, R, s, m, args, below, meth, c⟩ := C
  obtain ⟨D, ad, ca, A⟩ := X
  obtain ⟨hx, hb, hml, hown, hts, hK, hij, hA, hR, hr, hlk, hstr⟩ := hC
  intro r st' hres H locs ls hP hS hl
  cases hres
  exact W.zret (v := x) hx hb hr hn (fun t ht hW => ⟨rfl, by rw [ht]; exact hP, hS.F ht⟩) hS.2.2 hd hlk
/-- a call of a String's own method -/
theorem ax_callJ {idx nLy n dy : Nat} {j : Int32} {y : MethodName} {cy : ByteArray} {rty : Option FieldType} {stk0 : List ax_V} {f : ax_R} {g : Int32 → ax_S → ax_R} (hC : ax_ok C X L cc own nL rt d) (hk : ax_mlk own idx y cy nLy rty n) (hs : Cond.instanceMethod y ∈ wsL_law ∧ Cond.selects y.cls y y ∈ wsL_law) (As : List ax_V) (hst : stk0 = As.reverse ++ .inr (1000 + j.toNatClampNeg) :: stk) (hn : As.length = n) (hd2 : dy + 1 ≤ d) (hnl : nLy ≤ 21) (hl8 : stk.length ≤ 8) (hd : decode cc pc = .ok (.invokevirtual idx, 3))
    (hM : ∀ r st1, f = some (r, st1) → (j.toNatClampNeg < 10 ∧ y.cls = "java/lang/String") ∧ ax_M L y cy nLy rty dy (.inr (1000 + j.toNatClampNeg) :: As) st 1 r st1) (kk : ∀ r st1, AW C X L nL rk (g r st1) (pc + 3) lv (.inl r :: stk) st1) : AW C X L nL rk (ax_bind f g) pc lv stk0 st := by
  subst hst
  cases f with
  | none => exact ax_none rfl
  | some q =>
    obtain ⟨r1, st1⟩ := q
    obtain ⟨⟨hj, hyc⟩, hMM⟩ := hM r1 st1 rfl
    obtain ⟨p, l, e, R, s, m, args, below, meth, c⟩ := C
    obtain ⟨D, ad, ca, A⟩ := X
    have hC0 := hC
    obtain ⟨hx, hb, hml, hown, hts, hK, hij, hA, hR, hr, hlk, hstr⟩ := hC
    obtain ⟨hs1, hs2⟩ := hs
    intro r st' hres H locs ls hP hS hl
    subst hR
    have hrec := vk_recv hstr.1 hj hS
    rw [← hyc] at hrec
    refine ax_after (r1 := r1) (st1 := st1) (rky := 1) hA hS (va_runV (C := y.cls) (b := ad (1000 + j.toNatClampNeg)) (As := As.map (ax_val ad)) ⟨hx, hb, hml, hown, hts⟩ (hMM l D ad ca H.size) ⟨ax_pay hts hk hd2 hnl, hts _ hs1, hts _ hs2⟩ ⟨ax_blind, hrec, fun U hU hW => ax_callee hC0 hP hS (.inr (1000 + j.toNatClampNeg) :: As) U hU hW⟩ rfl (by rw [List.length_map]; exact hn) hl.1 (by show (As.reverse ++ .inr (1000 + j.toNatClampNeg) :: stk).map (ax_val ad) = _; rw [List.map_append, List.map_reverse]; rfl) (lv_room (by rw [ax_cats]; exact hl8)) hd ⟨Nat.le_refl 0, Nat.le_refl 0⟩) (fun H1 locs1 hP1 hS1 => kk r1 st1 r st' hres H1 locs1 ls hP1 hS1 hl)
end AXT
theorem mlk_J0_335 : ax_mlk RJ0 335 yJ0_coder_7d493 cJ0_coder_7d493 1 (some .byte) 0 := ⟨wsub_wsL_law_r40 _ (List.mem_of_getElem? (i := 17) rfl), wsub_wsL_law_r40 _ (List.mem_of_getElem? (i := 14) rfl), wsub_wsL_law_r40 _ (List.mem_of_getElem? (i := 20) rfl), by decide +kernel⟩
theorem hst_J0_335 : Cond.instanceMethod yJ0_coder_7d493 ∈ wsL_law ∧ Cond.selects yJ0_coder_7d493.cls yJ0_coder_7d493 yJ0_coder_7d493 ∈ wsL_law := ⟨wsub_wsL_law_r40 _ (List.mem_of_getElem? (i := 18) rfl), wsub_wsL_law_r40 _ (List.mem_of_getElem? (i := 19) rfl)⟩
theorem mlk_J0_492 : ax_mlk RJ0 492 yJ0_isLatin1_aae02 cJ0_isLatin1_aae02 1 (some .boolean) 0 := ⟨wsub_wsL_law_r41 _ (List.mem_of_getElem? (i := 3) rfl), wsub_wsL_law_r40 _ (List.mem_of_getElem? (i := 14) rfl), wsub_wsL_law_r41 _ (List.mem_of_getElem? (i := 6) rfl), by decide +kernel⟩
theorem hst_J0_492 : Cond.instanceMethod yJ0_isLatin1_aae02 ∈ wsL_law ∧ Cond.selects yJ0_isLatin1_aae02.cls yJ0_isLatin1_aae02 yJ0_isLatin1_aae02 ∈ wsL_law := ⟨wsub_wsL_law_r41 _ (List.mem_of_getElem? (i := 4) rfl), wsub_wsL_law_r41 _ (List.mem_of_getElem? (i := 5) rfl)⟩
theorem mlk_J0_495 : ax_mlk RJ0 495 yJ1_charAt_3b067 cJ1_charAt_3b067 2 (some .char) 2 := ⟨wsub_wsL_law_r41 _ (List.mem_of_getElem? (i := 7) rfl), wsub_wsL_law_r41 _ (List.mem_of_getElem? (i := 9) rfl), wsub_wsL_law_r41 _ (List.mem_of_getElem? (i := 10) rfl), by decide +kernel⟩
theorem hst_J0_495 : Cond.static yJ1_charAt_3b067 ∈ wsL_law := wsub_wsL_law_r41 _ (List.mem_of_getElem? (i := 8) rfl)
theorem mlk_J1_9 : ax_mlk RJ1 9 yJ0_checkIndex_df160 cJ0_checkIndex_df160 2 none 2 := ⟨wsub_wsL_law_r41 _ (List.mem_of_getElem? (i := 11) rfl), wsub_wsL_law_r40 _ (List.mem_of_getElem? (i := 14) rfl), wsub_wsL_law_r41 _ (List.mem_of_getElem? (i := 13) rfl), by decide +kernel⟩
theorem hst_J1_9 : Cond.static yJ0_checkIndex_df160 ∈ wsL_law := wsub_wsL_law_r41 _ (List.mem_of_getElem? (i := 12) rfl)
theorem mlk_J0_1059 : ax_mlk RJ0 1059 yJ3_checkIndex_8e157 cJ3_checkIndex_8e157 3 (some .int) 3 := ⟨wsub_wsL_law_r41 _ (List.mem_of_getElem? (i := 15) rfl), wsub_wsL_law_r41 _ (List.mem_of_getElem? (i := 17) rfl), wsub_wsL_law_r41 _ (List.mem_of_getElem? (i := 18) rfl), by decide +kernel⟩
theorem hst_J0_1059 : Cond.static yJ3_checkIndex_8e157 ∈ wsL_law := wsub_wsL_law_r41 _ (List.mem_of_getElem? (i := 16) rfl)
theorem fw_J0_9 : Cond.fieldLink RJ0 9 "java/lang/String" "value" "[B" ∈ wsL_law := wsub_wsL_law_r40 _ (List.mem_of_getElem? (i := 16) rfl)
theorem fw_J0_15 : Cond.fieldLink RJ0 15 "java/lang/String" "coder" "B" ∈ wsL_law := wsub_wsL_law_r40 _ (List.mem_of_getElem? (i := 22) rfl)
theorem fw_J0_38 : Cond.fieldLink RJ0 38 "java/lang/String" "COMPACT_STRINGS" "Z" ∈ wsL_law := wsub_wsL_law_r40 _ (List.mem_of_getElem? (i := 21) rfl)
theorem fw_J0_1053 : Cond.fieldLink RJ0 1053 "jdk/internal/util/Preconditions" "SIOOBE_FORMATTER" "Ljava/util/function/BiFunction;" ∈ wsL_law := wsub_wsL_law_r41 _ (List.mem_of_getElem? (i := 14) rfl)
theorem kJ_coder (j : Nat) (hj : j < 10) (L : ax_L) (st : ax_S) : ax_M L yJ0_coder_7d493 cJ0_coder_7d493 1 (some .byte) 1 [.inr (1000 + j)] st 1 0 st := by
  refine ax_start (by decide) (Nat.le_of_ble_eq_true rfl) (lv0 := [some (.inr (1000 + j))]) rfl (fun C X hC => ?_)
  refine ax_scomp hC fw_J0_38 dJ0_coder_7d493_0 ?_
  rw [show (some ((0 : Int32), st) : ax_R) = if (1 : Int32) = 0 then none else some (0, st) from rfl]
  refine ax_if_eq hC dJ0_coder_7d493_3 (tgt := 13) (by decide) (fun h => absurd h (by decide)) (fun _ => ?_)
  refine ax_aloadn hC dJ0_coder_7d493_6 rfl rfl ?_
  refine ax_scod hC hj fw_J0_15 dJ0_coder_7d493_7 ?_
  refine ax_goto hC dJ0_coder_7d493_10 (tgt := 14) (by decide) ?_
  exact ax_nret hC (by decide +kernel) dJ0_coder_7d493_14
theorem kJ_latin (j : Nat) (hj : j < 10) (L : ax_L) (st : ax_S) : ax_M L yJ0_isLatin1_aae02 cJ0_isLatin1_aae02 1 (some .boolean) 1 [.inr (1000 + j)] st 1 1 st := by
  refine ax_start (by decide) (Nat.le_of_ble_eq_true rfl) (lv0 := [some (.inr (1000 + j))]) rfl (fun C X hC => ?_)
  refine ax_scomp hC fw_J0_38 dJ0_isLatin1_aae02_0 ?_
  rw [show (some ((1 : Int32), st) : ax_R) = if (1 : Int32) = 0 then none else (if (0 : Int32) = 0 then some (1, st) else none) from rfl]
  refine ax_if_eq hC dJ0_isLatin1_aae02_3 (tgt := 17) (by decide) (fun h => absurd h (by decide)) (fun _ => ?_)
  refine ax_aloadn hC dJ0_isLatin1_aae02_6 rfl rfl ?_
  refine ax_scod hC hj fw_J0_15 dJ0_isLatin1_aae02_7 ?_
  refine ax_if_ne hC dJ0_isLatin1_aae02_10 (tgt := 17) (by decide) (fun _ => ?_) (fun h => absurd rfl h)
  refine ax_iconst hC dJ0_isLatin1_aae02_13 (v := 1) (by decide) ?_
  refine ax_goto hC dJ0_isLatin1_aae02_14 (tgt := 18) (by decide) ?_
  exact ax_nret hC (by decide +kernel) dJ0_isLatin1_aae02_18
theorem ax_shr0 (n : Nat) (h : n < 20) : (Int32.ofNat n) >>> ((0 : Int32) &&& 31) = Int32.ofNat n := by
  have : ∀ n, n < 20 → (Int32.ofNat n) >>> ((0 : Int32) &&& 31) = Int32.ofNat n := by decide +kernel
  exact this n h
theorem kJ_length (j : Int32) (st : ax_S) (r : Int32) (st1 : ax_S) (h : fJ_length j st = some (r, st1)) : (j.toNatClampNeg < 10 ∧ yJ0_length_8abf5.cls = "java/lang/String") ∧ ax_M LX yJ0_length_8abf5 cJ0_length_8abf5 1 (some .int) 5 [.inr (1000 + j.toNatClampNeg)] st 1 r st1 := by
  by_cases hj : j.toNatClampNeg < 10
  · rw [fJ_length, if_pos hj] at h
    refine ⟨⟨hj, rfl⟩, ?_⟩
    refine ax_start (by decide) (Nat.le_of_ble_eq_true rfl) (lv0 := [some (.inr (1000 + j.toNatClampNeg))]) rfl (fun C X hC => ?_)
    rw [← h]
    refine ax_aloadn hC dJ0_length_8abf5_0 rfl rfl ?_
    refine ax_sval hC hj fw_J0_9 dJ0_length_8abf5_1 ?_
    refine ax_slen hC hj dJ0_length_8abf5_4 ?_
    refine ax_aloadn hC dJ0_length_8abf5_5 rfl rfl ?_
    rw [show (some (Int32.ofNat (ax_len.getD j.toNatClampNeg 0), st) : ax_R) = ax_bind (some ((0 : Int32), st)) (fun r s => some ((Int32.ofNat (ax_len.getD j.toNatClampNeg 0)) >>> (r &&& 31), s)) from by rw [ax_bind, ax_shr0 _ (ax_lens _ hj).2]]
    refine ax_callJ hC mlk_J0_335 hst_J0_335 (j := j) [] rfl rfl (dy := 1) (by decide) (by decide) (Nat.le_of_ble_eq_true rfl) dJ0_length_8abf5_6 (fun r9 s9 h9 => ⟨⟨hj, rfl⟩, ?_⟩) (fun r1 st1 => ?_)
    · cases h9; exact kJ_coder _ hj _ _
    · refine ax_ishr hC dJ0_length_8abf5_9 ?_
      exact ax_iret hC dJ0_length_8abf5_10
  · rw [fJ_length, if_neg hj] at h; cases h
/-- Preconditions.checkIndex: an index in its range is given back -/
theorem kJ_check3 (l : Launch) (i n : Int32) (v : Value) (hv : v = .null ∨ ∃ t, v = .ref t) (h0 : 0 ≤ i) (h1 : i < n) : Met l yJ3_checkIndex_8e157 (.code yJ3_checkIndex_8e157 cJ3_checkIndex_8e157 3 (some .int) :: wsL_law) (ax_rm 1) (fun a _ => a = #[.int i, .int n, v]) (fun _ s0 oc t => oc = .returned (some (.int i)) ∧ t.heap = s0.heap) 0 0 (fun _ => False) := by
  refine Met.ofW (cc := cJ3_checkIndex_8e157) (maxL := 3) (ret := some .int) (by decide) rfl ?_
  intro p e s m args below meth c s₁ B hml hva
  subst hva
  have hx := B.exec
  have hb := B.bytes
  have hr := B.returns
  have hlk := B.notSynchronized
  have main : ∀ ls : Array Slot, lv_has ls 3 [(0, .int i), (1, .int n)] → W p l e (headSpec (.code yJ3_checkIndex_8e157 cJ3_checkIndex_8e157 3 (some .int) :: wsL_law) (ax_rm 1)).room s m #[.int i, .int n, v] below meth c s.heap [] 0 0 (MQ below (fun _ s0 oc t => oc = .returned (some (.int i)) ∧ t.heap = s0.heap) #[.int i, .int n, v] s 0 0 (fun _ => False)) (F0 m 0 ls []) := by
    intro ls hl
    refine lv_iload_n hx hb dJ3_checkIndex_8e157_0 rfl (lv_at hl 0 rfl) ?_
    refine lv_if_lt hx hb dJ3_checkIndex_8e157_1 (tgt := 9) (by decide) (fun h => absurd h0 (Int32.not_le.mpr h)) (fun _ => ?_)
    refine lv_iload_n hx hb dJ3_checkIndex_8e157_4 rfl (lv_at hl 0 rfl) ?_
    refine lv_iload_n hx hb dJ3_checkIndex_8e157_5 rfl (lv_at hl 1 rfl) ?_
    refine lv_icmp_lt hx hb dJ3_checkIndex_8e157_6 (tgt := 16) (by decide) (fun _ => ?_) (fun h => absurd h1 h)
    refine lv_iload_n hx hb dJ3_checkIndex_8e157_16 rfl (lv_at hl 0 rfl) ?_
    exact W.iret (v := i) hx hb hr (fun t ht hW => ⟨rfl, ht⟩) (fun q h => by cases h) dJ3_checkIndex_8e157_17 hlk
  rcases hv with rfl | ⟨t, rfl⟩
  · have hl := lv_entry ([.int i, .int n, .null]) (n := 3) (Nat.le_of_ble_eq_true rfl)
    rw [show (#[Value.int i, .int n, .null] : Array Value) = ([.int i, .int n, .null] : List Value).toArray from rfl, lg_entry_eq]
    exact main _ (lv_sub hl [0, 1] rfl)
  · have hl := lv_entry ([.int i, .int n, .ref t]) (n := 3) (Nat.le_of_ble_eq_true rfl)
    rw [show (#[Value.int i, .int n, .ref t] : Array Value) = ([.int i, .int n, .ref t] : List Value).toArray from rfl, lg_entry_eq]
    exact main _ (lv_sub hl [0, 1] rfl)
theorem ax_check {C : ax_C} {X : ax_X} {L : ax_L} {nL rk d : Nat} {res : ax_R} {lv : List (Option ax_V)} {st : ax_S} {rt : Option FieldType} {i n : Int32} (hC : ax_ok C X L cJ0_checkIndex_df160 RJ0 nL rt d) (hdd : 2 ≤ d) (h0 : 0 ≤ i) (h1 : i < n) (kk : AW C X L nL rk res 8 lv [.inl i] st) : AW C X L nL rk res 2 lv [.inl n, .inl i] st := by
  obtain ⟨p, l, e, R, s, m, args, below, meth, c⟩ := C
  obtain ⟨D, ad, ca, A⟩ := X
  have hC0 := hC
  obtain ⟨hx, hb, hml, hown, hts, hK, hij, hA, hR, hr, hlk, hstr⟩ := hC
  intro r st' hres H locs ls hP hS hl
  subst hR
  have go : ∀ v : Value, (v = .null ∨ ∃ t, v = .ref t) → W p l e (ax_rm d) s m args below meth c H locs 0 0 (MQ below (ax_Q L D ad ca A rk r st') args s 0 0 A) (F0 m 5 ls (v :: .int n :: .int i :: [])) := by
    intro v hv T hT XX
    have hrun := va_runS (e := e) (below := below) (meth := meth) (H := H) (locs := locs) (cells := 0) (slots := 0) (g := F0 m 5 ls (v :: .int n :: .int i :: [])) (As := [.int i, .int n, v]) (rest := []) ⟨hx, hb, hml, hown, hts⟩ (kJ_check3 l i n v hv h0 h1) ⟨ax_pay hts mlk_J0_1059 (by omega) (by decide), hts _ hst_J0_1059⟩ ⟨fun _ _ _ _ q => q, fun U hU hW => rfl⟩ rfl rfl hl.1 rfl (lv_room (Nat.zero_le _)) dJ0_checkIndex_df160_5 ⟨Nat.le_refl 0, Nat.le_refl 0⟩
    obtain ⟨v9, st₀, t, T', L', e0, X', hL, e1, e2, ⟨hv9, hh⟩, hst⟩ := hrun T hT XX
    cases hv9
    have hHt : T'.heap = H := by rw [e1, hh, e0]
    obtain ⟨t2, a1, b1⟩ := kk r st' hres H (locs ++ L') ls hP ⟨hS.1, hS.2.1, fun q hq => by
      rcases List.mem_append.mp hq with h | h
      · exact hS.2.2 q h
      · exact (hL q h).elim⟩ hl T' hHt X'
    exact ⟨t2, hst t2 a1, b1⟩
  rcases hstr.2.2.2.1 with hz | ⟨t, hz⟩
  · exact va_gets hx hb hz hS hown (hts _ fw_J0_1053) (fun _ h => h) dJ0_checkIndex_df160_2 (go .null (Or.inl rfl))
  · exact va_gets hx hb hz hS hown (hts _ fw_J0_1053) (fun _ h => h) dJ0_checkIndex_df160_2 (go (.ref t) (Or.inr ⟨t, rfl⟩))
theorem kJ_check (L : ax_L) (i n : Int32) (h0 : 0 ≤ i) (h1 : i < n) (st : ax_S) : ax_M L yJ0_checkIndex_df160 cJ0_checkIndex_df160 2 none 2 [.inl i, .inl n] st 0 0 st := by
  refine ax_start (by decide) (Nat.le_of_ble_eq_true rfl) (lv0 := [some (.inl i), some (.inl n)]) rfl (fun C X hC => ?_)
  refine ax_iloadn hC dJ0_checkIndex_df160_0 rfl rfl ?_
  refine ax_iloadn hC dJ0_checkIndex_df160_1 rfl rfl ?_
  refine ax_check hC (by decide) h0 h1 ?_
  refine ax_pop hC dJ0_checkIndex_df160_8 ?_
  exact ax_vret hC dJ0_checkIndex_df160_9
theorem ax_lt_len {j : Nat} {i : Int32} (hj : j < 10) (h : 0 ≤ i ∧ i.toNatClampNeg < ax_len.getD j 0) : i < Int32.ofNat (ax_len.getD j 0) := by
  have h2 := (ax_lens j hj).2
  have e1 : (Int32.ofNat (ax_len.getD j 0)).toInt = (ax_len.getD j 0 : Int) := nI_toInt (by omega)
  have h3 : (0 : Int) ≤ i.toInt := by simpa using Int32.le_iff_toInt_le.mp h.1
  have h4 : i.toInt = (i.toNatClampNeg : Int) := by
    show i.toInt = ((i.toInt.toNat : Nat) : Int)
    omega
  rw [Int32.lt_iff_toInt_lt, e1, h4]
  exact Int.ofNat_lt.mpr h.2
theorem kJ_latin1 (j : Nat) (hj : j < 10) (i : Int32) (hi : 0 ≤ i ∧ i.toNatClampNeg < ax_len.getD j 0) (L : ax_L) (st : ax_S) : ax_M L yJ1_charAt_3b067 cJ1_charAt_3b067 2 (some .char) 3 [.inr (2000 + j), .inl i] st 1 ((ax_byt.getD j []).getD i.toNatClampNeg 0) st := by
  refine ax_start (by decide) (Nat.le_of_ble_eq_true rfl) (lv0 := [some (.inr (2000 + j)), some (.inl i)]) rfl (fun C X hC => ?_)
  obtain ⟨hc1, hc2, hc3⟩ := ax_chars j hj _ hi.2
  refine ax_iloadn hC dJ1_charAt_3b067_0 rfl rfl ?_
  refine ax_aloadn hC dJ1_charAt_3b067_1 rfl rfl ?_
  refine ax_slen hC hj dJ1_charAt_3b067_2 ?_
  rw [show (some ((ax_byt.getD j []).getD i.toNatClampNeg 0, st) : ax_R) = ax_bind (some ((0 : Int32), st)) (fun _ s => some (ax_c16 ((ax_byt.getD j []).getD i.toNatClampNeg 0 &&& 255), s)) from by rw [ax_bind, hc2]]
  refine ax_callS0 hC mlk_J1_9 hst_J1_9 [.inl i, .inl (Int32.ofNat (ax_len.getD j 0))] rfl rfl (dy := 2) (by decide) (by decide) (Nat.le_of_ble_eq_true rfl) dJ1_charAt_3b067_3 (fun r9 s9 h9 => ?_) (fun r1 st1 => ?_)
  · cases h9; exact kJ_check L i _ hi.1 (ax_lt_len hj hi) st
  · refine ax_aloadn hC dJ1_charAt_3b067_6 rfl rfl ?_
    refine ax_iloadn hC dJ1_charAt_3b067_7 rfl rfl ?_
    refine ax_sbyte hC hj hi dJ1_charAt_3b067_8 ?_
    refine ax_sipush hC dJ1_charAt_3b067_9 (v := 255) (by decide) ?_
    refine ax_iand hC dJ1_charAt_3b067_12 ?_
    refine ax_i2c hC dJ1_charAt_3b067_13 ?_
    exact ax_nret hC (by rw [hc2]; exact hc3) dJ1_charAt_3b067_14
theorem kJ_charAt (j i : Int32) (st : ax_S) (r : Int32) (st1 : ax_S) (h : fJ_charAt j i st = some (r, st1)) : (j.toNatClampNeg < 10 ∧ yJ0_charAt_5068e.cls = "java/lang/String") ∧ ax_M LX yJ0_charAt_5068e cJ0_charAt_5068e 2 (some .char) 5 [.inr (1000 + j.toNatClampNeg), .inl i] st 1 r st1 := by
  by_cases hj : j.toNatClampNeg < 10 ∧ 0 ≤ i ∧ i.toNatClampNeg < ax_len.getD j.toNatClampNeg 0
  · rw [fJ_charAt, if_pos hj] at h
    refine ⟨⟨hj.1, rfl⟩, ?_⟩
    obtain ⟨hc1, hc2, hc3⟩ := ax_chars _ hj.1 _ hj.2.2
    refine ax_start (by decide) (Nat.le_of_ble_eq_true rfl) (lv0 := [some (.inr (1000 + j.toNatClampNeg)), some (.inl i)]) rfl (fun C X hC => ?_)
    rw [← h]
    refine ax_aloadn hC dJ0_charAt_5068e_0 rfl rfl ?_
    rw [show (some ((ax_byt.getD j.toNatClampNeg []).getD i.toNatClampNeg 0, st) : ax_R) = ax_bind (some ((1 : Int32), st)) (fun r s => if r = 0 then none else ax_bind (some ((ax_byt.getD j.toNatClampNeg []).getD i.toNatClampNeg 0, s)) (fun r s => if narrow .char (.int r) = .int r then some (r, s) else none)) from by
      simp only [ax_bind]; rw [if_neg (by decide), if_pos hc3]]
    refine ax_callJ hC mlk_J0_492 hst_J0_492 (j := j) [] rfl rfl (dy := 1) (by decide) (by decide) (Nat.le_of_ble_eq_true rfl) dJ0_charAt_5068e_1 (fun r9 s9 h9 => ⟨⟨hj.1, rfl⟩, ?_⟩) (fun r1 st1 => ?_)
    · cases h9; exact kJ_latin _ hj.1 _ _
    · refine ax_if_eq hC dJ0_charAt_5068e_4 (tgt := 16) (by decide) (fun _ => ax_none rfl) (fun _ => ?_)
      refine ax_aloadn hC dJ0_charAt_5068e_7 rfl rfl ?_
      refine ax_sval hC hj.1 fw_J0_9 dJ0_charAt_5068e_8 ?_
      refine ax_iloadn hC dJ0_charAt_5068e_11 rfl rfl ?_
      refine ax_callS1 hC mlk_J0_495 hst_J0_495 [.inr (2000 + j.toNatClampNeg), .inl i] rfl rfl (dy := 3) (by decide) (by decide) (Nat.le_of_ble_eq_true rfl) dJ0_charAt_5068e_12 (fun r9 s9 h9 => ?_) (fun r2 st2 => ?_)
      · cases h9; exact kJ_latin1 _ hj.1 i hj.2 _ _
      · by_cases hn : narrow .char (.int r2) = .int r2
        · rw [if_pos hn]; exact ax_nret hC hn dJ0_charAt_5068e_15
        · rw [if_neg hn]; exact ax_none rfl
  · rw [fJ_charAt, if_neg hj] at h; cases h
