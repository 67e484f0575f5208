theorem mlk_L_9 : ax_mlk RL 9 yX8_init cX8_init 1 none 0 := ⟨wsub_wsL_law_r1 _ (List.mem_of_getElem? (i := 6) rfl), wsub_wsL_law_r1 _ (List.mem_of_getElem? (i := 2) rfl), wsub_wsL_law_r1 _ (List.mem_of_getElem? (i := 8) rfl), by decide +kernel⟩
theorem mlk_L_12 : ax_mlk RL 12 yX9_init cX9_init 1 none 0 := ⟨wsub_wsL_law_r5 _ (List.mem_of_getElem? (i := 19) rfl), wsub_wsL_law_r1 _ (List.mem_of_getElem? (i := 5) rfl), wsub_wsL_law_r5 _ (List.mem_of_getElem? (i := 21) rfl), by decide +kernel⟩
set_option maxHeartbeats 16000000 in
set_option maxRecDepth 100000 in
/-- THE LAW, from its entry: open in the simulations -/
theorem whole_start_open {Rl : ax_S → ax_S → Prop} (hsim : ax_Sims Rl) (h0 : Rl st0X st0M) {p : Program} {e : Env} {s : State} {m : MethodId} {below : List Frame} {meth : Method} {c : Code} (l : Launch) {b N : Nat} {xs : Nat → Int32} (hL : N ≤ 2560) (C0 : lw_At p s m meth c b N xs) : W p l e room_1 s m #[Value.ref b] below meth c s.heap [] 0 0 (lw_Z below #[Value.ref b] s) (entryFrame m ([Value.ref b] : List Value).toArray 4) := by
  obtain ⟨⟨dC, dI⟩, adK, adV, hK, hnw, hao, hstr⟩ := sw_known C0
  obtain ⟨hx, hb, hr, hml, hown, hts, hX, hbl, hlocks, hgv⟩ := id C0
  have hw := fun w h => hts w (wsL_law_in w h)
  have hA : ∀ q : Nat, s.heap.size ≤ q → (fun q : Nat => s.heap.size ≤ q) q := fun _ h => h
  have hS : va_S (fun q : Nat => s.heap.size ≤ q) s.heap s.heap [] := va_S.rf
  have hP : va_P (dC, dI) vwCl [] s.heap := fun k q h => by simp at h
  have hD : va_D (fun q : Nat => s.heap.size ≤ q) [] := ⟨fun i j p q h => by simp at h, fun k q h => by simp at h⟩
  have hl := lv_entry ([.ref b]) (n := 4) (Nat.le_of_ble_eq_true rfl)
  rw [lg_entry_eq]
  generalize (lg_sl ([.ref b]) ++ List.replicate (4 - (lg_sl ([.ref b])).length) Slot.unset).toArray = ls at hl ⊢
  have hl : lv_has ls 4 [(0, .ref b)] := hl
  refine va_new (D := (dC, dI)) (ci := 8) (fs := [.null, .null, .null, .null, .null, .int 0]) (C := RX8) (T := TX8) (N := 6) hx hb hw inlX8 tyX8 tyX8_ok hown (hw _ (wsub_wsL_law_r1 _ (List.mem_of_getElem? (i := 0) rfl))) (hw _ (wsub_wsL_law_r1 _ (List.mem_of_getElem? (i := 1) rfl))) (hw _ (wsub_wsL_law_r1 _ (List.mem_of_getElem? (i := 2) rfl))) hK hP hD hS hA rfl df_X8 (Nat.le_of_ble_eq_true rfl) (Nat.le_of_ble_eq_true rfl) dL_law_0 (fun x0 H hP hD hS => ?_)
  have hP : va_P (dC, dI) vwCl [(x0, .inr (8, [.null, .null, .null, .null, .null, .int 0]))] H := hP
  have hD : va_D (fun q => s.heap.size ≤ q) [(x0, .inr (8, [.null, .null, .null, .null, .null, .int 0]))] := hD
  refine lv_dup hx hb dL_law_3 rfl ?_
  have hFc : ∀ q, va_A [(x0, .inr (8, [.null, .null, .null, .null, .null, .int 0]))] H.size q → s.heap.size ≤ q := va_free (wc := [(x0, .inr (8, [.null, .null, .null, .null, .null, .int 0]))]) hD hS hA [0] rfl
  refine va_callv (va_runI (As := []) (rest := [.ref x0]) ⟨hx, hb, hml, hown, hw⟩ (ix_checker l dC dI x0 H.size adK adV) ⟨ix_pay hw mlk_L_9 rfl rfl ⟨(Nat.le_of_ble_eq_true rfl), (Nat.le_of_ble_eq_true rfl)⟩, rfl, (hw _ (wsub_wsL_law_r1 _ (List.mem_of_getElem? (i := 7) rfl)))⟩ ⟨ix_blind, fun U hU hW => ⟨rfl, by rw [hU], by rw [hU]; exact hP, va_K.moved hW.alike hK, hD.weaken (fun _ _ _ _ => trivial), fun w hw => ax_Nw_warm hW (ax_nest_k w hw) (hnw w hw), va_AO.moved hW.alike hao⟩⟩ rfl rfl hl.1 rfl (lv_room (Nat.le_of_ble_eq_true rfl)) dL_law_4 ⟨(Nat.le_of_ble_eq_true rfl), (Nat.le_of_ble_eq_true rfl)⟩) hS (fun q _ h => hFc q h) hFc (fun u t H1 locs ht hvm hw1 hB hz1 hk1 hS => ?_)
  obtain ⟨adX, caX, ex0, hstX, hPX, hKX, hiX, hgX⟩ := hB
  rw [ht] at hPX
  have hKX : ax_K (dC, dI) LX caX s := hKX.moved hvm.symm
  have hgX : ∀ o, o < LX.length → s.heap.size ≤ adX o := fun o ho => hFc _ (hgX o ho)
  generalize H1 = H at hPX hS ⊢
  refine lv_astore_n (lv' := [(1, .ref x0), (0, .ref b)]) hx hb dL_law_7 rfl hl (by decide) rfl (fun ls hl => ?_)
  have hsX : ∀ o, o < LX.length → adX o < H.size := fun o ho => (hPX o _ (ax_W_of (List.getElem?_eq_getElem ho))).lt
  have hDX : va_D (fun q : Nat => s.heap.size ≤ q) (ax_W LX adX caX st0X) := ax_W_D st0X hiX hgX
  have hP := hPX
  have hD := hDX
  refine va_new (D := (dC, dI)) (ci := 9) (fs := [.int 0, .null, .null, .int 0, .null, .null, .null, .null, .null, .null, .null, .null, .int 0, .null, .null, .null, .int 0, .null, .null, .null, .null, .null, .null, .null, .int 0, .int 0, .int 0, .int 0, .int 0, .int 0, .int 0, .null, .null, .null, .null, .null, .int 0, .int 0, .int 0, .int 0, .null, .int 0, .null, .int 0]) (C := RX9) (T := TX9) (N := 44) hx hb hw inlX9 tyX9 tyX9_ok hown (hw _ (wsub_wsL_law_r1 _ (List.mem_of_getElem? (i := 3) rfl))) (hw _ (wsub_wsL_law_r1 _ (List.mem_of_getElem? (i := 4) rfl))) (hw _ (wsub_wsL_law_r1 _ (List.mem_of_getElem? (i := 5) rfl))) hK hP hD hS hA rfl df_X9 (Nat.le_of_ble_eq_true rfl) (Nat.le_of_ble_eq_true rfl) dL_law_8 (fun m0 H hP hD hS => ?_)
  have hm : ((ax_W LX adX caX st0X) ++ [(m0, .inr (9, [.int 0, .null, .null, .int 0, .null, .null, .null, .null, .null, .null, .null, .null, .int 0, .null, .null, .null, .int 0, .null, .null, .null, .null, .null, .null, .null, .int 0, .int 0, .int 0, .int 0, .int 0, .int 0, .int 0, .null, .null, .null, .null, .null, .int 0, .int 0, .int 0, .int 0, .null, .int 0, .null, .int 0]))])[LX.length]? = some (m0, .inr (9, [.int 0, .null, .null, .int 0, .null, .null, .null, .null, .null, .null, .null, .null, .int 0, .null, .null, .null, .int 0, .null, .null, .null, .null, .null, .null, .null, .int 0, .int 0, .int 0, .int 0, .int 0, .int 0, .int 0, .null, .null, .null, .null, .null, .int 0, .int 0, .int 0, .int 0, .null, .int 0, .null, .int 0])) := by
    rw [List.getElem?_append_right (by rw [ax_W_len]; exact Nat.le_refl _), ax_W_len, Nat.sub_self]; rfl
  have hxo : ∀ o, o < LX.length → ∃ e, ((ax_W LX adX caX st0X) ++ [(m0, .inr (9, [.int 0, .null, .null, .int 0, .null, .null, .null, .null, .null, .null, .null, .null, .int 0, .null, .null, .null, .int 0, .null, .null, .null, .null, .null, .null, .null, .int 0, .int 0, .int 0, .int 0, .int 0, .int 0, .int 0, .null, .null, .null, .null, .null, .int 0, .int 0, .int 0, .int 0, .null, .int 0, .null, .int 0]))])[o]? = some (adX o, e) := fun o ho => by
    rw [List.getElem?_append_left (by rw [ax_W_len]; exact ho), ax_W_of (List.getElem?_eq_getElem ho)]
    exact ⟨_, rfl⟩
  have hne : ∀ o, o < LX.length → adX o ≠ m0 := fun o ho h => by
    obtain ⟨e9, g9⟩ := hxo o ho
    have := hD.1 _ _ _ _ g9 hm h
    omega
  have hPX : va_P (dC, dI) vwCl (ax_W LX adX caX st0X) H := fun k q hq => hP k q (by
    have hkl : k < (ax_W LX adX caX st0X).length := (List.getElem?_eq_some_iff.mp hq).1
    rw [List.getElem?_append_left hkl]; exact hq)
  have hsX : ∀ o, o < LX.length → adX o < H.size := fun o ho => (hPX o _ (ax_W_of (List.getElem?_eq_getElem ho))).lt
  have hP : va_P (dC, dI) vwCl [(m0, .inr (9, [.int 0, .null, .null, .int 0, .null, .null, .null, .null, .null, .null, .null, .null, .int 0, .null, .null, .null, .int 0, .null, .null, .null, .null, .null, .null, .null, .int 0, .int 0, .int 0, .int 0, .int 0, .int 0, .int 0, .null, .null, .null, .null, .null, .int 0, .int 0, .int 0, .int 0, .null, .int 0, .null, .int 0]))] H := fun k q hq => by
    cases k with
    | zero => cases hq; exact hP _ _ hm
    | succ k => cases hq
  have hD : va_D (fun q : Nat => s.heap.size ≤ q) [(m0, .inr (9, [.int 0, .null, .null, .int 0, .null, .null, .null, .null, .null, .null, .null, .null, .int 0, .null, .null, .null, .int 0, .null, .null, .null, .null, .null, .null, .null, .int 0, .int 0, .int 0, .int 0, .int 0, .int 0, .int 0, .null, .null, .null, .null, .null, .int 0, .int 0, .int 0, .int 0, .null, .int 0, .null, .int 0]))] := ⟨fun i j p q h1 h2 _ => by
    have := (List.getElem?_eq_some_iff.mp h1).1
    have := (List.getElem?_eq_some_iff.mp h2).1
    simp at *
    omega, fun k q hq => by
    cases k with
    | zero => cases hq; exact hD.2 _ _ hm
    | succ k => cases hq⟩
  have hFc : ∀ q, va_A [(m0, .inr (9, [.int 0, .null, .null, .int 0, .null, .null, .null, .null, .null, .null, .null, .null, .int 0, .null, .null, .null, .int 0, .null, .null, .null, .null, .null, .null, .null, .int 0, .int 0, .int 0, .int 0, .int 0, .int 0, .int 0, .null, .null, .null, .null, .null, .int 0, .int 0, .int 0, .int 0, .null, .int 0, .null, .int 0]))] H.size q → s.heap.size ≤ q := va_free (wc := [(m0, .inr (9, [.int 0, .null, .null, .int 0, .null, .null, .null, .null, .null, .null, .null, .null, .int 0, .null, .null, .null, .int 0, .null, .null, .null, .null, .null, .null, .null, .int 0, .int 0, .int 0, .int 0, .int 0, .int 0, .int 0, .null, .null, .null, .null, .null, .int 0, .int 0, .int 0, .int 0, .null, .int 0, .null, .int 0]))]) hD hS hA [0] rfl
  refine lv_dup hx hb dL_law_11 rfl ?_
  refine va_callv (va_runI (As := []) (rest := [.ref m0]) ⟨hx, hb, hml, hown, hw⟩ (ix_model l dC dI m0 H.size adK adV) ⟨ix_pay hw mlk_L_12 rfl rfl ⟨(Nat.le_of_ble_eq_true rfl), (Nat.le_of_ble_eq_true rfl)⟩, rfl, (hw _ (wsub_wsL_law_r5 _ (List.mem_of_getElem? (i := 20) rfl)))⟩ ⟨ix_blind, fun U hU hW => ⟨rfl, by rw [hU], by rw [hU]; exact hP, va_K.moved hW.alike hK, hD.weaken (fun _ _ _ _ => trivial), fun w hw => ax_Nw_warm hW (ax_nest_k w hw) (hnw w hw), va_AO.moved hW.alike hao⟩⟩ rfl rfl hl.1 rfl (lv_room (Nat.le_of_ble_eq_true rfl)) dL_law_12 ⟨(Nat.le_of_ble_eq_true rfl), (Nat.le_of_ble_eq_true rfl)⟩) hS (fun q _ h => hFc q h) hFc (fun u t H1 locs ht hvm hw1 hB hz1 hk1 hS => ?_)
  obtain ⟨adM, caM, em0, hstM, hPM, hKM, hiM, hgM⟩ := hB
  rw [ht] at hPM
  have hKM : ax_K (dC, dI) LM caM s := hKM.moved hvm.symm
  have hdis : ∀ i j, i < LX.length → j < LM.length → adX i ≠ adM j := fun i j hi hj h => by
    rcases hgM j hj with ⟨k, e9, g9⟩ | g9
    · cases k with
      | zero =>
        have g9 : some (m0, .inr (9, [.int 0, .null, .null, .int 0, .null, .null, .null, .null, .null, .null, .null, .null, .int 0, .null, .null, .null, .int 0, .null, .null, .null, .null, .null, .null, .null, .int 0, .int 0, .int 0, .int 0, .int 0, .int 0, .int 0, .null, .null, .null, .null, .null, .int 0, .int 0, .int 0, .int 0, .null, .int 0, .null, .int 0])) = some (adM j, e9) := g9
        exact hne i hi (by rw [h]; exact (congrArg Prod.fst (Option.some.inj g9)).symm)
      | succ k => cases g9
    · have := hsX i hi
      omega
  have hgM : ∀ o, o < LM.length → s.heap.size ≤ adM o := fun o ho => hFc _ (hgM o ho)
  have hPX : va_P (dC, dI) vwCl (ax_W LX adX caX st0X) H1 := fun k q hq => by
    obtain ⟨e9, g9, rfl⟩ := ax_W_in hq
    have hkl := (List.getElem?_eq_some_iff.mp g9).1
    refine (hPX k _ hq).kept (hk1 _ (hsX k hkl) (fun hbad => ?_))
    rcases hbad with ⟨k2, e8, g8⟩ | g8
    · cases k2 with
      | zero =>
        have g8 : some (m0, .inr (9, [.int 0, .null, .null, .int 0, .null, .null, .null, .null, .null, .null, .null, .null, .int 0, .null, .null, .null, .int 0, .null, .null, .null, .null, .null, .null, .null, .int 0, .int 0, .int 0, .int 0, .int 0, .int 0, .int 0, .null, .null, .null, .null, .null, .int 0, .int 0, .int 0, .int 0, .null, .int 0, .null, .int 0])) = some (adX k, e8) := g8
        exact hne k hkl (congrArg Prod.fst (Option.some.inj g8)).symm
      | succ k2 => cases g8
    · exact absurd (hsX k hkl) (Nat.not_lt.mpr g8)
  generalize H1 = H at hPX hPM hS ⊢
  refine lv_astore_n (lv' := [(2, .ref m0), (1, .ref x0), (0, .ref b)]) hx hb dL_law_15 rfl hl (by decide) rfl (fun ls hl => ?_)
  refine lv_iconst (v := 0) hx hb dL_law_16 (by decide) ?_
  refine lv_istore_n (lv' := [(3, .int 0), (2, .ref m0), (1, .ref x0), (0, .ref b)]) hx hb dL_law_17 rfl hl (by decide) rfl (fun ls hl => ?_)
  refine W.widen (k := 600000) (n := 7302250) (Nat.le_of_ble_eq_true rfl) (Nat.le_of_ble_eq_true rfl) ?_
  have F : lw_F s (dC, dI) adX caX adM caM := ⟨hKX, hKM, hiX, hiM, hgX, hgM, hdis, hstr adX hstX, hstr adM hstM⟩
  exact law_loop hsim C0 F hL (N + 1) 0 (by omega) (Nat.zero_le _) st0X st0M h0 H _ ls ⟨hPX, hPM, hS⟩ (by rw [ex0, em0]; exact lv_sub hl [3, 2, 1, 0] rfl)
