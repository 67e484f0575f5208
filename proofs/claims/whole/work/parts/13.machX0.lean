set_option maxRecDepth 100000 in
theorem kX8_isBetween_b15 {C : ax_C} {X : ax_X} (hC : ax_ok C X LX cX8_isBetween RX8 3 (some .boolean) 1) (s0 : Int32) (st : ax_S) : AW C X LX 3 1 (fX8_isBetween_b15 s0 st) 15 [none, none, none] [.inl s0] st := by
  unfold fX8_isBetween_b15
  exact ax_zret hC dX8_isBetween_15
set_option maxRecDepth 100000 in
theorem kX8_isBetween_b14 {C : ax_C} {X : ax_X} (hC : ax_ok C X LX cX8_isBetween RX8 3 (some .boolean) 1) (st : ax_S) : AW C X LX 3 1 (fX8_isBetween_b14 st) 14 [none, none, none] [] st := by
  unfold fX8_isBetween_b14
  refine ax_iconst hC dX8_isBetween_14 (v := 0) (by decide) ?_
  exact kX8_isBetween_b15 hC _ _
set_option maxRecDepth 100000 in
theorem kX8_isBetween (x0 : Int32) (x1 : Int32) (x2 : Int32) (st : ax_S) (r : Int32) (stz : ax_S) (h : fX8_isBetween x0 x1 x2 st = some (r, stz)) : ax_M LX yX8_isBetween cX8_isBetween 3 (some .boolean) 1 [.inl x0, .inl x1, .inl x2] st 1 r stz := by
  refine ax_start (by decide) (Nat.le_of_ble_eq_true rfl) (lv0 := [some (.inl x0), some (.inl x1), some (.inl x2)]) rfl (fun C X hC => ?_)
  rw [← h]
  unfold fX8_isBetween
  refine ax_iloadn hC dX8_isBetween_0 rfl rfl ?_
  refine ax_iloadn hC dX8_isBetween_1 rfl rfl ?_
  refine ax_icmp_lt hC dX8_isBetween_2 (tgt := 14) (by decide) (fun _ => ?_) (fun _ => ?_)
  · refine ax_sub (lv' := [none, none, none]) (ax_leN (ax_leN (ax_leN ax_le0))) ?_
    exact kX8_isBetween_b14 hC _
  · refine ax_iloadn hC dX8_isBetween_5 rfl rfl ?_
    refine ax_iloadn hC dX8_isBetween_6 rfl rfl ?_
    refine ax_icmp_gt hC dX8_isBetween_7 (tgt := 14) (by decide) (fun _ => ?_) (fun _ => ?_)
    · refine ax_sub (lv' := [none, none, none]) (ax_leN (ax_leN (ax_leN ax_le0))) ?_
      exact kX8_isBetween_b14 hC _
    · refine ax_iconst hC dX8_isBetween_10 (v := 1) (by decide) ?_
      refine ax_goto hC dX8_isBetween_11 (tgt := 15) (by decide) ?_
      refine ax_sub (lv' := [none, none, none]) (ax_leN (ax_leN (ax_leN ax_le0))) ?_
      exact kX8_isBetween_b15 hC _ _
set_option maxRecDepth 100000 in
theorem kX1_append_b38 {C : ax_C} {X : ax_X} (hC : ax_ok C X LX cX1_append RX1 3 none 1) (st : ax_S) : AW C X LX 3 0 (fX1_append_b38 st) 38 [none, none, none] [] st := by
  unfold fX1_append_b38
  exact ax_vret hC dX1_append_38
set_option maxRecDepth 100000 in
theorem kX1_append (x1 : Int32) (x2 : Int32) (st : ax_S) (r : Int32) (stz : ax_S) (h : fX1_append x1 x2 st = some (r, stz)) : ax_M LX yX1_append cX1_append 3 none 1 [.inr 2, .inl x1, .inl x2] st 0 r stz := by
  refine ax_start (by decide) (Nat.le_of_ble_eq_true rfl) (lv0 := [some (.inr 2), some (.inl x1), some (.inl x2)]) rfl (fun C X hC => ?_)
  rw [← h]
  unfold fX1_append
  refine ax_aloadn hC dX1_append_0 rfl rfl ?_
  refine ax_lkI hC lk_X1_18 LX_2 rfl dX1_append_1 ?_
  refine ax_iconst hC dX1_append_4 (v := 4) (by decide) ?_
  refine ax_icmp_ge hC dX1_append_5 (tgt := 38) (by decide) (fun _ => ?_) (fun _ => ?_)
  · refine ax_sub (lv' := [none, none, none]) (ax_leN (ax_leN (ax_leN ax_le0))) ?_
    exact kX1_append_b38 hC _
  · refine ax_aloadn hC dX1_append_8 rfl rfl ?_
    refine ax_lkR hC lk_X1_9 LX_2 rfl dX1_append_9 ?_
    refine ax_aloadn hC dX1_append_12 rfl rfl ?_
    refine ax_lkI hC lk_X1_18 LX_2 rfl dX1_append_13 ?_
    refine ax_iloadn hC dX1_append_16 rfl rfl ?_
    refine ax_iast hC LX_3 dX1_append_17 (fun st1 => ?_)
    refine ax_aloadn hC dX1_append_18 rfl rfl ?_
    refine ax_lkR hC lk_X1_15 LX_2 rfl dX1_append_19 ?_
    refine ax_aloadn hC dX1_append_22 rfl rfl ?_
    refine ax_lkI hC lk_X1_18 LX_2 rfl dX1_append_23 ?_
    refine ax_iloadn hC dX1_append_26 rfl rfl ?_
    refine ax_iast hC LX_4 dX1_append_27 (fun st2 => ?_)
    refine ax_aloadn hC dX1_append_28 rfl rfl ?_
    refine ax_dup hC dX1_append_29 ?_
    refine ax_lkI hC lk_X1_18 LX_2 rfl dX1_append_30 ?_
    refine ax_iconst hC dX1_append_33 (v := 1) (by decide) ?_
    refine ax_iadd hC dX1_append_34 ?_
    refine ax_putI hC lp_X1_18 LX_2 rfl dX1_append_35 (fun st3 => ?_)
    refine ax_sub (lv' := [none, none, none]) (ax_leN (ax_leN (ax_leN ax_le0))) ?_
    exact kX1_append_b38 hC _
set_option maxRecDepth 100000 in
theorem kX2_empty (st : ax_S) (r : Int32) (stz : ax_S) (h : fX2_empty st = some (r, stz)) : ax_M LX yX2_empty cX2_empty 1 none 1 [.inr 20] st 0 r stz := by
  refine ax_start (by decide) (Nat.le_of_ble_eq_true rfl) (lv0 := [some (.inr 20)]) rfl (fun C X hC => ?_)
  rw [← h]
  unfold fX2_empty
  refine ax_aloadn hC dX2_empty_0 rfl rfl ?_
  refine ax_iconst hC dX2_empty_1 (v := 0) (by decide) ?_
  refine ax_putI hC lp_X2_15 LX_20 rfl dX2_empty_2 (fun st1 => ?_)
  exact ax_vret hC dX2_empty_5
set_option maxRecDepth 100000 in
theorem kX8_createObject (x1 : Int32) (x2 : Int32) (st : ax_S) (r : Int32) (stz : ax_S) (h : fX8_createObject x1 x2 st = some (r, stz)) : ax_M LX yX8_createObject cX8_createObject 4 (some .int) 2 [.inr 0, .inl x1, .inl x2] st 1 r stz := by
  refine ax_start (by decide) (Nat.le_of_ble_eq_true rfl) (lv0 := [some (.inr 0), some (.inl x1), some (.inl x2), none]) rfl (fun C X hC => ?_)
  rw [← h]
  unfold fX8_createObject
  refine ax_aloadn hC dX8_createObject_0 rfl rfl ?_
  refine ax_lkR hC lk_X8_12 LX_0 rfl dX8_createObject_1 ?_
  refine ax_lkR hC lk_X8_56 LX_1 rfl dX8_createObject_4 ?_
  refine ax_lkI hC lk_X8_60 LX_2 rfl dX8_createObject_7 ?_
  refine ax_iconst hC dX8_createObject_10 (v := 4) (by decide) ?_
  refine ax_icmp_lt hC dX8_createObject_11 (tgt := 17) (by decide) (fun _ => ?_) (fun _ => ?_)
  · refine ax_aloadn hC dX8_createObject_17 rfl rfl ?_
    refine ax_lkR hC lk_X8_12 LX_0 rfl dX8_createObject_18 ?_
    refine ax_lkR hC lk_X8_56 LX_1 rfl dX8_createObject_21 ?_
    refine ax_lkI hC lk_X8_60 LX_2 rfl dX8_createObject_24 ?_
    refine ax_istoren hC dX8_createObject_27 rfl (by decide) (lv' := [some (.inr 0), some (.inl x1), some (.inl x2), some (.inl (st.1 2 0))]) rfl ?_
    refine ax_aloadn hC dX8_createObject_28 rfl rfl ?_
    refine ax_lkR hC lk_X8_12 LX_0 rfl dX8_createObject_29 ?_
    refine ax_lkR hC lk_X8_56 LX_1 rfl dX8_createObject_32 ?_
    refine ax_iloadn hC dX8_createObject_35 rfl rfl ?_
    refine ax_iloadn hC dX8_createObject_36 rfl rfl ?_
    refine ax_callV0 hC mlk_X8_254 hst_X8_254 LX_2 [.inl x1, .inl x2] rfl rfl (by decide) (by decide) (Nat.le_of_ble_eq_true rfl) dX8_createObject_37 (fun r9 s9 h9 => kX1_append _ _ _ _ _ h9) (fun r1 st2 => ?_)
    refine ax_aloadn hC dX8_createObject_40 rfl rfl ?_
    refine ax_lkR hC lk_X8_12 LX_0 rfl dX8_createObject_41 ?_
    refine ax_lkR hC lk_X8_100 LX_1 rfl dX8_createObject_44 ?_
    refine ax_callV0 hC mlk_X8_104 hst_X8_104 LX_20 [] rfl rfl (by decide) (by decide) (Nat.le_of_ble_eq_true rfl) dX8_createObject_47 (fun r9 s9 h9 => kX2_empty  _ _ _ h9) (fun r3 st4 => ?_)
    refine ax_iloadn hC dX8_createObject_50 rfl rfl ?_
    exact ax_iret hC dX8_createObject_51
  · refine ax_bipush hC dX8_createObject_14 (v := -8) (by decide) ?_
    exact ax_iret hC dX8_createObject_16
set_option maxRecDepth 100000 in
theorem kX8_createRegister (x1 : Int32) (st : ax_S) (r : Int32) (stz : ax_S) (h : fX8_createRegister x1 st = some (r, stz)) : ax_M LX yX8_createRegister cX8_createRegister 2 (some .int) 3 [.inr 0, .inl x1] st 1 r stz := by
  refine ax_start (by decide) (Nat.le_of_ble_eq_true rfl) (lv0 := [some (.inr 0), some (.inl x1)]) rfl (fun C X hC => ?_)
  rw [← h]
  unfold fX8_createRegister
  refine ax_iloadn hC dX8_createRegister_0 rfl rfl ?_
  refine ax_iconst hC dX8_createRegister_1 (v := 0) (by decide) ?_
  refine ax_bipush hC dX8_createRegister_2 (v := 99) (by decide) ?_
  refine ax_callS1 hC mlk_X8_48 hst_X8_48 [.inl x1, .inl (0 : Int32), .inl (99 : Int32)] rfl rfl (by decide) (by decide) (Nat.le_of_ble_eq_true rfl) dX8_createRegister_4 (fun r9 s9 h9 => kX8_isBetween _ _ _ _ _ _ h9) (fun r1 st2 => ?_)
  refine ax_if_ne hC dX8_createRegister_7 (tgt := 13) (by decide) (fun _ => ?_) (fun _ => ?_)
  · refine ax_bipush hC dX8_createRegister_10 (v := -4) (by decide) ?_
    exact ax_iret hC dX8_createRegister_12
  · refine ax_aloadn hC dX8_createRegister_13 rfl rfl ?_
    refine ax_iconst hC dX8_createRegister_14 (v := 0) (by decide) ?_
    refine ax_iloadn hC dX8_createRegister_15 rfl rfl ?_
    refine ax_callV1 hC mlk_X8_52 hst_X8_52 LX_0 [.inl (0 : Int32), .inl x1] rfl rfl (by decide) (by decide) (Nat.le_of_ble_eq_true rfl) dX8_createRegister_16 (fun r9 s9 h9 => kX8_createObject _ _ _ _ _ h9) (fun r3 st4 => ?_)
    exact ax_iret hC dX8_createRegister_19
set_option maxRecDepth 100000 in
theorem kX8_createCounter (x1 : Int32) (st : ax_S) (r : Int32) (stz : ax_S) (h : fX8_createCounter x1 st = some (r, stz)) : ax_M LX yX8_createCounter cX8_createCounter 2 (some .int) 3 [.inr 0, .inl x1] st 1 r stz := by
  refine ax_start (by decide) (Nat.le_of_ble_eq_true rfl) (lv0 := [some (.inr 0), some (.inl x1)]) rfl (fun C X hC => ?_)
  rw [← h]
  unfold fX8_createCounter
  refine ax_iloadn hC dX8_createCounter_0 rfl rfl ?_
  refine ax_bipush hC dX8_createCounter_1 (v := -99) (by decide) ?_
  refine ax_bipush hC dX8_createCounter_3 (v := 99) (by decide) ?_
  refine ax_callS1 hC mlk_X8_48 hst_X8_48 [.inl x1, .inl (-99 : Int32), .inl (99 : Int32)] rfl rfl (by decide) (by decide) (Nat.le_of_ble_eq_true rfl) dX8_createCounter_5 (fun r9 s9 h9 => kX8_isBetween _ _ _ _ _ _ h9) (fun r1 st2 => ?_)
  refine ax_if_ne hC dX8_createCounter_8 (tgt := 14) (by decide) (fun _ => ?_) (fun _ => ?_)
  · refine ax_bipush hC dX8_createCounter_11 (v := -4) (by decide) ?_
    exact ax_iret hC dX8_createCounter_13
  · refine ax_aloadn hC dX8_createCounter_14 rfl rfl ?_
    refine ax_iconst hC dX8_createCounter_15 (v := 1) (by decide) ?_
    refine ax_iloadn hC dX8_createCounter_16 rfl rfl ?_
    refine ax_callV1 hC mlk_X8_52 hst_X8_52 LX_0 [.inl (1 : Int32), .inl x1] rfl rfl (by decide) (by decide) (Nat.le_of_ble_eq_true rfl) dX8_createCounter_17 (fun r9 s9 h9 => kX8_createObject _ _ _ _ _ h9) (fun r3 st4 => ?_)
    exact ax_iret hC dX8_createCounter_20
set_option maxRecDepth 100000 in
theorem kX8_createQueue (st : ax_S) (r : Int32) (stz : ax_S) (h : fX8_createQueue st = some (r, stz)) : ax_M LX yX8_createQueue cX8_createQueue 1 (some .int) 3 [.inr 0] st 1 r stz := by
  refine ax_start (by decide) (Nat.le_of_ble_eq_true rfl) (lv0 := [some (.inr 0)]) rfl (fun C X hC => ?_)
  rw [← h]
  unfold fX8_createQueue
  refine ax_aloadn hC dX8_createQueue_0 rfl rfl ?_
  refine ax_iconst hC dX8_createQueue_1 (v := 2) (by decide) ?_
  refine ax_iconst hC dX8_createQueue_2 (v := 0) (by decide) ?_
  refine ax_callV1 hC mlk_X8_52 hst_X8_52 LX_0 [.inl (2 : Int32), .inl (0 : Int32)] rfl rfl (by decide) (by decide) (Nat.le_of_ble_eq_true rfl) dX8_createQueue_3 (fun r9 s9 h9 => kX8_createObject _ _ _ _ _ h9) (fun r1 st2 => ?_)
  exact ax_iret hC dX8_createQueue_6
set_option maxRecDepth 100000 in
theorem kX8_createSet (st : ax_S) (r : Int32) (stz : ax_S) (h : fX8_createSet st = some (r, stz)) : ax_M LX yX8_createSet cX8_createSet 1 (some .int) 3 [.inr 0] st 1 r stz := by
  refine ax_start (by decide) (Nat.le_of_ble_eq_true rfl) (lv0 := [some (.inr 0)]) rfl (fun C X hC => ?_)
  rw [← h]
  unfold fX8_createSet
  refine ax_aloadn hC dX8_createSet_0 rfl rfl ?_
  refine ax_iconst hC dX8_createSet_1 (v := 3) (by decide) ?_
  refine ax_iconst hC dX8_createSet_2 (v := 0) (by decide) ?_
  refine ax_callV1 hC mlk_X8_52 hst_X8_52 LX_0 [.inl (3 : Int32), .inl (0 : Int32)] rfl rfl (by decide) (by decide) (Nat.le_of_ble_eq_true rfl) dX8_createSet_3 (fun r9 s9 h9 => kX8_createObject _ _ _ _ _ h9) (fun r1 st2 => ?_)
  exact ax_iret hC dX8_createSet_6
set_option maxRecDepth 100000 in
theorem kX8_objectCount (st : ax_S) (r : Int32) (stz : ax_S) (h : fX8_objectCount st = some (r, stz)) : ax_M LX yX8_objectCount cX8_objectCount 1 (some .int) 1 [.inr 0] st 1 r stz := by
  refine ax_start (by decide) (Nat.le_of_ble_eq_true rfl) (lv0 := [some (.inr 0)]) rfl (fun C X hC => ?_)
  rw [← h]
  unfold fX8_objectCount
  refine ax_aloadn hC dX8_objectCount_0 rfl rfl ?_
  refine ax_lkR hC lk_X8_12 LX_0 rfl dX8_objectCount_1 ?_
  refine ax_lkR hC lk_X8_56 LX_1 rfl dX8_objectCount_4 ?_
  refine ax_lkI hC lk_X8_60 LX_2 rfl dX8_objectCount_7 ?_
  exact ax_iret hC dX8_objectCount_10
set_option maxRecDepth 100000 in
theorem kX1_has (x1 : Int32) (st : ax_S) (r : Int32) (stz : ax_S) (h : fX1_has x1 st = some (r, stz)) : ax_M LX yX1_has cX1_has 2 (some .boolean) 2 [.inr 2, .inl x1] st 1 r stz := by
  refine ax_start (by decide) (Nat.le_of_ble_eq_true rfl) (lv0 := [some (.inr 2), some (.inl x1)]) rfl (fun C X hC => ?_)
  rw [← h]
  unfold fX1_has
  refine ax_iloadn hC dX1_has_0 rfl rfl ?_
  refine ax_iconst hC dX1_has_1 (v := 0) (by decide) ?_
  refine ax_aloadn hC dX1_has_2 rfl rfl ?_
  refine ax_lkI hC lk_X1_18 LX_2 rfl dX1_has_3 ?_
  refine ax_iconst hC dX1_has_6 (v := 1) (by decide) ?_
  refine ax_isub hC dX1_has_7 ?_
  refine ax_callS1n hC mlk_X1_22 hst_X1_22 [.inl x1, .inl (0 : Int32), .inl ((st.1 2 0) - (1 : Int32))] rfl rfl (by decide) (by decide) (Nat.le_of_ble_eq_true rfl) dX1_has_8 (fun r9 s9 h9 => kX8_isBetween _ _ _ _ _ _ h9) (fun r1 st2 => ?_)
  exact ax_zret hC dX1_has_11
set_option maxRecDepth 100000 in
theorem kX8_typeOf (x1 : Int32) (st : ax_S) (r : Int32) (stz : ax_S) (h : fX8_typeOf x1 st = some (r, stz)) : ax_M LX yX8_typeOf cX8_typeOf 2 (some .int) 3 [.inr 0, .inl x1] st 1 r stz := by
  refine ax_start (by decide) (Nat.le_of_ble_eq_true rfl) (lv0 := [some (.inr 0), some (.inl x1)]) rfl (fun C X hC => ?_)
  rw [← h]
  unfold fX8_typeOf
  refine ax_aloadn hC dX8_typeOf_0 rfl rfl ?_
  refine ax_lkR hC lk_X8_12 LX_0 rfl dX8_typeOf_1 ?_
  refine ax_lkR hC lk_X8_56 LX_1 rfl dX8_typeOf_4 ?_
  refine ax_iloadn hC dX8_typeOf_7 rfl rfl ?_
  refine ax_callV1 hC mlk_X8_66 hst_X8_66 LX_2 [.inl x1] rfl rfl (by decide) (by decide) (Nat.le_of_ble_eq_true rfl) dX8_typeOf_8 (fun r9 s9 h9 => kX1_has _ _ _ _ h9) (fun r1 st2 => ?_)
  refine ax_if_ne hC dX8_typeOf_11 (tgt := 17) (by decide) (fun _ => ?_) (fun _ => ?_)
  · refine ax_bipush hC dX8_typeOf_14 (v := -2) (by decide) ?_
    exact ax_iret hC dX8_typeOf_16
  · refine ax_aloadn hC dX8_typeOf_17 rfl rfl ?_
    refine ax_lkR hC lk_X8_12 LX_0 rfl dX8_typeOf_18 ?_
    refine ax_lkR hC lk_X8_56 LX_1 rfl dX8_typeOf_21 ?_
    refine ax_lkR hC lk_X8_70 LX_2 rfl dX8_typeOf_24 ?_
    refine ax_iloadn hC dX8_typeOf_27 rfl rfl ?_
    refine ax_iald hC LX_3 dX8_typeOf_28 (fun v3 => ?_)
    exact ax_iret hC dX8_typeOf_29
set_option maxRecDepth 100000 in
theorem kX0_clearHistory_L12 {C : ax_C} {X : ax_X} (hC : ax_ok C X LX cX0_clearHistory RX0 2 none 1) : ∀ (n : Nat) (x1 : Int32) (st : ax_S), AW C X LX 2 0 (fX0_clearHistory_L12 n x1 st) 12 [some (.inr 5), some (.inl x1)] [] st := by
  intro n
  induction n with
  | zero => intros; exact ax_none rfl
  | succ n hrec120 =>
    intro x1 st
    have hrec12 := hrec120
    rw [fX0_clearHistory_L12.eq_2]
    refine ax_iloadn hC dX0_clearHistory_12 rfl rfl ?_
    refine ax_iconst hC dX0_clearHistory_13 (v := 4) (by decide) ?_
    refine ax_icmp_ge hC dX0_clearHistory_14 (tgt := 37) (by decide) (fun _ => ?_) (fun _ => ?_)
    · exact ax_vret hC dX0_clearHistory_37
    · refine ax_aloadn hC dX0_clearHistory_17 rfl rfl ?_
      refine ax_lkR hC lk_X0_45 LX_5 rfl dX0_clearHistory_18 ?_
      refine ax_iloadn hC dX0_clearHistory_21 rfl rfl ?_
      refine ax_iconst hC dX0_clearHistory_22 (v := -1) (by decide) ?_
      refine ax_iast hC LX_17 dX0_clearHistory_23 (fun st3 => ?_)
      refine ax_aloadn hC dX0_clearHistory_24 rfl rfl ?_
      refine ax_lkR hC lk_X0_48 LX_5 rfl dX0_clearHistory_25 ?_
      refine ax_iloadn hC dX0_clearHistory_28 rfl rfl ?_
      refine ax_iconst hC dX0_clearHistory_29 (v := 0) (by decide) ?_
      refine ax_zast hC LX_18 dX0_clearHistory_30 (fun st4 => ?_)
      refine ax_iinc hC dX0_clearHistory_31 rfl (v := (x1 + (1 : Int32))) rfl (by decide) (lv' := [some (.inr 5), some (.inl (x1 + (1 : Int32)))]) rfl ?_
      refine ax_goto hC dX0_clearHistory_34 (tgt := 12) (by decide) ?_
      exact hrec12 _ _
set_option maxRecDepth 100000 in
theorem kX0_clearHistory (st : ax_S) (r : Int32) (stz : ax_S) (h : fX0_clearHistory st = some (r, stz)) : ax_M LX yX0_clearHistory cX0_clearHistory 2 none 1 [.inr 5] st 0 r stz := by
  refine ax_start (by decide) (Nat.le_of_ble_eq_true rfl) (lv0 := [some (.inr 5), none]) rfl (fun C X hC => ?_)
  rw [← h]
  unfold fX0_clearHistory
  refine ax_aloadn hC dX0_clearHistory_0 rfl rfl ?_
  refine ax_iconst hC dX0_clearHistory_1 (v := 0) (by decide) ?_
  refine ax_putI hC lp_X0_58 LX_5 rfl dX0_clearHistory_2 (fun st1 => ?_)
  refine ax_aloadn hC dX0_clearHistory_5 rfl rfl ?_
  refine ax_iconst hC dX0_clearHistory_6 (v := 0) (by decide) ?_
  refine ax_putI hC lp_X0_62 LX_5 rfl dX0_clearHistory_7 (fun st2 => ?_)
  refine ax_iconst hC dX0_clearHistory_10 (v := 0) (by decide) ?_
  refine ax_istoren hC dX0_clearHistory_11 rfl (by decide) (lv' := [some (.inr 5), some (.inl (0 : Int32))]) rfl ?_
  exact kX0_clearHistory_L12 hC 4000 _ _
set_option maxRecDepth 100000 in
theorem kX4_clearAll (st : ax_S) (r : Int32) (stz : ax_S) (h : fX4_clearAll st = some (r, stz)) : ax_M LX yX4_clearAll cX4_clearAll 1 none 2 [.inr 1] st 0 r stz := by
  refine ax_start (by decide) (Nat.le_of_ble_eq_true rfl) (lv0 := [some (.inr 1)]) rfl (fun C X hC => ?_)
  rw [← h]
  unfold fX4_clearAll
  refine ax_aloadn hC dX4_clearAll_0 rfl rfl ?_
  refine ax_lkR hC lk_X4_10 LX_1 rfl dX4_clearAll_1 ?_
  refine ax_iconst hC dX4_clearAll_4 (v := 0) (by decide) ?_
  refine ax_putI hC lp_X4_30 LX_2 rfl dX4_clearAll_5 (fun st1 => ?_)
  refine ax_aloadn hC dX4_clearAll_8 rfl rfl ?_
  refine ax_lkR hC lk_X4_19 LX_1 rfl dX4_clearAll_9 ?_
  refine ax_callV0 hC mlk_X4_34 hst_X4_34 LX_5 [] rfl rfl (by decide) (by decide) (Nat.le_of_ble_eq_true rfl) dX4_clearAll_12 (fun r9 s9 h9 => kX0_clearHistory  _ _ _ h9) (fun r2 st3 => ?_)
  refine ax_aloadn hC dX4_clearAll_15 rfl rfl ?_
  refine ax_lkR hC lk_X4_26 LX_1 rfl dX4_clearAll_16 ?_
  refine ax_callV0 hC mlk_X4_37 hst_X4_37 LX_20 [] rfl rfl (by decide) (by decide) (Nat.le_of_ble_eq_true rfl) dX4_clearAll_19 (fun r9 s9 h9 => kX2_empty  _ _ _ h9) (fun r4 st5 => ?_)
  exact ax_vret hC dX4_clearAll_22
set_option maxRecDepth 100000 in
theorem kX8_reset (st : ax_S) (r : Int32) (stz : ax_S) (h : fX8_reset st = some (r, stz)) : ax_M LX yX8_reset cX8_reset 2 (some .int) 3 [.inr 0] st 1 r stz := by
  refine ax_start (by decide) (Nat.le_of_ble_eq_true rfl) (lv0 := [some (.inr 0), none]) rfl (fun C X hC => ?_)
  rw [← h]
  unfold fX8_reset
  refine ax_aloadn hC dX8_reset_0 rfl rfl ?_
  refine ax_lkR hC lk_X8_12 LX_0 rfl dX8_reset_1 ?_
  refine ax_lkR hC lk_X8_74 LX_1 rfl dX8_reset_4 ?_
  refine ax_lkI hC lk_X8_78 LX_5 rfl dX8_reset_7 ?_
  refine ax_istoren hC dX8_reset_10 rfl (by decide) (lv' := [some (.inr 0), some (.inl (st.1 5 0))]) rfl ?_
  refine ax_aloadn hC dX8_reset_11 rfl rfl ?_
  refine ax_lkR hC lk_X8_12 LX_0 rfl dX8_reset_12 ?_
  refine ax_callV0 hC mlk_X8_83 hst_X8_83 LX_1 [] rfl rfl (by decide) (by decide) (Nat.le_of_ble_eq_true rfl) dX8_reset_15 (fun r9 s9 h9 => kX4_clearAll  _ _ _ h9) (fun r1 st2 => ?_)
  refine ax_iloadn hC dX8_reset_18 rfl rfl ?_
  exact ax_iret hC dX8_reset_19
set_option maxRecDepth 100000 in
theorem kX8_isThread (x0 : Int32) (st : ax_S) (r : Int32) (stz : ax_S) (h : fX8_isThread x0 st = some (r, stz)) : ax_M LX yX8_isThread cX8_isThread 1 (some .boolean) 2 [.inl x0] st 1 r stz := by
  refine ax_start (by decide) (Nat.le_of_ble_eq_true rfl) (lv0 := [some (.inl x0)]) rfl (fun C X hC => ?_)
  rw [← h]
  unfold fX8_isThread
  refine ax_iloadn hC dX8_isThread_0 rfl rfl ?_
  refine ax_iconst hC dX8_isThread_1 (v := 0) (by decide) ?_
  refine ax_iconst hC dX8_isThread_2 (v := 3) (by decide) ?_
  refine ax_callS1 hC mlk_X8_48 hst_X8_48 [.inl x0, .inl (0 : Int32), .inl (3 : Int32)] rfl rfl (by decide) (by decide) (Nat.le_of_ble_eq_true rfl) dX8_isThread_3 (fun r9 s9 h9 => kX8_isBetween _ _ _ _ _ _ h9) (fun r1 st2 => ?_)
  exact ax_zret hC dX8_isThread_6
set_option maxRecDepth 100000 in
theorem kX8_requiredType (x0 : Int32) (st : ax_S) (r : Int32) (stz : ax_S) (h : fX8_requiredType x0 st = some (r, stz)) : ax_M LX yX8_requiredType cX8_requiredType 1 (some .int) 1 [.inl x0] st 1 r stz := by
  refine ax_start (by decide) (Nat.le_of_ble_eq_true rfl) (lv0 := [some (.inl x0)]) rfl (fun C X hC => ?_)
  rw [← h]
  unfold fX8_requiredType
  refine ax_iloadn hC dX8_requiredType_0 rfl rfl ?_
  refine ax_tsIn hC dX8_requiredType_1 (v := 0) (by decide) (by decide) (off := 43) rfl (tgt := 44) (by decide) ?_ (fun e0 => ?_)
  · refine ax_iconst hC dX8_requiredType_44 (v := 0) (by decide) ?_
    exact ax_iret hC dX8_requiredType_45
  · refine ax_tsIn hC dX8_requiredType_1 (v := 1) (by decide) (by decide) (off := 43) rfl (tgt := 44) (by decide) ?_ (fun e1 => ?_)
    · refine ax_iconst hC dX8_requiredType_44 (v := 0) (by decide) ?_
      exact ax_iret hC dX8_requiredType_45
    · refine ax_tsIn hC dX8_requiredType_1 (v := 2) (by decide) (by decide) (off := 43) rfl (tgt := 44) (by decide) ?_ (fun e2 => ?_)
      · refine ax_iconst hC dX8_requiredType_44 (v := 0) (by decide) ?_
        exact ax_iret hC dX8_requiredType_45
      · refine ax_tsIn hC dX8_requiredType_1 (v := 3) (by decide) (by decide) (off := 45) rfl (tgt := 46) (by decide) ?_ (fun e3 => ?_)
        · refine ax_iconst hC dX8_requiredType_46 (v := 1) (by decide) ?_
          exact ax_iret hC dX8_requiredType_47
        · refine ax_tsIn hC dX8_requiredType_1 (v := 4) (by decide) (by decide) (off := 45) rfl (tgt := 46) (by decide) ?_ (fun e4 => ?_)
          · refine ax_iconst hC dX8_requiredType_46 (v := 1) (by decide) ?_
            exact ax_iret hC dX8_requiredType_47
          · refine ax_tsIn hC dX8_requiredType_1 (v := 5) (by decide) (by decide) (off := 47) rfl (tgt := 48) (by decide) ?_ (fun e5 => ?_)
            · refine ax_iconst hC dX8_requiredType_48 (v := 2) (by decide) ?_
              exact ax_iret hC dX8_requiredType_49
            · refine ax_tsIn hC dX8_requiredType_1 (v := 6) (by decide) (by decide) (off := 47) rfl (tgt := 48) (by decide) ?_ (fun e6 => ?_)
              · refine ax_iconst hC dX8_requiredType_48 (v := 2) (by decide) ?_
                exact ax_iret hC dX8_requiredType_49
              · have g0 : ¬ x0.toInt = 0 := fun q => e0 (Int32.toInt_inj.mp (q.trans (by decide)))
                have g1 : ¬ x0.toInt = 1 := fun q => e1 (Int32.toInt_inj.mp (q.trans (by decide)))
                have g2 : ¬ x0.toInt = 2 := fun q => e2 (Int32.toInt_inj.mp (q.trans (by decide)))
                have g3 : ¬ x0.toInt = 3 := fun q => e3 (Int32.toInt_inj.mp (q.trans (by decide)))
                have g4 : ¬ x0.toInt = 4 := fun q => e4 (Int32.toInt_inj.mp (q.trans (by decide)))
                have g5 : ¬ x0.toInt = 5 := fun q => e5 (Int32.toInt_inj.mp (q.trans (by decide)))
                have g6 : ¬ x0.toInt = 6 := fun q => e6 (Int32.toInt_inj.mp (q.trans (by decide)))
                refine ax_tsOut hC dX8_requiredType_1 (by omega) (tgt := 50) (by decide) ?_
                refine ax_iconst hC dX8_requiredType_50 (v := 3) (by decide) ?_
                exact ax_iret hC dX8_requiredType_51
set_option maxRecDepth 100000 in
theorem kX8_invocationError_b84 {C : ax_C} {X : ax_X} (hC : ax_ok C X LX cX8_invocationError RX8 7 (some .int) 3) (st : ax_S) : AW C X LX 7 1 (fX8_invocationError_b84 st) 84 [none, none, none, none, none, none, none] [] st := by
  unfold fX8_invocationError_b84
  refine ax_bipush hC dX8_invocationError_84 (v := -4) (by decide) ?_
  exact ax_iret hC dX8_invocationError_86
set_option maxRecDepth 100000 in
theorem kX8_invocationError_b59 {C : ax_C} {X : ax_X} (hC : ax_ok C X LX cX8_invocationError RX8 7 (some .int) 3) (x2 : Int32) (x4 : Int32) (x5 : Int32) (s0 : Int32) (st : ax_S) : AW C X LX 7 1 (fX8_invocationError_b59 x2 x4 x5 s0 st) 59 [some (.inr 0), none, some (.inl x2), none, some (.inl x4), some (.inl x5), none] [.inl s0] st := by
  unfold fX8_invocationError_b59
  refine ax_istore hC dX8_invocationError_59 (by decide) (lv' := [some (.inr 0), none, some (.inl x2), none, some (.inl x4), some (.inl x5), some (.inl s0)]) rfl ?_
  refine ax_iload hC dX8_invocationError_61 rfl ?_
  refine ax_iload hC dX8_invocationError_63 rfl ?_
  refine ax_bipush hC dX8_invocationError_65 (v := 99) (by decide) ?_
  refine ax_callS1 hC mlk_X8_48 hst_X8_48 [.inl x4, .inl s0, .inl (99 : Int32)] rfl rfl (by decide) (by decide) (Nat.le_of_ble_eq_true rfl) dX8_invocationError_67 (fun r9 s9 h9 => kX8_isBetween _ _ _ _ _ _ h9) (fun r8 st9 => ?_)
  refine ax_if_eq hC dX8_invocationError_70 (tgt := 84) (by decide) (fun _ => ?_) (fun _ => ?_)
  · refine ax_sub (lv' := [none, none, none, none, none, none, none]) (ax_leN (ax_leN (ax_leN (ax_leN (ax_leN (ax_leN (ax_leN ax_le0))))))) ?_
    exact kX8_invocationError_b84 hC _
  · refine ax_iload hC dX8_invocationError_73 rfl ?_
    refine ax_iconst hC dX8_invocationError_75 (v := 0) (by decide) ?_
    refine ax_bipush hC dX8_invocationError_76 (v := 99) (by decide) ?_
    refine ax_callS1 hC mlk_X8_48 hst_X8_48 [.inl x5, .inl (0 : Int32), .inl (99 : Int32)] rfl rfl (by decide) (by decide) (Nat.le_of_ble_eq_true rfl) dX8_invocationError_78 (fun r9 s9 h9 => kX8_isBetween _ _ _ _ _ _ h9) (fun r10 st11 => ?_)
    refine ax_if_ne hC dX8_invocationError_81 (tgt := 87) (by decide) (fun _ => ?_) (fun _ => ?_)
    · refine ax_sub (lv' := [none, none, none, none, none, none, none]) (ax_leN (ax_leN (ax_leN (ax_leN (ax_leN (ax_leN (ax_leN ax_le0))))))) ?_
      exact kX8_invocationError_b84 hC _
    · refine ax_aloadn hC dX8_invocationError_87 rfl rfl ?_
      refine ax_lkR hC lk_X8_12 LX_0 rfl dX8_invocationError_88 ?_
      refine ax_lkR hC lk_X8_74 LX_1 rfl dX8_invocationError_91 ?_
      refine ax_lkR hC lk_X8_112 LX_5 rfl dX8_invocationError_94 ?_
      refine ax_iloadn hC dX8_invocationError_97 rfl rfl ?_
      refine ax_zald hC LX_18 dX8_invocationError_98 (fun v12 => ?_)
      refine ax_if_eq hC dX8_invocationError_99 (tgt := 105) (by decide) (fun _ => ?_) (fun _ => ?_)
      · refine ax_aloadn hC dX8_invocationError_105 rfl rfl ?_
        refine ax_lkR hC lk_X8_12 LX_0 rfl dX8_invocationError_106 ?_
        refine ax_lkR hC lk_X8_74 LX_1 rfl dX8_invocationError_109 ?_
        refine ax_lkR hC lk_X8_93 LX_5 rfl dX8_invocationError_112 ?_
        refine ax_iloadn hC dX8_invocationError_115 rfl rfl ?_
        refine ax_iald hC LX_17 dX8_invocationError_116 (fun v13 => ?_)
        refine ax_iconst hC dX8_invocationError_117 (v := -1) (by decide) ?_
        refine ax_icmp_eq hC dX8_invocationError_118 (tgt := 124) (by decide) (fun _ => ?_) (fun _ => ?_)
        · refine ax_aloadn hC dX8_invocationError_124 rfl rfl ?_
          refine ax_lkR hC lk_X8_12 LX_0 rfl dX8_invocationError_125 ?_
          refine ax_lkR hC lk_X8_74 LX_1 rfl dX8_invocationError_128 ?_
          refine ax_lkI hC lk_X8_123 LX_5 rfl dX8_invocationError_131 ?_
          refine ax_bipush hC dX8_invocationError_134 (v := 10) (by decide) ?_
          refine ax_icmp_lt hC dX8_invocationError_136 (tgt := 142) (by decide) (fun _ => ?_) (fun _ => ?_)
          · refine ax_iconst hC dX8_invocationError_142 (v := 0) (by decide) ?_
            exact ax_iret hC dX8_invocationError_143
          · refine ax_bipush hC dX8_invocationError_139 (v := -8) (by decide) ?_
            exact ax_iret hC dX8_invocationError_141
        · refine ax_bipush hC dX8_invocationError_121 (v := -6) (by decide) ?_
          exact ax_iret hC dX8_invocationError_123
      · refine ax_bipush hC dX8_invocationError_102 (v := -5) (by decide) ?_
        exact ax_iret hC dX8_invocationError_104
set_option maxRecDepth 100000 in
theorem kX8_invocationError (x1 : Int32) (x2 : Int32) (x3 : Int32) (x4 : Int32) (x5 : Int32) (st : ax_S) (r : Int32) (stz : ax_S) (h : fX8_invocationError x1 x2 x3 x4 x5 st = some (r, stz)) : ax_M LX yX8_invocationError cX8_invocationError 7 (some .int) 3 [.inr 0, .inl x1, .inl x2, .inl x3, .inl x4, .inl x5] st 1 r stz := by
  refine ax_start (by decide) (Nat.le_of_ble_eq_true rfl) (lv0 := [some (.inr 0), some (.inl x1), some (.inl x2), some (.inl x3), some (.inl x4), some (.inl x5), none]) rfl (fun C X hC => ?_)
  rw [← h]
  unfold fX8_invocationError
  refine ax_iloadn hC dX8_invocationError_0 rfl rfl ?_
  refine ax_callS1 hC mlk_X8_109 hst_X8_109 [.inl x2] rfl rfl (by decide) (by decide) (Nat.le_of_ble_eq_true rfl) dX8_invocationError_1 (fun r9 s9 h9 => kX8_isThread _ _ _ _ h9) (fun r1 st2 => ?_)
  refine ax_if_ne hC dX8_invocationError_4 (tgt := 9) (by decide) (fun _ => ?_) (fun _ => ?_)
  · refine ax_iconst hC dX8_invocationError_7 (v := -1) (by decide) ?_
    exact ax_iret hC dX8_invocationError_8
  · refine ax_aloadn hC dX8_invocationError_9 rfl rfl ?_
    refine ax_lkR hC lk_X8_12 LX_0 rfl dX8_invocationError_10 ?_
    refine ax_lkR hC lk_X8_56 LX_1 rfl dX8_invocationError_13 ?_
    refine ax_iloadn hC dX8_invocationError_16 rfl rfl ?_
    refine ax_callV1 hC mlk_X8_66 hst_X8_66 LX_2 [.inl x3] rfl rfl (by decide) (by decide) (Nat.le_of_ble_eq_true rfl) dX8_invocationError_17 (fun r9 s9 h9 => kX1_has _ _ _ _ h9) (fun r3 st4 => ?_)
    refine ax_if_ne hC dX8_invocationError_20 (tgt := 26) (by decide) (fun _ => ?_) (fun _ => ?_)
    · refine ax_bipush hC dX8_invocationError_23 (v := -2) (by decide) ?_
      exact ax_iret hC dX8_invocationError_25
    · refine ax_aloadn hC dX8_invocationError_26 rfl rfl ?_
      refine ax_lkR hC lk_X8_12 LX_0 rfl dX8_invocationError_27 ?_
      refine ax_lkR hC lk_X8_56 LX_1 rfl dX8_invocationError_30 ?_
      refine ax_lkR hC lk_X8_70 LX_2 rfl dX8_invocationError_33 ?_
      refine ax_iloadn hC dX8_invocationError_36 rfl rfl ?_
      refine ax_iald hC LX_3 dX8_invocationError_37 (fun v5 => ?_)
      refine ax_iloadn hC dX8_invocationError_38 rfl rfl ?_
      refine ax_callS1 hC mlk_X8_263 hst_X8_263 [.inl x1] rfl rfl (by decide) (by decide) (Nat.le_of_ble_eq_true rfl) dX8_invocationError_39 (fun r9 s9 h9 => kX8_requiredType _ _ _ _ h9) (fun r6 st7 => ?_)
      refine ax_icmp_eq hC dX8_invocationError_42 (tgt := 48) (by decide) (fun _ => ?_) (fun _ => ?_)
      · refine ax_iloadn hC dX8_invocationError_48 rfl rfl ?_
        refine ax_iconst hC dX8_invocationError_49 (v := 4) (by decide) ?_
        refine ax_icmp_ne hC dX8_invocationError_50 (tgt := 58) (by decide) (fun _ => ?_) (fun _ => ?_)
        · refine ax_bipush hC dX8_invocationError_53 (v := -99) (by decide) ?_
          refine ax_goto hC dX8_invocationError_55 (tgt := 59) (by decide) ?_
          refine ax_sub (lv' := [some (.inr 0), none, some (.inl x2), none, some (.inl x4), some (.inl x5), none]) (ax_leS (ax_leN (ax_leS (ax_leN (ax_leS (ax_leS (ax_leN ax_le0))))))) ?_
          exact kX8_invocationError_b59 hC _ _ _ _ _
        · refine ax_iconst hC dX8_invocationError_58 (v := 0) (by decide) ?_
          refine ax_sub (lv' := [some (.inr 0), none, some (.inl x2), none, some (.inl x4), some (.inl x5), none]) (ax_leS (ax_leN (ax_leS (ax_leN (ax_leS (ax_leS (ax_leN ax_le0))))))) ?_
          exact kX8_invocationError_b59 hC _ _ _ _ _
      · refine ax_bipush hC dX8_invocationError_45 (v := -3) (by decide) ?_
        exact ax_iret hC dX8_invocationError_47
set_option maxRecDepth 100000 in
theorem kX0_addEvent_b49 {C : ax_C} {X : ax_X} (hC : ax_ok C X LX cX0_addEvent RX0 4 none 1) (st : ax_S) : AW C X LX 4 0 (fX0_addEvent_b49 st) 49 [none, none, none, none] [] st := by
  unfold fX0_addEvent_b49
  exact ax_vret hC dX0_addEvent_49
set_option maxRecDepth 100000 in
theorem kX0_addEvent (x1 : Int32) (x2 : Int32) (x3 : Int32) (st : ax_S) (r : Int32) (stz : ax_S) (h : fX0_addEvent x1 x2 x3 st = some (r, stz)) : ax_M LX yX0_addEvent cX0_addEvent 4 none 1 [.inr 5, .inl x1, .inl x2, .inl x3] st 0 r stz := by
  refine ax_start (by decide) (Nat.le_of_ble_eq_true rfl) (lv0 := [some (.inr 5), some (.inl x1), some (.inl x2), some (.inl x3)]) rfl (fun C X hC => ?_)
  rw [← h]
  unfold fX0_addEvent
  refine ax_aloadn hC dX0_addEvent_0 rfl rfl ?_
  refine ax_lkI hC lk_X0_58 LX_5 rfl dX0_addEvent_1 ?_
  refine ax_bipush hC dX0_addEvent_4 (v := 24) (by decide) ?_
  refine ax_icmp_ge hC dX0_addEvent_6 (tgt := 49) (by decide) (fun _ => ?_) (fun _ => ?_)
  · refine ax_sub (lv' := [none, none, none, none]) (ax_leN (ax_leN (ax_leN (ax_leN ax_le0)))) ?_
    exact kX0_addEvent_b49 hC _
  · refine ax_aloadn hC dX0_addEvent_9 rfl rfl ?_
    refine ax_lkR hC lk_X0_9 LX_5 rfl dX0_addEvent_10 ?_
    refine ax_aloadn hC dX0_addEvent_13 rfl rfl ?_
    refine ax_lkI hC lk_X0_58 LX_5 rfl dX0_addEvent_14 ?_
    refine ax_iloadn hC dX0_addEvent_17 rfl rfl ?_
    refine ax_iast hC LX_6 dX0_addEvent_18 (fun st1 => ?_)
    refine ax_aloadn hC dX0_addEvent_19 rfl rfl ?_
    refine ax_lkR hC lk_X0_15 LX_5 rfl dX0_addEvent_20 ?_
    refine ax_aloadn hC dX0_addEvent_23 rfl rfl ?_
    refine ax_lkI hC lk_X0_58 LX_5 rfl dX0_addEvent_24 ?_
    refine ax_iloadn hC dX0_addEvent_27 rfl rfl ?_
    refine ax_iast hC LX_7 dX0_addEvent_28 (fun st2 => ?_)
    refine ax_aloadn hC dX0_addEvent_29 rfl rfl ?_
    refine ax_lkR hC lk_X0_18 LX_5 rfl dX0_addEvent_30 ?_
    refine ax_aloadn hC dX0_addEvent_33 rfl rfl ?_
    refine ax_lkI hC lk_X0_58 LX_5 rfl dX0_addEvent_34 ?_
    refine ax_iloadn hC dX0_addEvent_37 rfl rfl ?_
    refine ax_iast hC LX_8 dX0_addEvent_38 (fun st3 => ?_)
    refine ax_aloadn hC dX0_addEvent_39 rfl rfl ?_
    refine ax_dup hC dX0_addEvent_40 ?_
    refine ax_lkI hC lk_X0_58 LX_5 rfl dX0_addEvent_41 ?_
    refine ax_iconst hC dX0_addEvent_44 (v := 1) (by decide) ?_
    refine ax_iadd hC dX0_addEvent_45 ?_
    refine ax_putI hC lp_X0_58 LX_5 rfl dX0_addEvent_46 (fun st4 => ?_)
    refine ax_sub (lv' := [none, none, none, none]) (ax_leN (ax_leN (ax_leN (ax_leN ax_le0)))) ?_
    exact kX0_addEvent_b49 hC _
set_option maxRecDepth 100000 in
theorem kX0_addInvocation (x1 : Int32) (x2 : Int32) (x3 : Int32) (x4 : Int32) (x5 : Int32) (st : ax_S) (r : Int32) (stz : ax_S) (h : fX0_addInvocation x1 x2 x3 x4 x5 st = some (r, stz)) : ax_M LX yX0_addInvocation cX0_addInvocation 6 none 2 [.inr 5, .inl x1, .inl x2, .inl x3, .inl x4, .inl x5] st 0 r stz := by
  refine ax_start (by decide) (Nat.le_of_ble_eq_true rfl) (lv0 := [some (.inr 5), some (.inl x1), some (.inl x2), some (.inl x3), some (.inl x4), some (.inl x5)]) rfl (fun C X hC => ?_)
  rw [← h]
  unfold fX0_addInvocation
  refine ax_aloadn hC dX0_addInvocation_0 rfl rfl ?_
  refine ax_lkI hC lk_X0_62 LX_5 rfl dX0_addInvocation_1 ?_
  refine ax_bipush hC dX0_addInvocation_4 (v := 10) (by decide) ?_
  refine ax_icmp_lt hC dX0_addInvocation_6 (tgt := 10) (by decide) (fun _ => ?_) (fun _ => ?_)
  · refine ax_aloadn hC dX0_addInvocation_10 rfl rfl ?_
    refine ax_lkR hC lk_X0_21 LX_5 rfl dX0_addInvocation_11 ?_
    refine ax_aloadn hC dX0_addInvocation_14 rfl rfl ?_
    refine ax_lkI hC lk_X0_62 LX_5 rfl dX0_addInvocation_15 ?_
    refine ax_iloadn hC dX0_addInvocation_18 rfl rfl ?_
    refine ax_iast hC LX_9 dX0_addInvocation_19 (fun st1 => ?_)
    refine ax_aloadn hC dX0_addInvocation_20 rfl rfl ?_
    refine ax_lkR hC lk_X0_24 LX_5 rfl dX0_addInvocation_21 ?_
    refine ax_aloadn hC dX0_addInvocation_24 rfl rfl ?_
    refine ax_lkI hC lk_X0_62 LX_5 rfl dX0_addInvocation_25 ?_
    refine ax_iloadn hC dX0_addInvocation_28 rfl rfl ?_
    refine ax_iast hC LX_10 dX0_addInvocation_29 (fun st2 => ?_)
    refine ax_aloadn hC dX0_addInvocation_30 rfl rfl ?_
    refine ax_lkR hC lk_X0_27 LX_5 rfl dX0_addInvocation_31 ?_
    refine ax_aloadn hC dX0_addInvocation_34 rfl rfl ?_
    refine ax_lkI hC lk_X0_62 LX_5 rfl dX0_addInvocation_35 ?_
    refine ax_iloadn hC dX0_addInvocation_38 rfl rfl ?_
    refine ax_iast hC LX_11 dX0_addInvocation_39 (fun st3 => ?_)
    refine ax_aloadn hC dX0_addInvocation_40 rfl rfl ?_
    refine ax_lkR hC lk_X0_30 LX_5 rfl dX0_addInvocation_41 ?_
    refine ax_aloadn hC dX0_addInvocation_44 rfl rfl ?_
    refine ax_lkI hC lk_X0_62 LX_5 rfl dX0_addInvocation_45 ?_
    refine ax_iload hC dX0_addInvocation_48 rfl ?_
    refine ax_iast hC LX_12 dX0_addInvocation_50 (fun st4 => ?_)
    refine ax_aloadn hC dX0_addInvocation_51 rfl rfl ?_
    refine ax_lkR hC lk_X0_33 LX_5 rfl dX0_addInvocation_52 ?_
    refine ax_aloadn hC dX0_addInvocation_55 rfl rfl ?_
    refine ax_lkI hC lk_X0_62 LX_5 rfl dX0_addInvocation_56 ?_
    refine ax_iload hC dX0_addInvocation_59 rfl ?_
    refine ax_iast hC LX_13 dX0_addInvocation_61 (fun st5 => ?_)
    refine ax_aloadn hC dX0_addInvocation_62 rfl rfl ?_
    refine ax_lkR hC lk_X0_36 LX_5 rfl dX0_addInvocation_63 ?_
    refine ax_aloadn hC dX0_addInvocation_66 rfl rfl ?_
    refine ax_lkI hC lk_X0_62 LX_5 rfl dX0_addInvocation_67 ?_
    refine ax_aloadn hC dX0_addInvocation_70 rfl rfl ?_
    refine ax_lkI hC lk_X0_58 LX_5 rfl dX0_addInvocation_71 ?_
    refine ax_iast hC LX_14 dX0_addInvocation_74 (fun st6 => ?_)
    refine ax_aloadn hC dX0_addInvocation_75 rfl rfl ?_
    refine ax_lkR hC lk_X0_39 LX_5 rfl dX0_addInvocation_76 ?_
    refine ax_aloadn hC dX0_addInvocation_79 rfl rfl ?_
    refine ax_lkI hC lk_X0_62 LX_5 rfl dX0_addInvocation_80 ?_
    refine ax_iconst hC dX0_addInvocation_83 (v := -1) (by decide) ?_
    refine ax_iast hC LX_15 dX0_addInvocation_84 (fun st7 => ?_)
    refine ax_aloadn hC dX0_addInvocation_85 rfl rfl ?_
    refine ax_lkR hC lk_X0_45 LX_5 rfl dX0_addInvocation_86 ?_
    refine ax_iloadn hC dX0_addInvocation_89 rfl rfl ?_
    refine ax_aloadn hC dX0_addInvocation_90 rfl rfl ?_
    refine ax_lkI hC lk_X0_62 LX_5 rfl dX0_addInvocation_91 ?_
    refine ax_iast hC LX_17 dX0_addInvocation_94 (fun st8 => ?_)
    refine ax_aloadn hC dX0_addInvocation_95 rfl rfl ?_
    refine ax_iconst hC dX0_addInvocation_96 (v := 0) (by decide) ?_
    refine ax_iloadn hC dX0_addInvocation_97 rfl rfl ?_
    refine ax_aloadn hC dX0_addInvocation_98 rfl rfl ?_
    refine ax_lkI hC lk_X0_62 LX_5 rfl dX0_addInvocation_99 ?_
    refine ax_callV0 hC mlk_X0_73 hst_X0_73 LX_5 [.inl (0 : Int32), .inl x2, .inl (st8.1 5 4)] rfl rfl (by decide) (by decide) (Nat.le_of_ble_eq_true rfl) dX0_addInvocation_102 (fun r9 s9 h9 => kX0_addEvent _ _ _ _ _ _ h9) (fun r9 st10 => ?_)
    refine ax_aloadn hC dX0_addInvocation_105 rfl rfl ?_
    refine ax_dup hC dX0_addInvocation_106 ?_
    refine ax_lkI hC lk_X0_62 LX_5 rfl dX0_addInvocation_107 ?_
    refine ax_iconst hC dX0_addInvocation_110 (v := 1) (by decide) ?_
    refine ax_iadd hC dX0_addInvocation_111 ?_
    refine ax_putI hC lp_X0_62 LX_5 rfl dX0_addInvocation_112 (fun st11 => ?_)
    exact ax_vret hC dX0_addInvocation_115
  · exact ax_vret hC dX0_addInvocation_9
set_option maxRecDepth 100000 in
theorem kX8_invoke (x1 : Int32) (x2 : Int32) (x3 : Int32) (x4 : Int32) (x5 : Int32) (st : ax_S) (r : Int32) (stz : ax_S) (h : fX8_invoke x1 x2 x3 x4 x5 st = some (r, stz)) : ax_M LX yX8_invoke cX8_invoke 8 (some .int) 4 [.inr 0, .inl x1, .inl x2, .inl x3, .inl x4, .inl x5] st 1 r stz := by
  refine ax_start (by decide) (Nat.le_of_ble_eq_true rfl) (lv0 := [some (.inr 0), some (.inl x1), some (.inl x2), some (.inl x3), some (.inl x4), some (.inl x5), none, none]) rfl (fun C X hC => ?_)
  rw [← h]
  unfold fX8_invoke
  refine ax_aloadn hC dX8_invoke_0 rfl rfl ?_
  refine ax_iloadn hC dX8_invoke_1 rfl rfl ?_
  refine ax_iloadn hC dX8_invoke_2 rfl rfl ?_
  refine ax_iloadn hC dX8_invoke_3 rfl rfl ?_
  refine ax_iload hC dX8_invoke_4 rfl ?_
  refine ax_iload hC dX8_invoke_6 rfl ?_
  refine ax_callV1 hC mlk_X8_256 hst_X8_256 LX_0 [.inl x1, .inl x2, .inl x3, .inl x4, .inl x5] rfl rfl (by decide) (by decide) (Nat.le_of_ble_eq_true rfl) dX8_invoke_8 (fun r9 s9 h9 => kX8_invocationError _ _ _ _ _ _ _ _ h9) (fun r1 st2 => ?_)
  refine ax_istore hC dX8_invoke_11 (by decide) (lv' := [some (.inr 0), some (.inl x1), some (.inl x2), some (.inl x3), some (.inl x4), some (.inl x5), some (.inl r1), none]) rfl ?_
  refine ax_iload hC dX8_invoke_13 rfl ?_
  refine ax_if_eq hC dX8_invoke_15 (tgt := 21) (by decide) (fun _ => ?_) (fun _ => ?_)
  · refine ax_aloadn hC dX8_invoke_21 rfl rfl ?_
    refine ax_lkR hC lk_X8_12 LX_0 rfl dX8_invoke_22 ?_
    refine ax_lkR hC lk_X8_74 LX_1 rfl dX8_invoke_25 ?_
    refine ax_lkI hC lk_X8_123 LX_5 rfl dX8_invoke_28 ?_
    refine ax_istore hC dX8_invoke_31 (by decide) (lv' := [some (.inr 0), some (.inl x1), some (.inl x2), some (.inl x3), some (.inl x4), some (.inl x5), some (.inl r1), some (.inl (st2.1 5 4))]) rfl ?_
    refine ax_aloadn hC dX8_invoke_33 rfl rfl ?_
    refine ax_lkR hC lk_X8_12 LX_0 rfl dX8_invoke_34 ?_
    refine ax_lkR hC lk_X8_74 LX_1 rfl dX8_invoke_37 ?_
    refine ax_iloadn hC dX8_invoke_40 rfl rfl ?_
    refine ax_iloadn hC dX8_invoke_41 rfl rfl ?_
    refine ax_iloadn hC dX8_invoke_42 rfl rfl ?_
    refine ax_iload hC dX8_invoke_43 rfl ?_
    refine ax_iload hC dX8_invoke_45 rfl ?_
    refine ax_callV0 hC mlk_X8_259 hst_X8_259 LX_5 [.inl x1, .inl x2, .inl x3, .inl x4, .inl x5] rfl rfl (by decide) (by decide) (Nat.le_of_ble_eq_true rfl) dX8_invoke_47 (fun r9 s9 h9 => kX0_addInvocation _ _ _ _ _ _ _ _ h9) (fun r3 st4 => ?_)
    refine ax_aloadn hC dX8_invoke_50 rfl rfl ?_
    refine ax_lkR hC lk_X8_12 LX_0 rfl dX8_invoke_51 ?_
    refine ax_lkR hC lk_X8_100 LX_1 rfl dX8_invoke_54 ?_
    refine ax_callV0 hC mlk_X8_104 hst_X8_104 LX_20 [] rfl rfl (by decide) (by decide) (Nat.le_of_ble_eq_true rfl) dX8_invoke_57 (fun r9 s9 h9 => kX2_empty  _ _ _ h9) (fun r5 st6 => ?_)
    refine ax_iload hC dX8_invoke_60 rfl ?_
    exact ax_iret hC dX8_invoke_62
  · refine ax_iload hC dX8_invoke_18 rfl ?_
    exact ax_iret hC dX8_invoke_20
set_option maxRecDepth 100000 in
theorem kX8_invokeRead (x1 : Int32) (x2 : Int32) (st : ax_S) (r : Int32) (stz : ax_S) (h : fX8_invokeRead x1 x2 st = some (r, stz)) : ax_M LX yX8_invokeRead cX8_invokeRead 3 (some .int) 5 [.inr 0, .inl x1, .inl x2] st 1 r stz := by
  refine ax_start (by decide) (Nat.le_of_ble_eq_true rfl) (lv0 := [some (.inr 0), some (.inl x1), some (.inl x2)]) rfl (fun C X hC => ?_)
  rw [← h]
  unfold fX8_invokeRead
  refine ax_aloadn hC dX8_invokeRead_0 rfl rfl ?_
  refine ax_iconst hC dX8_invokeRead_1 (v := 0) (by decide) ?_
  refine ax_iloadn hC dX8_invokeRead_2 rfl rfl ?_
  refine ax_iloadn hC dX8_invokeRead_3 rfl rfl ?_
  refine ax_iconst hC dX8_invokeRead_4 (v := 0) (by decide) ?_
  refine ax_iconst hC dX8_invokeRead_5 (v := 0) (by decide) ?_
  refine ax_callV1 hC mlk_X8_86 hst_X8_86 LX_0 [.inl (0 : Int32), .inl x1, .inl x2, .inl (0 : Int32), .inl (0 : Int32)] rfl rfl (by decide) (by decide) (Nat.le_of_ble_eq_true rfl) dX8_invokeRead_6 (fun r9 s9 h9 => kX8_invoke _ _ _ _ _ _ _ _ h9) (fun r1 st2 => ?_)
  exact ax_iret hC dX8_invokeRead_9
set_option maxRecDepth 100000 in
theorem kX8_invokeWrite (x1 : Int32) (x2 : Int32) (x3 : Int32) (st : ax_S) (r : Int32) (stz : ax_S) (h : fX8_invokeWrite x1 x2 x3 st = some (r, stz)) : ax_M LX yX8_invokeWrite cX8_invokeWrite 4 (some .int) 5 [.inr 0, .inl x1, .inl x2, .inl x3] st 1 r stz := by
  refine ax_start (by decide) (Nat.le_of_ble_eq_true rfl) (lv0 := [some (.inr 0), some (.inl x1), some (.inl x2), some (.inl x3)]) rfl (fun C X hC => ?_)
  rw [← h]
  unfold fX8_invokeWrite
  refine ax_aloadn hC dX8_invokeWrite_0 rfl rfl ?_
  refine ax_iconst hC dX8_invokeWrite_1 (v := 1) (by decide) ?_
  refine ax_iloadn hC dX8_invokeWrite_2 rfl rfl ?_
  refine ax_iloadn hC dX8_invokeWrite_3 rfl rfl ?_
  refine ax_iloadn hC dX8_invokeWrite_4 rfl rfl ?_
  refine ax_iconst hC dX8_invokeWrite_5 (v := 0) (by decide) ?_
  refine ax_callV1 hC mlk_X8_86 hst_X8_86 LX_0 [.inl (1 : Int32), .inl x1, .inl x2, .inl x3, .inl (0 : Int32)] rfl rfl (by decide) (by decide) (Nat.le_of_ble_eq_true rfl) dX8_invokeWrite_6 (fun r9 s9 h9 => kX8_invoke _ _ _ _ _ _ _ _ h9) (fun r1 st2 => ?_)
  exact ax_iret hC dX8_invokeWrite_9
set_option maxRecDepth 100000 in
theorem kX8_invokeCompareAndSet (x1 : Int32) (x2 : Int32) (x3 : Int32) (x4 : Int32) (st : ax_S) (r : Int32) (stz : ax_S) (h : fX8_invokeCompareAndSet x1 x2 x3 x4 st = some (r, stz)) : ax_M LX yX8_invokeCompareAndSet cX8_invokeCompareAndSet 5 (some .int) 5 [.inr 0, .inl x1, .inl x2, .inl x3, .inl x4] st 1 r stz := by
  refine ax_start (by decide) (Nat.le_of_ble_eq_true rfl) (lv0 := [some (.inr 0), some (.inl x1), some (.inl x2), some (.inl x3), some (.inl x4)]) rfl (fun C X hC => ?_)
  rw [← h]
  unfold fX8_invokeCompareAndSet
  refine ax_aloadn hC dX8_invokeCompareAndSet_0 rfl rfl ?_
  refine ax_iconst hC dX8_invokeCompareAndSet_1 (v := 2) (by decide) ?_
  refine ax_iloadn hC dX8_invokeCompareAndSet_2 rfl rfl ?_
  refine ax_iloadn hC dX8_invokeCompareAndSet_3 rfl rfl ?_
  refine ax_iloadn hC dX8_invokeCompareAndSet_4 rfl rfl ?_
  refine ax_iload hC dX8_invokeCompareAndSet_5 rfl ?_
  refine ax_callV1 hC mlk_X8_86 hst_X8_86 LX_0 [.inl (2 : Int32), .inl x1, .inl x2, .inl x3, .inl x4] rfl rfl (by decide) (by decide) (Nat.le_of_ble_eq_true rfl) dX8_invokeCompareAndSet_7 (fun r9 s9 h9 => kX8_invoke _ _ _ _ _ _ _ _ h9) (fun r1 st2 => ?_)
  exact ax_iret hC dX8_invokeCompareAndSet_10
set_option maxRecDepth 100000 in
theorem kX8_invokeGet (x1 : Int32) (x2 : Int32) (st : ax_S) (r : Int32) (stz : ax_S) (h : fX8_invokeGet x1 x2 st = some (r, stz)) : ax_M LX yX8_invokeGet cX8_invokeGet 3 (some .int) 5 [.inr 0, .inl x1, .inl x2] st 1 r stz := by
  refine ax_start (by decide) (Nat.le_of_ble_eq_true rfl) (lv0 := [some (.inr 0), some (.inl x1), some (.inl x2)]) rfl (fun C X hC => ?_)
  rw [← h]
  unfold fX8_invokeGet
  refine ax_aloadn hC dX8_invokeGet_0 rfl rfl ?_
  refine ax_iconst hC dX8_invokeGet_1 (v := 3) (by decide) ?_
  refine ax_iloadn hC dX8_invokeGet_2 rfl rfl ?_
  refine ax_iloadn hC dX8_invokeGet_3 rfl rfl ?_
  refine ax_iconst hC dX8_invokeGet_4 (v := 0) (by decide) ?_
  refine ax_iconst hC dX8_invokeGet_5 (v := 0) (by decide) ?_
  refine ax_callV1 hC mlk_X8_86 hst_X8_86 LX_0 [.inl (3 : Int32), .inl x1, .inl x2, .inl (0 : Int32), .inl (0 : Int32)] rfl rfl (by decide) (by decide) (Nat.le_of_ble_eq_true rfl) dX8_invokeGet_6 (fun r9 s9 h9 => kX8_invoke _ _ _ _ _ _ _ _ h9) (fun r1 st2 => ?_)
  exact ax_iret hC dX8_invokeGet_9
set_option maxRecDepth 100000 in
theorem kX8_invokeAdd (x1 : Int32) (x2 : Int32) (x3 : Int32) (st : ax_S) (r : Int32) (stz : ax_S) (h : fX8_invokeAdd x1 x2 x3 st = some (r, stz)) : ax_M LX yX8_invokeAdd cX8_invokeAdd 4 (some .int) 5 [.inr 0, .inl x1, .inl x2, .inl x3] st 1 r stz := by
  refine ax_start (by decide) (Nat.le_of_ble_eq_true rfl) (lv0 := [some (.inr 0), some (.inl x1), some (.inl x2), some (.inl x3)]) rfl (fun C X hC => ?_)
  rw [← h]
  unfold fX8_invokeAdd
  refine ax_aloadn hC dX8_invokeAdd_0 rfl rfl ?_
  refine ax_iconst hC dX8_invokeAdd_1 (v := 4) (by decide) ?_
  refine ax_iloadn hC dX8_invokeAdd_2 rfl rfl ?_
  refine ax_iloadn hC dX8_invokeAdd_3 rfl rfl ?_
  refine ax_iloadn hC dX8_invokeAdd_4 rfl rfl ?_
  refine ax_iconst hC dX8_invokeAdd_5 (v := 0) (by decide) ?_
  refine ax_callV1 hC mlk_X8_86 hst_X8_86 LX_0 [.inl (4 : Int32), .inl x1, .inl x2, .inl x3, .inl (0 : Int32)] rfl rfl (by decide) (by decide) (Nat.le_of_ble_eq_true rfl) dX8_invokeAdd_6 (fun r9 s9 h9 => kX8_invoke _ _ _ _ _ _ _ _ h9) (fun r1 st2 => ?_)
  exact ax_iret hC dX8_invokeAdd_9
set_option maxRecDepth 100000 in
theorem kX8_invokeEnqueue (x1 : Int32) (x2 : Int32) (x3 : Int32) (st : ax_S) (r : Int32) (stz : ax_S) (h : fX8_invokeEnqueue x1 x2 x3 st = some (r, stz)) : ax_M LX yX8_invokeEnqueue cX8_invokeEnqueue 4 (some .int) 5 [.inr 0, .inl x1, .inl x2, .inl x3] st 1 r stz := by
  refine ax_start (by decide) (Nat.le_of_ble_eq_true rfl) (lv0 := [some (.inr 0), some (.inl x1), some (.inl x2), some (.inl x3)]) rfl (fun C X hC => ?_)
  rw [← h]
  unfold fX8_invokeEnqueue
  refine ax_aloadn hC dX8_invokeEnqueue_0 rfl rfl ?_
  refine ax_iconst hC dX8_invokeEnqueue_1 (v := 5) (by decide) ?_
  refine ax_iloadn hC dX8_invokeEnqueue_2 rfl rfl ?_
  refine ax_iloadn hC dX8_invokeEnqueue_3 rfl rfl ?_
  refine ax_iloadn hC dX8_invokeEnqueue_4 rfl rfl ?_
  refine ax_iconst hC dX8_invokeEnqueue_5 (v := 0) (by decide) ?_
  refine ax_callV1 hC mlk_X8_86 hst_X8_86 LX_0 [.inl (5 : Int32), .inl x1, .inl x2, .inl x3, .inl (0 : Int32)] rfl rfl (by decide) (by decide) (Nat.le_of_ble_eq_true rfl) dX8_invokeEnqueue_6 (fun r9 s9 h9 => kX8_invoke _ _ _ _ _ _ _ _ h9) (fun r1 st2 => ?_)
  exact ax_iret hC dX8_invokeEnqueue_9
set_option maxRecDepth 100000 in
theorem kX8_invokeDequeue (x1 : Int32) (x2 : Int32) (st : ax_S) (r : Int32) (stz : ax_S) (h : fX8_invokeDequeue x1 x2 st = some (r, stz)) : ax_M LX yX8_invokeDequeue cX8_invokeDequeue 3 (some .int) 5 [.inr 0, .inl x1, .inl x2] st 1 r stz := by
  refine ax_start (by decide) (Nat.le_of_ble_eq_true rfl) (lv0 := [some (.inr 0), some (.inl x1), some (.inl x2)]) rfl (fun C X hC => ?_)
  rw [← h]
  unfold fX8_invokeDequeue
  refine ax_aloadn hC dX8_invokeDequeue_0 rfl rfl ?_
  refine ax_bipush hC dX8_invokeDequeue_1 (v := 6) (by decide) ?_
  refine ax_iloadn hC dX8_invokeDequeue_3 rfl rfl ?_
  refine ax_iloadn hC dX8_invokeDequeue_4 rfl rfl ?_
  refine ax_iconst hC dX8_invokeDequeue_5 (v := 0) (by decide) ?_
  refine ax_iconst hC dX8_invokeDequeue_6 (v := 0) (by decide) ?_
  refine ax_callV1 hC mlk_X8_86 hst_X8_86 LX_0 [.inl (6 : Int32), .inl x1, .inl x2, .inl (0 : Int32), .inl (0 : Int32)] rfl rfl (by decide) (by decide) (Nat.le_of_ble_eq_true rfl) dX8_invokeDequeue_7 (fun r9 s9 h9 => kX8_invoke _ _ _ _ _ _ _ _ h9) (fun r1 st2 => ?_)
  exact ax_iret hC dX8_invokeDequeue_10
set_option maxRecDepth 100000 in
theorem kX8_invokeInsert (x1 : Int32) (x2 : Int32) (x3 : Int32) (st : ax_S) (r : Int32) (stz : ax_S) (h : fX8_invokeInsert x1 x2 x3 st = some (r, stz)) : ax_M LX yX8_invokeInsert cX8_invokeInsert 4 (some .int) 5 [.inr 0, .inl x1, .inl x2, .inl x3] st 1 r stz := by
  refine ax_start (by decide) (Nat.le_of_ble_eq_true rfl) (lv0 := [some (.inr 0), some (.inl x1), some (.inl x2), some (.inl x3)]) rfl (fun C X hC => ?_)
  rw [← h]
  unfold fX8_invokeInsert
  refine ax_aloadn hC dX8_invokeInsert_0 rfl rfl ?_
  refine ax_bipush hC dX8_invokeInsert_1 (v := 7) (by decide) ?_
  refine ax_iloadn hC dX8_invokeInsert_3 rfl rfl ?_
  refine ax_iloadn hC dX8_invokeInsert_4 rfl rfl ?_
  refine ax_iloadn hC dX8_invokeInsert_5 rfl rfl ?_
  refine ax_iconst hC dX8_invokeInsert_6 (v := 0) (by decide) ?_
  refine ax_callV1 hC mlk_X8_86 hst_X8_86 LX_0 [.inl (7 : Int32), .inl x1, .inl x2, .inl x3, .inl (0 : Int32)] rfl rfl (by decide) (by decide) (Nat.le_of_ble_eq_true rfl) dX8_invokeInsert_7 (fun r9 s9 h9 => kX8_invoke _ _ _ _ _ _ _ _ h9) (fun r1 st2 => ?_)
  exact ax_iret hC dX8_invokeInsert_10
set_option maxRecDepth 100000 in
theorem kX8_invokeRemove (x1 : Int32) (x2 : Int32) (x3 : Int32) (st : ax_S) (r : Int32) (stz : ax_S) (h : fX8_invokeRemove x1 x2 x3 st = some (r, stz)) : ax_M LX yX8_invokeRemove cX8_invokeRemove 4 (some .int) 5 [.inr 0, .inl x1, .inl x2, .inl x3] st 1 r stz := by
  refine ax_start (by decide) (Nat.le_of_ble_eq_true rfl) (lv0 := [some (.inr 0), some (.inl x1), some (.inl x2), some (.inl x3)]) rfl (fun C X hC => ?_)
  rw [← h]
  unfold fX8_invokeRemove
  refine ax_aloadn hC dX8_invokeRemove_0 rfl rfl ?_
  refine ax_bipush hC dX8_invokeRemove_1 (v := 8) (by decide) ?_
  refine ax_iloadn hC dX8_invokeRemove_3 rfl rfl ?_
  refine ax_iloadn hC dX8_invokeRemove_4 rfl rfl ?_
  refine ax_iloadn hC dX8_invokeRemove_5 rfl rfl ?_
  refine ax_iconst hC dX8_invokeRemove_6 (v := 0) (by decide) ?_
  refine ax_callV1 hC mlk_X8_86 hst_X8_86 LX_0 [.inl (8 : Int32), .inl x1, .inl x2, .inl x3, .inl (0 : Int32)] rfl rfl (by decide) (by decide) (Nat.le_of_ble_eq_true rfl) dX8_invokeRemove_7 (fun r9 s9 h9 => kX8_invoke _ _ _ _ _ _ _ _ h9) (fun r1 st2 => ?_)
  exact ax_iret hC dX8_invokeRemove_10
set_option maxRecDepth 100000 in
theorem kX8_invokeContains (x1 : Int32) (x2 : Int32) (x3 : Int32) (st : ax_S) (r : Int32) (stz : ax_S) (h : fX8_invokeContains x1 x2 x3 st = some (r, stz)) : ax_M LX yX8_invokeContains cX8_invokeContains 4 (some .int) 5 [.inr 0, .inl x1, .inl x2, .inl x3] st 1 r stz := by
  refine ax_start (by decide) (Nat.le_of_ble_eq_true rfl) (lv0 := [some (.inr 0), some (.inl x1), some (.inl x2), some (.inl x3)]) rfl (fun C X hC => ?_)
  rw [← h]
  unfold fX8_invokeContains
  refine ax_aloadn hC dX8_invokeContains_0 rfl rfl ?_
  refine ax_bipush hC dX8_invokeContains_1 (v := 9) (by decide) ?_
  refine ax_iloadn hC dX8_invokeContains_3 rfl rfl ?_
  refine ax_iloadn hC dX8_invokeContains_4 rfl rfl ?_
  refine ax_iloadn hC dX8_invokeContains_5 rfl rfl ?_
  refine ax_iconst hC dX8_invokeContains_6 (v := 0) (by decide) ?_
  refine ax_callV1 hC mlk_X8_86 hst_X8_86 LX_0 [.inl (9 : Int32), .inl x1, .inl x2, .inl x3, .inl (0 : Int32)] rfl rfl (by decide) (by decide) (Nat.le_of_ble_eq_true rfl) dX8_invokeContains_7 (fun r9 s9 h9 => kX8_invoke _ _ _ _ _ _ _ _ h9) (fun r1 st2 => ?_)
  exact ax_iret hC dX8_invokeContains_10
set_option maxRecDepth 100000 in
theorem kX0_has (x1 : Int32) (st : ax_S) (r : Int32) (stz : ax_S) (h : fX0_has x1 st = some (r, stz)) : ax_M LX yX0_has cX0_has 2 (some .boolean) 2 [.inr 5, .inl x1] st 1 r stz := by
  refine ax_start (by decide) (Nat.le_of_ble_eq_true rfl) (lv0 := [some (.inr 5), some (.inl x1)]) rfl (fun C X hC => ?_)
  rw [← h]
  unfold fX0_has
  refine ax_iloadn hC dX0_has_0 rfl rfl ?_
  refine ax_iconst hC dX0_has_1 (v := 0) (by decide) ?_
  refine ax_aloadn hC dX0_has_2 rfl rfl ?_
  refine ax_lkI hC lk_X0_62 LX_5 rfl dX0_has_3 ?_
  refine ax_iconst hC dX0_has_6 (v := 1) (by decide) ?_
  refine ax_isub hC dX0_has_7 ?_
  refine ax_callS1n hC mlk_X0_65 hst_X0_65 [.inl x1, .inl (0 : Int32), .inl ((st.1 5 4) - (1 : Int32))] rfl rfl (by decide) (by decide) (Nat.le_of_ble_eq_true rfl) dX0_has_8 (fun r9 s9 h9 => kX8_isBetween _ _ _ _ _ _ h9) (fun r1 st2 => ?_)
  exact ax_zret hC dX0_has_11
set_option maxRecDepth 100000 in
theorem kX8_waitingError (x1 : Int32) (st : ax_S) (r : Int32) (stz : ax_S) (h : fX8_waitingError x1 st = some (r, stz)) : ax_M LX yX8_waitingError cX8_waitingError 2 (some .int) 3 [.inr 0, .inl x1] st 1 r stz := by
  refine ax_start (by decide) (Nat.le_of_ble_eq_true rfl) (lv0 := [some (.inr 0), some (.inl x1)]) rfl (fun C X hC => ?_)
  rw [← h]
  unfold fX8_waitingError
  refine ax_iloadn hC dX8_waitingError_0 rfl rfl ?_
  refine ax_callS1 hC mlk_X8_109 hst_X8_109 [.inl x1] rfl rfl (by decide) (by decide) (Nat.le_of_ble_eq_true rfl) dX8_waitingError_1 (fun r9 s9 h9 => kX8_isThread _ _ _ _ h9) (fun r1 st2 => ?_)
  refine ax_if_ne hC dX8_waitingError_4 (tgt := 9) (by decide) (fun _ => ?_) (fun _ => ?_)
  · refine ax_iconst hC dX8_waitingError_7 (v := -1) (by decide) ?_
    exact ax_iret hC dX8_waitingError_8
  · refine ax_aloadn hC dX8_waitingError_9 rfl rfl ?_
    refine ax_lkR hC lk_X8_12 LX_0 rfl dX8_waitingError_10 ?_
    refine ax_lkR hC lk_X8_74 LX_1 rfl dX8_waitingError_13 ?_
    refine ax_lkR hC lk_X8_112 LX_5 rfl dX8_waitingError_16 ?_
    refine ax_iloadn hC dX8_waitingError_19 rfl rfl ?_
    refine ax_zald hC LX_18 dX8_waitingError_20 (fun v3 => ?_)
    refine ax_if_eq hC dX8_waitingError_21 (tgt := 27) (by decide) (fun _ => ?_) (fun _ => ?_)
    · refine ax_aloadn hC dX8_waitingError_27 rfl rfl ?_
      refine ax_lkR hC lk_X8_12 LX_0 rfl dX8_waitingError_28 ?_
      refine ax_lkR hC lk_X8_74 LX_1 rfl dX8_waitingError_31 ?_
      refine ax_aloadn hC dX8_waitingError_34 rfl rfl ?_
      refine ax_lkR hC lk_X8_12 LX_0 rfl dX8_waitingError_35 ?_
      refine ax_lkR hC lk_X8_74 LX_1 rfl dX8_waitingError_38 ?_
      refine ax_lkR hC lk_X8_93 LX_5 rfl dX8_waitingError_41 ?_
      refine ax_iloadn hC dX8_waitingError_44 rfl rfl ?_
      refine ax_iald hC LX_17 dX8_waitingError_45 (fun v4 => ?_)
      refine ax_callV1 hC mlk_X8_126 hst_X8_126 LX_5 [.inl v4] rfl rfl (by decide) (by decide) (Nat.le_of_ble_eq_true rfl) dX8_waitingError_46 (fun r9 s9 h9 => kX0_has _ _ _ _ h9) (fun r5 st6 => ?_)
      refine ax_if_ne hC dX8_waitingError_49 (tgt := 55) (by decide) (fun _ => ?_) (fun _ => ?_)
      · refine ax_bipush hC dX8_waitingError_52 (v := -7) (by decide) ?_
        exact ax_iret hC dX8_waitingError_54
      · refine ax_iconst hC dX8_waitingError_55 (v := 0) (by decide) ?_
        exact ax_iret hC dX8_waitingError_56
    · refine ax_bipush hC dX8_waitingError_24 (v := -5) (by decide) ?_
      exact ax_iret hC dX8_waitingError_26
set_option maxRecDepth 100000 in
theorem kX8_lowestResult (x0 : Int32) (st : ax_S) (r : Int32) (stz : ax_S) (h : fX8_lowestResult x0 st = some (r, stz)) : ax_M LX yX8_lowestResult cX8_lowestResult 1 (some .int) 1 [.inl x0] st 1 r stz := by
  refine ax_start (by decide) (Nat.le_of_ble_eq_true rfl) (lv0 := [some (.inl x0)]) rfl (fun C X hC => ?_)
  rw [← h]
  unfold fX8_lowestResult
  refine ax_iloadn hC dX8_lowestResult_0 rfl rfl ?_
  refine ax_tsIn hC dX8_lowestResult_1 (v := 3) (by decide) (by decide) (off := 31) rfl (tgt := 32) (by decide) ?_ (fun e0 => ?_)
  · refine ax_sipush hC dX8_lowestResult_32 (v := -999) (by decide) ?_
    exact ax_iret hC dX8_lowestResult_35
  · refine ax_tsIn hC dX8_lowestResult_1 (v := 4) (by decide) (by decide) (off := 31) rfl (tgt := 32) (by decide) ?_ (fun e1 => ?_)
    · refine ax_sipush hC dX8_lowestResult_32 (v := -999) (by decide) ?_
      exact ax_iret hC dX8_lowestResult_35
    · refine ax_tsIn hC dX8_lowestResult_1 (v := 5) (by decide) (by decide) (off := 37) rfl (tgt := 38) (by decide) ?_ (fun e2 => ?_)
      · refine ax_iconst hC dX8_lowestResult_38 (v := 0) (by decide) ?_
        exact ax_iret hC dX8_lowestResult_39
      · refine ax_tsIn hC dX8_lowestResult_1 (v := 6) (by decide) (by decide) (off := 35) rfl (tgt := 36) (by decide) ?_ (fun e3 => ?_)
        · refine ax_iconst hC dX8_lowestResult_36 (v := -1) (by decide) ?_
          exact ax_iret hC dX8_lowestResult_37
        · have g0 : ¬ x0.toInt = 3 := fun q => e0 (Int32.toInt_inj.mp (q.trans (by decide)))
          have g1 : ¬ x0.toInt = 4 := fun q => e1 (Int32.toInt_inj.mp (q.trans (by decide)))
          have g2 : ¬ x0.toInt = 5 := fun q => e2 (Int32.toInt_inj.mp (q.trans (by decide)))
          have g3 : ¬ x0.toInt = 6 := fun q => e3 (Int32.toInt_inj.mp (q.trans (by decide)))
          refine ax_tsOut hC dX8_lowestResult_1 (by omega) (tgt := 38) (by decide) ?_
          refine ax_iconst hC dX8_lowestResult_38 (v := 0) (by decide) ?_
          exact ax_iret hC dX8_lowestResult_39
set_option maxRecDepth 100000 in
theorem kX8_highestResult (x0 : Int32) (st : ax_S) (r : Int32) (stz : ax_S) (h : fX8_highestResult x0 st = some (r, stz)) : ax_M LX yX8_highestResult cX8_highestResult 1 (some .int) 1 [.inl x0] st 1 r stz := by
  refine ax_start (by decide) (Nat.le_of_ble_eq_true rfl) (lv0 := [some (.inl x0)]) rfl (fun C X hC => ?_)
  rw [← h]
  unfold fX8_highestResult
  refine ax_iloadn hC dX8_highestResult_0 rfl rfl ?_
  refine ax_tsIn hC dX8_highestResult_1 (v := 0) (by decide) (by decide) (off := 43) rfl (tgt := 44) (by decide) ?_ (fun e0 => ?_)
  · refine ax_bipush hC dX8_highestResult_44 (v := 99) (by decide) ?_
    exact ax_iret hC dX8_highestResult_46
  · refine ax_tsIn hC dX8_highestResult_1 (v := 1) (by decide) (by decide) (off := 46) rfl (tgt := 47) (by decide) ?_ (fun e1 => ?_)
    · refine ax_iconst hC dX8_highestResult_47 (v := 0) (by decide) ?_
      exact ax_iret hC dX8_highestResult_48
    · refine ax_tsIn hC dX8_highestResult_1 (v := 2) (by decide) (by decide) (off := 52) rfl (tgt := 53) (by decide) ?_ (fun e2 => ?_)
      · refine ax_iconst hC dX8_highestResult_53 (v := 1) (by decide) ?_
        exact ax_iret hC dX8_highestResult_54
      · refine ax_tsIn hC dX8_highestResult_1 (v := 3) (by decide) (by decide) (off := 48) rfl (tgt := 49) (by decide) ?_ (fun e3 => ?_)
        · refine ax_sipush hC dX8_highestResult_49 (v := 999) (by decide) ?_
          exact ax_iret hC dX8_highestResult_52
        · refine ax_tsIn hC dX8_highestResult_1 (v := 4) (by decide) (by decide) (off := 48) rfl (tgt := 49) (by decide) ?_ (fun e4 => ?_)
          · refine ax_sipush hC dX8_highestResult_49 (v := 999) (by decide) ?_
            exact ax_iret hC dX8_highestResult_52
          · refine ax_tsIn hC dX8_highestResult_1 (v := 5) (by decide) (by decide) (off := 46) rfl (tgt := 47) (by decide) ?_ (fun e5 => ?_)
            · refine ax_iconst hC dX8_highestResult_47 (v := 0) (by decide) ?_
              exact ax_iret hC dX8_highestResult_48
            · refine ax_tsIn hC dX8_highestResult_1 (v := 6) (by decide) (by decide) (off := 43) rfl (tgt := 44) (by decide) ?_ (fun e6 => ?_)
              · refine ax_bipush hC dX8_highestResult_44 (v := 99) (by decide) ?_
                exact ax_iret hC dX8_highestResult_46
              · have g0 : ¬ x0.toInt = 0 := fun q => e0 (Int32.toInt_inj.mp (q.trans (by decide)))
                have g1 : ¬ x0.toInt = 1 := fun q => e1 (Int32.toInt_inj.mp (q.trans (by decide)))
                have g2 : ¬ x0.toInt = 2 := fun q => e2 (Int32.toInt_inj.mp (q.trans (by decide)))
                have g3 : ¬ x0.toInt = 3 := fun q => e3 (Int32.toInt_inj.mp (q.trans (by decide)))
                have g4 : ¬ x0.toInt = 4 := fun q => e4 (Int32.toInt_inj.mp (q.trans (by decide)))
                have g5 : ¬ x0.toInt = 5 := fun q => e5 (Int32.toInt_inj.mp (q.trans (by decide)))
                have g6 : ¬ x0.toInt = 6 := fun q => e6 (Int32.toInt_inj.mp (q.trans (by decide)))
                refine ax_tsOut hC dX8_highestResult_1 (by omega) (tgt := 53) (by decide) ?_
                refine ax_iconst hC dX8_highestResult_53 (v := 1) (by decide) ?_
                exact ax_iret hC dX8_highestResult_54
set_option maxRecDepth 100000 in
theorem kX8_responseError (x1 : Int32) (x2 : Int32) (st : ax_S) (r : Int32) (stz : ax_S) (h : fX8_responseError x1 x2 st = some (r, stz)) : ax_M LX yX8_responseError cX8_responseError 5 (some .int) 4 [.inr 0, .inl x1, .inl x2] st 1 r stz := by
  refine ax_start (by decide) (Nat.le_of_ble_eq_true rfl) (lv0 := [some (.inr 0), some (.inl x1), some (.inl x2), none, none]) rfl (fun C X hC => ?_)
  rw [← h]
  unfold fX8_responseError
  refine ax_aloadn hC dX8_responseError_0 rfl rfl ?_
  refine ax_iloadn hC dX8_responseError_1 rfl rfl ?_
  refine ax_callV1 hC mlk_X8_196 hst_X8_196 LX_0 [.inl x1] rfl rfl (by decide) (by decide) (Nat.le_of_ble_eq_true rfl) dX8_responseError_2 (fun r9 s9 h9 => kX8_waitingError _ _ _ _ h9) (fun r1 st2 => ?_)
  refine ax_istoren hC dX8_responseError_5 rfl (by decide) (lv' := [some (.inr 0), some (.inl x1), some (.inl x2), some (.inl r1), none]) rfl ?_
  refine ax_iloadn hC dX8_responseError_6 rfl rfl ?_
  refine ax_if_eq hC dX8_responseError_7 (tgt := 12) (by decide) (fun _ => ?_) (fun _ => ?_)
  · refine ax_aloadn hC dX8_responseError_12 rfl rfl ?_
    refine ax_lkR hC lk_X8_12 LX_0 rfl dX8_responseError_13 ?_
    refine ax_lkR hC lk_X8_74 LX_1 rfl dX8_responseError_16 ?_
    refine ax_lkR hC lk_X8_127 LX_5 rfl dX8_responseError_19 ?_
    refine ax_aloadn hC dX8_responseError_22 rfl rfl ?_
    refine ax_lkR hC lk_X8_12 LX_0 rfl dX8_responseError_23 ?_
    refine ax_lkR hC lk_X8_74 LX_1 rfl dX8_responseError_26 ?_
    refine ax_lkR hC lk_X8_93 LX_5 rfl dX8_responseError_29 ?_
    refine ax_iloadn hC dX8_responseError_32 rfl rfl ?_
    refine ax_iald hC LX_17 dX8_responseError_33 (fun v3 => ?_)
    refine ax_iald hC LX_9 dX8_responseError_34 (fun v4 => ?_)
    refine ax_istore hC dX8_responseError_35 (by decide) (lv' := [some (.inr 0), some (.inl x1), some (.inl x2), some (.inl r1), some (.inl v4)]) rfl ?_
    refine ax_iloadn hC dX8_responseError_37 rfl rfl ?_
    refine ax_iload hC dX8_responseError_38 rfl ?_
    refine ax_callS1 hC mlk_X8_200 hst_X8_200 [.inl v4] rfl rfl (by decide) (by decide) (Nat.le_of_ble_eq_true rfl) dX8_responseError_40 (fun r9 s9 h9 => kX8_lowestResult _ _ _ _ h9) (fun r5 st6 => ?_)
    refine ax_iload hC dX8_responseError_43 rfl ?_
    refine ax_callS1 hC mlk_X8_203 hst_X8_203 [.inl v4] rfl rfl (by decide) (by decide) (Nat.le_of_ble_eq_true rfl) dX8_responseError_45 (fun r9 s9 h9 => kX8_highestResult _ _ _ _ h9) (fun r7 st8 => ?_)
    refine ax_callS1 hC mlk_X8_48 hst_X8_48 [.inl x2, .inl r5, .inl r7] rfl rfl (by decide) (by decide) (Nat.le_of_ble_eq_true rfl) dX8_responseError_48 (fun r9 s9 h9 => kX8_isBetween _ _ _ _ _ _ h9) (fun r9 st10 => ?_)
    refine ax_if_ne hC dX8_responseError_51 (tgt := 57) (by decide) (fun _ => ?_) (fun _ => ?_)
    · refine ax_bipush hC dX8_responseError_54 (v := -4) (by decide) ?_
      exact ax_iret hC dX8_responseError_56
    · refine ax_iconst hC dX8_responseError_57 (v := 0) (by decide) ?_
      exact ax_iret hC dX8_responseError_58
  · refine ax_iloadn hC dX8_responseError_10 rfl rfl ?_
    exact ax_iret hC dX8_responseError_11
set_option maxRecDepth 100000 in
theorem kX0_addResponse (x1 : Int32) (x2 : Int32) (st : ax_S) (r : Int32) (stz : ax_S) (h : fX0_addResponse x1 x2 st = some (r, stz)) : ax_M LX yX0_addResponse cX0_addResponse 4 none 3 [.inr 5, .inl x1, .inl x2] st 0 r stz := by
  refine ax_start (by decide) (Nat.le_of_ble_eq_true rfl) (lv0 := [some (.inr 5), some (.inl x1), some (.inl x2), none]) rfl (fun C X hC => ?_)
  rw [← h]
  unfold fX0_addResponse
  refine ax_aloadn hC dX0_addResponse_0 rfl rfl ?_
  refine ax_lkR hC lk_X0_45 LX_5 rfl dX0_addResponse_1 ?_
  refine ax_iloadn hC dX0_addResponse_4 rfl rfl ?_
  refine ax_iald hC LX_17 dX0_addResponse_5 (fun v1 => ?_)
  refine ax_istoren hC dX0_addResponse_6 rfl (by decide) (lv' := [some (.inr 5), some (.inl x1), some (.inl x2), some (.inl v1)]) rfl ?_
  refine ax_aloadn hC dX0_addResponse_7 rfl rfl ?_
  refine ax_iloadn hC dX0_addResponse_8 rfl rfl ?_
  refine ax_callV1 hC mlk_X0_77 hst_X0_77 LX_5 [.inl v1] rfl rfl (by decide) (by decide) (Nat.le_of_ble_eq_true rfl) dX0_addResponse_9 (fun r9 s9 h9 => kX0_has _ _ _ _ h9) (fun r2 st3 => ?_)
  refine ax_if_ne hC dX0_addResponse_12 (tgt := 16) (by decide) (fun _ => ?_) (fun _ => ?_)
  · exact ax_vret hC dX0_addResponse_15
  · refine ax_aloadn hC dX0_addResponse_16 rfl rfl ?_
    refine ax_lkR hC lk_X0_39 LX_5 rfl dX0_addResponse_17 ?_
    refine ax_iloadn hC dX0_addResponse_20 rfl rfl ?_
    refine ax_aloadn hC dX0_addResponse_21 rfl rfl ?_
    refine ax_lkI hC lk_X0_58 LX_5 rfl dX0_addResponse_22 ?_
    refine ax_iast hC LX_15 dX0_addResponse_25 (fun st4 => ?_)
    refine ax_aloadn hC dX0_addResponse_26 rfl rfl ?_
    refine ax_lkR hC lk_X0_42 LX_5 rfl dX0_addResponse_27 ?_
    refine ax_iloadn hC dX0_addResponse_30 rfl rfl ?_
    refine ax_iloadn hC dX0_addResponse_31 rfl rfl ?_
    refine ax_iast hC LX_16 dX0_addResponse_32 (fun st5 => ?_)
    refine ax_aloadn hC dX0_addResponse_33 rfl rfl ?_
    refine ax_lkR hC lk_X0_45 LX_5 rfl dX0_addResponse_34 ?_
    refine ax_iloadn hC dX0_addResponse_37 rfl rfl ?_
    refine ax_iconst hC dX0_addResponse_38 (v := -1) (by decide) ?_
    refine ax_iast hC LX_17 dX0_addResponse_39 (fun st6 => ?_)
    refine ax_aloadn hC dX0_addResponse_40 rfl rfl ?_
    refine ax_iconst hC dX0_addResponse_41 (v := 1) (by decide) ?_
    refine ax_iloadn hC dX0_addResponse_42 rfl rfl ?_
    refine ax_iloadn hC dX0_addResponse_43 rfl rfl ?_
    refine ax_callV0 hC mlk_X0_73 hst_X0_73 LX_5 [.inl (1 : Int32), .inl x1, .inl v1] rfl rfl (by decide) (by decide) (Nat.le_of_ble_eq_true rfl) dX0_addResponse_44 (fun r9 s9 h9 => kX0_addEvent _ _ _ _ _ _ h9) (fun r7 st8 => ?_)
    exact ax_vret hC dX0_addResponse_47
set_option maxRecDepth 100000 in
theorem kX8_respond (x1 : Int32) (x2 : Int32) (st : ax_S) (r : Int32) (stz : ax_S) (h : fX8_respond x1 x2 st = some (r, stz)) : ax_M LX yX8_respond cX8_respond 5 (some .int) 5 [.inr 0, .inl x1, .inl x2] st 1 r stz := by
  refine ax_start (by decide) (Nat.le_of_ble_eq_true rfl) (lv0 := [some (.inr 0), some (.inl x1), some (.inl x2), none, none]) rfl (fun C X hC => ?_)
  rw [← h]
  unfold fX8_respond
  refine ax_aloadn hC dX8_respond_0 rfl rfl ?_
  refine ax_iloadn hC dX8_respond_1 rfl rfl ?_
  refine ax_iloadn hC dX8_respond_2 rfl rfl ?_
  refine ax_callV1 hC mlk_X8_90 hst_X8_90 LX_0 [.inl x1, .inl x2] rfl rfl (by decide) (by decide) (Nat.le_of_ble_eq_true rfl) dX8_respond_3 (fun r9 s9 h9 => kX8_responseError _ _ _ _ _ h9) (fun r1 st2 => ?_)
  refine ax_istoren hC dX8_respond_6 rfl (by decide) (lv' := [some (.inr 0), some (.inl x1), some (.inl x2), some (.inl r1), none]) rfl ?_
  refine ax_iloadn hC dX8_respond_7 rfl rfl ?_
  refine ax_if_eq hC dX8_respond_8 (tgt := 13) (by decide) (fun _ => ?_) (fun _ => ?_)
  · refine ax_aloadn hC dX8_respond_13 rfl rfl ?_
    refine ax_lkR hC lk_X8_12 LX_0 rfl dX8_respond_14 ?_
    refine ax_lkR hC lk_X8_74 LX_1 rfl dX8_respond_17 ?_
    refine ax_lkR hC lk_X8_93 LX_5 rfl dX8_respond_20 ?_
    refine ax_iloadn hC dX8_respond_23 rfl rfl ?_
    refine ax_iald hC LX_17 dX8_respond_24 (fun v3 => ?_)
    refine ax_istore hC dX8_respond_25 (by decide) (lv' := [some (.inr 0), some (.inl x1), some (.inl x2), some (.inl r1), some (.inl v3)]) rfl ?_
    refine ax_aloadn hC dX8_respond_27 rfl rfl ?_
    refine ax_lkR hC lk_X8_12 LX_0 rfl dX8_respond_28 ?_
    refine ax_lkR hC lk_X8_74 LX_1 rfl dX8_respond_31 ?_
    refine ax_iloadn hC dX8_respond_34 rfl rfl ?_
    refine ax_iloadn hC dX8_respond_35 rfl rfl ?_
    refine ax_callV0 hC mlk_X8_96 hst_X8_96 LX_5 [.inl x1, .inl x2] rfl rfl (by decide) (by decide) (Nat.le_of_ble_eq_true rfl) dX8_respond_36 (fun r9 s9 h9 => kX0_addResponse _ _ _ _ _ h9) (fun r4 st5 => ?_)
    refine ax_aloadn hC dX8_respond_39 rfl rfl ?_
    refine ax_lkR hC lk_X8_12 LX_0 rfl dX8_respond_40 ?_
    refine ax_lkR hC lk_X8_100 LX_1 rfl dX8_respond_43 ?_
    refine ax_callV0 hC mlk_X8_104 hst_X8_104 LX_20 [] rfl rfl (by decide) (by decide) (Nat.le_of_ble_eq_true rfl) dX8_respond_46 (fun r9 s9 h9 => kX2_empty  _ _ _ h9) (fun r6 st7 => ?_)
    refine ax_iload hC dX8_respond_49 rfl ?_
    exact ax_iret hC dX8_respond_51
  · refine ax_iloadn hC dX8_respond_11 rfl rfl ?_
    exact ax_iret hC dX8_respond_12
set_option maxRecDepth 100000 in
theorem kX0_addCrash (x1 : Int32) (st : ax_S) (r : Int32) (stz : ax_S) (h : fX0_addCrash x1 st = some (r, stz)) : ax_M LX yX0_addCrash cX0_addCrash 2 none 2 [.inr 5, .inl x1] st 0 r stz := by
  refine ax_start (by decide) (Nat.le_of_ble_eq_true rfl) (lv0 := [some (.inr 5), some (.inl x1)]) rfl (fun C X hC => ?_)
  rw [← h]
  unfold fX0_addCrash
  refine ax_aloadn hC dX0_addCrash_0 rfl rfl ?_
  refine ax_lkR hC lk_X0_48 LX_5 rfl dX0_addCrash_1 ?_
  refine ax_iloadn hC dX0_addCrash_4 rfl rfl ?_
  refine ax_iconst hC dX0_addCrash_5 (v := 1) (by decide) ?_
  refine ax_zast hC LX_18 dX0_addCrash_6 (fun st1 => ?_)
  refine ax_aloadn hC dX0_addCrash_7 rfl rfl ?_
  refine ax_iconst hC dX0_addCrash_8 (v := 2) (by decide) ?_
  refine ax_iloadn hC dX0_addCrash_9 rfl rfl ?_
  refine ax_iconst hC dX0_addCrash_10 (v := -1) (by decide) ?_
  refine ax_callV0 hC mlk_X0_73 hst_X0_73 LX_5 [.inl (2 : Int32), .inl x1, .inl (-1 : Int32)] rfl rfl (by decide) (by decide) (Nat.le_of_ble_eq_true rfl) dX0_addCrash_11 (fun r9 s9 h9 => kX0_addEvent _ _ _ _ _ _ h9) (fun r2 st3 => ?_)
  exact ax_vret hC dX0_addCrash_14
set_option maxRecDepth 100000 in
theorem kX8_crash (x1 : Int32) (st : ax_S) (r : Int32) (stz : ax_S) (h : fX8_crash x1 st = some (r, stz)) : ax_M LX yX8_crash cX8_crash 3 (some .int) 3 [.inr 0, .inl x1] st 1 r stz := by
  refine ax_start (by decide) (Nat.le_of_ble_eq_true rfl) (lv0 := [some (.inr 0), some (.inl x1), none]) rfl (fun C X hC => ?_)
  rw [← h]
  unfold fX8_crash
  refine ax_iloadn hC dX8_crash_0 rfl rfl ?_
  refine ax_callS1 hC mlk_X8_109 hst_X8_109 [.inl x1] rfl rfl (by decide) (by decide) (Nat.le_of_ble_eq_true rfl) dX8_crash_1 (fun r9 s9 h9 => kX8_isThread _ _ _ _ h9) (fun r1 st2 => ?_)
  refine ax_if_ne hC dX8_crash_4 (tgt := 9) (by decide) (fun _ => ?_) (fun _ => ?_)
  · refine ax_iconst hC dX8_crash_7 (v := -1) (by decide) ?_
    exact ax_iret hC dX8_crash_8
  · refine ax_aloadn hC dX8_crash_9 rfl rfl ?_
    refine ax_lkR hC lk_X8_12 LX_0 rfl dX8_crash_10 ?_
    refine ax_lkR hC lk_X8_74 LX_1 rfl dX8_crash_13 ?_
    refine ax_lkR hC lk_X8_112 LX_5 rfl dX8_crash_16 ?_
    refine ax_iloadn hC dX8_crash_19 rfl rfl ?_
    refine ax_zald hC LX_18 dX8_crash_20 (fun v3 => ?_)
    refine ax_if_eq hC dX8_crash_21 (tgt := 27) (by decide) (fun _ => ?_) (fun _ => ?_)
    · refine ax_aloadn hC dX8_crash_27 rfl rfl ?_
      refine ax_lkR hC lk_X8_12 LX_0 rfl dX8_crash_28 ?_
      refine ax_lkR hC lk_X8_74 LX_1 rfl dX8_crash_31 ?_
      refine ax_lkI hC lk_X8_78 LX_5 rfl dX8_crash_34 ?_
      refine ax_istoren hC dX8_crash_37 rfl (by decide) (lv' := [some (.inr 0), some (.inl x1), some (.inl (st2.1 5 0))]) rfl ?_
      refine ax_aloadn hC dX8_crash_38 rfl rfl ?_
      refine ax_lkR hC lk_X8_12 LX_0 rfl dX8_crash_39 ?_
      refine ax_lkR hC lk_X8_74 LX_1 rfl dX8_crash_42 ?_
      refine ax_iloadn hC dX8_crash_45 rfl rfl ?_
      refine ax_callV0 hC mlk_X8_116 hst_X8_116 LX_5 [.inl x1] rfl rfl (by decide) (by decide) (Nat.le_of_ble_eq_true rfl) dX8_crash_46 (fun r9 s9 h9 => kX0_addCrash _ _ _ _ h9) (fun r4 st5 => ?_)
      refine ax_aloadn hC dX8_crash_49 rfl rfl ?_
      refine ax_lkR hC lk_X8_12 LX_0 rfl dX8_crash_50 ?_
      refine ax_lkR hC lk_X8_100 LX_1 rfl dX8_crash_53 ?_
      refine ax_callV0 hC mlk_X8_104 hst_X8_104 LX_20 [] rfl rfl (by decide) (by decide) (Nat.le_of_ble_eq_true rfl) dX8_crash_56 (fun r9 s9 h9 => kX2_empty  _ _ _ h9) (fun r6 st7 => ?_)
      refine ax_iloadn hC dX8_crash_59 rfl rfl ?_
      exact ax_iret hC dX8_crash_60
    · refine ax_bipush hC dX8_crash_24 (v := -5) (by decide) ?_
      exact ax_iret hC dX8_crash_26
set_option maxRecDepth 100000 in
theorem kX0_removeLastEvent_b124 {C : ax_C} {X : ax_X} (hC : ax_ok C X LX cX0_removeLastEvent RX0 2 none 1) (st : ax_S) : AW C X LX 2 0 (fX0_removeLastEvent_b124 st) 124 [none, none] [] st := by
  unfold fX0_removeLastEvent_b124
  exact ax_vret hC dX0_removeLastEvent_124
set_option maxRecDepth 100000 in
theorem kX0_removeLastEvent (st : ax_S) (r : Int32) (stz : ax_S) (h : fX0_removeLastEvent st = some (r, stz)) : ax_M LX yX0_removeLastEvent cX0_removeLastEvent 2 none 1 [.inr 5] st 0 r stz := by
  refine ax_start (by decide) (Nat.le_of_ble_eq_true rfl) (lv0 := [some (.inr 5), none]) rfl (fun C X hC => ?_)
  rw [← h]
  unfold fX0_removeLastEvent
  refine ax_aloadn hC dX0_removeLastEvent_0 rfl rfl ?_
  refine ax_lkI hC lk_X0_58 LX_5 rfl dX0_removeLastEvent_1 ?_
  refine ax_if_ne hC dX0_removeLastEvent_4 (tgt := 8) (by decide) (fun _ => ?_) (fun _ => ?_)
  · exact ax_vret hC dX0_removeLastEvent_7
  · refine ax_aloadn hC dX0_removeLastEvent_8 rfl rfl ?_
    refine ax_dup hC dX0_removeLastEvent_9 ?_
    refine ax_lkI hC lk_X0_58 LX_5 rfl dX0_removeLastEvent_10 ?_
    refine ax_iconst hC dX0_removeLastEvent_13 (v := 1) (by decide) ?_
    refine ax_isub hC dX0_removeLastEvent_14 ?_
    refine ax_putI hC lp_X0_58 LX_5 rfl dX0_removeLastEvent_15 (fun st1 => ?_)
    refine ax_aloadn hC dX0_removeLastEvent_18 rfl rfl ?_
    refine ax_lkR hC lk_X0_15 LX_5 rfl dX0_removeLastEvent_19 ?_
    refine ax_aloadn hC dX0_removeLastEvent_22 rfl rfl ?_
    refine ax_lkI hC lk_X0_58 LX_5 rfl dX0_removeLastEvent_23 ?_
    refine ax_iald hC LX_7 dX0_removeLastEvent_26 (fun v2 => ?_)
    refine ax_istoren hC dX0_removeLastEvent_27 rfl (by decide) (lv' := [some (.inr 5), some (.inl v2)]) rfl ?_
    refine ax_aloadn hC dX0_removeLastEvent_28 rfl rfl ?_
    refine ax_lkR hC lk_X0_9 LX_5 rfl dX0_removeLastEvent_29 ?_
    refine ax_aloadn hC dX0_removeLastEvent_32 rfl rfl ?_
    refine ax_lkI hC lk_X0_58 LX_5 rfl dX0_removeLastEvent_33 ?_
    refine ax_iald hC LX_6 dX0_removeLastEvent_36 (fun v3 => ?_)
    refine ax_lsIn hC dX0_removeLastEvent_37 (v := 0) (by decide) (off := 27) (by decide) (tgt := 64) (by decide) ?_ (fun e0 => ?_)
    · refine ax_aloadn hC dX0_removeLastEvent_64 rfl rfl ?_
      refine ax_dup hC dX0_removeLastEvent_65 ?_
      refine ax_lkI hC lk_X0_62 LX_5 rfl dX0_removeLastEvent_66 ?_
      refine ax_iconst hC dX0_removeLastEvent_69 (v := 1) (by decide) ?_
      refine ax_isub hC dX0_removeLastEvent_70 ?_
      refine ax_putI hC lp_X0_62 LX_5 rfl dX0_removeLastEvent_71 (fun st9 => ?_)
      refine ax_aloadn hC dX0_removeLastEvent_74 rfl rfl ?_
      refine ax_lkR hC lk_X0_45 LX_5 rfl dX0_removeLastEvent_75 ?_
      refine ax_iloadn hC dX0_removeLastEvent_78 rfl rfl ?_
      refine ax_iconst hC dX0_removeLastEvent_79 (v := -1) (by decide) ?_
      refine ax_iast hC LX_17 dX0_removeLastEvent_80 (fun st10 => ?_)
      refine ax_goto hC dX0_removeLastEvent_81 (tgt := 124) (by decide) ?_
      refine ax_sub (lv' := [none, none]) (ax_leN (ax_leN ax_le0)) ?_
      exact kX0_removeLastEvent_b124 hC _
    · refine ax_lsIn hC dX0_removeLastEvent_37 (v := 1) (by decide) (off := 47) (by decide) (tgt := 84) (by decide) ?_ (fun e1 => ?_)
      · refine ax_aloadn hC dX0_removeLastEvent_84 rfl rfl ?_
        refine ax_lkR hC lk_X0_45 LX_5 rfl dX0_removeLastEvent_85 ?_
        refine ax_iloadn hC dX0_removeLastEvent_88 rfl rfl ?_
        refine ax_aloadn hC dX0_removeLastEvent_89 rfl rfl ?_
        refine ax_lkR hC lk_X0_18 LX_5 rfl dX0_removeLastEvent_90 ?_
        refine ax_aloadn hC dX0_removeLastEvent_93 rfl rfl ?_
        refine ax_lkI hC lk_X0_58 LX_5 rfl dX0_removeLastEvent_94 ?_
        refine ax_iald hC LX_8 dX0_removeLastEvent_97 (fun v5 => ?_)
        refine ax_iast hC LX_17 dX0_removeLastEvent_98 (fun st6 => ?_)
        refine ax_aloadn hC dX0_removeLastEvent_99 rfl rfl ?_
        refine ax_lkR hC lk_X0_39 LX_5 rfl dX0_removeLastEvent_100 ?_
        refine ax_aloadn hC dX0_removeLastEvent_103 rfl rfl ?_
        refine ax_lkR hC lk_X0_18 LX_5 rfl dX0_removeLastEvent_104 ?_
        refine ax_aloadn hC dX0_removeLastEvent_107 rfl rfl ?_
        refine ax_lkI hC lk_X0_58 LX_5 rfl dX0_removeLastEvent_108 ?_
        refine ax_iald hC LX_8 dX0_removeLastEvent_111 (fun v7 => ?_)
        refine ax_iconst hC dX0_removeLastEvent_112 (v := -1) (by decide) ?_
        refine ax_iast hC LX_15 dX0_removeLastEvent_113 (fun st8 => ?_)
        refine ax_goto hC dX0_removeLastEvent_114 (tgt := 124) (by decide) ?_
        refine ax_sub (lv' := [none, none]) (ax_leN (ax_leN ax_le0)) ?_
        exact kX0_removeLastEvent_b124 hC _
      · refine ax_ls hC dX0_removeLastEvent_37 (by decide) (off := 80) ((lv_osw e0 (by decide)).trans ((lv_osw e1 (by decide)).trans rfl)) (tgt := 117) (by decide) ?_
        refine ax_aloadn hC dX0_removeLastEvent_117 rfl rfl ?_
        refine ax_lkR hC lk_X0_48 LX_5 rfl dX0_removeLastEvent_118 ?_
        refine ax_iloadn hC dX0_removeLastEvent_121 rfl rfl ?_
        refine ax_iconst hC dX0_removeLastEvent_122 (v := 0) (by decide) ?_
        refine ax_zast hC LX_18 dX0_removeLastEvent_123 (fun st4 => ?_)
        refine ax_sub (lv' := [none, none]) (ax_leN (ax_leN ax_le0)) ?_
        exact kX0_removeLastEvent_b124 hC _
set_option maxRecDepth 100000 in
theorem kX8_undo (st : ax_S) (r : Int32) (stz : ax_S) (h : fX8_undo st = some (r, stz)) : ax_M LX yX8_undo cX8_undo 1 (some .int) 2 [.inr 0] st 1 r stz := by
  refine ax_start (by decide) (Nat.le_of_ble_eq_true rfl) (lv0 := [some (.inr 0)]) rfl (fun C X hC => ?_)
  rw [← h]
  unfold fX8_undo
  refine ax_aloadn hC dX8_undo_0 rfl rfl ?_
  refine ax_lkR hC lk_X8_12 LX_0 rfl dX8_undo_1 ?_
  refine ax_lkR hC lk_X8_74 LX_1 rfl dX8_undo_4 ?_
  refine ax_lkI hC lk_X8_78 LX_5 rfl dX8_undo_7 ?_
  refine ax_if_ne hC dX8_undo_10 (tgt := 16) (by decide) (fun _ => ?_) (fun _ => ?_)
  · refine ax_bipush hC dX8_undo_13 (v := -11) (by decide) ?_
    exact ax_iret hC dX8_undo_15
  · refine ax_aloadn hC dX8_undo_16 rfl rfl ?_
    refine ax_lkR hC lk_X8_12 LX_0 rfl dX8_undo_17 ?_
    refine ax_lkR hC lk_X8_74 LX_1 rfl dX8_undo_20 ?_
    refine ax_callV0 hC mlk_X8_120 hst_X8_120 LX_5 [] rfl rfl (by decide) (by decide) (Nat.le_of_ble_eq_true rfl) dX8_undo_23 (fun r9 s9 h9 => kX0_removeLastEvent  _ _ _ h9) (fun r1 st2 => ?_)
    refine ax_aloadn hC dX8_undo_26 rfl rfl ?_
    refine ax_lkR hC lk_X8_12 LX_0 rfl dX8_undo_27 ?_
    refine ax_lkR hC lk_X8_100 LX_1 rfl dX8_undo_30 ?_
    refine ax_callV0 hC mlk_X8_104 hst_X8_104 LX_20 [] rfl rfl (by decide) (by decide) (Nat.le_of_ble_eq_true rfl) dX8_undo_33 (fun r9 s9 h9 => kX2_empty  _ _ _ h9) (fun r3 st4 => ?_)
    refine ax_aloadn hC dX8_undo_36 rfl rfl ?_
    refine ax_lkR hC lk_X8_12 LX_0 rfl dX8_undo_37 ?_
    refine ax_lkR hC lk_X8_74 LX_1 rfl dX8_undo_40 ?_
    refine ax_lkI hC lk_X8_78 LX_5 rfl dX8_undo_43 ?_
    exact ax_iret hC dX8_undo_46
set_option maxRecDepth 100000 in
theorem kX8_eventCount (st : ax_S) (r : Int32) (stz : ax_S) (h : fX8_eventCount st = some (r, stz)) : ax_M LX yX8_eventCount cX8_eventCount 1 (some .int) 1 [.inr 0] st 1 r stz := by
  refine ax_start (by decide) (Nat.le_of_ble_eq_true rfl) (lv0 := [some (.inr 0)]) rfl (fun C X hC => ?_)
  rw [← h]
  unfold fX8_eventCount
  refine ax_aloadn hC dX8_eventCount_0 rfl rfl ?_
  refine ax_lkR hC lk_X8_12 LX_0 rfl dX8_eventCount_1 ?_
  refine ax_lkR hC lk_X8_74 LX_1 rfl dX8_eventCount_4 ?_
  refine ax_lkI hC lk_X8_78 LX_5 rfl dX8_eventCount_7 ?_
  exact ax_iret hC dX8_eventCount_10
set_option maxRecDepth 100000 in
theorem kX8_operationCount (st : ax_S) (r : Int32) (stz : ax_S) (h : fX8_operationCount st = some (r, stz)) : ax_M LX yX8_operationCount cX8_operationCount 1 (some .int) 1 [.inr 0] st 1 r stz := by
  refine ax_start (by decide) (Nat.le_of_ble_eq_true rfl) (lv0 := [some (.inr 0)]) rfl (fun C X hC => ?_)
  rw [← h]
  unfold fX8_operationCount
  refine ax_aloadn hC dX8_operationCount_0 rfl rfl ?_
  refine ax_lkR hC lk_X8_12 LX_0 rfl dX8_operationCount_1 ?_
  refine ax_lkR hC lk_X8_74 LX_1 rfl dX8_operationCount_4 ?_
  refine ax_lkI hC lk_X8_123 LX_5 rfl dX8_operationCount_7 ?_
  exact ax_iret hC dX8_operationCount_10
set_option maxRecDepth 100000 in
theorem kX8_kindOf (x1 : Int32) (st : ax_S) (r : Int32) (stz : ax_S) (h : fX8_kindOf x1 st = some (r, stz)) : ax_M LX yX8_kindOf cX8_kindOf 2 (some .int) 3 [.inr 0, .inl x1] st 1 r stz := by
  refine ax_start (by decide) (Nat.le_of_ble_eq_true rfl) (lv0 := [some (.inr 0), some (.inl x1)]) rfl (fun C X hC => ?_)
  rw [← h]
  unfold fX8_kindOf
  refine ax_aloadn hC dX8_kindOf_0 rfl rfl ?_
  refine ax_lkR hC lk_X8_12 LX_0 rfl dX8_kindOf_1 ?_
  refine ax_lkR hC lk_X8_74 LX_1 rfl dX8_kindOf_4 ?_
  refine ax_iloadn hC dX8_kindOf_7 rfl rfl ?_
  refine ax_callV1 hC mlk_X8_126 hst_X8_126 LX_5 [.inl x1] rfl rfl (by decide) (by decide) (Nat.le_of_ble_eq_true rfl) dX8_kindOf_8 (fun r9 s9 h9 => kX0_has _ _ _ _ h9) (fun r1 st2 => ?_)
  refine ax_if_ne hC dX8_kindOf_11 (tgt := 17) (by decide) (fun _ => ?_) (fun _ => ?_)
  · refine ax_bipush hC dX8_kindOf_14 (v := -9) (by decide) ?_
    exact ax_iret hC dX8_kindOf_16
  · refine ax_aloadn hC dX8_kindOf_17 rfl rfl ?_
    refine ax_lkR hC lk_X8_12 LX_0 rfl dX8_kindOf_18 ?_
    refine ax_lkR hC lk_X8_74 LX_1 rfl dX8_kindOf_21 ?_
    refine ax_lkR hC lk_X8_127 LX_5 rfl dX8_kindOf_24 ?_
    refine ax_iloadn hC dX8_kindOf_27 rfl rfl ?_
    refine ax_iald hC LX_9 dX8_kindOf_28 (fun v3 => ?_)
    exact ax_iret hC dX8_kindOf_29
set_option maxRecDepth 100000 in
theorem kX8_threadOf (x1 : Int32) (st : ax_S) (r : Int32) (stz : ax_S) (h : fX8_threadOf x1 st = some (r, stz)) : ax_M LX yX8_threadOf cX8_threadOf 2 (some .int) 3 [.inr 0, .inl x1] st 1 r stz := by
  refine ax_start (by decide) (Nat.le_of_ble_eq_true rfl) (lv0 := [some (.inr 0), some (.inl x1)]) rfl (fun C X hC => ?_)
  rw [← h]
  unfold fX8_threadOf
  refine ax_aloadn hC dX8_threadOf_0 rfl rfl ?_
  refine ax_lkR hC lk_X8_12 LX_0 rfl dX8_threadOf_1 ?_
  refine ax_lkR hC lk_X8_74 LX_1 rfl dX8_threadOf_4 ?_
  refine ax_iloadn hC dX8_threadOf_7 rfl rfl ?_
  refine ax_callV1 hC mlk_X8_126 hst_X8_126 LX_5 [.inl x1] rfl rfl (by decide) (by decide) (Nat.le_of_ble_eq_true rfl) dX8_threadOf_8 (fun r9 s9 h9 => kX0_has _ _ _ _ h9) (fun r1 st2 => ?_)
  refine ax_if_ne hC dX8_threadOf_11 (tgt := 17) (by decide) (fun _ => ?_) (fun _ => ?_)
  · refine ax_bipush hC dX8_threadOf_14 (v := -9) (by decide) ?_
    exact ax_iret hC dX8_threadOf_16
  · refine ax_aloadn hC dX8_threadOf_17 rfl rfl ?_
    refine ax_lkR hC lk_X8_12 LX_0 rfl dX8_threadOf_18 ?_
    refine ax_lkR hC lk_X8_74 LX_1 rfl dX8_threadOf_21 ?_
    refine ax_lkR hC lk_X8_130 LX_5 rfl dX8_threadOf_24 ?_
    refine ax_iloadn hC dX8_threadOf_27 rfl rfl ?_
    refine ax_iald hC LX_10 dX8_threadOf_28 (fun v3 => ?_)
    exact ax_iret hC dX8_threadOf_29
set_option maxRecDepth 100000 in
theorem kX8_objectOf (x1 : Int32) (st : ax_S) (r : Int32) (stz : ax_S) (h : fX8_objectOf x1 st = some (r, stz)) : ax_M LX yX8_objectOf cX8_objectOf 2 (some .int) 3 [.inr 0, .inl x1] st 1 r stz := by
  refine ax_start (by decide) (Nat.le_of_ble_eq_true rfl) (lv0 := [some (.inr 0), some (.inl x1)]) rfl (fun C X hC => ?_)
  rw [← h]
  unfold fX8_objectOf
  refine ax_aloadn hC dX8_objectOf_0 rfl rfl ?_
  refine ax_lkR hC lk_X8_12 LX_0 rfl dX8_objectOf_1 ?_
  refine ax_lkR hC lk_X8_74 LX_1 rfl dX8_objectOf_4 ?_
  refine ax_iloadn hC dX8_objectOf_7 rfl rfl ?_
  refine ax_callV1 hC mlk_X8_126 hst_X8_126 LX_5 [.inl x1] rfl rfl (by decide) (by decide) (Nat.le_of_ble_eq_true rfl) dX8_objectOf_8 (fun r9 s9 h9 => kX0_has _ _ _ _ h9) (fun r1 st2 => ?_)
  refine ax_if_ne hC dX8_objectOf_11 (tgt := 17) (by decide) (fun _ => ?_) (fun _ => ?_)
  · refine ax_bipush hC dX8_objectOf_14 (v := -9) (by decide) ?_
    exact ax_iret hC dX8_objectOf_16
  · refine ax_aloadn hC dX8_objectOf_17 rfl rfl ?_
    refine ax_lkR hC lk_X8_12 LX_0 rfl dX8_objectOf_18 ?_
    refine ax_lkR hC lk_X8_74 LX_1 rfl dX8_objectOf_21 ?_
    refine ax_lkR hC lk_X8_133 LX_5 rfl dX8_objectOf_24 ?_
    refine ax_iloadn hC dX8_objectOf_27 rfl rfl ?_
    refine ax_iald hC LX_11 dX8_objectOf_28 (fun v3 => ?_)
    exact ax_iret hC dX8_objectOf_29
set_option maxRecDepth 100000 in
theorem kX8_invocationTime (x1 : Int32) (st : ax_S) (r : Int32) (stz : ax_S) (h : fX8_invocationTime x1 st = some (r, stz)) : ax_M LX yX8_invocationTime cX8_invocationTime 2 (some .int) 3 [.inr 0, .inl x1] st 1 r stz := by
  refine ax_start (by decide) (Nat.le_of_ble_eq_true rfl) (lv0 := [some (.inr 0), some (.inl x1)]) rfl (fun C X hC => ?_)
  rw [← h]
  unfold fX8_invocationTime
  refine ax_aloadn hC dX8_invocationTime_0 rfl rfl ?_
  refine ax_lkR hC lk_X8_12 LX_0 rfl dX8_invocationTime_1 ?_
  refine ax_lkR hC lk_X8_74 LX_1 rfl dX8_invocationTime_4 ?_
  refine ax_iloadn hC dX8_invocationTime_7 rfl rfl ?_
  refine ax_callV1 hC mlk_X8_126 hst_X8_126 LX_5 [.inl x1] rfl rfl (by decide) (by decide) (Nat.le_of_ble_eq_true rfl) dX8_invocationTime_8 (fun r9 s9 h9 => kX0_has _ _ _ _ h9) (fun r1 st2 => ?_)
  refine ax_if_ne hC dX8_invocationTime_11 (tgt := 17) (by decide) (fun _ => ?_) (fun _ => ?_)
  · refine ax_bipush hC dX8_invocationTime_14 (v := -9) (by decide) ?_
    exact ax_iret hC dX8_invocationTime_16
  · refine ax_aloadn hC dX8_invocationTime_17 rfl rfl ?_
    refine ax_lkR hC lk_X8_12 LX_0 rfl dX8_invocationTime_18 ?_
    refine ax_lkR hC lk_X8_74 LX_1 rfl dX8_invocationTime_21 ?_
    refine ax_lkR hC lk_X8_135 LX_5 rfl dX8_invocationTime_24 ?_
    refine ax_iloadn hC dX8_invocationTime_27 rfl rfl ?_
    refine ax_iald hC LX_14 dX8_invocationTime_28 (fun v3 => ?_)
    exact ax_iret hC dX8_invocationTime_29
set_option maxRecDepth 100000 in
theorem kX0_isPending_b15 {C : ax_C} {X : ax_X} (hC : ax_ok C X LX cX0_isPending RX0 2 (some .boolean) 1) (s0 : Int32) (st : ax_S) : AW C X LX 2 1 (fX0_isPending_b15 s0 st) 15 [none, none] [.inl s0] st := by
  unfold fX0_isPending_b15
  exact ax_zret hC dX0_isPending_15
set_option maxRecDepth 100000 in
theorem kX0_isPending (x1 : Int32) (st : ax_S) (r : Int32) (stz : ax_S) (h : fX0_isPending x1 st = some (r, stz)) : ax_M LX yX0_isPending cX0_isPending 2 (some .boolean) 1 [.inr 5, .inl x1] st 1 r stz := by
  refine ax_start (by decide) (Nat.le_of_ble_eq_true rfl) (lv0 := [some (.inr 5), some (.inl x1)]) rfl (fun C X hC => ?_)
  rw [← h]
  unfold fX0_isPending
  refine ax_aloadn hC dX0_isPending_0 rfl rfl ?_
  refine ax_lkR hC lk_X0_39 LX_5 rfl dX0_isPending_1 ?_
  refine ax_iloadn hC dX0_isPending_4 rfl rfl ?_
  refine ax_iald hC LX_15 dX0_isPending_5 (fun v1 => ?_)
  refine ax_iconst hC dX0_isPending_6 (v := -1) (by decide) ?_
  refine ax_icmp_ne hC dX0_isPending_7 (tgt := 14) (by decide) (fun _ => ?_) (fun _ => ?_)
  · refine ax_iconst hC dX0_isPending_10 (v := 1) (by decide) ?_
    refine ax_goto hC dX0_isPending_11 (tgt := 15) (by decide) ?_
    refine ax_sub (lv' := [none, none]) (ax_leN (ax_leN ax_le0)) ?_
    exact kX0_isPending_b15 hC _ _
  · refine ax_iconst hC dX0_isPending_14 (v := 0) (by decide) ?_
    refine ax_sub (lv' := [none, none]) (ax_leN (ax_leN ax_le0)) ?_
    exact kX0_isPending_b15 hC _ _
set_option maxRecDepth 100000 in
theorem kX8_responseTime (x1 : Int32) (st : ax_S) (r : Int32) (stz : ax_S) (h : fX8_responseTime x1 st = some (r, stz)) : ax_M LX yX8_responseTime cX8_responseTime 2 (some .int) 3 [.inr 0, .inl x1] st 1 r stz := by
  refine ax_start (by decide) (Nat.le_of_ble_eq_true rfl) (lv0 := [some (.inr 0), some (.inl x1)]) rfl (fun C X hC => ?_)
  rw [← h]
  unfold fX8_responseTime
  refine ax_aloadn hC dX8_responseTime_0 rfl rfl ?_
  refine ax_lkR hC lk_X8_12 LX_0 rfl dX8_responseTime_1 ?_
  refine ax_lkR hC lk_X8_74 LX_1 rfl dX8_responseTime_4 ?_
  refine ax_iloadn hC dX8_responseTime_7 rfl rfl ?_
  refine ax_callV1 hC mlk_X8_126 hst_X8_126 LX_5 [.inl x1] rfl rfl (by decide) (by decide) (Nat.le_of_ble_eq_true rfl) dX8_responseTime_8 (fun r9 s9 h9 => kX0_has _ _ _ _ h9) (fun r1 st2 => ?_)
  refine ax_if_ne hC dX8_responseTime_11 (tgt := 17) (by decide) (fun _ => ?_) (fun _ => ?_)
  · refine ax_bipush hC dX8_responseTime_14 (v := -9) (by decide) ?_
    exact ax_iret hC dX8_responseTime_16
  · refine ax_aloadn hC dX8_responseTime_17 rfl rfl ?_
    refine ax_lkR hC lk_X8_12 LX_0 rfl dX8_responseTime_18 ?_
    refine ax_lkR hC lk_X8_74 LX_1 rfl dX8_responseTime_21 ?_
    refine ax_iloadn hC dX8_responseTime_24 rfl rfl ?_
    refine ax_callV1 hC mlk_X8_138 hst_X8_138 LX_5 [.inl x1] rfl rfl (by decide) (by decide) (Nat.le_of_ble_eq_true rfl) dX8_responseTime_25 (fun r9 s9 h9 => kX0_isPending _ _ _ _ h9) (fun r3 st4 => ?_)
    refine ax_if_eq hC dX8_responseTime_28 (tgt := 34) (by decide) (fun _ => ?_) (fun _ => ?_)
    · refine ax_aloadn hC dX8_responseTime_34 rfl rfl ?_
      refine ax_lkR hC lk_X8_12 LX_0 rfl dX8_responseTime_35 ?_
      refine ax_lkR hC lk_X8_74 LX_1 rfl dX8_responseTime_38 ?_
      refine ax_lkR hC lk_X8_141 LX_5 rfl dX8_responseTime_41 ?_
      refine ax_iloadn hC dX8_responseTime_44 rfl rfl ?_
      refine ax_iald hC LX_15 dX8_responseTime_45 (fun v5 => ?_)
      exact ax_iret hC dX8_responseTime_46
    · refine ax_bipush hC dX8_responseTime_31 (v := -10) (by decide) ?_
      exact ax_iret hC dX8_responseTime_33
set_option maxRecDepth 100000 in
theorem kX8_resultOf (x1 : Int32) (st : ax_S) (r : Int32) (stz : ax_S) (h : fX8_resultOf x1 st = some (r, stz)) : ax_M LX yX8_resultOf cX8_resultOf 2 (some .int) 3 [.inr 0, .inl x1] st 1 r stz := by
  refine ax_start (by decide) (Nat.le_of_ble_eq_true rfl) (lv0 := [some (.inr 0), some (.inl x1)]) rfl (fun C X hC => ?_)
  rw [← h]
  unfold fX8_resultOf
  refine ax_aloadn hC dX8_resultOf_0 rfl rfl ?_
  refine ax_lkR hC lk_X8_12 LX_0 rfl dX8_resultOf_1 ?_
  refine ax_lkR hC lk_X8_74 LX_1 rfl dX8_resultOf_4 ?_
  refine ax_iloadn hC dX8_resultOf_7 rfl rfl ?_
  refine ax_callV1 hC mlk_X8_126 hst_X8_126 LX_5 [.inl x1] rfl rfl (by decide) (by decide) (Nat.le_of_ble_eq_true rfl) dX8_resultOf_8 (fun r9 s9 h9 => kX0_has _ _ _ _ h9) (fun r1 st2 => ?_)
  refine ax_if_ne hC dX8_resultOf_11 (tgt := 17) (by decide) (fun _ => ?_) (fun _ => ?_)
  · refine ax_bipush hC dX8_resultOf_14 (v := -9) (by decide) ?_
    exact ax_iret hC dX8_resultOf_16
  · refine ax_aloadn hC dX8_resultOf_17 rfl rfl ?_
    refine ax_lkR hC lk_X8_12 LX_0 rfl dX8_resultOf_18 ?_
    refine ax_lkR hC lk_X8_74 LX_1 rfl dX8_resultOf_21 ?_
    refine ax_iloadn hC dX8_resultOf_24 rfl rfl ?_
    refine ax_callV1 hC mlk_X8_138 hst_X8_138 LX_5 [.inl x1] rfl rfl (by decide) (by decide) (Nat.le_of_ble_eq_true rfl) dX8_resultOf_25 (fun r9 s9 h9 => kX0_isPending _ _ _ _ h9) (fun r3 st4 => ?_)
    refine ax_if_eq hC dX8_resultOf_28 (tgt := 34) (by decide) (fun _ => ?_) (fun _ => ?_)
    · refine ax_aloadn hC dX8_resultOf_34 rfl rfl ?_
      refine ax_lkR hC lk_X8_12 LX_0 rfl dX8_resultOf_35 ?_
      refine ax_lkR hC lk_X8_74 LX_1 rfl dX8_resultOf_38 ?_
      refine ax_lkR hC lk_X8_144 LX_5 rfl dX8_resultOf_41 ?_
      refine ax_iloadn hC dX8_resultOf_44 rfl rfl ?_
      refine ax_iald hC LX_16 dX8_resultOf_45 (fun v5 => ?_)
      refine ax_sipush hC dX8_resultOf_46 (v := 1000) (by decide) ?_
      refine ax_iadd hC dX8_resultOf_49 ?_
      exact ax_iret hC dX8_resultOf_50
    · refine ax_bipush hC dX8_resultOf_31 (v := -10) (by decide) ?_
      exact ax_iret hC dX8_resultOf_33
set_option maxRecDepth 100000 in
theorem kX0_isBefore_b28 {C : ax_C} {X : ax_X} (hC : ax_ok C X LX cX0_isBefore RX0 3 (some .boolean) 2) (s0 : Int32) (st : ax_S) : AW C X LX 3 1 (fX0_isBefore_b28 s0 st) 28 [none, none, none] [.inl s0] st := by
  unfold fX0_isBefore_b28
  exact ax_zret hC dX0_isBefore_28
set_option maxRecDepth 100000 in
theorem kX0_isBefore_b27 {C : ax_C} {X : ax_X} (hC : ax_ok C X LX cX0_isBefore RX0 3 (some .boolean) 2) (st : ax_S) : AW C X LX 3 1 (fX0_isBefore_b27 st) 27 [none, none, none] [] st := by
  unfold fX0_isBefore_b27
  refine ax_iconst hC dX0_isBefore_27 (v := 0) (by decide) ?_
  exact kX0_isBefore_b28 hC _ _
set_option maxRecDepth 100000 in
theorem kX0_isBefore (x1 : Int32) (x2 : Int32) (st : ax_S) (r : Int32) (stz : ax_S) (h : fX0_isBefore x1 x2 st = some (r, stz)) : ax_M LX yX0_isBefore cX0_isBefore 3 (some .boolean) 2 [.inr 5, .inl x1, .inl x2] st 1 r stz := by
  refine ax_start (by decide) (Nat.le_of_ble_eq_true rfl) (lv0 := [some (.inr 5), some (.inl x1), some (.inl x2)]) rfl (fun C X hC => ?_)
  rw [← h]
  unfold fX0_isBefore
  refine ax_aloadn hC dX0_isBefore_0 rfl rfl ?_
  refine ax_iloadn hC dX0_isBefore_1 rfl rfl ?_
  refine ax_callV1 hC mlk_X0_69 hst_X0_69 LX_5 [.inl x1] rfl rfl (by decide) (by decide) (Nat.le_of_ble_eq_true rfl) dX0_isBefore_2 (fun r9 s9 h9 => kX0_isPending _ _ _ _ h9) (fun r1 st2 => ?_)
  refine ax_if_ne hC dX0_isBefore_5 (tgt := 27) (by decide) (fun _ => ?_) (fun _ => ?_)
  · refine ax_aloadn hC dX0_isBefore_8 rfl rfl ?_
    refine ax_lkR hC lk_X0_39 LX_5 rfl dX0_isBefore_9 ?_
    refine ax_iloadn hC dX0_isBefore_12 rfl rfl ?_
    refine ax_iald hC LX_15 dX0_isBefore_13 (fun v3 => ?_)
    refine ax_aloadn hC dX0_isBefore_14 rfl rfl ?_
    refine ax_lkR hC lk_X0_36 LX_5 rfl dX0_isBefore_15 ?_
    refine ax_iloadn hC dX0_isBefore_18 rfl rfl ?_
    refine ax_iald hC LX_14 dX0_isBefore_19 (fun v4 => ?_)
    refine ax_icmp_ge hC dX0_isBefore_20 (tgt := 27) (by decide) (fun _ => ?_) (fun _ => ?_)
    · refine ax_sub (lv' := [none, none, none]) (ax_leN (ax_leN (ax_leN ax_le0))) ?_
      exact kX0_isBefore_b27 hC _
    · refine ax_iconst hC dX0_isBefore_23 (v := 1) (by decide) ?_
      refine ax_goto hC dX0_isBefore_24 (tgt := 28) (by decide) ?_
      refine ax_sub (lv' := [none, none, none]) (ax_leN (ax_leN (ax_leN ax_le0))) ?_
      exact kX0_isBefore_b28 hC _ _
  · refine ax_sub (lv' := [none, none, none]) (ax_leN (ax_leN (ax_leN ax_le0))) ?_
    exact kX0_isBefore_b27 hC _
set_option maxRecDepth 100000 in
theorem kX8_truth_b9 {C : ax_C} {X : ax_X} (hC : ax_ok C X LX cX8_truth RX8 1 (some .int) 1) (s0 : Int32) (st : ax_S) : AW C X LX 1 1 (fX8_truth_b9 s0 st) 9 [none] [.inl s0] st := by
  unfold fX8_truth_b9
  exact ax_iret hC dX8_truth_9
set_option maxRecDepth 100000 in
theorem kX8_truth (x0 : Int32) (st : ax_S) (r : Int32) (stz : ax_S) (h : fX8_truth x0 st = some (r, stz)) : ax_M LX yX8_truth cX8_truth 1 (some .int) 1 [.inl x0] st 1 r stz := by
  refine ax_start (by decide) (Nat.le_of_ble_eq_true rfl) (lv0 := [some (.inl x0)]) rfl (fun C X hC => ?_)
  rw [← h]
  unfold fX8_truth
  refine ax_iloadn hC dX8_truth_0 rfl rfl ?_
  refine ax_if_eq hC dX8_truth_1 (tgt := 8) (by decide) (fun _ => ?_) (fun _ => ?_)
  · refine ax_iconst hC dX8_truth_8 (v := 0) (by decide) ?_
    refine ax_sub (lv' := [none]) (ax_leN ax_le0) ?_
    exact kX8_truth_b9 hC _ _
  · refine ax_iconst hC dX8_truth_4 (v := 1) (by decide) ?_
    refine ax_goto hC dX8_truth_5 (tgt := 9) (by decide) ?_
    refine ax_sub (lv' := [none]) (ax_leN ax_le0) ?_
    exact kX8_truth_b9 hC _ _
set_option maxRecDepth 100000 in
theorem kX8_precedes_b28 {C : ax_C} {X : ax_X} (hC : ax_ok C X LX cX8_precedes RX8 3 (some .int) 3) (st : ax_S) : AW C X LX 3 1 (fX8_precedes_b28 st) 28 [none, none, none] [] st := by
  unfold fX8_precedes_b28
  refine ax_bipush hC dX8_precedes_28 (v := -9) (by decide) ?_
  exact ax_iret hC dX8_precedes_30
set_option maxRecDepth 100000 in
theorem kX8_precedes (x1 : Int32) (x2 : Int32) (st : ax_S) (r : Int32) (stz : ax_S) (h : fX8_precedes x1 x2 st = some (r, stz)) : ax_M LX yX8_precedes cX8_precedes 3 (some .int) 3 [.inr 0, .inl x1, .inl x2] st 1 r stz := by
  refine ax_start (by decide) (Nat.le_of_ble_eq_true rfl) (lv0 := [some (.inr 0), some (.inl x1), some (.inl x2)]) rfl (fun C X hC => ?_)
  rw [← h]
  unfold fX8_precedes
  refine ax_aloadn hC dX8_precedes_0 rfl rfl ?_
  refine ax_lkR hC lk_X8_12 LX_0 rfl dX8_precedes_1 ?_
  refine ax_lkR hC lk_X8_74 LX_1 rfl dX8_precedes_4 ?_
  refine ax_iloadn hC dX8_precedes_7 rfl rfl ?_
  refine ax_callV1 hC mlk_X8_126 hst_X8_126 LX_5 [.inl x1] rfl rfl (by decide) (by decide) (Nat.le_of_ble_eq_true rfl) dX8_precedes_8 (fun r9 s9 h9 => kX0_has _ _ _ _ h9) (fun r1 st2 => ?_)
  refine ax_if_eq hC dX8_precedes_11 (tgt := 28) (by decide) (fun _ => ?_) (fun _ => ?_)
  · refine ax_sub (lv' := [none, none, none]) (ax_leN (ax_leN (ax_leN ax_le0))) ?_
    exact kX8_precedes_b28 hC _
  · refine ax_aloadn hC dX8_precedes_14 rfl rfl ?_
    refine ax_lkR hC lk_X8_12 LX_0 rfl dX8_precedes_15 ?_
    refine ax_lkR hC lk_X8_74 LX_1 rfl dX8_precedes_18 ?_
    refine ax_iloadn hC dX8_precedes_21 rfl rfl ?_
    refine ax_callV1 hC mlk_X8_126 hst_X8_126 LX_5 [.inl x2] rfl rfl (by decide) (by decide) (Nat.le_of_ble_eq_true rfl) dX8_precedes_22 (fun r9 s9 h9 => kX0_has _ _ _ _ h9) (fun r3 st4 => ?_)
    refine ax_if_ne hC dX8_precedes_25 (tgt := 31) (by decide) (fun _ => ?_) (fun _ => ?_)
    · refine ax_sub (lv' := [none, none, none]) (ax_leN (ax_leN (ax_leN ax_le0))) ?_
      exact kX8_precedes_b28 hC _
    · refine ax_aloadn hC dX8_precedes_31 rfl rfl ?_
      refine ax_lkR hC lk_X8_12 LX_0 rfl dX8_precedes_32 ?_
      refine ax_lkR hC lk_X8_74 LX_1 rfl dX8_precedes_35 ?_
      refine ax_iloadn hC dX8_precedes_38 rfl rfl ?_
      refine ax_iloadn hC dX8_precedes_39 rfl rfl ?_
      refine ax_callV1 hC mlk_X8_147 hst_X8_147 LX_5 [.inl x1, .inl x2] rfl rfl (by decide) (by decide) (Nat.le_of_ble_eq_true rfl) dX8_precedes_40 (fun r9 s9 h9 => kX0_isBefore _ _ _ _ _ h9) (fun r5 st6 => ?_)
      refine ax_callS1 hC mlk_X8_151 hst_X8_151 [.inl r5] rfl rfl (by decide) (by decide) (Nat.le_of_ble_eq_true rfl) dX8_precedes_43 (fun r9 s9 h9 => kX8_truth _ _ _ _ h9) (fun r7 st8 => ?_)
      exact ax_iret hC dX8_precedes_46
set_option maxRecDepth 100000 in
theorem kX0_mostPending_b42 {C : ax_C} {X : ax_X} (hC : ax_ok C X LX cX0_mostPending RX0 4 (some .int) 1) {rec6 : Int32 → Int32 → Int32 → ax_S → ax_R} (hrec6 : ∀ (x1 : Int32) (x2 : Int32) (x3 : Int32) (st : ax_S), AW C X LX 4 1 (rec6 x1 x2 x3 st) 6 [some (.inr 5), some (.inl x1), some (.inl x2), some (.inl x3)] [] st) (x1 : Int32) (x2 : Int32) (x3 : Int32) (st : ax_S) : AW C X LX 4 1 (fX0_mostPending_b42 rec6 x1 x2 x3 st) 42 [some (.inr 5), some (.inl x1), some (.inl x2), some (.inl x3)] [] st := by
  unfold fX0_mostPending_b42
  refine ax_iloadn hC dX0_mostPending_42 rfl rfl ?_
  refine ax_iloadn hC dX0_mostPending_43 rfl rfl ?_
  refine ax_mmax hC mx_X0_80 (by decide) (Nat.le_of_ble_eq_true rfl) dX0_mostPending_44 ?_
  refine ax_istoren hC dX0_mostPending_47 rfl (by decide) (lv' := [some (.inr 5), some (.inl x1), some (.inl (ax_mx x2 x1)), some (.inl x3)]) rfl ?_
  refine ax_iinc hC dX0_mostPending_48 rfl (v := (x3 + (1 : Int32))) rfl (by decide) (lv' := [some (.inr 5), some (.inl x1), some (.inl (ax_mx x2 x1)), some (.inl (x3 + (1 : Int32)))]) rfl ?_
  refine ax_goto hC dX0_mostPending_51 (tgt := 6) (by decide) ?_
  exact hrec6 _ _ _ _
set_option maxRecDepth 100000 in
theorem kX0_mostPending_L6 {C : ax_C} {X : ax_X} (hC : ax_ok C X LX cX0_mostPending RX0 4 (some .int) 1) : ∀ (n : Nat) (x1 : Int32) (x2 : Int32) (x3 : Int32) (st : ax_S), AW C X LX 4 1 (fX0_mostPending_L6 n x1 x2 x3 st) 6 [some (.inr 5), some (.inl x1), some (.inl x2), some (.inl x3)] [] st := by
  intro n
  induction n with
  | zero => intros; exact ax_none rfl
  | succ n hrec60 =>
    intro x1 x2 x3 st
    have hrec6 := hrec60
    rw [fX0_mostPending_L6.eq_2]
    refine ax_iloadn hC dX0_mostPending_6 rfl rfl ?_
    refine ax_aloadn hC dX0_mostPending_7 rfl rfl ?_
    refine ax_lkI hC lk_X0_58 LX_5 rfl dX0_mostPending_8 ?_
    refine ax_icmp_ge hC dX0_mostPending_11 (tgt := 54) (by decide) (fun _ => ?_) (fun _ => ?_)
    · refine ax_iloadn hC dX0_mostPending_54 rfl rfl ?_
      exact ax_iret hC dX0_mostPending_55
    · refine ax_aloadn hC dX0_mostPending_14 rfl rfl ?_
      refine ax_lkR hC lk_X0_9 LX_5 rfl dX0_mostPending_15 ?_
      refine ax_iloadn hC dX0_mostPending_18 rfl rfl ?_
      refine ax_iald hC LX_6 dX0_mostPending_19 (fun v1 => ?_)
      refine ax_if_ne hC dX0_mostPending_20 (tgt := 29) (by decide) (fun _ => ?_) (fun _ => ?_)
      · refine ax_iinc hC dX0_mostPending_23 rfl (v := (x1 + (1 : Int32))) rfl (by decide) (lv' := [some (.inr 5), some (.inl (x1 + (1 : Int32))), some (.inl x2), some (.inl x3)]) rfl ?_
        refine ax_goto hC dX0_mostPending_26 (tgt := 42) (by decide) ?_
        exact kX0_mostPending_b42 hC hrec6 _ _ _ _
      · refine ax_aloadn hC dX0_mostPending_29 rfl rfl ?_
        refine ax_lkR hC lk_X0_9 LX_5 rfl dX0_mostPending_30 ?_
        refine ax_iloadn hC dX0_mostPending_33 rfl rfl ?_
        refine ax_iald hC LX_6 dX0_mostPending_34 (fun v2 => ?_)
        refine ax_iconst hC dX0_mostPending_35 (v := 1) (by decide) ?_
        refine ax_icmp_ne hC dX0_mostPending_36 (tgt := 42) (by decide) (fun _ => ?_) (fun _ => ?_)
        · refine ax_iinc hC dX0_mostPending_39 rfl (v := (x1 + (-1 : Int32))) rfl (by decide) (lv' := [some (.inr 5), some (.inl (x1 + (-1 : Int32))), some (.inl x2), some (.inl x3)]) rfl ?_
          exact kX0_mostPending_b42 hC hrec6 _ _ _ _
        · exact kX0_mostPending_b42 hC hrec6 _ _ _ _
set_option maxRecDepth 100000 in
theorem kX0_mostPending (st : ax_S) (r : Int32) (stz : ax_S) (h : fX0_mostPending st = some (r, stz)) : ax_M LX yX0_mostPending cX0_mostPending 4 (some .int) 1 [.inr 5] st 1 r stz := by
  refine ax_start (by decide) (Nat.le_of_ble_eq_true rfl) (lv0 := [some (.inr 5), none, none, none]) rfl (fun C X hC => ?_)
  rw [← h]
  unfold fX0_mostPending
  refine ax_iconst hC dX0_mostPending_0 (v := 0) (by decide) ?_
  refine ax_istoren hC dX0_mostPending_1 rfl (by decide) (lv' := [some (.inr 5), some (.inl (0 : Int32)), none, none]) rfl ?_
  refine ax_iconst hC dX0_mostPending_2 (v := 0) (by decide) ?_
  refine ax_istoren hC dX0_mostPending_3 rfl (by decide) (lv' := [some (.inr 5), some (.inl (0 : Int32)), some (.inl (0 : Int32)), none]) rfl ?_
  refine ax_iconst hC dX0_mostPending_4 (v := 0) (by decide) ?_
  refine ax_istoren hC dX0_mostPending_5 rfl (by decide) (lv' := [some (.inr 5), some (.inl (0 : Int32)), some (.inl (0 : Int32)), some (.inl (0 : Int32))]) rfl ?_
  exact kX0_mostPending_L6 hC 4000 _ _ _ _
set_option maxRecDepth 100000 in
theorem kX8_maxPending (st : ax_S) (r : Int32) (stz : ax_S) (h : fX8_maxPending st = some (r, stz)) : ax_M LX yX8_maxPending cX8_maxPending 1 (some .int) 2 [.inr 0] st 1 r stz := by
  refine ax_start (by decide) (Nat.le_of_ble_eq_true rfl) (lv0 := [some (.inr 0)]) rfl (fun C X hC => ?_)
  rw [← h]
  unfold fX8_maxPending
  refine ax_aloadn hC dX8_maxPending_0 rfl rfl ?_
  refine ax_lkR hC lk_X8_12 LX_0 rfl dX8_maxPending_1 ?_
  refine ax_lkR hC lk_X8_74 LX_1 rfl dX8_maxPending_4 ?_
  refine ax_callV1 hC mlk_X8_155 hst_X8_155 LX_5 [] rfl rfl (by decide) (by decide) (Nat.le_of_ble_eq_true rfl) dX8_maxPending_7 (fun r9 s9 h9 => kX0_mostPending  _ _ _ h9) (fun r1 st2 => ?_)
  exact ax_iret hC dX8_maxPending_10
set_option maxRecDepth 100000 in
theorem kX0_chainLength_b58 {C : ax_C} {X : ax_X} (hC : ax_ok C X LX cX0_chainLength RX0 4 (some .int) 3) {rec4 : Int32 → Int32 → ax_S → ax_R} {rec21 : Int32 → Int32 → Int32 → ax_S → ax_R} (hrec4 : ∀ (x1 : Int32) (x2 : Int32) (st : ax_S), AW C X LX 4 1 (rec4 x1 x2 st) 4 [some (.inr 5), some (.inl x1), some (.inl x2), none] [] st) (hrec21 : ∀ (x1 : Int32) (x2 : Int32) (x3 : Int32) (st : ax_S), AW C X LX 4 1 (rec21 x1 x2 x3 st) 21 [some (.inr 5), some (.inl x1), some (.inl x2), some (.inl x3)] [] st) (x1 : Int32) (x2 : Int32) (x3 : Int32) (st : ax_S) : AW C X LX 4 1 (fX0_chainLength_b58 rec4 rec21 x1 x2 x3 st) 58 [some (.inr 5), some (.inl x1), some (.inl x2), some (.inl x3)] [] st := by
  unfold fX0_chainLength_b58
  refine ax_iinc hC dX0_chainLength_58 rfl (v := (x3 + (1 : Int32))) rfl (by decide) (lv' := [some (.inr 5), some (.inl x1), some (.inl x2), some (.inl (x3 + (1 : Int32)))]) rfl ?_
  refine ax_goto hC dX0_chainLength_61 (tgt := 21) (by decide) ?_
  exact hrec21 _ _ _ _
set_option maxRecDepth 100000 in
theorem kX0_chainLength_L21 {C : ax_C} {X : ax_X} (hC : ax_ok C X LX cX0_chainLength RX0 4 (some .int) 3) {rec4 : Int32 → Int32 → ax_S → ax_R} (hrec4 : ∀ (x1 : Int32) (x2 : Int32) (st : ax_S), AW C X LX 4 1 (rec4 x1 x2 st) 4 [some (.inr 5), some (.inl x1), some (.inl x2), none] [] st) : ∀ (n : Nat) (x1 : Int32) (x2 : Int32) (x3 : Int32) (st : ax_S), AW C X LX 4 1 (fX0_chainLength_L21 rec4 n x1 x2 x3 st) 21 [some (.inr 5), some (.inl x1), some (.inl x2), some (.inl x3)] [] st := by
  intro n
  induction n with
  | zero => intros; exact ax_none rfl
  | succ n hrec210 =>
    intro x1 x2 x3 st
    have hrec21 := hrec210
    rw [fX0_chainLength_L21.eq_2]
    refine ax_iloadn hC dX0_chainLength_21 rfl rfl ?_
    refine ax_iloadn hC dX0_chainLength_22 rfl rfl ?_
    refine ax_icmp_ge hC dX0_chainLength_23 (tgt := 64) (by decide) (fun _ => ?_) (fun _ => ?_)
    · refine ax_iloadn hC dX0_chainLength_64 rfl rfl ?_
      refine ax_aloadn hC dX0_chainLength_65 rfl rfl ?_
      refine ax_lkR hC lk_X0_52 LX_5 rfl dX0_chainLength_66 ?_
      refine ax_iloadn hC dX0_chainLength_69 rfl rfl ?_
      refine ax_iald hC LX_19 dX0_chainLength_70 (fun v2 => ?_)
      refine ax_mmax hC mx_X0_80 (by decide) (Nat.le_of_ble_eq_true rfl) dX0_chainLength_71 ?_
      refine ax_istoren hC dX0_chainLength_74 rfl (by decide) (lv' := [some (.inr 5), some (.inl (ax_mx x1 v2)), some (.inl x2), some (.inl x3)]) rfl ?_
      refine ax_iinc hC dX0_chainLength_75 rfl (v := (x2 + (1 : Int32))) rfl (by decide) (lv' := [some (.inr 5), some (.inl (ax_mx x1 v2)), some (.inl (x2 + (1 : Int32))), some (.inl x3)]) rfl ?_
      refine ax_goto hC dX0_chainLength_78 (tgt := 4) (by decide) ?_
      refine ax_sub (lv' := [some (.inr 5), some (.inl (ax_mx x1 v2)), some (.inl (x2 + (1 : Int32))), none]) (ax_leS (ax_leS (ax_leS (ax_leN ax_le0)))) ?_
      exact hrec4 _ _ _
    · refine ax_aloadn hC dX0_chainLength_26 rfl rfl ?_
      refine ax_iloadn hC dX0_chainLength_27 rfl rfl ?_
      refine ax_iloadn hC dX0_chainLength_28 rfl rfl ?_
      refine ax_callV1 hC mlk_X0_86 hst_X0_86 LX_5 [.inl x3, .inl x2] rfl rfl (by decide) (by decide) (Nat.le_of_ble_eq_true rfl) dX0_chainLength_29 (fun r9 s9 h9 => kX0_isBefore _ _ _ _ _ h9) (fun r3 st4 => ?_)
      refine ax_if_eq hC dX0_chainLength_32 (tgt := 58) (by decide) (fun _ => ?_) (fun _ => ?_)
      · exact kX0_chainLength_b58 hC hrec4 hrec21 _ _ _ _
      · refine ax_aloadn hC dX0_chainLength_35 rfl rfl ?_
        refine ax_lkR hC lk_X0_52 LX_5 rfl dX0_chainLength_36 ?_
        refine ax_iloadn hC dX0_chainLength_39 rfl rfl ?_
        refine ax_aloadn hC dX0_chainLength_40 rfl rfl ?_
        refine ax_lkR hC lk_X0_52 LX_5 rfl dX0_chainLength_41 ?_
        refine ax_iloadn hC dX0_chainLength_44 rfl rfl ?_
        refine ax_iald hC LX_19 dX0_chainLength_45 (fun v5 => ?_)
        refine ax_aloadn hC dX0_chainLength_46 rfl rfl ?_
        refine ax_lkR hC lk_X0_52 LX_5 rfl dX0_chainLength_47 ?_
        refine ax_iloadn hC dX0_chainLength_50 rfl rfl ?_
        refine ax_iald hC LX_19 dX0_chainLength_51 (fun v6 => ?_)
        refine ax_iconst hC dX0_chainLength_52 (v := 1) (by decide) ?_
        refine ax_iadd hC dX0_chainLength_53 ?_
        refine ax_mmax hC mx_X0_80 (by decide) (Nat.le_of_ble_eq_true rfl) dX0_chainLength_54 ?_
        refine ax_iast hC LX_19 dX0_chainLength_57 (fun st7 => ?_)
        exact kX0_chainLength_b58 hC hrec4 hrec21 _ _ _ _
set_option maxRecDepth 100000 in
theorem kX0_chainLength_L4 {C : ax_C} {X : ax_X} (hC : ax_ok C X LX cX0_chainLength RX0 4 (some .int) 3) : ∀ (n : Nat) (x1 : Int32) (x2 : Int32) (st : ax_S), AW C X LX 4 1 (fX0_chainLength_L4 n x1 x2 st) 4 [some (.inr 5), some (.inl x1), some (.inl x2), none] [] st := by
  intro n
  induction n with
  | zero => intros; exact ax_none rfl
  | succ n hrec40 =>
    intro x1 x2 st
    have hrec4 := hrec40
    rw [fX0_chainLength_L4.eq_2]
    refine ax_iloadn hC dX0_chainLength_4 rfl rfl ?_
    refine ax_aloadn hC dX0_chainLength_5 rfl rfl ?_
    refine ax_lkI hC lk_X0_62 LX_5 rfl dX0_chainLength_6 ?_
    refine ax_icmp_ge hC dX0_chainLength_9 (tgt := 81) (by decide) (fun _ => ?_) (fun _ => ?_)
    · refine ax_iloadn hC dX0_chainLength_81 rfl rfl ?_
      exact ax_iret hC dX0_chainLength_82
    · refine ax_aloadn hC dX0_chainLength_12 rfl rfl ?_
      refine ax_lkR hC lk_X0_52 LX_5 rfl dX0_chainLength_13 ?_
      refine ax_iloadn hC dX0_chainLength_16 rfl rfl ?_
      refine ax_iconst hC dX0_chainLength_17 (v := 1) (by decide) ?_
      refine ax_iast hC LX_19 dX0_chainLength_18 (fun st1 => ?_)
      refine ax_iconst hC dX0_chainLength_19 (v := 0) (by decide) ?_
      refine ax_istoren hC dX0_chainLength_20 rfl (by decide) (lv' := [some (.inr 5), some (.inl x1), some (.inl x2), some (.inl (0 : Int32))]) rfl ?_
      exact kX0_chainLength_L21 hC hrec4 4000 _ _ _ _
set_option maxRecDepth 100000 in
theorem kX0_chainLength (st : ax_S) (r : Int32) (stz : ax_S) (h : fX0_chainLength st = some (r, stz)) : ax_M LX yX0_chainLength cX0_chainLength 4 (some .int) 3 [.inr 5] st 1 r stz := by
  refine ax_start (by decide) (Nat.le_of_ble_eq_true rfl) (lv0 := [some (.inr 5), none, none, none]) rfl (fun C X hC => ?_)
  rw [← h]
  unfold fX0_chainLength
  refine ax_iconst hC dX0_chainLength_0 (v := 0) (by decide) ?_
  refine ax_istoren hC dX0_chainLength_1 rfl (by decide) (lv' := [some (.inr 5), some (.inl (0 : Int32)), none, none]) rfl ?_
  refine ax_iconst hC dX0_chainLength_2 (v := 0) (by decide) ?_
  refine ax_istoren hC dX0_chainLength_3 rfl (by decide) (lv' := [some (.inr 5), some (.inl (0 : Int32)), some (.inl (0 : Int32)), none]) rfl ?_
  exact kX0_chainLength_L4 hC 4000 _ _ _
set_option maxRecDepth 100000 in
theorem kX8_longestChain (st : ax_S) (r : Int32) (stz : ax_S) (h : fX8_longestChain st = some (r, stz)) : ax_M LX yX8_longestChain cX8_longestChain 1 (some .int) 4 [.inr 0] st 1 r stz := by
  refine ax_start (by decide) (Nat.le_of_ble_eq_true rfl) (lv0 := [some (.inr 0)]) rfl (fun C X hC => ?_)
  rw [← h]
  unfold fX8_longestChain
  refine ax_aloadn hC dX8_longestChain_0 rfl rfl ?_
  refine ax_lkR hC lk_X8_12 LX_0 rfl dX8_longestChain_1 ?_
  refine ax_lkR hC lk_X8_74 LX_1 rfl dX8_longestChain_4 ?_
  refine ax_callV1 hC mlk_X8_159 hst_X8_159 LX_5 [] rfl rfl (by decide) (by decide) (Nat.le_of_ble_eq_true rfl) dX8_longestChain_7 (fun r9 s9 h9 => kX0_chainLength  _ _ _ h9) (fun r1 st2 => ?_)
  exact ax_iret hC dX8_longestChain_10
set_option maxRecDepth 100000 in
theorem kX6_start_L17 {C : ax_C} {X : ax_X} {q0 : Nat} (hq0 : q0 ∈ [49, 52, 55, 58]) (hC : ax_ok C X LX cX6_start RX6 3 none 1) : ∀ (n : Nat) (x2 : Int32) (st : ax_S), AW C X LX 3 0 (fX6_start_L17 q0 n x2 st) 17 [some (.inr q0), none, some (.inl x2)] [] st := by
  intro n
  induction n with
  | zero => intros; exact ax_none rfl
  | succ n hrec170 =>
    intro x2 st
    have hrec17 := hrec170
    rw [fX6_start_L17.eq_2]
    refine ax_iloadn hC dX6_start_17 rfl rfl ?_
    refine ax_bipush hC dX6_start_18 (v := 99) (by decide) ?_
    refine ax_icmp_gt hC dX6_start_20 (tgt := 36) (by decide) (fun _ => ?_) (fun _ => ?_)
    · exact ax_vret hC dX6_start_36
    · refine ax_aloadn hC dX6_start_23 rfl rfl ?_
      refine ax_lkR hC lk_X6_15 (LX_ss _ hq0).1 rfl dX6_start_24 ?_
      refine ax_iloadn hC dX6_start_27 rfl rfl ?_
      refine ax_iconst hC dX6_start_28 (v := 0) (by decide) ?_
      refine ax_zast hC (LX_ss _ hq0).2.2 dX6_start_29 (fun st4 => ?_)
      refine ax_iinc hC dX6_start_30 rfl (v := (x2 + (1 : Int32))) rfl (by decide) (lv' := [some (.inr q0), none, some (.inl (x2 + (1 : Int32)))]) rfl ?_
      refine ax_goto hC dX6_start_33 (tgt := 17) (by decide) ?_
      exact hrec17 _ _
set_option maxRecDepth 100000 in
theorem kX6_start (q0 : Nat) (hq0 : q0 ∈ [49, 52, 55, 58]) (x1 : Int32) (st : ax_S) (r : Int32) (stz : ax_S) (h : fX6_start q0 x1 st = some (r, stz)) : ax_M LX yX6_start cX6_start 3 none 1 [.inr q0, .inl x1] st 0 r stz := by
  refine ax_start (by decide) (Nat.le_of_ble_eq_true rfl) (lv0 := [some (.inr q0), some (.inl x1), none]) rfl (fun C X hC => ?_)
  rw [← h]
  unfold fX6_start
  refine ax_aloadn hC dX6_start_0 rfl rfl ?_
  refine ax_iloadn hC dX6_start_1 rfl rfl ?_
  refine ax_putI hC lp_X6_19 (LX_ss _ hq0).1 rfl dX6_start_2 (fun st1 => ?_)
  refine ax_aloadn hC dX6_start_5 rfl rfl ?_
  refine ax_iconst hC dX6_start_6 (v := 0) (by decide) ?_
  refine ax_putI hC lp_X6_23 (LX_ss _ hq0).1 rfl dX6_start_7 (fun st2 => ?_)
  refine ax_aloadn hC dX6_start_10 rfl rfl ?_
  refine ax_iconst hC dX6_start_11 (v := 0) (by decide) ?_
  refine ax_putI hC lp_X6_26 (LX_ss _ hq0).1 rfl dX6_start_12 (fun st3 => ?_)
  refine ax_iconst hC dX6_start_15 (v := 0) (by decide) ?_
  refine ax_istoren hC dX6_start_16 rfl (by decide) (lv' := [some (.inr q0), some (.inl x1), some (.inl (0 : Int32))]) rfl ?_
  refine ax_sub (lv' := [some (.inr q0), none, some (.inl (0 : Int32))]) (ax_leS (ax_leN (ax_leS ax_le0))) ?_
  exact kX6_start_L17 hq0 hC 4000 _ _
set_option maxRecDepth 100000 in
theorem kX5_prepare_L150 {C : ax_C} {X : ax_X} (hC : ax_ok C X LX cX5_prepare RX5 5 none 2) : ∀ (n : Nat) (x3 : Int32) (st : ax_S), AW C X LX 5 0 (fX5_prepare_L150 n x3 st) 150 [some (.inr 43), none, none, some (.inl x3), none] [] st := by
  intro n
  induction n with
  | zero => intros; exact ax_none rfl
  | succ n hrec1500 =>
    intro x3 st
    have hrec150 := hrec1500
    rw [fX5_prepare_L150.eq_2]
    refine ax_iloadn hC dX5_prepare_150 rfl rfl ?_
    refine ax_aloadn hC dX5_prepare_151 rfl rfl ?_
    refine ax_lkR hC lk_X5_37 LX_43 rfl dX5_prepare_152 ?_
    refine ax_lkI hC lk_X5_77 LX_2 rfl dX5_prepare_155 ?_
    refine ax_icmp_ge hC dX5_prepare_158 (tgt := 185) (by decide) (fun _ => ?_) (fun _ => ?_)
    · exact ax_vret hC dX5_prepare_185
    · refine ax_aloadn hC dX5_prepare_161 rfl rfl ?_
      refine ax_lkR hC lk_X5_11 LX_43 rfl dX5_prepare_162 ?_
      refine ax_iloadn hC dX5_prepare_165 rfl rfl ?_
      refine ax_aald hC LX_44 dX5_prepare_166 (fun q6 hq6 => ?_)
      refine ax_aloadn hC dX5_prepare_167 rfl rfl ?_
      refine ax_lkR hC lk_X5_37 LX_43 rfl dX5_prepare_168 ?_
      refine ax_lkR hC lk_X5_82 LX_2 rfl dX5_prepare_171 ?_
      refine ax_iloadn hC dX5_prepare_174 rfl rfl ?_
      refine ax_iald hC LX_4 dX5_prepare_175 (fun v7 => ?_)
      refine ax_callV0 hC mlk_X5_85 hst_X5_85 (LX_ss _ hq6).1 [.inl v7] rfl rfl (by decide) (by decide) (Nat.le_of_ble_eq_true rfl) dX5_prepare_176 (fun r9 s9 h9 => kX6_start _ hq6 _ _ _ _ h9) (fun r8 st9 => ?_)
      refine ax_iinc hC dX5_prepare_179 rfl (v := (x3 + (1 : Int32))) rfl (by decide) (lv' := [some (.inr 43), none, none, some (.inl (x3 + (1 : Int32))), none]) rfl ?_
      refine ax_goto hC dX5_prepare_182 (tgt := 150) (by decide) ?_
      exact hrec150 _ _
set_option maxRecDepth 100000 in
theorem kX5_prepare_b134 {C : ax_C} {X : ax_X} (hC : ax_ok C X LX cX5_prepare RX5 5 none 2) {rec17 : Int32 → Int32 → Int32 → ax_S → ax_R} (hrec17 : ∀ (x1 : Int32) (x2 : Int32) (x3 : Int32) (st : ax_S), AW C X LX 5 0 (rec17 x1 x2 x3 st) 17 [some (.inr 43), some (.inl x1), some (.inl x2), some (.inl x3), none] [] st) (x1 : Int32) (x2 : Int32) (x3 : Int32) (st : ax_S) : AW C X LX 5 0 (fX5_prepare_b134 rec17 x1 x2 x3 st) 134 [some (.inr 43), some (.inl x1), some (.inl x2), some (.inl x3), none] [] st := by
  unfold fX5_prepare_b134
  refine ax_iinc hC dX5_prepare_134 rfl (v := (x3 + (1 : Int32))) rfl (by decide) (lv' := [some (.inr 43), some (.inl x1), some (.inl x2), some (.inl (x3 + (1 : Int32))), none]) rfl ?_
  refine ax_goto hC dX5_prepare_137 (tgt := 17) (by decide) ?_
  exact hrec17 _ _ _ _
set_option maxRecDepth 100000 in
theorem kX5_prepare_b51 {C : ax_C} {X : ax_X} (hC : ax_ok C X LX cX5_prepare RX5 5 none 2) {rec17 : Int32 → Int32 → Int32 → ax_S → ax_R} (hrec17 : ∀ (x1 : Int32) (x2 : Int32) (x3 : Int32) (st : ax_S), AW C X LX 5 0 (rec17 x1 x2 x3 st) 17 [some (.inr 43), some (.inl x1), some (.inl x2), some (.inl x3), none] [] st) (x1 : Int32) (x2 : Int32) (x3 : Int32) (s0 : Int32) (st : ax_S) : AW C X LX 5 0 (fX5_prepare_b51 rec17 x1 x2 x3 s0 st) 51 [some (.inr 43), some (.inl x1), some (.inl x2), some (.inl x3), none] [.inl s0] st := by
  unfold fX5_prepare_b51
  refine ax_istore hC dX5_prepare_51 (by decide) (lv' := [some (.inr 43), some (.inl x1), some (.inl x2), some (.inl x3), some (.inl s0)]) rfl ?_
  refine ax_iload hC dX5_prepare_53 rfl ?_
  refine ax_if_eq hC dX5_prepare_55 (tgt := 134) (by decide) (fun _ => ?_) (fun _ => ?_)
  · refine ax_sub (lv' := [some (.inr 43), some (.inl x1), some (.inl x2), some (.inl x3), none]) (ax_leS (ax_leS (ax_leS (ax_leS (ax_leN ax_le0))))) ?_
    exact kX5_prepare_b134 hC hrec17 _ _ _ _
  · refine ax_aloadn hC dX5_prepare_58 rfl rfl ?_
    refine ax_lkR hC lk_X5_42 LX_43 rfl dX5_prepare_59 ?_
    refine ax_lkR hC lk_X5_61 LX_5 rfl dX5_prepare_62 ?_
    refine ax_iloadn hC dX5_prepare_65 rfl rfl ?_
    refine ax_iald hC LX_14 dX5_prepare_66 (fun v10 => ?_)
    refine ax_iloadn hC dX5_prepare_67 rfl rfl ?_
    refine ax_icmp_ge hC dX5_prepare_68 (tgt := 134) (by decide) (fun _ => ?_) (fun _ => ?_)
    · refine ax_sub (lv' := [some (.inr 43), some (.inl x1), some (.inl x2), some (.inl x3), none]) (ax_leS (ax_leS (ax_leS (ax_leS (ax_leN ax_le0))))) ?_
      exact kX5_prepare_b134 hC hrec17 _ _ _ _
    · refine ax_aloadn hC dX5_prepare_71 rfl rfl ?_
      refine ax_dup hC dX5_prepare_72 ?_
      refine ax_lkI hC lk_X5_44 LX_43 rfl dX5_prepare_73 ?_
      refine ax_iconst hC dX5_prepare_76 (v := 1) (by decide) ?_
      refine ax_iloadn hC dX5_prepare_77 rfl rfl ?_
      refine ax_ishl hC dX5_prepare_78 ?_
      refine ax_ior hC dX5_prepare_79 ?_
      refine ax_putI hC lp_X5_44 LX_43 rfl dX5_prepare_80 (fun st11 => ?_)
      refine ax_aloadn hC dX5_prepare_83 rfl rfl ?_
      refine ax_lkR hC lk_X5_42 LX_43 rfl dX5_prepare_84 ?_
      refine ax_iloadn hC dX5_prepare_87 rfl rfl ?_
      refine ax_callV1 hC mlk_X5_64 hst_X5_64 LX_5 [.inl x3] rfl rfl (by decide) (by decide) (Nat.le_of_ble_eq_true rfl) dX5_prepare_88 (fun r9 s9 h9 => kX0_isPending _ _ _ _ h9) (fun r12 st13 => ?_)
      refine ax_if_ne hC dX5_prepare_91 (tgt := 134) (by decide) (fun _ => ?_) (fun _ => ?_)
      · refine ax_aloadn hC dX5_prepare_94 rfl rfl ?_
        refine ax_lkR hC lk_X5_42 LX_43 rfl dX5_prepare_95 ?_
        refine ax_lkR hC lk_X5_68 LX_5 rfl dX5_prepare_98 ?_
        refine ax_iloadn hC dX5_prepare_101 rfl rfl ?_
        refine ax_iald hC LX_15 dX5_prepare_102 (fun v14 => ?_)
        refine ax_iloadn hC dX5_prepare_103 rfl rfl ?_
        refine ax_icmp_ge hC dX5_prepare_104 (tgt := 134) (by decide) (fun _ => ?_) (fun _ => ?_)
        · refine ax_sub (lv' := [some (.inr 43), some (.inl x1), some (.inl x2), some (.inl x3), none]) (ax_leS (ax_leS (ax_leS (ax_leS (ax_leN ax_le0))))) ?_
          exact kX5_prepare_b134 hC hrec17 _ _ _ _
        · refine ax_aloadn hC dX5_prepare_107 rfl rfl ?_
          refine ax_dup hC dX5_prepare_108 ?_
          refine ax_lkI hC lk_X5_48 LX_43 rfl dX5_prepare_109 ?_
          refine ax_iconst hC dX5_prepare_112 (v := 1) (by decide) ?_
          refine ax_iloadn hC dX5_prepare_113 rfl rfl ?_
          refine ax_ishl hC dX5_prepare_114 ?_
          refine ax_ior hC dX5_prepare_115 ?_
          refine ax_putI hC lp_X5_48 LX_43 rfl dX5_prepare_116 (fun st15 => ?_)
          refine ax_aloadn hC dX5_prepare_119 rfl rfl ?_
          refine ax_lkR hC lk_X5_17 LX_43 rfl dX5_prepare_120 ?_
          refine ax_iloadn hC dX5_prepare_123 rfl rfl ?_
          refine ax_aloadn hC dX5_prepare_124 rfl rfl ?_
          refine ax_lkR hC lk_X5_42 LX_43 rfl dX5_prepare_125 ?_
          refine ax_lkR hC lk_X5_71 LX_5 rfl dX5_prepare_128 ?_
          refine ax_iloadn hC dX5_prepare_131 rfl rfl ?_
          refine ax_iald hC LX_16 dX5_prepare_132 (fun v16 => ?_)
          refine ax_iast hC LX_45 dX5_prepare_133 (fun st17 => ?_)
          refine ax_sub (lv' := [some (.inr 43), some (.inl x1), some (.inl x2), some (.inl x3), none]) (ax_leS (ax_leS (ax_leS (ax_leS (ax_leN ax_le0))))) ?_
          exact kX5_prepare_b134 hC hrec17 _ _ _ _
      · refine ax_sub (lv' := [some (.inr 43), some (.inl x1), some (.inl x2), some (.inl x3), none]) (ax_leS (ax_leS (ax_leS (ax_leS (ax_leN ax_le0))))) ?_
        exact kX5_prepare_b134 hC hrec17 _ _ _ _
set_option maxRecDepth 100000 in
theorem kX5_prepare_b46 {C : ax_C} {X : ax_X} (hC : ax_ok C X LX cX5_prepare RX5 5 none 2) {rec17 : Int32 → Int32 → Int32 → ax_S → ax_R} (hrec17 : ∀ (x1 : Int32) (x2 : Int32) (x3 : Int32) (st : ax_S), AW C X LX 5 0 (rec17 x1 x2 x3 st) 17 [some (.inr 43), some (.inl x1), some (.inl x2), some (.inl x3), none] [] st) (x1 : Int32) (x2 : Int32) (x3 : Int32) (st : ax_S) : AW C X LX 5 0 (fX5_prepare_b46 rec17 x1 x2 x3 st) 46 [some (.inr 43), some (.inl x1), some (.inl x2), some (.inl x3), none] [] st := by
  unfold fX5_prepare_b46
  refine ax_iconst hC dX5_prepare_46 (v := 1) (by decide) ?_
  refine ax_goto hC dX5_prepare_47 (tgt := 51) (by decide) ?_
  exact kX5_prepare_b51 hC hrec17 _ _ _ _ _
set_option maxRecDepth 100000 in
theorem kX5_prepare_L17 {C : ax_C} {X : ax_X} (hC : ax_ok C X LX cX5_prepare RX5 5 none 2) : ∀ (n : Nat) (x1 : Int32) (x2 : Int32) (x3 : Int32) (st : ax_S), AW C X LX 5 0 (fX5_prepare_L17 n x1 x2 x3 st) 17 [some (.inr 43), some (.inl x1), some (.inl x2), some (.inl x3), none] [] st := by
  intro n
  induction n with
  | zero => intros; exact ax_none rfl
  | succ n hrec170 =>
    intro x1 x2 x3 st
    have hrec17 := hrec170
    rw [fX5_prepare_L17.eq_2]
    refine ax_iloadn hC dX5_prepare_17 rfl rfl ?_
    refine ax_aloadn hC dX5_prepare_18 rfl rfl ?_
    refine ax_lkR hC lk_X5_42 LX_43 rfl dX5_prepare_19 ?_
    refine ax_lkI hC lk_X5_54 LX_5 rfl dX5_prepare_22 ?_
    refine ax_icmp_ge hC dX5_prepare_25 (tgt := 140) (by decide) (fun _ => ?_) (fun _ => ?_)
    · refine ax_aloadn hC dX5_prepare_140 rfl rfl ?_
      refine ax_aloadn hC dX5_prepare_141 rfl rfl ?_
      refine ax_lkI hC lk_X5_48 LX_43 rfl dX5_prepare_142 ?_
      refine ax_putI hC lp_X5_74 LX_43 rfl dX5_prepare_145 (fun st4 => ?_)
      refine ax_iconst hC dX5_prepare_148 (v := 0) (by decide) ?_
      refine ax_istoren hC dX5_prepare_149 rfl (by decide) (lv' := [some (.inr 43), some (.inl x1), some (.inl x2), some (.inl (0 : Int32)), none]) rfl ?_
      refine ax_sub (lv' := [some (.inr 43), none, none, some (.inl (0 : Int32)), none]) (ax_leS (ax_leN (ax_leN (ax_leS (ax_leN ax_le0))))) ?_
      exact kX5_prepare_L150 hC 4000 _ _
    · refine ax_iloadn hC dX5_prepare_28 rfl rfl ?_
      refine ax_iconst hC dX5_prepare_29 (v := -1) (by decide) ?_
      refine ax_icmp_eq hC dX5_prepare_30 (tgt := 46) (by decide) (fun _ => ?_) (fun _ => ?_)
      · exact kX5_prepare_b46 hC hrec17 _ _ _ _
      · refine ax_aloadn hC dX5_prepare_33 rfl rfl ?_
        refine ax_lkR hC lk_X5_42 LX_43 rfl dX5_prepare_34 ?_
        refine ax_lkR hC lk_X5_59 LX_5 rfl dX5_prepare_37 ?_
        refine ax_iloadn hC dX5_prepare_40 rfl rfl ?_
        refine ax_iald hC LX_11 dX5_prepare_41 (fun v5 => ?_)
        refine ax_iloadn hC dX5_prepare_42 rfl rfl ?_
        refine ax_icmp_ne hC dX5_prepare_43 (tgt := 50) (by decide) (fun _ => ?_) (fun _ => ?_)
        · exact kX5_prepare_b46 hC hrec17 _ _ _ _
        · refine ax_iconst hC dX5_prepare_50 (v := 0) (by decide) ?_
          exact kX5_prepare_b51 hC hrec17 _ _ _ _ _
set_option maxRecDepth 100000 in
theorem kX5_prepare (x1 : Int32) (x2 : Int32) (st : ax_S) (r : Int32) (stz : ax_S) (h : fX5_prepare x1 x2 st = some (r, stz)) : ax_M LX yX5_prepare cX5_prepare 5 none 2 [.inr 43, .inl x1, .inl x2] st 0 r stz := by
  refine ax_start (by decide) (Nat.le_of_ble_eq_true rfl) (lv0 := [some (.inr 43), some (.inl x1), some (.inl x2), none, none]) rfl (fun C X hC => ?_)
  rw [← h]
  unfold fX5_prepare
  refine ax_aloadn hC dX5_prepare_0 rfl rfl ?_
  refine ax_iconst hC dX5_prepare_1 (v := 0) (by decide) ?_
  refine ax_putI hC lp_X5_44 LX_43 rfl dX5_prepare_2 (fun st1 => ?_)
  refine ax_aloadn hC dX5_prepare_5 rfl rfl ?_
  refine ax_iconst hC dX5_prepare_6 (v := 0) (by decide) ?_
  refine ax_putI hC lp_X5_48 LX_43 rfl dX5_prepare_7 (fun st2 => ?_)
  refine ax_aloadn hC dX5_prepare_10 rfl rfl ?_
  refine ax_iconst hC dX5_prepare_11 (v := -1) (by decide) ?_
  refine ax_putI hC lp_X5_51 LX_43 rfl dX5_prepare_12 (fun st3 => ?_)
  refine ax_iconst hC dX5_prepare_15 (v := 0) (by decide) ?_
  refine ax_istoren hC dX5_prepare_16 rfl (by decide) (lv' := [some (.inr 43), some (.inl x1), some (.inl x2), some (.inl (0 : Int32)), none]) rfl ?_
  exact kX5_prepare_L17 hC 4000 _ _ _ _
set_option maxRecDepth 100000 in
theorem kX5_keepRealTimeOrder_b56 {C : ax_C} {X : ax_X} (hC : ax_ok C X LX cX5_keepRealTimeOrder RX5 3 none 3) {rec2 : Int32 → ax_S → ax_R} {rec22 : Int32 → Int32 → ax_S → ax_R} (hrec2 : ∀ (x1 : Int32) (st : ax_S), AW C X LX 3 0 (rec2 x1 st) 2 [some (.inr 43), some (.inl x1), none] [] st) (hrec22 : ∀ (x1 : Int32) (x2 : Int32) (st : ax_S), AW C X LX 3 0 (rec22 x1 x2 st) 22 [some (.inr 43), some (.inl x1), some (.inl x2)] [] st) (x1 : Int32) (x2 : Int32) (st : ax_S) : AW C X LX 3 0 (fX5_keepRealTimeOrder_b56 rec2 rec22 x1 x2 st) 56 [some (.inr 43), some (.inl x1), some (.inl x2)] [] st := by
  unfold fX5_keepRealTimeOrder_b56
  refine ax_iinc hC dX5_keepRealTimeOrder_56 rfl (v := (x2 + (1 : Int32))) rfl (by decide) (lv' := [some (.inr 43), some (.inl x1), some (.inl (x2 + (1 : Int32)))]) rfl ?_
  refine ax_goto hC dX5_keepRealTimeOrder_59 (tgt := 22) (by decide) ?_
  exact hrec22 _ _ _
set_option maxRecDepth 100000 in
theorem kX5_keepRealTimeOrder_L22 {C : ax_C} {X : ax_X} (hC : ax_ok C X LX cX5_keepRealTimeOrder RX5 3 none 3) {rec2 : Int32 → ax_S → ax_R} (hrec2 : ∀ (x1 : Int32) (st : ax_S), AW C X LX 3 0 (rec2 x1 st) 2 [some (.inr 43), some (.inl x1), none] [] st) : ∀ (n : Nat) (x1 : Int32) (x2 : Int32) (st : ax_S), AW C X LX 3 0 (fX5_keepRealTimeOrder_L22 rec2 n x1 x2 st) 22 [some (.inr 43), some (.inl x1), some (.inl x2)] [] st := by
  intro n
  induction n with
  | zero => intros; exact ax_none rfl
  | succ n hrec220 =>
    intro x1 x2 st
    have hrec22 := hrec220
    rw [fX5_keepRealTimeOrder_L22.eq_2]
    refine ax_iloadn hC dX5_keepRealTimeOrder_22 rfl rfl ?_
    refine ax_iloadn hC dX5_keepRealTimeOrder_23 rfl rfl ?_
    refine ax_icmp_ge hC dX5_keepRealTimeOrder_24 (tgt := 62) (by decide) (fun _ => ?_) (fun _ => ?_)
    · refine ax_iinc hC dX5_keepRealTimeOrder_62 rfl (v := (x1 + (1 : Int32))) rfl (by decide) (lv' := [some (.inr 43), some (.inl (x1 + (1 : Int32))), some (.inl x2)]) rfl ?_
      refine ax_goto hC dX5_keepRealTimeOrder_65 (tgt := 2) (by decide) ?_
      refine ax_sub (lv' := [some (.inr 43), some (.inl (x1 + (1 : Int32))), none]) (ax_leS (ax_leS (ax_leN ax_le0))) ?_
      exact hrec2 _ _
    · refine ax_aloadn hC dX5_keepRealTimeOrder_27 rfl rfl ?_
      refine ax_lkR hC lk_X5_42 LX_43 rfl dX5_keepRealTimeOrder_28 ?_
      refine ax_iloadn hC dX5_keepRealTimeOrder_31 rfl rfl ?_
      refine ax_iloadn hC dX5_keepRealTimeOrder_32 rfl rfl ?_
      refine ax_callV1 hC mlk_X5_89 hst_X5_89 LX_5 [.inl x2, .inl x1] rfl rfl (by decide) (by decide) (Nat.le_of_ble_eq_true rfl) dX5_keepRealTimeOrder_33 (fun r9 s9 h9 => kX0_isBefore _ _ _ _ _ h9) (fun r2 st3 => ?_)
      refine ax_if_eq hC dX5_keepRealTimeOrder_36 (tgt := 56) (by decide) (fun _ => ?_) (fun _ => ?_)
      · exact kX5_keepRealTimeOrder_b56 hC hrec2 hrec22 _ _ _
      · refine ax_aloadn hC dX5_keepRealTimeOrder_39 rfl rfl ?_
        refine ax_lkR hC lk_X5_21 LX_43 rfl dX5_keepRealTimeOrder_40 ?_
        refine ax_iloadn hC dX5_keepRealTimeOrder_43 rfl rfl ?_
        refine ax_dup2 hC dX5_keepRealTimeOrder_44 ?_
        refine ax_iald hC LX_46 dX5_keepRealTimeOrder_45 (fun v4 => ?_)
        refine ax_aloadn hC dX5_keepRealTimeOrder_46 rfl rfl ?_
        refine ax_lkI hC lk_X5_44 LX_43 rfl dX5_keepRealTimeOrder_47 ?_
        refine ax_iconst hC dX5_keepRealTimeOrder_50 (v := 1) (by decide) ?_
        refine ax_iloadn hC dX5_keepRealTimeOrder_51 rfl rfl ?_
        refine ax_ishl hC dX5_keepRealTimeOrder_52 ?_
        refine ax_iand hC dX5_keepRealTimeOrder_53 ?_
        refine ax_ior hC dX5_keepRealTimeOrder_54 ?_
        refine ax_iast hC LX_46 dX5_keepRealTimeOrder_55 (fun st5 => ?_)
        exact kX5_keepRealTimeOrder_b56 hC hrec2 hrec22 _ _ _
set_option maxRecDepth 100000 in
theorem kX5_keepRealTimeOrder_L2 {C : ax_C} {X : ax_X} (hC : ax_ok C X LX cX5_keepRealTimeOrder RX5 3 none 3) : ∀ (n : Nat) (x1 : Int32) (st : ax_S), AW C X LX 3 0 (fX5_keepRealTimeOrder_L2 n x1 st) 2 [some (.inr 43), some (.inl x1), none] [] st := by
  intro n
  induction n with
  | zero => intros; exact ax_none rfl
  | succ n hrec20 =>
    intro x1 st
    have hrec2 := hrec20
    rw [fX5_keepRealTimeOrder_L2.eq_2]
    refine ax_iloadn hC dX5_keepRealTimeOrder_2 rfl rfl ?_
    refine ax_aloadn hC dX5_keepRealTimeOrder_3 rfl rfl ?_
    refine ax_lkR hC lk_X5_42 LX_43 rfl dX5_keepRealTimeOrder_4 ?_
    refine ax_lkI hC lk_X5_54 LX_5 rfl dX5_keepRealTimeOrder_7 ?_
    refine ax_icmp_ge hC dX5_keepRealTimeOrder_10 (tgt := 68) (by decide) (fun _ => ?_) (fun _ => ?_)
    · exact ax_vret hC dX5_keepRealTimeOrder_68
    · refine ax_aloadn hC dX5_keepRealTimeOrder_13 rfl rfl ?_
      refine ax_lkR hC lk_X5_21 LX_43 rfl dX5_keepRealTimeOrder_14 ?_
      refine ax_iloadn hC dX5_keepRealTimeOrder_17 rfl rfl ?_
      refine ax_iconst hC dX5_keepRealTimeOrder_18 (v := 0) (by decide) ?_
      refine ax_iast hC LX_46 dX5_keepRealTimeOrder_19 (fun st1 => ?_)
      refine ax_iconst hC dX5_keepRealTimeOrder_20 (v := 0) (by decide) ?_
      refine ax_istoren hC dX5_keepRealTimeOrder_21 rfl (by decide) (lv' := [some (.inr 43), some (.inl x1), some (.inl (0 : Int32))]) rfl ?_
      exact kX5_keepRealTimeOrder_L22 hC hrec2 4000 _ _ _
set_option maxRecDepth 100000 in
theorem kX5_keepRealTimeOrder (st : ax_S) (r : Int32) (stz : ax_S) (h : fX5_keepRealTimeOrder st = some (r, stz)) : ax_M LX yX5_keepRealTimeOrder cX5_keepRealTimeOrder 3 none 3 [.inr 43] st 0 r stz := by
  refine ax_start (by decide) (Nat.le_of_ble_eq_true rfl) (lv0 := [some (.inr 43), none, none]) rfl (fun C X hC => ?_)
  rw [← h]
  unfold fX5_keepRealTimeOrder
  refine ax_iconst hC dX5_keepRealTimeOrder_0 (v := 0) (by decide) ?_
  refine ax_istoren hC dX5_keepRealTimeOrder_1 rfl (by decide) (lv' := [some (.inr 43), some (.inl (0 : Int32)), none]) rfl ?_
  exact kX5_keepRealTimeOrder_L2 hC 4000 _ _
set_option maxRecDepth 100000 in
theorem kX5_noteFound_b53 {C : ax_C} {X : ax_X} (hC : ax_ok C X LX cX5_noteFound RX5 2 none 2) (st : ax_S) : AW C X LX 2 0 (fX5_noteFound_b53 st) 53 [none, none] [] st := by
  unfold fX5_noteFound_b53
  exact ax_vret hC dX5_noteFound_53
set_option maxRecDepth 100000 in
theorem kX5_noteFound (x1 : Int32) (st : ax_S) (r : Int32) (stz : ax_S) (h : fX5_noteFound x1 st = some (r, stz)) : ax_M LX yX5_noteFound cX5_noteFound 2 none 2 [.inr 43, .inl x1] st 0 r stz := by
  refine ax_start (by decide) (Nat.le_of_ble_eq_true rfl) (lv0 := [some (.inr 43), some (.inl x1)]) rfl (fun C X hC => ?_)
  rw [← h]
  unfold fX5_noteFound
  refine ax_aloadn hC dX5_noteFound_0 rfl rfl ?_
  refine ax_dup hC dX5_noteFound_1 ?_
  refine ax_lkI hC lk_X5_100 LX_43 rfl dX5_noteFound_2 ?_
  refine ax_iconst hC dX5_noteFound_5 (v := 1) (by decide) ?_
  refine ax_iadd hC dX5_noteFound_6 ?_
  refine ax_putI hC lp_X5_100 LX_43 rfl dX5_noteFound_7 (fun st1 => ?_)
  refine ax_aloadn hC dX5_noteFound_10 rfl rfl ?_
  refine ax_iloadn hC dX5_noteFound_11 rfl rfl ?_
  refine ax_putI hC lp_X5_162 LX_43 rfl dX5_noteFound_12 (fun st2 => ?_)
  refine ax_aloadn hC dX5_noteFound_15 rfl rfl ?_
  refine ax_lkI hC lk_X5_51 LX_43 rfl dX5_noteFound_16 ?_
  refine ax_iconst hC dX5_noteFound_19 (v := -1) (by decide) ?_
  refine ax_icmp_eq hC dX5_noteFound_20 (tgt := 53) (by decide) (fun _ => ?_) (fun _ => ?_)
  · refine ax_sub (lv' := [none, none]) (ax_leN (ax_leN ax_le0)) ?_
    exact kX5_noteFound_b53 hC _
  · refine ax_aloadn hC dX5_noteFound_23 rfl rfl ?_
    refine ax_lkI hC lk_X5_155 LX_43 rfl dX5_noteFound_24 ?_
    refine ax_sipush hC dX5_noteFound_27 (v := -999) (by decide) ?_
    refine ax_sipush hC dX5_noteFound_30 (v := 999) (by decide) ?_
    refine ax_callS1n hC mlk_X5_165 hst_X5_165 [.inl (st2.1 43 13), .inl (-999 : Int32), .inl (999 : Int32)] rfl rfl (by decide) (by decide) (Nat.le_of_ble_eq_true rfl) dX5_noteFound_33 (fun r9 s9 h9 => kX8_isBetween _ _ _ _ _ _ h9) (fun r3 st4 => ?_)
    refine ax_if_eq hC dX5_noteFound_36 (tgt := 53) (by decide) (fun _ => ?_) (fun _ => ?_)
    · refine ax_sub (lv' := [none, none]) (ax_leN (ax_leN ax_le0)) ?_
      exact kX5_noteFound_b53 hC _
    · refine ax_aloadn hC dX5_noteFound_39 rfl rfl ?_
      refine ax_lkR hC lk_X5_27 LX_43 rfl dX5_noteFound_40 ?_
      refine ax_aloadn hC dX5_noteFound_43 rfl rfl ?_
      refine ax_lkI hC lk_X5_155 LX_43 rfl dX5_noteFound_44 ?_
      refine ax_sipush hC dX5_noteFound_47 (v := 999) (by decide) ?_
      refine ax_iadd hC dX5_noteFound_50 ?_
      refine ax_iconst hC dX5_noteFound_51 (v := 1) (by decide) ?_
      refine ax_zast hC LX_48 dX5_noteFound_52 (fun st5 => ?_)
      refine ax_sub (lv' := [none, none]) (ax_leN (ax_leN ax_le0)) ?_
      exact kX5_noteFound_b53 hC _
set_option maxRecDepth 100000 in
theorem kX5_isOver_b19 {C : ax_C} {X : ax_X} (hC : ax_ok C X LX cX5_isOver RX5 1 (some .boolean) 1) (s0 : Int32) (st : ax_S) : AW C X LX 1 1 (fX5_isOver_b19 s0 st) 19 [none] [.inl s0] st := by
  unfold fX5_isOver_b19
  exact ax_zret hC dX5_isOver_19
set_option maxRecDepth 100000 in
theorem kX5_isOver_b18 {C : ax_C} {X : ax_X} (hC : ax_ok C X LX cX5_isOver RX5 1 (some .boolean) 1) (st : ax_S) : AW C X LX 1 1 (fX5_isOver_b18 st) 18 [none] [] st := by
  unfold fX5_isOver_b18
  refine ax_iconst hC dX5_isOver_18 (v := 0) (by decide) ?_
  exact kX5_isOver_b19 hC _ _
set_option maxRecDepth 100000 in
theorem kX5_isOver (st : ax_S) (r : Int32) (stz : ax_S) (h : fX5_isOver st = some (r, stz)) : ax_M LX yX5_isOver cX5_isOver 1 (some .boolean) 1 [.inr 43] st 1 r stz := by
  refine ax_start (by decide) (Nat.le_of_ble_eq_true rfl) (lv0 := [some (.inr 43)]) rfl (fun C X hC => ?_)
  rw [← h]
  unfold fX5_isOver
  refine ax_aloadn hC dX5_isOver_0 rfl rfl ?_
  refine ax_lkI hC lk_X5_96 LX_43 rfl dX5_isOver_1 ?_
  refine ax_if_eq hC dX5_isOver_4 (tgt := 18) (by decide) (fun _ => ?_) (fun _ => ?_)
  · refine ax_sub (lv' := [none]) (ax_leN ax_le0) ?_
    exact kX5_isOver_b18 hC _
  · refine ax_aloadn hC dX5_isOver_7 rfl rfl ?_
    refine ax_lkI hC lk_X5_100 LX_43 rfl dX5_isOver_8 ?_
    refine ax_if_le hC dX5_isOver_11 (tgt := 18) (by decide) (fun _ => ?_) (fun _ => ?_)
    · refine ax_sub (lv' := [none]) (ax_leN ax_le0) ?_
      exact kX5_isOver_b18 hC _
    · refine ax_iconst hC dX5_isOver_14 (v := 1) (by decide) ?_
      refine ax_goto hC dX5_isOver_15 (tgt := 19) (by decide) ?_
      refine ax_sub (lv' := [none]) (ax_leN ax_le0) ?_
      exact kX5_isOver_b19 hC _ _
set_option maxRecDepth 100000 in
theorem kX5_mayFollow_b35 {C : ax_C} {X : ax_X} (hC : ax_ok C X LX cX5_mayFollow RX5 4 (some .boolean) 1) (s0 : Int32) (st : ax_S) : AW C X LX 4 1 (fX5_mayFollow_b35 s0 st) 35 [none, none, none, none] [.inl s0] st := by
  unfold fX5_mayFollow_b35
  exact ax_zret hC dX5_mayFollow_35
set_option maxRecDepth 100000 in
theorem kX5_mayFollow_b34 {C : ax_C} {X : ax_X} (hC : ax_ok C X LX cX5_mayFollow RX5 4 (some .boolean) 1) (st : ax_S) : AW C X LX 4 1 (fX5_mayFollow_b34 st) 34 [none, none, none, none] [] st := by
  unfold fX5_mayFollow_b34
  refine ax_iconst hC dX5_mayFollow_34 (v := 0) (by decide) ?_
  exact kX5_mayFollow_b35 hC _ _
set_option maxRecDepth 100000 in
theorem kX5_mayFollow (x1 : Int32) (x2 : Int32) (st : ax_S) (r : Int32) (stz : ax_S) (h : fX5_mayFollow x1 x2 st = some (r, stz)) : ax_M LX yX5_mayFollow cX5_mayFollow 4 (some .boolean) 1 [.inr 43, .inl x1, .inl x2] st 1 r stz := by
  refine ax_start (by decide) (Nat.le_of_ble_eq_true rfl) (lv0 := [some (.inr 43), some (.inl x1), some (.inl x2), none]) rfl (fun C X hC => ?_)
  rw [← h]
  unfold fX5_mayFollow
  refine ax_aloadn hC dX5_mayFollow_0 rfl rfl ?_
  refine ax_lkI hC lk_X5_44 LX_43 rfl dX5_mayFollow_1 ?_
  refine ax_iloadn hC dX5_mayFollow_4 rfl rfl ?_
  refine ax_iconst hC dX5_mayFollow_5 (v := -1) (by decide) ?_
  refine ax_ixor hC dX5_mayFollow_6 ?_
  refine ax_iand hC dX5_mayFollow_7 ?_
  refine ax_istoren hC dX5_mayFollow_8 rfl (by decide) (lv' := [some (.inr 43), some (.inl x1), some (.inl x2), some (.inl ((st.1 43 3) &&& (x2 ^^^ (-1 : Int32))))]) rfl ?_
  refine ax_iloadn hC dX5_mayFollow_9 rfl rfl ?_
  refine ax_iconst hC dX5_mayFollow_10 (v := 1) (by decide) ?_
  refine ax_iloadn hC dX5_mayFollow_11 rfl rfl ?_
  refine ax_ishl hC dX5_mayFollow_12 ?_
  refine ax_iand hC dX5_mayFollow_13 ?_
  refine ax_if_eq hC dX5_mayFollow_14 (tgt := 34) (by decide) (fun _ => ?_) (fun _ => ?_)
  · refine ax_sub (lv' := [none, none, none, none]) (ax_leN (ax_leN (ax_leN (ax_leN ax_le0)))) ?_
    exact kX5_mayFollow_b34 hC _
  · refine ax_aloadn hC dX5_mayFollow_17 rfl rfl ?_
    refine ax_lkR hC lk_X5_21 LX_43 rfl dX5_mayFollow_18 ?_
    refine ax_iloadn hC dX5_mayFollow_21 rfl rfl ?_
    refine ax_iald hC LX_46 dX5_mayFollow_22 (fun v1 => ?_)
    refine ax_iloadn hC dX5_mayFollow_23 rfl rfl ?_
    refine ax_iconst hC dX5_mayFollow_24 (v := -1) (by decide) ?_
    refine ax_ixor hC dX5_mayFollow_25 ?_
    refine ax_iand hC dX5_mayFollow_26 ?_
    refine ax_if_ne hC dX5_mayFollow_27 (tgt := 34) (by decide) (fun _ => ?_) (fun _ => ?_)
    · refine ax_iconst hC dX5_mayFollow_30 (v := 1) (by decide) ?_
      refine ax_goto hC dX5_mayFollow_31 (tgt := 35) (by decide) ?_
      refine ax_sub (lv' := [none, none, none, none]) (ax_leN (ax_leN (ax_leN (ax_leN ax_le0)))) ?_
      exact kX5_mayFollow_b35 hC _ _
    · refine ax_sub (lv' := [none, none, none, none]) (ax_leN (ax_leN (ax_leN (ax_leN ax_le0)))) ?_
      exact kX5_mayFollow_b34 hC _
set_option maxRecDepth 100000 in
theorem kX6_changesElement (q0 : Nat) (hq0 : q0 ∈ [49, 52, 55, 58]) (x1 : Int32) (x2 : Int32) (st : ax_S) (r : Int32) (stz : ax_S) (h : fX6_changesElement q0 x1 x2 st = some (r, stz)) : ax_M LX yX6_changesElement cX6_changesElement 3 (some .boolean) 1 [.inr q0, .inl x1, .inl x2] st 1 r stz := by
  refine ax_start (by decide) (Nat.le_of_ble_eq_true rfl) (lv0 := [some (.inr q0), some (.inl x1), some (.inl x2)]) rfl (fun C X hC => ?_)
  rw [← h]
  unfold fX6_changesElement
  refine ax_aloadn hC dX6_changesElement_0 rfl rfl ?_
  refine ax_lkR hC lk_X6_15 (LX_ss _ hq0).1 rfl dX6_changesElement_1 ?_
  refine ax_iloadn hC dX6_changesElement_4 rfl rfl ?_
  refine ax_zald hC (LX_ss _ hq0).2.2 dX6_changesElement_5 (fun v1 => ?_)
  refine ax_iloadn hC dX6_changesElement_6 rfl rfl ?_
  refine ax_icmp_ne hC dX6_changesElement_7 (tgt := 12) (by decide) (fun _ => ?_) (fun _ => ?_)
  · refine ax_iconst hC dX6_changesElement_10 (v := 0) (by decide) ?_
    exact ax_zret hC dX6_changesElement_11
  · refine ax_aloadn hC dX6_changesElement_12 rfl rfl ?_
    refine ax_lkR hC lk_X6_15 (LX_ss _ hq0).1 rfl dX6_changesElement_13 ?_
    refine ax_iloadn hC dX6_changesElement_16 rfl rfl ?_
    refine ax_iloadn hC dX6_changesElement_17 rfl rfl ?_
    refine ax_zast hC (LX_ss _ hq0).2.2 dX6_changesElement_18 (fun st2 => ?_)
    refine ax_iconst hC dX6_changesElement_19 (v := 1) (by decide) ?_
    exact ax_zret hC dX6_changesElement_20
set_option maxRecDepth 100000 in
theorem kX6_dequeue_b24 {C : ax_C} {X : ax_X} {q0 : Nat} (hq0 : q0 ∈ [49, 52, 55, 58]) (hC : ax_ok C X LX cX6_dequeue RX6 1 (some .int) 2) (st : ax_S) : AW C X LX 1 1 (fX6_dequeue_b24 q0 st) 24 [none] [] st := by
  unfold fX6_dequeue_b24
  refine ax_iconst hC dX6_dequeue_24 (v := -1) (by decide) ?_
  exact ax_iret hC dX6_dequeue_25
set_option maxRecDepth 100000 in
theorem kX6_dequeue (q0 : Nat) (hq0 : q0 ∈ [49, 52, 55, 58]) (st : ax_S) (r : Int32) (stz : ax_S) (h : fX6_dequeue q0 st = some (r, stz)) : ax_M LX yX6_dequeue cX6_dequeue 1 (some .int) 2 [.inr q0] st 1 r stz := by
  refine ax_start (by decide) (Nat.le_of_ble_eq_true rfl) (lv0 := [some (.inr q0)]) rfl (fun C X hC => ?_)
  rw [← h]
  unfold fX6_dequeue
  refine ax_aloadn hC dX6_dequeue_0 rfl rfl ?_
  refine ax_lkI hC lk_X6_23 (LX_ss _ hq0).1 rfl dX6_dequeue_1 ?_
  refine ax_aloadn hC dX6_dequeue_4 rfl rfl ?_
  refine ax_lkI hC lk_X6_26 (LX_ss _ hq0).1 rfl dX6_dequeue_5 ?_
  refine ax_icmp_ge hC dX6_dequeue_8 (tgt := 24) (by decide) (fun _ => ?_) (fun _ => ?_)
  · refine ax_sub (lv' := [none]) (ax_leN ax_le0) ?_
    exact kX6_dequeue_b24 hq0 hC _
  · refine ax_aloadn hC dX6_dequeue_11 rfl rfl ?_
    refine ax_lkI hC lk_X6_23 (LX_ss _ hq0).1 rfl dX6_dequeue_12 ?_
    refine ax_iconst hC dX6_dequeue_15 (v := 0) (by decide) ?_
    refine ax_bipush hC dX6_dequeue_16 (v := 9) (by decide) ?_
    refine ax_callS1n hC mlk_X6_49 hst_X6_49 [.inl (st.1 q0 2), .inl (0 : Int32), .inl (9 : Int32)] rfl rfl (by decide) (by decide) (Nat.le_of_ble_eq_true rfl) dX6_dequeue_18 (fun r9 s9 h9 => kX8_isBetween _ _ _ _ _ _ h9) (fun r1 st2 => ?_)
    refine ax_if_ne hC dX6_dequeue_21 (tgt := 26) (by decide) (fun _ => ?_) (fun _ => ?_)
    · refine ax_sub (lv' := [none]) (ax_leN ax_le0) ?_
      exact kX6_dequeue_b24 hq0 hC _
    · refine ax_aloadn hC dX6_dequeue_26 rfl rfl ?_
      refine ax_dup hC dX6_dequeue_27 ?_
      refine ax_lkI hC lk_X6_23 (LX_ss _ hq0).1 rfl dX6_dequeue_28 ?_
      refine ax_iconst hC dX6_dequeue_31 (v := 1) (by decide) ?_
      refine ax_iadd hC dX6_dequeue_32 ?_
      refine ax_putI hC lp_X6_23 (LX_ss _ hq0).1 rfl dX6_dequeue_33 (fun st3 => ?_)
      refine ax_aloadn hC dX6_dequeue_36 rfl rfl ?_
      refine ax_lkR hC lk_X6_9 (LX_ss _ hq0).1 rfl dX6_dequeue_37 ?_
      refine ax_aloadn hC dX6_dequeue_40 rfl rfl ?_
      refine ax_lkI hC lk_X6_23 (LX_ss _ hq0).1 rfl dX6_dequeue_41 ?_
      refine ax_iconst hC dX6_dequeue_44 (v := 1) (by decide) ?_
      refine ax_isub hC dX6_dequeue_45 ?_
      refine ax_iald hC (LX_ss _ hq0).2.1 dX6_dequeue_46 (fun v4 => ?_)
      exact ax_iret hC dX6_dequeue_47
set_option maxRecDepth 100000 in
theorem kX6_enqueue_b23 {C : ax_C} {X : ax_X} {q0 : Nat} (hq0 : q0 ∈ [49, 52, 55, 58]) (hC : ax_ok C X LX cX6_enqueue RX6 2 (some .int) 2) (st : ax_S) : AW C X LX 2 1 (fX6_enqueue_b23 q0 st) 23 [some (.inr q0), none] [] st := by
  unfold fX6_enqueue_b23
  refine ax_aloadn hC dX6_enqueue_23 rfl rfl ?_
  refine ax_dup hC dX6_enqueue_24 ?_
  refine ax_lkI hC lk_X6_26 (LX_ss _ hq0).1 rfl dX6_enqueue_25 ?_
  refine ax_iconst hC dX6_enqueue_28 (v := 1) (by decide) ?_
  refine ax_iadd hC dX6_enqueue_29 ?_
  refine ax_putI hC lp_X6_26 (LX_ss _ hq0).1 rfl dX6_enqueue_30 (fun st4 => ?_)
  refine ax_iconst hC dX6_enqueue_33 (v := 0) (by decide) ?_
  exact ax_iret hC dX6_enqueue_34
set_option maxRecDepth 100000 in
theorem kX6_enqueue (q0 : Nat) (hq0 : q0 ∈ [49, 52, 55, 58]) (x1 : Int32) (st : ax_S) (r : Int32) (stz : ax_S) (h : fX6_enqueue q0 x1 st = some (r, stz)) : ax_M LX yX6_enqueue cX6_enqueue 2 (some .int) 2 [.inr q0, .inl x1] st 1 r stz := by
  refine ax_start (by decide) (Nat.le_of_ble_eq_true rfl) (lv0 := [some (.inr q0), some (.inl x1)]) rfl (fun C X hC => ?_)
  rw [← h]
  unfold fX6_enqueue
  refine ax_aloadn hC dX6_enqueue_0 rfl rfl ?_
  refine ax_lkI hC lk_X6_26 (LX_ss _ hq0).1 rfl dX6_enqueue_1 ?_
  refine ax_iconst hC dX6_enqueue_4 (v := 0) (by decide) ?_
  refine ax_bipush hC dX6_enqueue_5 (v := 9) (by decide) ?_
  refine ax_callS1n hC mlk_X6_49 hst_X6_49 [.inl (st.1 q0 3), .inl (0 : Int32), .inl (9 : Int32)] rfl rfl (by decide) (by decide) (Nat.le_of_ble_eq_true rfl) dX6_enqueue_7 (fun r9 s9 h9 => kX8_isBetween _ _ _ _ _ _ h9) (fun r1 st2 => ?_)
  refine ax_if_eq hC dX6_enqueue_10 (tgt := 23) (by decide) (fun _ => ?_) (fun _ => ?_)
  · refine ax_sub (lv' := [some (.inr q0), none]) (ax_leS (ax_leN ax_le0)) ?_
    exact kX6_enqueue_b23 hq0 hC _
  · refine ax_aloadn hC dX6_enqueue_13 rfl rfl ?_
    refine ax_lkR hC lk_X6_9 (LX_ss _ hq0).1 rfl dX6_enqueue_14 ?_
    refine ax_aloadn hC dX6_enqueue_17 rfl rfl ?_
    refine ax_lkI hC lk_X6_26 (LX_ss _ hq0).1 rfl dX6_enqueue_18 ?_
    refine ax_iloadn hC dX6_enqueue_21 rfl rfl ?_
    refine ax_iast hC (LX_ss _ hq0).2.1 dX6_enqueue_22 (fun st3 => ?_)
    refine ax_sub (lv' := [some (.inr q0), none]) (ax_leS (ax_leN ax_le0)) ?_
    exact kX6_enqueue_b23 hq0 hC _
set_option maxRecDepth 100000 in
theorem kX6_compareAndSet (q0 : Nat) (hq0 : q0 ∈ [49, 52, 55, 58]) (x1 : Int32) (x2 : Int32) (st : ax_S) (r : Int32) (stz : ax_S) (h : fX6_compareAndSet q0 x1 x2 st = some (r, stz)) : ax_M LX yX6_compareAndSet cX6_compareAndSet 3 (some .int) 1 [.inr q0, .inl x1, .inl x2] st 1 r stz := by
  refine ax_start (by decide) (Nat.le_of_ble_eq_true rfl) (lv0 := [some (.inr q0), some (.inl x1), some (.inl x2)]) rfl (fun C X hC => ?_)
  rw [← h]
  unfold fX6_compareAndSet
  refine ax_aloadn hC dX6_compareAndSet_0 rfl rfl ?_
  refine ax_lkI hC lk_X6_19 (LX_ss _ hq0).1 rfl dX6_compareAndSet_1 ?_
  refine ax_iloadn hC dX6_compareAndSet_4 rfl rfl ?_
  refine ax_icmp_eq hC dX6_compareAndSet_5 (tgt := 10) (by decide) (fun _ => ?_) (fun _ => ?_)
  · refine ax_aloadn hC dX6_compareAndSet_10 rfl rfl ?_
    refine ax_iloadn hC dX6_compareAndSet_11 rfl rfl ?_
    refine ax_putI hC lp_X6_19 (LX_ss _ hq0).1 rfl dX6_compareAndSet_12 (fun st1 => ?_)
    refine ax_iconst hC dX6_compareAndSet_15 (v := 1) (by decide) ?_
    exact ax_iret hC dX6_compareAndSet_16
  · refine ax_iconst hC dX6_compareAndSet_8 (v := 0) (by decide) ?_
    exact ax_iret hC dX6_compareAndSet_9
set_option maxRecDepth 100000 in
theorem kX6_perform (q0 : Nat) (hq0 : q0 ∈ [49, 52, 55, 58]) (x1 : Int32) (x2 : Int32) (x3 : Int32) (st : ax_S) (r : Int32) (stz : ax_S) (h : fX6_perform q0 x1 x2 x3 st = some (r, stz)) : ax_M LX yX6_perform cX6_perform 4 (some .int) 3 [.inr q0, .inl x1, .inl x2, .inl x3] st 1 r stz := by
  refine ax_start (by decide) (Nat.le_of_ble_eq_true rfl) (lv0 := [some (.inr q0), some (.inl x1), some (.inl x2), some (.inl x3)]) rfl (fun C X hC => ?_)
  rw [← h]
  unfold fX6_perform
  refine ax_iloadn hC dX6_perform_0 rfl rfl ?_
  refine ax_tsIn hC dX6_perform_1 (v := 1) (by decide) (by decide) (off := 51) rfl (tgt := 52) (by decide) ?_ (fun e0 => ?_)
  · refine ax_aloadn hC dX6_perform_52 rfl rfl ?_
    refine ax_iloadn hC dX6_perform_53 rfl rfl ?_
    refine ax_putI hC lp_X6_19 (LX_ss _ hq0).1 rfl dX6_perform_54 (fun st19 => ?_)
    refine ax_iconst hC dX6_perform_57 (v := 0) (by decide) ?_
    exact ax_iret hC dX6_perform_58
  · refine ax_tsIn hC dX6_perform_1 (v := 2) (by decide) (by decide) (off := 58) rfl (tgt := 59) (by decide) ?_ (fun e1 => ?_)
    · refine ax_aloadn hC dX6_perform_59 rfl rfl ?_
      refine ax_iloadn hC dX6_perform_60 rfl rfl ?_
      refine ax_iloadn hC dX6_perform_61 rfl rfl ?_
      refine ax_callV1 hC mlk_X6_29 hst_X6_29 (LX_ss _ hq0).1 [.inl x2, .inl x3] rfl rfl (by decide) (by decide) (Nat.le_of_ble_eq_true rfl) dX6_perform_62 (fun r9 s9 h9 => kX6_compareAndSet _ hq0 _ _ _ _ _ h9) (fun r17 st18 => ?_)
      exact ax_iret hC dX6_perform_65
    · refine ax_tsIn hC dX6_perform_1 (v := 3) (by decide) (by decide) (off := 123) rfl (tgt := 124) (by decide) ?_ (fun e2 => ?_)
      · refine ax_aloadn hC dX6_perform_124 rfl rfl ?_
        refine ax_lkI hC lk_X6_19 (LX_ss _ hq0).1 rfl dX6_perform_125 ?_
        exact ax_iret hC dX6_perform_128
      · refine ax_tsIn hC dX6_perform_1 (v := 4) (by decide) (by decide) (off := 65) rfl (tgt := 66) (by decide) ?_ (fun e3 => ?_)
        · refine ax_aloadn hC dX6_perform_66 rfl rfl ?_
          refine ax_dup hC dX6_perform_67 ?_
          refine ax_lkI hC lk_X6_19 (LX_ss _ hq0).1 rfl dX6_perform_68 ?_
          refine ax_iloadn hC dX6_perform_71 rfl rfl ?_
          refine ax_iadd hC dX6_perform_72 ?_
          refine ax_putI hC lp_X6_19 (LX_ss _ hq0).1 rfl dX6_perform_73 (fun st16 => ?_)
          refine ax_aloadn hC dX6_perform_76 rfl rfl ?_
          refine ax_lkI hC lk_X6_19 (LX_ss _ hq0).1 rfl dX6_perform_77 ?_
          refine ax_iloadn hC dX6_perform_80 rfl rfl ?_
          refine ax_isub hC dX6_perform_81 ?_
          exact ax_iret hC dX6_perform_82
        · refine ax_tsIn hC dX6_perform_1 (v := 5) (by decide) (by decide) (off := 82) rfl (tgt := 83) (by decide) ?_ (fun e4 => ?_)
          · refine ax_aloadn hC dX6_perform_83 rfl rfl ?_
            refine ax_iloadn hC dX6_perform_84 rfl rfl ?_
            refine ax_callV1 hC mlk_X6_33 hst_X6_33 (LX_ss _ hq0).1 [.inl x2] rfl rfl (by decide) (by decide) (Nat.le_of_ble_eq_true rfl) dX6_perform_85 (fun r9 s9 h9 => kX6_enqueue _ hq0 _ _ _ _ h9) (fun r14 st15 => ?_)
            exact ax_iret hC dX6_perform_88
          · refine ax_tsIn hC dX6_perform_1 (v := 6) (by decide) (by decide) (off := 88) rfl (tgt := 89) (by decide) ?_ (fun e5 => ?_)
            · refine ax_aloadn hC dX6_perform_89 rfl rfl ?_
              refine ax_callV1 hC mlk_X6_37 hst_X6_37 (LX_ss _ hq0).1 [] rfl rfl (by decide) (by decide) (Nat.le_of_ble_eq_true rfl) dX6_perform_90 (fun r9 s9 h9 => kX6_dequeue _ hq0 _ _ _ h9) (fun r12 st13 => ?_)
              exact ax_iret hC dX6_perform_93
            · refine ax_tsIn hC dX6_perform_1 (v := 7) (by decide) (by decide) (off := 93) rfl (tgt := 94) (by decide) ?_ (fun e6 => ?_)
              · refine ax_aloadn hC dX6_perform_94 rfl rfl ?_
                refine ax_iloadn hC dX6_perform_95 rfl rfl ?_
                refine ax_iconst hC dX6_perform_96 (v := 1) (by decide) ?_
                refine ax_callV1 hC mlk_X6_41 hst_X6_41 (LX_ss _ hq0).1 [.inl x2, .inl (1 : Int32)] rfl rfl (by decide) (by decide) (Nat.le_of_ble_eq_true rfl) dX6_perform_97 (fun r9 s9 h9 => kX6_changesElement _ hq0 _ _ _ _ _ h9) (fun r8 st9 => ?_)
                refine ax_callS1n hC mlk_X6_45 hst_X6_45 [.inl r8] rfl rfl (by decide) (by decide) (Nat.le_of_ble_eq_true rfl) dX6_perform_100 (fun r9 s9 h9 => kX8_truth _ _ _ _ h9) (fun r10 st11 => ?_)
                exact ax_iret hC dX6_perform_103
              · refine ax_tsIn hC dX6_perform_1 (v := 8) (by decide) (by decide) (off := 103) rfl (tgt := 104) (by decide) ?_ (fun e7 => ?_)
                · refine ax_aloadn hC dX6_perform_104 rfl rfl ?_
                  refine ax_iloadn hC dX6_perform_105 rfl rfl ?_
                  refine ax_iconst hC dX6_perform_106 (v := 0) (by decide) ?_
                  refine ax_callV1 hC mlk_X6_41 hst_X6_41 (LX_ss _ hq0).1 [.inl x2, .inl (0 : Int32)] rfl rfl (by decide) (by decide) (Nat.le_of_ble_eq_true rfl) dX6_perform_107 (fun r9 s9 h9 => kX6_changesElement _ hq0 _ _ _ _ _ h9) (fun r4 st5 => ?_)
                  refine ax_callS1n hC mlk_X6_45 hst_X6_45 [.inl r4] rfl rfl (by decide) (by decide) (Nat.le_of_ble_eq_true rfl) dX6_perform_110 (fun r9 s9 h9 => kX8_truth _ _ _ _ h9) (fun r6 st7 => ?_)
                  exact ax_iret hC dX6_perform_113
                · refine ax_tsIn hC dX6_perform_1 (v := 9) (by decide) (by decide) (off := 113) rfl (tgt := 114) (by decide) ?_ (fun e8 => ?_)
                  · refine ax_aloadn hC dX6_perform_114 rfl rfl ?_
                    refine ax_lkR hC lk_X6_15 (LX_ss _ hq0).1 rfl dX6_perform_115 ?_
                    refine ax_iloadn hC dX6_perform_118 rfl rfl ?_
                    refine ax_zald hC (LX_ss _ hq0).2.2 dX6_perform_119 (fun v1 => ?_)
                    refine ax_callS1n hC mlk_X6_45 hst_X6_45 [.inl v1] rfl rfl (by decide) (by decide) (Nat.le_of_ble_eq_true rfl) dX6_perform_120 (fun r9 s9 h9 => kX8_truth _ _ _ _ h9) (fun r2 st3 => ?_)
                    exact ax_iret hC dX6_perform_123
                  · have g0 : ¬ x1.toInt = 1 := fun q => e0 (Int32.toInt_inj.mp (q.trans (by decide)))
                    have g1 : ¬ x1.toInt = 2 := fun q => e1 (Int32.toInt_inj.mp (q.trans (by decide)))
                    have g2 : ¬ x1.toInt = 3 := fun q => e2 (Int32.toInt_inj.mp (q.trans (by decide)))
                    have g3 : ¬ x1.toInt = 4 := fun q => e3 (Int32.toInt_inj.mp (q.trans (by decide)))
                    have g4 : ¬ x1.toInt = 5 := fun q => e4 (Int32.toInt_inj.mp (q.trans (by decide)))
                    have g5 : ¬ x1.toInt = 6 := fun q => e5 (Int32.toInt_inj.mp (q.trans (by decide)))
                    have g6 : ¬ x1.toInt = 7 := fun q => e6 (Int32.toInt_inj.mp (q.trans (by decide)))
                    have g7 : ¬ x1.toInt = 8 := fun q => e7 (Int32.toInt_inj.mp (q.trans (by decide)))
                    have g8 : ¬ x1.toInt = 9 := fun q => e8 (Int32.toInt_inj.mp (q.trans (by decide)))
                    refine ax_tsOut hC dX6_perform_1 (by omega) (tgt := 124) (by decide) ?_
                    refine ax_aloadn hC dX6_perform_124 rfl rfl ?_
                    refine ax_lkI hC lk_X6_19 (LX_ss _ hq0).1 rfl dX6_perform_125 ?_
                    exact ax_iret hC dX6_perform_128
set_option maxRecDepth 100000 in
theorem kX5_agrees_b26 {C : ax_C} {X : ax_X} (hC : ax_ok C X LX cX5_agrees RX5 3 (some .boolean) 1) (s0 : Int32) (st : ax_S) : AW C X LX 3 1 (fX5_agrees_b26 s0 st) 26 [none, none, none] [.inl s0] st := by
  unfold fX5_agrees_b26
  exact ax_zret hC dX5_agrees_26
set_option maxRecDepth 100000 in
theorem kX5_agrees_b21 {C : ax_C} {X : ax_X} (hC : ax_ok C X LX cX5_agrees RX5 3 (some .boolean) 1) (st : ax_S) : AW C X LX 3 1 (fX5_agrees_b21 st) 21 [none, none, none] [] st := by
  unfold fX5_agrees_b21
  refine ax_iconst hC dX5_agrees_21 (v := 1) (by decide) ?_
  refine ax_goto hC dX5_agrees_22 (tgt := 26) (by decide) ?_
  exact kX5_agrees_b26 hC _ _
set_option maxRecDepth 100000 in
theorem kX5_agrees (x1 : Int32) (x2 : Int32) (st : ax_S) (r : Int32) (stz : ax_S) (h : fX5_agrees x1 x2 st = some (r, stz)) : ax_M LX yX5_agrees cX5_agrees 3 (some .boolean) 1 [.inr 43, .inl x1, .inl x2] st 1 r stz := by
  refine ax_start (by decide) (Nat.le_of_ble_eq_true rfl) (lv0 := [some (.inr 43), some (.inl x1), some (.inl x2)]) rfl (fun C X hC => ?_)
  rw [← h]
  unfold fX5_agrees
  refine ax_aloadn hC dX5_agrees_0 rfl rfl ?_
  refine ax_lkI hC lk_X5_74 LX_43 rfl dX5_agrees_1 ?_
  refine ax_iconst hC dX5_agrees_4 (v := 1) (by decide) ?_
  refine ax_iloadn hC dX5_agrees_5 rfl rfl ?_
  refine ax_ishl hC dX5_agrees_6 ?_
  refine ax_iand hC dX5_agrees_7 ?_
  refine ax_if_eq hC dX5_agrees_8 (tgt := 21) (by decide) (fun _ => ?_) (fun _ => ?_)
  · refine ax_sub (lv' := [none, none, none]) (ax_leN (ax_leN (ax_leN ax_le0))) ?_
    exact kX5_agrees_b21 hC _
  · refine ax_aloadn hC dX5_agrees_11 rfl rfl ?_
    refine ax_lkR hC lk_X5_17 LX_43 rfl dX5_agrees_12 ?_
    refine ax_iloadn hC dX5_agrees_15 rfl rfl ?_
    refine ax_iald hC LX_45 dX5_agrees_16 (fun v1 => ?_)
    refine ax_iloadn hC dX5_agrees_17 rfl rfl ?_
    refine ax_icmp_ne hC dX5_agrees_18 (tgt := 25) (by decide) (fun _ => ?_) (fun _ => ?_)
    · refine ax_sub (lv' := [none, none, none]) (ax_leN (ax_leN (ax_leN ax_le0))) ?_
      exact kX5_agrees_b21 hC _
    · refine ax_iconst hC dX5_agrees_25 (v := 0) (by decide) ?_
      refine ax_sub (lv' := [none, none, none]) (ax_leN (ax_leN (ax_leN ax_le0))) ?_
      exact kX5_agrees_b26 hC _ _
set_option maxRecDepth 100000 in
theorem kX6_takeBack_b87 {C : ax_C} {X : ax_X} {q0 : Nat} (hq0 : q0 ∈ [49, 52, 55, 58]) (hC : ax_ok C X LX cX6_takeBack RX6 5 none 2) (st : ax_S) : AW C X LX 5 0 (fX6_takeBack_b87 q0 st) 87 [none, none, none, none, none] [] st := by
  unfold fX6_takeBack_b87
  exact ax_vret hC dX6_takeBack_87
set_option maxRecDepth 100000 in
theorem kX6_takeBack_b69 {C : ax_C} {X : ax_X} {q0 : Nat} (hq0 : q0 ∈ [49, 52, 55, 58]) (hC : ax_ok C X LX cX6_takeBack RX6 5 none 2) (x1 : Int32) (x2 : Int32) (x3 : Int32) (st : ax_S) : AW C X LX 5 0 (fX6_takeBack_b69 q0 x1 x2 x3 st) 69 [some (.inr q0), some (.inl x1), some (.inl x2), some (.inl x3), none] [] st := by
  unfold fX6_takeBack_b69
  refine ax_iloadn hC dX6_takeBack_69 rfl rfl ?_
  refine ax_bipush hC dX6_takeBack_70 (v := 8) (by decide) ?_
  refine ax_icmp_ne hC dX6_takeBack_72 (tgt := 87) (by decide) (fun _ => ?_) (fun _ => ?_)
  · refine ax_iloadn hC dX6_takeBack_75 rfl rfl ?_
    refine ax_iconst hC dX6_takeBack_76 (v := 1) (by decide) ?_
    refine ax_icmp_ne hC dX6_takeBack_77 (tgt := 87) (by decide) (fun _ => ?_) (fun _ => ?_)
    · refine ax_aloadn hC dX6_takeBack_80 rfl rfl ?_
      refine ax_iloadn hC dX6_takeBack_81 rfl rfl ?_
      refine ax_iconst hC dX6_takeBack_82 (v := 1) (by decide) ?_
      refine ax_callV1 hC mlk_X6_41 hst_X6_41 (LX_ss _ hq0).1 [.inl x2, .inl (1 : Int32)] rfl rfl (by decide) (by decide) (Nat.le_of_ble_eq_true rfl) dX6_takeBack_83 (fun r9 s9 h9 => kX6_changesElement _ hq0 _ _ _ _ _ h9) (fun r6 st7 => ?_)
      refine ax_pop hC dX6_takeBack_86 ?_
      refine ax_sub (lv' := [none, none, none, none, none]) (ax_leN (ax_leN (ax_leN (ax_leN (ax_leN ax_le0))))) ?_
      exact kX6_takeBack_b87 hq0 hC _
    · refine ax_sub (lv' := [none, none, none, none, none]) (ax_leN (ax_leN (ax_leN (ax_leN (ax_leN ax_le0))))) ?_
      exact kX6_takeBack_b87 hq0 hC _
  · refine ax_sub (lv' := [none, none, none, none, none]) (ax_leN (ax_leN (ax_leN (ax_leN (ax_leN ax_le0))))) ?_
    exact kX6_takeBack_b87 hq0 hC _
set_option maxRecDepth 100000 in
theorem kX6_takeBack_b48 {C : ax_C} {X : ax_X} {q0 : Nat} (hq0 : q0 ∈ [49, 52, 55, 58]) (hC : ax_ok C X LX cX6_takeBack RX6 5 none 2) (x1 : Int32) (x2 : Int32) (x3 : Int32) (st : ax_S) : AW C X LX 5 0 (fX6_takeBack_b48 q0 x1 x2 x3 st) 48 [some (.inr q0), some (.inl x1), some (.inl x2), some (.inl x3), none] [] st := by
  unfold fX6_takeBack_b48
  refine ax_iloadn hC dX6_takeBack_48 rfl rfl ?_
  refine ax_bipush hC dX6_takeBack_49 (v := 7) (by decide) ?_
  refine ax_icmp_ne hC dX6_takeBack_51 (tgt := 69) (by decide) (fun _ => ?_) (fun _ => ?_)
  · refine ax_iloadn hC dX6_takeBack_54 rfl rfl ?_
    refine ax_iconst hC dX6_takeBack_55 (v := 1) (by decide) ?_
    refine ax_icmp_ne hC dX6_takeBack_56 (tgt := 69) (by decide) (fun _ => ?_) (fun _ => ?_)
    · refine ax_aloadn hC dX6_takeBack_59 rfl rfl ?_
      refine ax_iloadn hC dX6_takeBack_60 rfl rfl ?_
      refine ax_iconst hC dX6_takeBack_61 (v := 0) (by decide) ?_
      refine ax_callV1 hC mlk_X6_41 hst_X6_41 (LX_ss _ hq0).1 [.inl x2, .inl (0 : Int32)] rfl rfl (by decide) (by decide) (Nat.le_of_ble_eq_true rfl) dX6_takeBack_62 (fun r9 s9 h9 => kX6_changesElement _ hq0 _ _ _ _ _ h9) (fun r4 st5 => ?_)
      refine ax_pop hC dX6_takeBack_65 ?_
      refine ax_goto hC dX6_takeBack_66 (tgt := 87) (by decide) ?_
      refine ax_sub (lv' := [none, none, none, none, none]) (ax_leN (ax_leN (ax_leN (ax_leN (ax_leN ax_le0))))) ?_
      exact kX6_takeBack_b87 hq0 hC _
    · exact kX6_takeBack_b69 hq0 hC _ _ _ _
  · exact kX6_takeBack_b69 hq0 hC _ _ _ _
set_option maxRecDepth 100000 in
theorem kX6_takeBack (q0 : Nat) (hq0 : q0 ∈ [49, 52, 55, 58]) (x1 : Int32) (x2 : Int32) (x3 : Int32) (x4 : Int32) (st : ax_S) (r : Int32) (stz : ax_S) (h : fX6_takeBack q0 x1 x2 x3 x4 st = some (r, stz)) : ax_M LX yX6_takeBack cX6_takeBack 5 none 2 [.inr q0, .inl x1, .inl x2, .inl x3, .inl x4] st 0 r stz := by
  refine ax_start (by decide) (Nat.le_of_ble_eq_true rfl) (lv0 := [some (.inr q0), some (.inl x1), some (.inl x2), some (.inl x3), some (.inl x4)]) rfl (fun C X hC => ?_)
  rw [← h]
  unfold fX6_takeBack
  refine ax_aloadn hC dX6_takeBack_0 rfl rfl ?_
  refine ax_iload hC dX6_takeBack_1 rfl ?_
  refine ax_putI hC lp_X6_19 (LX_ss _ hq0).1 rfl dX6_takeBack_3 (fun st1 => ?_)
  refine ax_iloadn hC dX6_takeBack_6 rfl rfl ?_
  refine ax_iconst hC dX6_takeBack_7 (v := 5) (by decide) ?_
  refine ax_icmp_ne hC dX6_takeBack_8 (tgt := 24) (by decide) (fun _ => ?_) (fun _ => ?_)
  · refine ax_aloadn hC dX6_takeBack_11 rfl rfl ?_
    refine ax_dup hC dX6_takeBack_12 ?_
    refine ax_lkI hC lk_X6_26 (LX_ss _ hq0).1 rfl dX6_takeBack_13 ?_
    refine ax_iconst hC dX6_takeBack_16 (v := 1) (by decide) ?_
    refine ax_isub hC dX6_takeBack_17 ?_
    refine ax_putI hC lp_X6_26 (LX_ss _ hq0).1 rfl dX6_takeBack_18 (fun st2 => ?_)
    refine ax_goto hC dX6_takeBack_21 (tgt := 87) (by decide) ?_
    refine ax_sub (lv' := [none, none, none, none, none]) (ax_leN (ax_leN (ax_leN (ax_leN (ax_leN ax_le0))))) ?_
    exact kX6_takeBack_b87 hq0 hC _
  · refine ax_iloadn hC dX6_takeBack_24 rfl rfl ?_
    refine ax_bipush hC dX6_takeBack_25 (v := 6) (by decide) ?_
    refine ax_icmp_ne hC dX6_takeBack_27 (tgt := 48) (by decide) (fun _ => ?_) (fun _ => ?_)
    · refine ax_iloadn hC dX6_takeBack_30 rfl rfl ?_
      refine ax_iconst hC dX6_takeBack_31 (v := -1) (by decide) ?_
      refine ax_icmp_eq hC dX6_takeBack_32 (tgt := 48) (by decide) (fun _ => ?_) (fun _ => ?_)
      · refine ax_sub (lv' := [some (.inr q0), some (.inl x1), some (.inl x2), some (.inl x3), none]) (ax_leS (ax_leS (ax_leS (ax_leS (ax_leN ax_le0))))) ?_
        exact kX6_takeBack_b48 hq0 hC _ _ _ _
      · refine ax_aloadn hC dX6_takeBack_35 rfl rfl ?_
        refine ax_dup hC dX6_takeBack_36 ?_
        refine ax_lkI hC lk_X6_23 (LX_ss _ hq0).1 rfl dX6_takeBack_37 ?_
        refine ax_iconst hC dX6_takeBack_40 (v := 1) (by decide) ?_
        refine ax_isub hC dX6_takeBack_41 ?_
        refine ax_putI hC lp_X6_23 (LX_ss _ hq0).1 rfl dX6_takeBack_42 (fun st3 => ?_)
        refine ax_goto hC dX6_takeBack_45 (tgt := 87) (by decide) ?_
        refine ax_sub (lv' := [none, none, none, none, none]) (ax_leN (ax_leN (ax_leN (ax_leN (ax_leN ax_le0))))) ?_
        exact kX6_takeBack_b87 hq0 hC _
    · refine ax_sub (lv' := [some (.inr q0), some (.inl x1), some (.inl x2), some (.inl x3), none]) (ax_leS (ax_leS (ax_leS (ax_leS (ax_leN ax_le0))))) ?_
      exact kX6_takeBack_b48 hq0 hC _ _ _ _
set_option maxRecDepth 100000 in
theorem kX5_tryNext_b108 {C : ax_C} {X : ax_X} {rc : Int32 → Int32 → ax_S → ax_R} {dd : Nat} (hrc : ∀ (u ln : Int32) (st : ax_S) (r : Int32) (st1 : ax_S), rc u ln st = some (r, st1) → ax_M LX yX5_extend cX5_extend 4 none dd [.inr 43, .inl u, .inl ln] st 0 r st1) (h10 : 10 ≤ dd) (hC : ax_ok C X LX cX5_tryNext RX5 9 none (dd + 1)) (q94 : Nat) (x5 : Int32) (x6 : Int32) (x7 : Int32) (x8 : Int32) (hq94 : q94 ∈ [49, 52, 55, 58]) (st : ax_S) : AW C X LX 9 0 (fX5_tryNext_b108 rc q94 x5 x6 x7 x8 st) 108 [none, none, none, none, some (.inr q94), some (.inl x5), some (.inl x6), some (.inl x7), some (.inl x8)] [] st := by
  unfold fX5_tryNext_b108
  refine ax_aload hC dX5_tryNext_108 rfl ?_
  refine ax_iload hC dX5_tryNext_110 rfl ?_
  refine ax_iload hC dX5_tryNext_112 rfl ?_
  refine ax_iload hC dX5_tryNext_114 rfl ?_
  refine ax_iload hC dX5_tryNext_116 rfl ?_
  refine ax_callV0 hC mlk_X5_158 hst_X5_158 (LX_ss _ hq94).1 [.inl x5, .inl x6, .inl x8, .inl x7] rfl rfl (by omega) (by decide) (Nat.le_of_ble_eq_true rfl) dX5_tryNext_118 (fun r9 s9 h9 => kX6_takeBack _ hq94 _ _ _ _ _ _ _ h9) (fun r14 st15 => ?_)
  exact ax_vret hC dX5_tryNext_121
set_option maxRecDepth 100000 in
theorem kX5_tryNext_b79 {C : ax_C} {X : ax_X} {rc : Int32 → Int32 → ax_S → ax_R} {dd : Nat} (hrc : ∀ (u ln : Int32) (st : ax_S) (r : Int32) (st1 : ax_S), rc u ln st = some (r, st1) → ax_M LX yX5_extend cX5_extend 4 none dd [.inr 43, .inl u, .inl ln] st 0 r st1) (h10 : 10 ≤ dd) (hC : ax_ok C X LX cX5_tryNext RX5 9 none (dd + 1)) (x1 : Int32) (x2 : Int32) (x3 : Int32) (q94 : Nat) (x5 : Int32) (x6 : Int32) (x7 : Int32) (x8 : Int32) (hq94 : q94 ∈ [49, 52, 55, 58]) (st : ax_S) : AW C X LX 9 0 (fX5_tryNext_b79 rc x1 x2 x3 q94 x5 x6 x7 x8 st) 79 [some (.inr 43), some (.inl x1), some (.inl x2), some (.inl x3), some (.inr q94), some (.inl x5), some (.inl x6), some (.inl x7), some (.inl x8)] [] st := by
  unfold fX5_tryNext_b79
  refine ax_aloadn hC dX5_tryNext_79 rfl rfl ?_
  refine ax_iloadn hC dX5_tryNext_80 rfl rfl ?_
  refine ax_iload hC dX5_tryNext_81 rfl ?_
  refine ax_callV1 hC mlk_X5_125 hst_X5_125 LX_43 [.inl x1, .inl x8] rfl rfl (by omega) (by decide) (Nat.le_of_ble_eq_true rfl) dX5_tryNext_83 (fun r9 s9 h9 => kX5_agrees _ _ _ _ _ h9) (fun r9 st10 => ?_)
  refine ax_if_eq hC dX5_tryNext_86 (tgt := 108) (by decide) (fun _ => ?_) (fun _ => ?_)
  · refine ax_sub (lv' := [none, none, none, none, some (.inr q94), some (.inl x5), some (.inl x6), some (.inl x7), some (.inl x8)]) (ax_leN (ax_leN (ax_leN (ax_leN (ax_leS (ax_leS (ax_leS (ax_leS (ax_leS ax_le0))))))))) ?_
    exact kX5_tryNext_b108 hrc h10 hC _ _ _ _ _ hq94 _
  · refine ax_aloadn hC dX5_tryNext_89 rfl rfl ?_
    refine ax_lkR hC lk_X5_24 LX_43 rfl dX5_tryNext_90 ?_
    refine ax_iloadn hC dX5_tryNext_93 rfl rfl ?_
    refine ax_iloadn hC dX5_tryNext_94 rfl rfl ?_
    refine ax_iast hC LX_47 dX5_tryNext_95 (fun st11 => ?_)
    refine ax_aloadn hC dX5_tryNext_96 rfl rfl ?_
    refine ax_iloadn hC dX5_tryNext_97 rfl rfl ?_
    refine ax_iconst hC dX5_tryNext_98 (v := 1) (by decide) ?_
    refine ax_iloadn hC dX5_tryNext_99 rfl rfl ?_
    refine ax_ishl hC dX5_tryNext_100 ?_
    refine ax_ior hC dX5_tryNext_101 ?_
    refine ax_iloadn hC dX5_tryNext_102 rfl rfl ?_
    refine ax_iconst hC dX5_tryNext_103 (v := 1) (by decide) ?_
    refine ax_iadd hC dX5_tryNext_104 ?_
    refine ax_callS0 hC mlk_X5_103 hst_X5_103 [.inr 43, .inl (x2 ||| ((1 : Int32) <<< (x1 &&& 31))), .inl (x3 + (1 : Int32))] rfl rfl (by omega) (by decide) (Nat.le_of_ble_eq_true rfl) dX5_tryNext_105 (fun r9 s9 h9 => hrc _ _ _ _ _ h9) (fun r12 st13 => ?_)
    refine ax_sub (lv' := [none, none, none, none, some (.inr q94), some (.inl x5), some (.inl x6), some (.inl x7), some (.inl x8)]) (ax_leN (ax_leN (ax_leN (ax_leN (ax_leS (ax_leS (ax_leS (ax_leS (ax_leS ax_le0))))))))) ?_
    exact kX5_tryNext_b108 hrc h10 hC _ _ _ _ _ hq94 _
set_option maxRecDepth 100000 in
theorem kX5_tryNext {rc : Int32 → Int32 → ax_S → ax_R} {dd : Nat} (hrc : ∀ (u ln : Int32) (st : ax_S) (r : Int32) (st1 : ax_S), rc u ln st = some (r, st1) → ax_M LX yX5_extend cX5_extend 4 none dd [.inr 43, .inl u, .inl ln] st 0 r st1) (h10 : 10 ≤ dd) (x1 : Int32) (x2 : Int32) (x3 : Int32) (st : ax_S) (r : Int32) (stz : ax_S) (h : fX5_tryNext rc x1 x2 x3 st = some (r, stz)) : ax_M LX yX5_tryNext cX5_tryNext 9 none (dd + 1) [.inr 43, .inl x1, .inl x2, .inl x3] st 0 r stz := by
  refine ax_start (by decide) (Nat.le_of_ble_eq_true rfl) (lv0 := [some (.inr 43), some (.inl x1), some (.inl x2), some (.inl x3), none, none, none, none, none]) rfl (fun C X hC => ?_)
  rw [← h]
  unfold fX5_tryNext
  refine ax_aloadn hC dX5_tryNext_0 rfl rfl ?_
  refine ax_lkR hC lk_X5_11 LX_43 rfl dX5_tryNext_1 ?_
  refine ax_aloadn hC dX5_tryNext_4 rfl rfl ?_
  refine ax_lkR hC lk_X5_42 LX_43 rfl dX5_tryNext_5 ?_
  refine ax_lkR hC lk_X5_59 LX_5 rfl dX5_tryNext_8 ?_
  refine ax_iloadn hC dX5_tryNext_11 rfl rfl ?_
  refine ax_iald hC LX_11 dX5_tryNext_12 (fun v1 => ?_)
  refine ax_aald hC LX_44 dX5_tryNext_13 (fun q2 hq2 => ?_)
  refine ax_astore hC dX5_tryNext_14 (by decide) (lv' := [some (.inr 43), some (.inl x1), some (.inl x2), some (.inl x3), some (.inr q2), none, none, none, none]) rfl ?_
  refine ax_aloadn hC dX5_tryNext_16 rfl rfl ?_
  refine ax_lkR hC lk_X5_42 LX_43 rfl dX5_tryNext_17 ?_
  refine ax_lkR hC lk_X5_128 LX_5 rfl dX5_tryNext_20 ?_
  refine ax_iloadn hC dX5_tryNext_23 rfl rfl ?_
  refine ax_iald hC LX_9 dX5_tryNext_24 (fun v3 => ?_)
  refine ax_istore hC dX5_tryNext_25 (by decide) (lv' := [some (.inr 43), some (.inl x1), some (.inl x2), some (.inl x3), some (.inr q2), some (.inl v3), none, none, none]) rfl ?_
  refine ax_aloadn hC dX5_tryNext_27 rfl rfl ?_
  refine ax_lkR hC lk_X5_42 LX_43 rfl dX5_tryNext_28 ?_
  refine ax_lkR hC lk_X5_131 LX_5 rfl dX5_tryNext_31 ?_
  refine ax_iloadn hC dX5_tryNext_34 rfl rfl ?_
  refine ax_iald hC LX_12 dX5_tryNext_35 (fun v4 => ?_)
  refine ax_istore hC dX5_tryNext_36 (by decide) (lv' := [some (.inr 43), some (.inl x1), some (.inl x2), some (.inl x3), some (.inr q2), some (.inl v3), some (.inl v4), none, none]) rfl ?_
  refine ax_aload hC dX5_tryNext_38 rfl ?_
  refine ax_lkI hC lk_X5_152 (LX_ss _ hq2).1 rfl dX5_tryNext_40 ?_
  refine ax_istore hC dX5_tryNext_43 (by decide) (lv' := [some (.inr 43), some (.inl x1), some (.inl x2), some (.inl x3), some (.inr q2), some (.inl v3), some (.inl v4), some (.inl (st.1 q2 0)), none]) rfl ?_
  refine ax_aload hC dX5_tryNext_45 rfl ?_
  refine ax_iload hC dX5_tryNext_47 rfl ?_
  refine ax_iload hC dX5_tryNext_49 rfl ?_
  refine ax_aloadn hC dX5_tryNext_51 rfl rfl ?_
  refine ax_lkR hC lk_X5_42 LX_43 rfl dX5_tryNext_52 ?_
  refine ax_lkR hC lk_X5_134 LX_5 rfl dX5_tryNext_55 ?_
  refine ax_iloadn hC dX5_tryNext_58 rfl rfl ?_
  refine ax_iald hC LX_13 dX5_tryNext_59 (fun v5 => ?_)
  refine ax_callV1 hC mlk_X5_137 hst_X5_137 (LX_ss _ hq2).1 [.inl v3, .inl v4, .inl v5] rfl rfl (by omega) (by decide) (Nat.le_of_ble_eq_true rfl) dX5_tryNext_60 (fun r9 s9 h9 => kX6_perform _ hq2 _ _ _ _ _ _ h9) (fun r6 st7 => ?_)
  refine ax_istore hC dX5_tryNext_63 (by decide) (lv' := [some (.inr 43), some (.inl x1), some (.inl x2), some (.inl x3), some (.inr q2), some (.inl v3), some (.inl v4), some (.inl (st.1 q2 0)), some (.inl r6)]) rfl ?_
  refine ax_iloadn hC dX5_tryNext_65 rfl rfl ?_
  refine ax_aloadn hC dX5_tryNext_66 rfl rfl ?_
  refine ax_lkI hC lk_X5_51 LX_43 rfl dX5_tryNext_67 ?_
  refine ax_icmp_ne hC dX5_tryNext_70 (tgt := 79) (by decide) (fun _ => ?_) (fun _ => ?_)
  · refine ax_aloadn hC dX5_tryNext_73 rfl rfl ?_
    refine ax_iload hC dX5_tryNext_74 rfl ?_
    refine ax_putI hC lp_X5_155 LX_43 rfl dX5_tryNext_76 (fun st8 => ?_)
    exact kX5_tryNext_b79 hrc h10 hC _ _ _ _ _ _ _ _ hq2 _
  · exact kX5_tryNext_b79 hrc h10 hC _ _ _ _ _ _ _ _ hq2 _
set_option maxRecDepth 100000 in
theorem kX5_extend_b65 {C : ax_C} {X : ax_X} {rc : Int32 → Int32 → ax_S → ax_R} {dd : Nat} (hrc : ∀ (u ln : Int32) (st : ax_S) (r : Int32) (st1 : ax_S), rc u ln st = some (r, st1) → ax_M LX yX5_extend cX5_extend 4 none dd [.inr 43, .inl u, .inl ln] st 0 r st1) (h10 : 10 ≤ dd) (hC : ax_ok C X LX cX5_extend RX5 4 none (dd + 2)) (st : ax_S) : AW C X LX 4 0 (fX5_extend_b65 rc st) 65 [none, none, none, none] [] st := by
  unfold fX5_extend_b65
  exact ax_vret hC dX5_extend_65
set_option maxRecDepth 100000 in
theorem kX5_extend_b59 {C : ax_C} {X : ax_X} {rc : Int32 → Int32 → ax_S → ax_R} {dd : Nat} (hrc : ∀ (u ln : Int32) (st : ax_S) (r : Int32) (st1 : ax_S), rc u ln st = some (r, st1) → ax_M LX yX5_extend cX5_extend 4 none dd [.inr 43, .inl u, .inl ln] st 0 r st1) (h10 : 10 ≤ dd) (hC : ax_ok C X LX cX5_extend RX5 4 none (dd + 2)) {rec25 : Int32 → Int32 → Int32 → ax_S → ax_R} (hrec25 : ∀ (x1 : Int32) (x2 : Int32) (x3 : Int32) (st : ax_S), AW C X LX 4 0 (rec25 x1 x2 x3 st) 25 [some (.inr 43), some (.inl x1), some (.inl x2), some (.inl x3)] [] st) (x1 : Int32) (x2 : Int32) (x3 : Int32) (st : ax_S) : AW C X LX 4 0 (fX5_extend_b59 rc rec25 x1 x2 x3 st) 59 [some (.inr 43), some (.inl x1), some (.inl x2), some (.inl x3)] [] st := by
  unfold fX5_extend_b59
  refine ax_iinc hC dX5_extend_59 rfl (v := (x3 + (1 : Int32))) rfl (by decide) (lv' := [some (.inr 43), some (.inl x1), some (.inl x2), some (.inl (x3 + (1 : Int32)))]) rfl ?_
  refine ax_goto hC dX5_extend_62 (tgt := 25) (by decide) ?_
  exact hrec25 _ _ _ _
set_option maxRecDepth 100000 in
theorem kX5_extend_L25 {C : ax_C} {X : ax_X} {rc : Int32 → Int32 → ax_S → ax_R} {dd : Nat} (hrc : ∀ (u ln : Int32) (st : ax_S) (r : Int32) (st1 : ax_S), rc u ln st = some (r, st1) → ax_M LX yX5_extend cX5_extend 4 none dd [.inr 43, .inl u, .inl ln] st 0 r st1) (h10 : 10 ≤ dd) (hC : ax_ok C X LX cX5_extend RX5 4 none (dd + 2)) : ∀ (n : Nat) (x1 : Int32) (x2 : Int32) (x3 : Int32) (st : ax_S), AW C X LX 4 0 (fX5_extend_L25 rc n x1 x2 x3 st) 25 [some (.inr 43), some (.inl x1), some (.inl x2), some (.inl x3)] [] st := by
  intro n
  induction n with
  | zero => intros; exact ax_none rfl
  | succ n hrec250 =>
    intro x1 x2 x3 st
    have hrec25 := hrec250
    rw [fX5_extend_L25.eq_2]
    refine ax_iloadn hC dX5_extend_25 rfl rfl ?_
    refine ax_aloadn hC dX5_extend_26 rfl rfl ?_
    refine ax_lkR hC lk_X5_42 LX_43 rfl dX5_extend_27 ?_
    refine ax_lkI hC lk_X5_54 LX_5 rfl dX5_extend_30 ?_
    refine ax_icmp_ge hC dX5_extend_33 (tgt := 65) (by decide) (fun _ => ?_) (fun _ => ?_)
    · refine ax_sub (lv' := [none, none, none, none]) (ax_leN (ax_leN (ax_leN (ax_leN ax_le0)))) ?_
      exact kX5_extend_b65 hrc h10 hC _
    · refine ax_aloadn hC dX5_extend_36 rfl rfl ?_
      refine ax_callV1 hC mlk_X5_144 hst_X5_144 LX_43 [] rfl rfl (by omega) (by decide) (Nat.le_of_ble_eq_true rfl) dX5_extend_37 (fun r9 s9 h9 => kX5_isOver  _ _ _ h9) (fun r3 st4 => ?_)
      refine ax_if_ne hC dX5_extend_40 (tgt := 65) (by decide) (fun _ => ?_) (fun _ => ?_)
      · refine ax_aloadn hC dX5_extend_43 rfl rfl ?_
        refine ax_iloadn hC dX5_extend_44 rfl rfl ?_
        refine ax_iloadn hC dX5_extend_45 rfl rfl ?_
        refine ax_callV1 hC mlk_X5_118 hst_X5_118 LX_43 [.inl x3, .inl x1] rfl rfl (by omega) (by decide) (Nat.le_of_ble_eq_true rfl) dX5_extend_46 (fun r9 s9 h9 => kX5_mayFollow _ _ _ _ _ h9) (fun r5 st6 => ?_)
        refine ax_if_eq hC dX5_extend_49 (tgt := 59) (by decide) (fun _ => ?_) (fun _ => ?_)
        · exact kX5_extend_b59 hrc h10 hC hrec25 _ _ _ _
        · refine ax_aloadn hC dX5_extend_52 rfl rfl ?_
          refine ax_iloadn hC dX5_extend_53 rfl rfl ?_
          refine ax_iloadn hC dX5_extend_54 rfl rfl ?_
          refine ax_iloadn hC dX5_extend_55 rfl rfl ?_
          refine ax_callV0 hC mlk_X5_148 hst_X5_148 LX_43 [.inl x3, .inl x1, .inl x2] rfl rfl (by omega) (by decide) (Nat.le_of_ble_eq_true rfl) dX5_extend_56 (fun r9 s9 h9 => kX5_tryNext hrc h10 _ _ _ _ _ _ h9) (fun r7 st8 => ?_)
          exact kX5_extend_b59 hrc h10 hC hrec25 _ _ _ _
      · refine ax_sub (lv' := [none, none, none, none]) (ax_leN (ax_leN (ax_leN (ax_leN ax_le0)))) ?_
        exact kX5_extend_b65 hrc h10 hC _
set_option maxRecDepth 100000 in
theorem kX5_extend_b16 {C : ax_C} {X : ax_X} {rc : Int32 → Int32 → ax_S → ax_R} {dd : Nat} (hrc : ∀ (u ln : Int32) (st : ax_S) (r : Int32) (st1 : ax_S), rc u ln st = some (r, st1) → ax_M LX yX5_extend cX5_extend 4 none dd [.inr 43, .inl u, .inl ln] st 0 r st1) (h10 : 10 ≤ dd) (hC : ax_ok C X LX cX5_extend RX5 4 none (dd + 2)) (x1 : Int32) (x2 : Int32) (st : ax_S) : AW C X LX 4 0 (fX5_extend_b16 rc x1 x2 st) 16 [some (.inr 43), some (.inl x1), some (.inl x2), none] [] st := by
  unfold fX5_extend_b16
  refine ax_iloadn hC dX5_extend_16 rfl rfl ?_
  refine ax_bipush hC dX5_extend_17 (v := 10) (by decide) ?_
  refine ax_icmp_lt hC dX5_extend_19 (tgt := 23) (by decide) (fun _ => ?_) (fun _ => ?_)
  · refine ax_iconst hC dX5_extend_23 (v := 0) (by decide) ?_
    refine ax_istoren hC dX5_extend_24 rfl (by decide) (lv' := [some (.inr 43), some (.inl x1), some (.inl x2), some (.inl (0 : Int32))]) rfl ?_
    exact kX5_extend_L25 hrc h10 hC 4000 _ _ _ _
  · exact ax_vret hC dX5_extend_22
set_option maxRecDepth 100000 in
theorem kX5_extend_o {rc : Int32 → Int32 → ax_S → ax_R} {dd : Nat} (hrc : ∀ (u ln : Int32) (st : ax_S) (r : Int32) (st1 : ax_S), rc u ln st = some (r, st1) → ax_M LX yX5_extend cX5_extend 4 none dd [.inr 43, .inl u, .inl ln] st 0 r st1) (h10 : 10 ≤ dd) (x1 : Int32) (x2 : Int32) (st : ax_S) (r : Int32) (stz : ax_S) (h : fX5_extend_o rc x1 x2 st = some (r, stz)) : ax_M LX yX5_extend cX5_extend 4 none (dd + 2) [.inr 43, .inl x1, .inl x2] st 0 r stz := by
  refine ax_start (by decide) (Nat.le_of_ble_eq_true rfl) (lv0 := [some (.inr 43), some (.inl x1), some (.inl x2), none]) rfl (fun C X hC => ?_)
  rw [← h]
  unfold fX5_extend_o
  refine ax_aloadn hC dX5_extend_0 rfl rfl ?_
  refine ax_lkI hC lk_X5_48 LX_43 rfl dX5_extend_1 ?_
  refine ax_iloadn hC dX5_extend_4 rfl rfl ?_
  refine ax_iconst hC dX5_extend_5 (v := -1) (by decide) ?_
  refine ax_ixor hC dX5_extend_6 ?_
  refine ax_iand hC dX5_extend_7 ?_
  refine ax_if_ne hC dX5_extend_8 (tgt := 16) (by decide) (fun _ => ?_) (fun _ => ?_)
  · refine ax_aloadn hC dX5_extend_11 rfl rfl ?_
    refine ax_iloadn hC dX5_extend_12 rfl rfl ?_
    refine ax_callV0 hC mlk_X5_141 hst_X5_141 LX_43 [.inl x2] rfl rfl (by omega) (by decide) (Nat.le_of_ble_eq_true rfl) dX5_extend_13 (fun r9 s9 h9 => kX5_noteFound _ _ _ _ h9) (fun r1 st2 => ?_)
    exact kX5_extend_b16 hrc h10 hC _ _ _
  · exact kX5_extend_b16 hrc h10 hC _ _ _
theorem kX5_extend : ∀ (n : Nat) (x1 : Int32) (x2 : Int32) (st : ax_S) (r : Int32) (st1 : ax_S), fX5_extend n x1 x2 st = some (r, st1) → ax_M LX yX5_extend cX5_extend 4 none (10 + 2 * n) [.inr 43, .inl x1, .inl x2] st 0 r st1 := by
  intro n
  induction n with
  | zero => intro x1 x2 st r st1 h; cases h
  | succ n ih =>
    intro x1 x2 st r st1 h
    have h2 := kX5_extend_o (dd := 10 + 2 * n) ih (by omega) x1 x2 st r st1 h
    rw [show 10 + 2 * (n + 1) = 10 + 2 * n + 2 from by omega]
    exact h2
set_option maxRecDepth 100000 in
theorem kX5_findsOne_b28 {C : ax_C} {X : ax_X} (hC : ax_ok C X LX cX5_findsOne RX5 1 (some .boolean) 35) (s0 : Int32) (st : ax_S) : AW C X LX 1 1 (fX5_findsOne_b28 s0 st) 28 [none] [.inl s0] st := by
  unfold fX5_findsOne_b28
  exact ax_zret hC dX5_findsOne_28
set_option maxRecDepth 100000 in
theorem kX5_findsOne (st : ax_S) (r : Int32) (stz : ax_S) (h : fX5_findsOne st = some (r, stz)) : ax_M LX yX5_findsOne cX5_findsOne 1 (some .boolean) 35 [.inr 43] st 1 r stz := by
  refine ax_start (by decide) (Nat.le_of_ble_eq_true rfl) (lv0 := [some (.inr 43)]) rfl (fun C X hC => ?_)
  rw [← h]
  unfold fX5_findsOne
  refine ax_aloadn hC dX5_findsOne_0 rfl rfl ?_
  refine ax_iconst hC dX5_findsOne_1 (v := 1) (by decide) ?_
  refine ax_putZ hC lp_X5_96 LX_43 rfl dX5_findsOne_2 (fun st1 => ?_)
  refine ax_aloadn hC dX5_findsOne_5 rfl rfl ?_
  refine ax_iconst hC dX5_findsOne_6 (v := 0) (by decide) ?_
  refine ax_putI hC lp_X5_100 LX_43 rfl dX5_findsOne_7 (fun st2 => ?_)
  refine ax_aloadn hC dX5_findsOne_10 rfl rfl ?_
  refine ax_iconst hC dX5_findsOne_11 (v := 0) (by decide) ?_
  refine ax_iconst hC dX5_findsOne_12 (v := 0) (by decide) ?_
  refine ax_callS0 hC mlk_X5_103 hst_X5_103 [.inr 43, .inl (0 : Int32), .inl (0 : Int32)] rfl rfl (by decide) (by decide) (Nat.le_of_ble_eq_true rfl) dX5_findsOne_13 (fun r9 s9 h9 => kX5_extend 12 _ _ _ _ _ h9) (fun r3 st4 => ?_)
  refine ax_aloadn hC dX5_findsOne_16 rfl rfl ?_
  refine ax_lkI hC lk_X5_100 LX_43 rfl dX5_findsOne_17 ?_
  refine ax_if_le hC dX5_findsOne_20 (tgt := 27) (by decide) (fun _ => ?_) (fun _ => ?_)
  · refine ax_iconst hC dX5_findsOne_27 (v := 0) (by decide) ?_
    refine ax_sub (lv' := [none]) (ax_leN ax_le0) ?_
    exact kX5_findsOne_b28 hC _ _
  · refine ax_iconst hC dX5_findsOne_23 (v := 1) (by decide) ?_
    refine ax_goto hC dX5_findsOne_24 (tgt := 28) (by decide) ?_
    refine ax_sub (lv' := [none]) (ax_leN ax_le0) ?_
    exact kX5_findsOne_b28 hC _ _
set_option maxRecDepth 100000 in
theorem kX8_isPrefixLinearizable (x1 : Int32) (st : ax_S) (r : Int32) (stz : ax_S) (h : fX8_isPrefixLinearizable x1 st = some (r, stz)) : ax_M LX yX8_isPrefixLinearizable cX8_isPrefixLinearizable 2 (some .boolean) 36 [.inr 0, .inl x1] st 1 r stz := by
  refine ax_start (by decide) (Nat.le_of_ble_eq_true rfl) (lv0 := [some (.inr 0), some (.inl x1)]) rfl (fun C X hC => ?_)
  rw [← h]
  unfold fX8_isPrefixLinearizable
  refine ax_aloadn hC dX8_isPrefixLinearizable_0 rfl rfl ?_
  refine ax_lkR hC lk_X8_24 LX_0 rfl dX8_isPrefixLinearizable_1 ?_
  refine ax_iloadn hC dX8_isPrefixLinearizable_4 rfl rfl ?_
  refine ax_iconst hC dX8_isPrefixLinearizable_5 (v := -1) (by decide) ?_
  refine ax_callV0 hC mlk_X8_165 hst_X8_165 LX_43 [.inl x1, .inl (-1 : Int32)] rfl rfl (by decide) (by decide) (Nat.le_of_ble_eq_true rfl) dX8_isPrefixLinearizable_6 (fun r9 s9 h9 => kX5_prepare _ _ _ _ _ h9) (fun r1 st2 => ?_)
  refine ax_aloadn hC dX8_isPrefixLinearizable_9 rfl rfl ?_
  refine ax_lkR hC lk_X8_24 LX_0 rfl dX8_isPrefixLinearizable_10 ?_
  refine ax_callV0 hC mlk_X8_168 hst_X8_168 LX_43 [] rfl rfl (by decide) (by decide) (Nat.le_of_ble_eq_true rfl) dX8_isPrefixLinearizable_13 (fun r9 s9 h9 => kX5_keepRealTimeOrder  _ _ _ h9) (fun r3 st4 => ?_)
  refine ax_aloadn hC dX8_isPrefixLinearizable_16 rfl rfl ?_
  refine ax_lkR hC lk_X8_24 LX_0 rfl dX8_isPrefixLinearizable_17 ?_
  refine ax_callV1 hC mlk_X8_171 hst_X8_171 LX_43 [] rfl rfl (by decide) (by decide) (Nat.le_of_ble_eq_true rfl) dX8_isPrefixLinearizable_20 (fun r9 s9 h9 => kX5_findsOne  _ _ _ h9) (fun r5 st6 => ?_)
  exact ax_zret hC dX8_isPrefixLinearizable_23
set_option maxRecDepth 100000 in
theorem kX8_isLinearizable (st : ax_S) (r : Int32) (stz : ax_S) (h : fX8_isLinearizable st = some (r, stz)) : ax_M LX yX8_isLinearizable cX8_isLinearizable 1 (some .int) 37 [.inr 0] st 1 r stz := by
  refine ax_start (by decide) (Nat.le_of_ble_eq_true rfl) (lv0 := [some (.inr 0)]) rfl (fun C X hC => ?_)
  rw [← h]
  unfold fX8_isLinearizable
  refine ax_aloadn hC dX8_isLinearizable_0 rfl rfl ?_
  refine ax_aloadn hC dX8_isLinearizable_1 rfl rfl ?_
  refine ax_lkR hC lk_X8_12 LX_0 rfl dX8_isLinearizable_2 ?_
  refine ax_lkR hC lk_X8_74 LX_1 rfl dX8_isLinearizable_5 ?_
  refine ax_lkI hC lk_X8_78 LX_5 rfl dX8_isLinearizable_8 ?_
  refine ax_callV1 hC mlk_X8_162 hst_X8_162 LX_0 [.inl (st.1 5 0)] rfl rfl (by decide) (by decide) (Nat.le_of_ble_eq_true rfl) dX8_isLinearizable_11 (fun r9 s9 h9 => kX8_isPrefixLinearizable _ _ _ _ h9) (fun r1 st2 => ?_)
  refine ax_callS1 hC mlk_X8_151 hst_X8_151 [.inl r1] rfl rfl (by decide) (by decide) (Nat.le_of_ble_eq_true rfl) dX8_isLinearizable_14 (fun r9 s9 h9 => kX8_truth _ _ _ _ h9) (fun r3 st4 => ?_)
  exact ax_iret hC dX8_isLinearizable_17
set_option maxRecDepth 100000 in
theorem kX8_isObjectLinearizable (x1 : Int32) (st : ax_S) (r : Int32) (stz : ax_S) (h : fX8_isObjectLinearizable x1 st = some (r, stz)) : ax_M LX yX8_isObjectLinearizable cX8_isObjectLinearizable 2 (some .int) 36 [.inr 0, .inl x1] st 1 r stz := by
  refine ax_start (by decide) (Nat.le_of_ble_eq_true rfl) (lv0 := [some (.inr 0), some (.inl x1)]) rfl (fun C X hC => ?_)
  rw [← h]
  unfold fX8_isObjectLinearizable
  refine ax_aloadn hC dX8_isObjectLinearizable_0 rfl rfl ?_
  refine ax_lkR hC lk_X8_12 LX_0 rfl dX8_isObjectLinearizable_1 ?_
  refine ax_lkR hC lk_X8_56 LX_1 rfl dX8_isObjectLinearizable_4 ?_
  refine ax_iloadn hC dX8_isObjectLinearizable_7 rfl rfl ?_
  refine ax_callV1 hC mlk_X8_66 hst_X8_66 LX_2 [.inl x1] rfl rfl (by decide) (by decide) (Nat.le_of_ble_eq_true rfl) dX8_isObjectLinearizable_8 (fun r9 s9 h9 => kX1_has _ _ _ _ h9) (fun r1 st2 => ?_)
  refine ax_if_ne hC dX8_isObjectLinearizable_11 (tgt := 17) (by decide) (fun _ => ?_) (fun _ => ?_)
  · refine ax_bipush hC dX8_isObjectLinearizable_14 (v := -2) (by decide) ?_
    exact ax_iret hC dX8_isObjectLinearizable_16
  · refine ax_aloadn hC dX8_isObjectLinearizable_17 rfl rfl ?_
    refine ax_lkR hC lk_X8_24 LX_0 rfl dX8_isObjectLinearizable_18 ?_
    refine ax_aloadn hC dX8_isObjectLinearizable_21 rfl rfl ?_
    refine ax_lkR hC lk_X8_12 LX_0 rfl dX8_isObjectLinearizable_22 ?_
    refine ax_lkR hC lk_X8_74 LX_1 rfl dX8_isObjectLinearizable_25 ?_
    refine ax_lkI hC lk_X8_78 LX_5 rfl dX8_isObjectLinearizable_28 ?_
    refine ax_iloadn hC dX8_isObjectLinearizable_31 rfl rfl ?_
    refine ax_callV0 hC mlk_X8_165 hst_X8_165 LX_43 [.inl (st2.1 5 0), .inl x1] rfl rfl (by decide) (by decide) (Nat.le_of_ble_eq_true rfl) dX8_isObjectLinearizable_32 (fun r9 s9 h9 => kX5_prepare _ _ _ _ _ h9) (fun r3 st4 => ?_)
    refine ax_aloadn hC dX8_isObjectLinearizable_35 rfl rfl ?_
    refine ax_lkR hC lk_X8_24 LX_0 rfl dX8_isObjectLinearizable_36 ?_
    refine ax_callV0 hC mlk_X8_168 hst_X8_168 LX_43 [] rfl rfl (by decide) (by decide) (Nat.le_of_ble_eq_true rfl) dX8_isObjectLinearizable_39 (fun r9 s9 h9 => kX5_keepRealTimeOrder  _ _ _ h9) (fun r5 st6 => ?_)
    refine ax_aloadn hC dX8_isObjectLinearizable_42 rfl rfl ?_
    refine ax_lkR hC lk_X8_24 LX_0 rfl dX8_isObjectLinearizable_43 ?_
    refine ax_callV1 hC mlk_X8_171 hst_X8_171 LX_43 [] rfl rfl (by decide) (by decide) (Nat.le_of_ble_eq_true rfl) dX8_isObjectLinearizable_46 (fun r9 s9 h9 => kX5_findsOne  _ _ _ h9) (fun r7 st8 => ?_)
    refine ax_callS1 hC mlk_X8_151 hst_X8_151 [.inl r7] rfl rfl (by decide) (by decide) (Nat.le_of_ble_eq_true rfl) dX8_isObjectLinearizable_49 (fun r9 s9 h9 => kX8_truth _ _ _ _ h9) (fun r9 st10 => ?_)
    exact ax_iret hC dX8_isObjectLinearizable_52
set_option maxRecDepth 100000 in
theorem kX5_keepThreadOrder_b65 {C : ax_C} {X : ax_X} (hC : ax_ok C X LX cX5_keepThreadOrder RX5 3 none 1) {rec2 : Int32 → ax_S → ax_R} {rec22 : Int32 → Int32 → ax_S → ax_R} (hrec2 : ∀ (x1 : Int32) (st : ax_S), AW C X LX 3 0 (rec2 x1 st) 2 [some (.inr 43), some (.inl x1), none] [] st) (hrec22 : ∀ (x1 : Int32) (x2 : Int32) (st : ax_S), AW C X LX 3 0 (rec22 x1 x2 st) 22 [some (.inr 43), some (.inl x1), some (.inl x2)] [] st) (x1 : Int32) (x2 : Int32) (st : ax_S) : AW C X LX 3 0 (fX5_keepThreadOrder_b65 rec2 rec22 x1 x2 st) 65 [some (.inr 43), some (.inl x1), some (.inl x2)] [] st := by
  unfold fX5_keepThreadOrder_b65
  refine ax_iinc hC dX5_keepThreadOrder_65 rfl (v := (x2 + (1 : Int32))) rfl (by decide) (lv' := [some (.inr 43), some (.inl x1), some (.inl (x2 + (1 : Int32)))]) rfl ?_
  refine ax_goto hC dX5_keepThreadOrder_68 (tgt := 22) (by decide) ?_
  exact hrec22 _ _ _
set_option maxRecDepth 100000 in
theorem kX5_keepThreadOrder_L22 {C : ax_C} {X : ax_X} (hC : ax_ok C X LX cX5_keepThreadOrder RX5 3 none 1) {rec2 : Int32 → ax_S → ax_R} (hrec2 : ∀ (x1 : Int32) (st : ax_S), AW C X LX 3 0 (rec2 x1 st) 2 [some (.inr 43), some (.inl x1), none] [] st) : ∀ (n : Nat) (x1 : Int32) (x2 : Int32) (st : ax_S), AW C X LX 3 0 (fX5_keepThreadOrder_L22 rec2 n x1 x2 st) 22 [some (.inr 43), some (.inl x1), some (.inl x2)] [] st := by
  intro n
  induction n with
  | zero => intros; exact ax_none rfl
  | succ n hrec220 =>
    intro x1 x2 st
    have hrec22 := hrec220
    rw [fX5_keepThreadOrder_L22.eq_2]
    refine ax_iloadn hC dX5_keepThreadOrder_22 rfl rfl ?_
    refine ax_iloadn hC dX5_keepThreadOrder_23 rfl rfl ?_
    refine ax_icmp_ge hC dX5_keepThreadOrder_24 (tgt := 71) (by decide) (fun _ => ?_) (fun _ => ?_)
    · refine ax_iinc hC dX5_keepThreadOrder_71 rfl (v := (x1 + (1 : Int32))) rfl (by decide) (lv' := [some (.inr 43), some (.inl (x1 + (1 : Int32))), some (.inl x2)]) rfl ?_
      refine ax_goto hC dX5_keepThreadOrder_74 (tgt := 2) (by decide) ?_
      refine ax_sub (lv' := [some (.inr 43), some (.inl (x1 + (1 : Int32))), none]) (ax_leS (ax_leS (ax_leN ax_le0))) ?_
      exact hrec2 _ _
    · refine ax_aloadn hC dX5_keepThreadOrder_27 rfl rfl ?_
      refine ax_lkR hC lk_X5_42 LX_43 rfl dX5_keepThreadOrder_28 ?_
      refine ax_lkR hC lk_X5_93 LX_5 rfl dX5_keepThreadOrder_31 ?_
      refine ax_iloadn hC dX5_keepThreadOrder_34 rfl rfl ?_
      refine ax_iald hC LX_10 dX5_keepThreadOrder_35 (fun v2 => ?_)
      refine ax_aloadn hC dX5_keepThreadOrder_36 rfl rfl ?_
      refine ax_lkR hC lk_X5_42 LX_43 rfl dX5_keepThreadOrder_37 ?_
      refine ax_lkR hC lk_X5_93 LX_5 rfl dX5_keepThreadOrder_40 ?_
      refine ax_iloadn hC dX5_keepThreadOrder_43 rfl rfl ?_
      refine ax_iald hC LX_10 dX5_keepThreadOrder_44 (fun v3 => ?_)
      refine ax_icmp_ne hC dX5_keepThreadOrder_45 (tgt := 65) (by decide) (fun _ => ?_) (fun _ => ?_)
      · refine ax_aloadn hC dX5_keepThreadOrder_48 rfl rfl ?_
        refine ax_lkR hC lk_X5_21 LX_43 rfl dX5_keepThreadOrder_49 ?_
        refine ax_iloadn hC dX5_keepThreadOrder_52 rfl rfl ?_
        refine ax_dup2 hC dX5_keepThreadOrder_53 ?_
        refine ax_iald hC LX_46 dX5_keepThreadOrder_54 (fun v4 => ?_)
        refine ax_aloadn hC dX5_keepThreadOrder_55 rfl rfl ?_
        refine ax_lkI hC lk_X5_44 LX_43 rfl dX5_keepThreadOrder_56 ?_
        refine ax_iconst hC dX5_keepThreadOrder_59 (v := 1) (by decide) ?_
        refine ax_iloadn hC dX5_keepThreadOrder_60 rfl rfl ?_
        refine ax_ishl hC dX5_keepThreadOrder_61 ?_
        refine ax_iand hC dX5_keepThreadOrder_62 ?_
        refine ax_ior hC dX5_keepThreadOrder_63 ?_
        refine ax_iast hC LX_46 dX5_keepThreadOrder_64 (fun st5 => ?_)
        exact kX5_keepThreadOrder_b65 hC hrec2 hrec22 _ _ _
      · exact kX5_keepThreadOrder_b65 hC hrec2 hrec22 _ _ _
set_option maxRecDepth 100000 in
theorem kX5_keepThreadOrder_L2 {C : ax_C} {X : ax_X} (hC : ax_ok C X LX cX5_keepThreadOrder RX5 3 none 1) : ∀ (n : Nat) (x1 : Int32) (st : ax_S), AW C X LX 3 0 (fX5_keepThreadOrder_L2 n x1 st) 2 [some (.inr 43), some (.inl x1), none] [] st := by
  intro n
  induction n with
  | zero => intros; exact ax_none rfl
  | succ n hrec20 =>
    intro x1 st
    have hrec2 := hrec20
    rw [fX5_keepThreadOrder_L2.eq_2]
    refine ax_iloadn hC dX5_keepThreadOrder_2 rfl rfl ?_
    refine ax_aloadn hC dX5_keepThreadOrder_3 rfl rfl ?_
    refine ax_lkR hC lk_X5_42 LX_43 rfl dX5_keepThreadOrder_4 ?_
    refine ax_lkI hC lk_X5_54 LX_5 rfl dX5_keepThreadOrder_7 ?_
    refine ax_icmp_ge hC dX5_keepThreadOrder_10 (tgt := 77) (by decide) (fun _ => ?_) (fun _ => ?_)
    · exact ax_vret hC dX5_keepThreadOrder_77
    · refine ax_aloadn hC dX5_keepThreadOrder_13 rfl rfl ?_
      refine ax_lkR hC lk_X5_21 LX_43 rfl dX5_keepThreadOrder_14 ?_
      refine ax_iloadn hC dX5_keepThreadOrder_17 rfl rfl ?_
      refine ax_iconst hC dX5_keepThreadOrder_18 (v := 0) (by decide) ?_
      refine ax_iast hC LX_46 dX5_keepThreadOrder_19 (fun st1 => ?_)
      refine ax_iconst hC dX5_keepThreadOrder_20 (v := 0) (by decide) ?_
      refine ax_istoren hC dX5_keepThreadOrder_21 rfl (by decide) (lv' := [some (.inr 43), some (.inl x1), some (.inl (0 : Int32))]) rfl ?_
      exact kX5_keepThreadOrder_L22 hC hrec2 4000 _ _ _
set_option maxRecDepth 100000 in
theorem kX5_keepThreadOrder (st : ax_S) (r : Int32) (stz : ax_S) (h : fX5_keepThreadOrder st = some (r, stz)) : ax_M LX yX5_keepThreadOrder cX5_keepThreadOrder 3 none 1 [.inr 43] st 0 r stz := by
  refine ax_start (by decide) (Nat.le_of_ble_eq_true rfl) (lv0 := [some (.inr 43), none, none]) rfl (fun C X hC => ?_)
  rw [← h]
  unfold fX5_keepThreadOrder
  refine ax_iconst hC dX5_keepThreadOrder_0 (v := 0) (by decide) ?_
  refine ax_istoren hC dX5_keepThreadOrder_1 rfl (by decide) (lv' := [some (.inr 43), some (.inl (0 : Int32)), none]) rfl ?_
  exact kX5_keepThreadOrder_L2 hC 4000 _ _
set_option maxRecDepth 100000 in
theorem kX8_isSequentiallyConsistent (st : ax_S) (r : Int32) (stz : ax_S) (h : fX8_isSequentiallyConsistent st = some (r, stz)) : ax_M LX yX8_isSequentiallyConsistent cX8_isSequentiallyConsistent 1 (some .int) 36 [.inr 0] st 1 r stz := by
  refine ax_start (by decide) (Nat.le_of_ble_eq_true rfl) (lv0 := [some (.inr 0)]) rfl (fun C X hC => ?_)
  rw [← h]
  unfold fX8_isSequentiallyConsistent
  refine ax_aloadn hC dX8_isSequentiallyConsistent_0 rfl rfl ?_
  refine ax_lkR hC lk_X8_24 LX_0 rfl dX8_isSequentiallyConsistent_1 ?_
  refine ax_aloadn hC dX8_isSequentiallyConsistent_4 rfl rfl ?_
  refine ax_lkR hC lk_X8_12 LX_0 rfl dX8_isSequentiallyConsistent_5 ?_
  refine ax_lkR hC lk_X8_74 LX_1 rfl dX8_isSequentiallyConsistent_8 ?_
  refine ax_lkI hC lk_X8_78 LX_5 rfl dX8_isSequentiallyConsistent_11 ?_
  refine ax_iconst hC dX8_isSequentiallyConsistent_14 (v := -1) (by decide) ?_
  refine ax_callV0 hC mlk_X8_165 hst_X8_165 LX_43 [.inl (st.1 5 0), .inl (-1 : Int32)] rfl rfl (by decide) (by decide) (Nat.le_of_ble_eq_true rfl) dX8_isSequentiallyConsistent_15 (fun r9 s9 h9 => kX5_prepare _ _ _ _ _ h9) (fun r1 st2 => ?_)
  refine ax_aloadn hC dX8_isSequentiallyConsistent_18 rfl rfl ?_
  refine ax_lkR hC lk_X8_24 LX_0 rfl dX8_isSequentiallyConsistent_19 ?_
  refine ax_callV0 hC mlk_X8_175 hst_X8_175 LX_43 [] rfl rfl (by decide) (by decide) (Nat.le_of_ble_eq_true rfl) dX8_isSequentiallyConsistent_22 (fun r9 s9 h9 => kX5_keepThreadOrder  _ _ _ h9) (fun r3 st4 => ?_)
  refine ax_aloadn hC dX8_isSequentiallyConsistent_25 rfl rfl ?_
  refine ax_lkR hC lk_X8_24 LX_0 rfl dX8_isSequentiallyConsistent_26 ?_
  refine ax_callV1 hC mlk_X8_171 hst_X8_171 LX_43 [] rfl rfl (by decide) (by decide) (Nat.le_of_ble_eq_true rfl) dX8_isSequentiallyConsistent_29 (fun r9 s9 h9 => kX5_findsOne  _ _ _ h9) (fun r5 st6 => ?_)
  refine ax_callS1 hC mlk_X8_151 hst_X8_151 [.inl r5] rfl rfl (by decide) (by decide) (Nat.le_of_ble_eq_true rfl) dX8_isSequentiallyConsistent_32 (fun r9 s9 h9 => kX8_truth _ _ _ _ h9) (fun r7 st8 => ?_)
  exact ax_iret hC dX8_isSequentiallyConsistent_35
set_option maxRecDepth 100000 in
theorem kX8_prepareWholeHistory (st : ax_S) (r : Int32) (stz : ax_S) (h : fX8_prepareWholeHistory st = some (r, stz)) : ax_M LX yX8_prepareWholeHistory cX8_prepareWholeHistory 1 none 4 [.inr 0] st 0 r stz := by
  refine ax_start (by decide) (Nat.le_of_ble_eq_true rfl) (lv0 := [some (.inr 0)]) rfl (fun C X hC => ?_)
  rw [← h]
  unfold fX8_prepareWholeHistory
  refine ax_aloadn hC dX8_prepareWholeHistory_0 rfl rfl ?_
  refine ax_lkR hC lk_X8_24 LX_0 rfl dX8_prepareWholeHistory_1 ?_
  refine ax_aloadn hC dX8_prepareWholeHistory_4 rfl rfl ?_
  refine ax_lkR hC lk_X8_12 LX_0 rfl dX8_prepareWholeHistory_5 ?_
  refine ax_lkR hC lk_X8_74 LX_1 rfl dX8_prepareWholeHistory_8 ?_
  refine ax_lkI hC lk_X8_78 LX_5 rfl dX8_prepareWholeHistory_11 ?_
  refine ax_iconst hC dX8_prepareWholeHistory_14 (v := -1) (by decide) ?_
  refine ax_callV0 hC mlk_X8_165 hst_X8_165 LX_43 [.inl (st.1 5 0), .inl (-1 : Int32)] rfl rfl (by decide) (by decide) (Nat.le_of_ble_eq_true rfl) dX8_prepareWholeHistory_15 (fun r9 s9 h9 => kX5_prepare _ _ _ _ _ h9) (fun r1 st2 => ?_)
  refine ax_aloadn hC dX8_prepareWholeHistory_18 rfl rfl ?_
  refine ax_lkR hC lk_X8_24 LX_0 rfl dX8_prepareWholeHistory_19 ?_
  refine ax_callV0 hC mlk_X8_168 hst_X8_168 LX_43 [] rfl rfl (by decide) (by decide) (Nat.le_of_ble_eq_true rfl) dX8_prepareWholeHistory_22 (fun r9 s9 h9 => kX5_keepRealTimeOrder  _ _ _ h9) (fun r3 st4 => ?_)
  exact ax_vret hC dX8_prepareWholeHistory_25
set_option maxRecDepth 100000 in
theorem kX5_countAll (st : ax_S) (r : Int32) (stz : ax_S) (h : fX5_countAll st = some (r, stz)) : ax_M LX yX5_countAll cX5_countAll 1 (some .int) 35 [.inr 43] st 1 r stz := by
  refine ax_start (by decide) (Nat.le_of_ble_eq_true rfl) (lv0 := [some (.inr 43)]) rfl (fun C X hC => ?_)
  rw [← h]
  unfold fX5_countAll
  refine ax_aloadn hC dX5_countAll_0 rfl rfl ?_
  refine ax_iconst hC dX5_countAll_1 (v := 0) (by decide) ?_
  refine ax_putZ hC lp_X5_96 LX_43 rfl dX5_countAll_2 (fun st1 => ?_)
  refine ax_aloadn hC dX5_countAll_5 rfl rfl ?_
  refine ax_iconst hC dX5_countAll_6 (v := 0) (by decide) ?_
  refine ax_putI hC lp_X5_100 LX_43 rfl dX5_countAll_7 (fun st2 => ?_)
  refine ax_aloadn hC dX5_countAll_10 rfl rfl ?_
  refine ax_iconst hC dX5_countAll_11 (v := 0) (by decide) ?_
  refine ax_iconst hC dX5_countAll_12 (v := 0) (by decide) ?_
  refine ax_callS0 hC mlk_X5_103 hst_X5_103 [.inr 43, .inl (0 : Int32), .inl (0 : Int32)] rfl rfl (by decide) (by decide) (Nat.le_of_ble_eq_true rfl) dX5_countAll_13 (fun r9 s9 h9 => kX5_extend 12 _ _ _ _ _ h9) (fun r3 st4 => ?_)
  refine ax_aloadn hC dX5_countAll_16 rfl rfl ?_
  refine ax_lkI hC lk_X5_100 LX_43 rfl dX5_countAll_17 ?_
  exact ax_iret hC dX5_countAll_20
set_option maxRecDepth 100000 in
theorem kX8_countLinearizations (st : ax_S) (r : Int32) (stz : ax_S) (h : fX8_countLinearizations st = some (r, stz)) : ax_M LX yX8_countLinearizations cX8_countLinearizations 1 (some .int) 36 [.inr 0] st 1 r stz := by
  refine ax_start (by decide) (Nat.le_of_ble_eq_true rfl) (lv0 := [some (.inr 0)]) rfl (fun C X hC => ?_)
  rw [← h]
  unfold fX8_countLinearizations
  refine ax_aloadn hC dX8_countLinearizations_0 rfl rfl ?_
  refine ax_callV0 hC mlk_X8_178 hst_X8_178 LX_0 [] rfl rfl (by decide) (by decide) (Nat.le_of_ble_eq_true rfl) dX8_countLinearizations_1 (fun r9 s9 h9 => kX8_prepareWholeHistory  _ _ _ h9) (fun r1 st2 => ?_)
  refine ax_aloadn hC dX8_countLinearizations_4 rfl rfl ?_
  refine ax_lkR hC lk_X8_24 LX_0 rfl dX8_countLinearizations_5 ?_
  refine ax_callV1 hC mlk_X8_181 hst_X8_181 LX_43 [] rfl rfl (by decide) (by decide) (Nat.le_of_ble_eq_true rfl) dX8_countLinearizations_8 (fun r9 s9 h9 => kX5_countAll  _ _ _ h9) (fun r3 st4 => ?_)
  exact ax_iret hC dX8_countLinearizations_11
set_option maxRecDepth 100000 in
theorem kX8_firstLinearizationLength (st : ax_S) (r : Int32) (stz : ax_S) (h : fX8_firstLinearizationLength st = some (r, stz)) : ax_M LX yX8_firstLinearizationLength cX8_firstLinearizationLength 1 (some .int) 36 [.inr 0] st 1 r stz := by
  refine ax_start (by decide) (Nat.le_of_ble_eq_true rfl) (lv0 := [some (.inr 0)]) rfl (fun C X hC => ?_)
  rw [← h]
  unfold fX8_firstLinearizationLength
  refine ax_aloadn hC dX8_firstLinearizationLength_0 rfl rfl ?_
  refine ax_callV0 hC mlk_X8_178 hst_X8_178 LX_0 [] rfl rfl (by decide) (by decide) (Nat.le_of_ble_eq_true rfl) dX8_firstLinearizationLength_1 (fun r9 s9 h9 => kX8_prepareWholeHistory  _ _ _ h9) (fun r1 st2 => ?_)
  refine ax_aloadn hC dX8_firstLinearizationLength_4 rfl rfl ?_
  refine ax_lkR hC lk_X8_24 LX_0 rfl dX8_firstLinearizationLength_5 ?_
  refine ax_callV1 hC mlk_X8_171 hst_X8_171 LX_43 [] rfl rfl (by decide) (by decide) (Nat.le_of_ble_eq_true rfl) dX8_firstLinearizationLength_8 (fun r9 s9 h9 => kX5_findsOne  _ _ _ h9) (fun r3 st4 => ?_)
  refine ax_if_ne hC dX8_firstLinearizationLength_11 (tgt := 17) (by decide) (fun _ => ?_) (fun _ => ?_)
  · refine ax_bipush hC dX8_firstLinearizationLength_14 (v := -10) (by decide) ?_
    exact ax_iret hC dX8_firstLinearizationLength_16
  · refine ax_aloadn hC dX8_firstLinearizationLength_17 rfl rfl ?_
    refine ax_lkR hC lk_X8_24 LX_0 rfl dX8_firstLinearizationLength_18 ?_
    refine ax_lkI hC lk_X8_184 LX_43 rfl dX8_firstLinearizationLength_21 ?_
    exact ax_iret hC dX8_firstLinearizationLength_24
set_option maxRecDepth 100000 in
theorem kX8_firstLinearizationAt_b31 {C : ax_C} {X : ax_X} (hC : ax_ok C X LX cX8_firstLinearizationAt RX8 2 (some .int) 36) (st : ax_S) : AW C X LX 2 1 (fX8_firstLinearizationAt_b31 st) 31 [none, none] [] st := by
  unfold fX8_firstLinearizationAt_b31
  refine ax_bipush hC dX8_firstLinearizationAt_31 (v := -10) (by decide) ?_
  exact ax_iret hC dX8_firstLinearizationAt_33
set_option maxRecDepth 100000 in
theorem kX8_firstLinearizationAt (x1 : Int32) (st : ax_S) (r : Int32) (stz : ax_S) (h : fX8_firstLinearizationAt x1 st = some (r, stz)) : ax_M LX yX8_firstLinearizationAt cX8_firstLinearizationAt 2 (some .int) 36 [.inr 0, .inl x1] st 1 r stz := by
  refine ax_start (by decide) (Nat.le_of_ble_eq_true rfl) (lv0 := [some (.inr 0), some (.inl x1)]) rfl (fun C X hC => ?_)
  rw [← h]
  unfold fX8_firstLinearizationAt
  refine ax_aloadn hC dX8_firstLinearizationAt_0 rfl rfl ?_
  refine ax_callV0 hC mlk_X8_178 hst_X8_178 LX_0 [] rfl rfl (by decide) (by decide) (Nat.le_of_ble_eq_true rfl) dX8_firstLinearizationAt_1 (fun r9 s9 h9 => kX8_prepareWholeHistory  _ _ _ h9) (fun r1 st2 => ?_)
  refine ax_aloadn hC dX8_firstLinearizationAt_4 rfl rfl ?_
  refine ax_lkR hC lk_X8_24 LX_0 rfl dX8_firstLinearizationAt_5 ?_
  refine ax_callV1 hC mlk_X8_171 hst_X8_171 LX_43 [] rfl rfl (by decide) (by decide) (Nat.le_of_ble_eq_true rfl) dX8_firstLinearizationAt_8 (fun r9 s9 h9 => kX5_findsOne  _ _ _ h9) (fun r3 st4 => ?_)
  refine ax_if_eq hC dX8_firstLinearizationAt_11 (tgt := 31) (by decide) (fun _ => ?_) (fun _ => ?_)
  · refine ax_sub (lv' := [none, none]) (ax_leN (ax_leN ax_le0)) ?_
    exact kX8_firstLinearizationAt_b31 hC _
  · refine ax_iloadn hC dX8_firstLinearizationAt_14 rfl rfl ?_
    refine ax_iconst hC dX8_firstLinearizationAt_15 (v := 0) (by decide) ?_
    refine ax_aloadn hC dX8_firstLinearizationAt_16 rfl rfl ?_
    refine ax_lkR hC lk_X8_24 LX_0 rfl dX8_firstLinearizationAt_17 ?_
    refine ax_lkI hC lk_X8_184 LX_43 rfl dX8_firstLinearizationAt_20 ?_
    refine ax_iconst hC dX8_firstLinearizationAt_23 (v := 1) (by decide) ?_
    refine ax_isub hC dX8_firstLinearizationAt_24 ?_
    refine ax_callS1 hC mlk_X8_48 hst_X8_48 [.inl x1, .inl (0 : Int32), .inl ((st4.1 43 9) - (1 : Int32))] rfl rfl (by decide) (by decide) (Nat.le_of_ble_eq_true rfl) dX8_firstLinearizationAt_25 (fun r9 s9 h9 => kX8_isBetween _ _ _ _ _ _ h9) (fun r5 st6 => ?_)
    refine ax_if_ne hC dX8_firstLinearizationAt_28 (tgt := 34) (by decide) (fun _ => ?_) (fun _ => ?_)
    · refine ax_sub (lv' := [none, none]) (ax_leN (ax_leN ax_le0)) ?_
      exact kX8_firstLinearizationAt_b31 hC _
    · refine ax_aloadn hC dX8_firstLinearizationAt_34 rfl rfl ?_
      refine ax_lkR hC lk_X8_24 LX_0 rfl dX8_firstLinearizationAt_35 ?_
      refine ax_lkR hC lk_X8_187 LX_43 rfl dX8_firstLinearizationAt_38 ?_
      refine ax_iloadn hC dX8_firstLinearizationAt_41 rfl rfl ?_
      refine ax_iald hC LX_47 dX8_firstLinearizationAt_42 (fun v7 => ?_)
      exact ax_iret hC dX8_firstLinearizationAt_43
set_option maxRecDepth 100000 in
theorem kX0_endsWithResponse_b29 {C : ax_C} {X : ax_X} (hC : ax_ok C X LX cX0_endsWithResponse RX0 2 (some .boolean) 2) (s0 : Int32) (st : ax_S) : AW C X LX 2 1 (fX0_endsWithResponse_b29 s0 st) 29 [none, none] [.inl s0] st := by
  unfold fX0_endsWithResponse_b29
  exact ax_zret hC dX0_endsWithResponse_29
set_option maxRecDepth 100000 in
theorem kX0_endsWithResponse_b28 {C : ax_C} {X : ax_X} (hC : ax_ok C X LX cX0_endsWithResponse RX0 2 (some .boolean) 2) (st : ax_S) : AW C X LX 2 1 (fX0_endsWithResponse_b28 st) 28 [none, none] [] st := by
  unfold fX0_endsWithResponse_b28
  refine ax_iconst hC dX0_endsWithResponse_28 (v := 0) (by decide) ?_
  exact kX0_endsWithResponse_b29 hC _ _
set_option maxRecDepth 100000 in
theorem kX0_endsWithResponse (x1 : Int32) (st : ax_S) (r : Int32) (stz : ax_S) (h : fX0_endsWithResponse x1 st = some (r, stz)) : ax_M LX yX0_endsWithResponse cX0_endsWithResponse 2 (some .boolean) 2 [.inr 5, .inl x1] st 1 r stz := by
  refine ax_start (by decide) (Nat.le_of_ble_eq_true rfl) (lv0 := [some (.inr 5), some (.inl x1)]) rfl (fun C X hC => ?_)
  rw [← h]
  unfold fX0_endsWithResponse
  refine ax_iloadn hC dX0_endsWithResponse_0 rfl rfl ?_
  refine ax_iconst hC dX0_endsWithResponse_1 (v := 1) (by decide) ?_
  refine ax_aloadn hC dX0_endsWithResponse_2 rfl rfl ?_
  refine ax_lkI hC lk_X0_58 LX_5 rfl dX0_endsWithResponse_3 ?_
  refine ax_callS1n hC mlk_X0_65 hst_X0_65 [.inl x1, .inl (1 : Int32), .inl (st.1 5 0)] rfl rfl (by decide) (by decide) (Nat.le_of_ble_eq_true rfl) dX0_endsWithResponse_6 (fun r9 s9 h9 => kX8_isBetween _ _ _ _ _ _ h9) (fun r1 st2 => ?_)
  refine ax_if_eq hC dX0_endsWithResponse_9 (tgt := 28) (by decide) (fun _ => ?_) (fun _ => ?_)
  · refine ax_sub (lv' := [none, none]) (ax_leN (ax_leN ax_le0)) ?_
    exact kX0_endsWithResponse_b28 hC _
  · refine ax_aloadn hC dX0_endsWithResponse_12 rfl rfl ?_
    refine ax_lkR hC lk_X0_9 LX_5 rfl dX0_endsWithResponse_13 ?_
    refine ax_iloadn hC dX0_endsWithResponse_16 rfl rfl ?_
    refine ax_iconst hC dX0_endsWithResponse_17 (v := 1) (by decide) ?_
    refine ax_isub hC dX0_endsWithResponse_18 ?_
    refine ax_iald hC LX_6 dX0_endsWithResponse_19 (fun v3 => ?_)
    refine ax_iconst hC dX0_endsWithResponse_20 (v := 1) (by decide) ?_
    refine ax_icmp_ne hC dX0_endsWithResponse_21 (tgt := 28) (by decide) (fun _ => ?_) (fun _ => ?_)
    · refine ax_iconst hC dX0_endsWithResponse_24 (v := 1) (by decide) ?_
      refine ax_goto hC dX0_endsWithResponse_25 (tgt := 29) (by decide) ?_
      refine ax_sub (lv' := [none, none]) (ax_leN (ax_leN ax_le0)) ?_
      exact kX0_endsWithResponse_b29 hC _ _
    · refine ax_sub (lv' := [none, none]) (ax_leN (ax_leN ax_le0)) ?_
      exact kX0_endsWithResponse_b28 hC _
set_option maxRecDepth 100000 in
theorem kX8_firstViolation_b40 {C : ax_C} {X : ax_X} (hC : ax_ok C X LX cX8_firstViolation RX8 2 (some .int) 37) {rec2 : Int32 → ax_S → ax_R} (hrec2 : ∀ (x1 : Int32) (st : ax_S), AW C X LX 2 1 (rec2 x1 st) 2 [some (.inr 0), some (.inl x1)] [] st) (x1 : Int32) (st : ax_S) : AW C X LX 2 1 (fX8_firstViolation_b40 rec2 x1 st) 40 [some (.inr 0), some (.inl x1)] [] st := by
  unfold fX8_firstViolation_b40
  refine ax_iinc hC dX8_firstViolation_40 rfl (v := (x1 + (1 : Int32))) rfl (by decide) (lv' := [some (.inr 0), some (.inl (x1 + (1 : Int32)))]) rfl ?_
  refine ax_goto hC dX8_firstViolation_43 (tgt := 2) (by decide) ?_
  exact hrec2 _ _
set_option maxRecDepth 100000 in
theorem kX8_firstViolation_L2 {C : ax_C} {X : ax_X} (hC : ax_ok C X LX cX8_firstViolation RX8 2 (some .int) 37) : ∀ (n : Nat) (x1 : Int32) (st : ax_S), AW C X LX 2 1 (fX8_firstViolation_L2 n x1 st) 2 [some (.inr 0), some (.inl x1)] [] st := by
  intro n
  induction n with
  | zero => intros; exact ax_none rfl
  | succ n hrec20 =>
    intro x1 st
    have hrec2 := hrec20
    rw [fX8_firstViolation_L2.eq_2]
    refine ax_iloadn hC dX8_firstViolation_2 rfl rfl ?_
    refine ax_aloadn hC dX8_firstViolation_3 rfl rfl ?_
    refine ax_lkR hC lk_X8_12 LX_0 rfl dX8_firstViolation_4 ?_
    refine ax_lkR hC lk_X8_74 LX_1 rfl dX8_firstViolation_7 ?_
    refine ax_lkI hC lk_X8_78 LX_5 rfl dX8_firstViolation_10 ?_
    refine ax_icmp_gt hC dX8_firstViolation_13 (tgt := 46) (by decide) (fun _ => ?_) (fun _ => ?_)
    · refine ax_bipush hC dX8_firstViolation_46 (v := -10) (by decide) ?_
      exact ax_iret hC dX8_firstViolation_48
    · refine ax_aloadn hC dX8_firstViolation_16 rfl rfl ?_
      refine ax_lkR hC lk_X8_12 LX_0 rfl dX8_firstViolation_17 ?_
      refine ax_lkR hC lk_X8_74 LX_1 rfl dX8_firstViolation_20 ?_
      refine ax_iloadn hC dX8_firstViolation_23 rfl rfl ?_
      refine ax_callV1 hC mlk_X8_190 hst_X8_190 LX_5 [.inl x1] rfl rfl (by decide) (by decide) (Nat.le_of_ble_eq_true rfl) dX8_firstViolation_24 (fun r9 s9 h9 => kX0_endsWithResponse _ _ _ _ h9) (fun r1 st2 => ?_)
      refine ax_if_eq hC dX8_firstViolation_27 (tgt := 40) (by decide) (fun _ => ?_) (fun _ => ?_)
      · exact kX8_firstViolation_b40 hC hrec2 _ _
      · refine ax_aloadn hC dX8_firstViolation_30 rfl rfl ?_
        refine ax_iloadn hC dX8_firstViolation_31 rfl rfl ?_
        refine ax_callV1 hC mlk_X8_162 hst_X8_162 LX_0 [.inl x1] rfl rfl (by decide) (by decide) (Nat.le_of_ble_eq_true rfl) dX8_firstViolation_32 (fun r9 s9 h9 => kX8_isPrefixLinearizable _ _ _ _ h9) (fun r3 st4 => ?_)
        refine ax_if_ne hC dX8_firstViolation_35 (tgt := 40) (by decide) (fun _ => ?_) (fun _ => ?_)
        · refine ax_iloadn hC dX8_firstViolation_38 rfl rfl ?_
          exact ax_iret hC dX8_firstViolation_39
        · exact kX8_firstViolation_b40 hC hrec2 _ _
set_option maxRecDepth 100000 in
theorem kX8_firstViolation (st : ax_S) (r : Int32) (stz : ax_S) (h : fX8_firstViolation st = some (r, stz)) : ax_M LX yX8_firstViolation cX8_firstViolation 2 (some .int) 37 [.inr 0] st 1 r stz := by
  refine ax_start (by decide) (Nat.le_of_ble_eq_true rfl) (lv0 := [some (.inr 0), none]) rfl (fun C X hC => ?_)
  rw [← h]
  unfold fX8_firstViolation
  refine ax_iconst hC dX8_firstViolation_0 (v := 1) (by decide) ?_
  refine ax_istoren hC dX8_firstViolation_1 rfl (by decide) (lv' := [some (.inr 0), some (.inl (1 : Int32))]) rfl ?_
  exact kX8_firstViolation_L2 hC 4000 _ _
set_option maxRecDepth 100000 in
theorem kX5_requireResult (x1 : Int32) (x2 : Int32) (st : ax_S) (r : Int32) (stz : ax_S) (h : fX5_requireResult x1 x2 st = some (r, stz)) : ax_M LX yX5_requireResult cX5_requireResult 3 none 1 [.inr 43, .inl x1, .inl x2] st 0 r stz := by
  refine ax_start (by decide) (Nat.le_of_ble_eq_true rfl) (lv0 := [some (.inr 43), some (.inl x1), some (.inl x2)]) rfl (fun C X hC => ?_)
  rw [← h]
  unfold fX5_requireResult
  refine ax_aloadn hC dX5_requireResult_0 rfl rfl ?_
  refine ax_dup hC dX5_requireResult_1 ?_
  refine ax_lkI hC lk_X5_48 LX_43 rfl dX5_requireResult_2 ?_
  refine ax_iconst hC dX5_requireResult_5 (v := 1) (by decide) ?_
  refine ax_iloadn hC dX5_requireResult_6 rfl rfl ?_
  refine ax_ishl hC dX5_requireResult_7 ?_
  refine ax_ior hC dX5_requireResult_8 ?_
  refine ax_putI hC lp_X5_48 LX_43 rfl dX5_requireResult_9 (fun st1 => ?_)
  refine ax_aloadn hC dX5_requireResult_12 rfl rfl ?_
  refine ax_dup hC dX5_requireResult_13 ?_
  refine ax_lkI hC lk_X5_74 LX_43 rfl dX5_requireResult_14 ?_
  refine ax_iconst hC dX5_requireResult_17 (v := 1) (by decide) ?_
  refine ax_iloadn hC dX5_requireResult_18 rfl rfl ?_
  refine ax_ishl hC dX5_requireResult_19 ?_
  refine ax_ior hC dX5_requireResult_20 ?_
  refine ax_putI hC lp_X5_74 LX_43 rfl dX5_requireResult_21 (fun st2 => ?_)
  refine ax_aloadn hC dX5_requireResult_24 rfl rfl ?_
  refine ax_lkR hC lk_X5_17 LX_43 rfl dX5_requireResult_25 ?_
  refine ax_iloadn hC dX5_requireResult_28 rfl rfl ?_
  refine ax_iloadn hC dX5_requireResult_29 rfl rfl ?_
  refine ax_iast hC LX_45 dX5_requireResult_30 (fun st3 => ?_)
  exact ax_vret hC dX5_requireResult_31
set_option maxRecDepth 100000 in
theorem kX8_canRespond (x1 : Int32) (x2 : Int32) (st : ax_S) (r : Int32) (stz : ax_S) (h : fX8_canRespond x1 x2 st = some (r, stz)) : ax_M LX yX8_canRespond cX8_canRespond 4 (some .int) 36 [.inr 0, .inl x1, .inl x2] st 1 r stz := by
  refine ax_start (by decide) (Nat.le_of_ble_eq_true rfl) (lv0 := [some (.inr 0), some (.inl x1), some (.inl x2), none]) rfl (fun C X hC => ?_)
  rw [← h]
  unfold fX8_canRespond
  refine ax_aloadn hC dX8_canRespond_0 rfl rfl ?_
  refine ax_iloadn hC dX8_canRespond_1 rfl rfl ?_
  refine ax_iloadn hC dX8_canRespond_2 rfl rfl ?_
  refine ax_callV1 hC mlk_X8_90 hst_X8_90 LX_0 [.inl x1, .inl x2] rfl rfl (by decide) (by decide) (Nat.le_of_ble_eq_true rfl) dX8_canRespond_3 (fun r9 s9 h9 => kX8_responseError _ _ _ _ _ h9) (fun r1 st2 => ?_)
  refine ax_istoren hC dX8_canRespond_6 rfl (by decide) (lv' := [some (.inr 0), some (.inl x1), some (.inl x2), some (.inl r1)]) rfl ?_
  refine ax_iloadn hC dX8_canRespond_7 rfl rfl ?_
  refine ax_if_eq hC dX8_canRespond_8 (tgt := 13) (by decide) (fun _ => ?_) (fun _ => ?_)
  · refine ax_aloadn hC dX8_canRespond_13 rfl rfl ?_
    refine ax_callV0 hC mlk_X8_178 hst_X8_178 LX_0 [] rfl rfl (by decide) (by decide) (Nat.le_of_ble_eq_true rfl) dX8_canRespond_14 (fun r9 s9 h9 => kX8_prepareWholeHistory  _ _ _ h9) (fun r3 st4 => ?_)
    refine ax_aloadn hC dX8_canRespond_17 rfl rfl ?_
    refine ax_lkR hC lk_X8_24 LX_0 rfl dX8_canRespond_18 ?_
    refine ax_aloadn hC dX8_canRespond_21 rfl rfl ?_
    refine ax_lkR hC lk_X8_12 LX_0 rfl dX8_canRespond_22 ?_
    refine ax_lkR hC lk_X8_74 LX_1 rfl dX8_canRespond_25 ?_
    refine ax_lkR hC lk_X8_93 LX_5 rfl dX8_canRespond_28 ?_
    refine ax_iloadn hC dX8_canRespond_31 rfl rfl ?_
    refine ax_iald hC LX_17 dX8_canRespond_32 (fun v5 => ?_)
    refine ax_iloadn hC dX8_canRespond_33 rfl rfl ?_
    refine ax_callV0 hC mlk_X8_193 hst_X8_193 LX_43 [.inl v5, .inl x2] rfl rfl (by decide) (by decide) (Nat.le_of_ble_eq_true rfl) dX8_canRespond_34 (fun r9 s9 h9 => kX5_requireResult _ _ _ _ _ h9) (fun r6 st7 => ?_)
    refine ax_aloadn hC dX8_canRespond_37 rfl rfl ?_
    refine ax_lkR hC lk_X8_24 LX_0 rfl dX8_canRespond_38 ?_
    refine ax_callV1 hC mlk_X8_171 hst_X8_171 LX_43 [] rfl rfl (by decide) (by decide) (Nat.le_of_ble_eq_true rfl) dX8_canRespond_41 (fun r9 s9 h9 => kX5_findsOne  _ _ _ h9) (fun r8 st9 => ?_)
    refine ax_callS1 hC mlk_X8_151 hst_X8_151 [.inl r8] rfl rfl (by decide) (by decide) (Nat.le_of_ble_eq_true rfl) dX8_canRespond_44 (fun r9 s9 h9 => kX8_truth _ _ _ _ h9) (fun r10 st11 => ?_)
    exact ax_iret hC dX8_canRespond_47
  · refine ax_iloadn hC dX8_canRespond_11 rfl rfl ?_
    exact ax_iret hC dX8_canRespond_12
set_option maxRecDepth 100000 in
theorem kX5_countResults_b78 {C : ax_C} {X : ax_X} (hC : ax_ok C X LX cX5_countResults RX5 6 (some .int) 36) {rec55 : Int32 → Int32 → Int32 → ax_S → ax_R} (hrec55 : ∀ (x3 : Int32) (x4 : Int32) (x5 : Int32) (st : ax_S), AW C X LX 6 1 (rec55 x3 x4 x5 st) 55 [some (.inr 43), none, none, some (.inl x3), some (.inl x4), some (.inl x5)] [] st) (x3 : Int32) (x4 : Int32) (x5 : Int32) (st : ax_S) : AW C X LX 6 1 (fX5_countResults_b78 rec55 x3 x4 x5 st) 78 [some (.inr 43), none, none, some (.inl x3), some (.inl x4), some (.inl x5)] [] st := by
  unfold fX5_countResults_b78
  refine ax_iinc hC dX5_countResults_78 rfl (v := (x5 + (1 : Int32))) rfl (by decide) (lv' := [some (.inr 43), none, none, some (.inl x3), some (.inl x4), some (.inl (x5 + (1 : Int32)))]) rfl ?_
  refine ax_goto hC dX5_countResults_81 (tgt := 55) (by decide) ?_
  exact hrec55 _ _ _ _
set_option maxRecDepth 100000 in
theorem kX5_countResults_L55 {C : ax_C} {X : ax_X} (hC : ax_ok C X LX cX5_countResults RX5 6 (some .int) 36) : ∀ (n : Nat) (x3 : Int32) (x4 : Int32) (x5 : Int32) (st : ax_S), AW C X LX 6 1 (fX5_countResults_L55 n x3 x4 x5 st) 55 [some (.inr 43), none, none, some (.inl x3), some (.inl x4), some (.inl x5)] [] st := by
  intro n
  induction n with
  | zero => intros; exact ax_none rfl
  | succ n hrec550 =>
    intro x3 x4 x5 st
    have hrec55 := hrec550
    rw [fX5_countResults_L55.eq_2]
    refine ax_iload hC dX5_countResults_55 rfl ?_
    refine ax_iloadn hC dX5_countResults_57 rfl rfl ?_
    refine ax_icmp_gt hC dX5_countResults_58 (tgt := 84) (by decide) (fun _ => ?_) (fun _ => ?_)
    · refine ax_iload hC dX5_countResults_84 rfl ?_
      exact ax_iret hC dX5_countResults_86
    · refine ax_aloadn hC dX5_countResults_61 rfl rfl ?_
      refine ax_lkR hC lk_X5_27 LX_43 rfl dX5_countResults_62 ?_
      refine ax_iload hC dX5_countResults_65 rfl ?_
      refine ax_sipush hC dX5_countResults_67 (v := 999) (by decide) ?_
      refine ax_iadd hC dX5_countResults_70 ?_
      refine ax_zald hC LX_48 dX5_countResults_71 (fun v6 => ?_)
      refine ax_if_eq hC dX5_countResults_72 (tgt := 78) (by decide) (fun _ => ?_) (fun _ => ?_)
      · exact kX5_countResults_b78 hC hrec55 _ _ _ _
      · refine ax_iinc hC dX5_countResults_75 rfl (v := (x4 + (1 : Int32))) rfl (by decide) (lv' := [some (.inr 43), none, none, some (.inl x3), some (.inl (x4 + (1 : Int32))), some (.inl x5)]) rfl ?_
        exact kX5_countResults_b78 hC hrec55 _ _ _ _
set_option maxRecDepth 100000 in
theorem kX5_countResults_L3 {C : ax_C} {X : ax_X} (hC : ax_ok C X LX cX5_countResults RX5 6 (some .int) 36) : ∀ (n : Nat) (x1 : Int32) (x2 : Int32) (x3 : Int32) (x4 : Int32) (st : ax_S), AW C X LX 6 1 (fX5_countResults_L3 n x1 x2 x3 x4 st) 3 [some (.inr 43), some (.inl x1), some (.inl x2), some (.inl x3), some (.inl x4), none] [] st := by
  intro n
  induction n with
  | zero => intros; exact ax_none rfl
  | succ n hrec30 =>
    intro x1 x2 x3 x4 st
    have hrec3 := hrec30
    rw [fX5_countResults_L3.eq_2]
    refine ax_iload hC dX5_countResults_3 rfl ?_
    refine ax_aloadn hC dX5_countResults_5 rfl rfl ?_
    refine ax_lkR hC lk_X5_27 LX_43 rfl dX5_countResults_6 ?_
    refine ax_alen hC LX_48 (v := 1999) (by decide) dX5_countResults_9 ?_
    refine ax_icmp_ge hC dX5_countResults_10 (tgt := 27) (by decide) (fun _ => ?_) (fun _ => ?_)
    · refine ax_aloadn hC dX5_countResults_27 rfl rfl ?_
      refine ax_dup hC dX5_countResults_28 ?_
      refine ax_lkI hC lk_X5_48 LX_43 rfl dX5_countResults_29 ?_
      refine ax_iconst hC dX5_countResults_32 (v := 1) (by decide) ?_
      refine ax_iloadn hC dX5_countResults_33 rfl rfl ?_
      refine ax_ishl hC dX5_countResults_34 ?_
      refine ax_ior hC dX5_countResults_35 ?_
      refine ax_putI hC lp_X5_48 LX_43 rfl dX5_countResults_36 (fun st1 => ?_)
      refine ax_aloadn hC dX5_countResults_39 rfl rfl ?_
      refine ax_iloadn hC dX5_countResults_40 rfl rfl ?_
      refine ax_putI hC lp_X5_51 LX_43 rfl dX5_countResults_41 (fun st2 => ?_)
      refine ax_aloadn hC dX5_countResults_44 rfl rfl ?_
      refine ax_callV1 hC mlk_X5_107 hst_X5_107 LX_43 [] rfl rfl (by decide) (by decide) (Nat.le_of_ble_eq_true rfl) dX5_countResults_45 (fun r9 s9 h9 => kX5_countAll  _ _ _ h9) (fun r3 st4 => ?_)
      refine ax_pop hC dX5_countResults_48 ?_
      refine ax_iconst hC dX5_countResults_49 (v := 0) (by decide) ?_
      refine ax_istore hC dX5_countResults_50 (by decide) (lv' := [some (.inr 43), some (.inl x1), some (.inl x2), some (.inl x3), some (.inl (0 : Int32)), none]) rfl ?_
      refine ax_iloadn hC dX5_countResults_52 rfl rfl ?_
      refine ax_istore hC dX5_countResults_53 (by decide) (lv' := [some (.inr 43), some (.inl x1), some (.inl x2), some (.inl x3), some (.inl (0 : Int32)), some (.inl x2)]) rfl ?_
      refine ax_sub (lv' := [some (.inr 43), none, none, some (.inl x3), some (.inl (0 : Int32)), some (.inl x2)]) (ax_leS (ax_leN (ax_leN (ax_leS (ax_leS (ax_leS ax_le0)))))) ?_
      exact kX5_countResults_L55 hC 4000 _ _ _ _
    · refine ax_aloadn hC dX5_countResults_13 rfl rfl ?_
      refine ax_lkR hC lk_X5_27 LX_43 rfl dX5_countResults_14 ?_
      refine ax_iload hC dX5_countResults_17 rfl ?_
      refine ax_iconst hC dX5_countResults_19 (v := 0) (by decide) ?_
      refine ax_zast hC LX_48 dX5_countResults_20 (fun st5 => ?_)
      refine ax_iinc hC dX5_countResults_21 rfl (v := (x4 + (1 : Int32))) rfl (by decide) (lv' := [some (.inr 43), some (.inl x1), some (.inl x2), some (.inl x3), some (.inl (x4 + (1 : Int32))), none]) rfl ?_
      refine ax_goto hC dX5_countResults_24 (tgt := 3) (by decide) ?_
      exact hrec3 _ _ _ _ _
set_option maxRecDepth 100000 in
theorem kX5_countResults (x1 : Int32) (x2 : Int32) (x3 : Int32) (st : ax_S) (r : Int32) (stz : ax_S) (h : fX5_countResults x1 x2 x3 st = some (r, stz)) : ax_M LX yX5_countResults cX5_countResults 6 (some .int) 36 [.inr 43, .inl x1, .inl x2, .inl x3] st 1 r stz := by
  refine ax_start (by decide) (Nat.le_of_ble_eq_true rfl) (lv0 := [some (.inr 43), some (.inl x1), some (.inl x2), some (.inl x3), none, none]) rfl (fun C X hC => ?_)
  rw [← h]
  unfold fX5_countResults
  refine ax_iconst hC dX5_countResults_0 (v := 0) (by decide) ?_
  refine ax_istore hC dX5_countResults_1 (by decide) (lv' := [some (.inr 43), some (.inl x1), some (.inl x2), some (.inl x3), some (.inl (0 : Int32)), none]) rfl ?_
  exact kX5_countResults_L3 hC 4000 _ _ _ _ _
set_option maxRecDepth 100000 in
theorem kX8_countResponses (x1 : Int32) (st : ax_S) (r : Int32) (stz : ax_S) (h : fX8_countResponses x1 st = some (r, stz)) : ax_M LX yX8_countResponses cX8_countResponses 5 (some .int) 37 [.inr 0, .inl x1] st 1 r stz := by
  refine ax_start (by decide) (Nat.le_of_ble_eq_true rfl) (lv0 := [some (.inr 0), some (.inl x1), none, none, none]) rfl (fun C X hC => ?_)
  rw [← h]
  unfold fX8_countResponses
  refine ax_aloadn hC dX8_countResponses_0 rfl rfl ?_
  refine ax_iloadn hC dX8_countResponses_1 rfl rfl ?_
  refine ax_callV1 hC mlk_X8_196 hst_X8_196 LX_0 [.inl x1] rfl rfl (by decide) (by decide) (Nat.le_of_ble_eq_true rfl) dX8_countResponses_2 (fun r9 s9 h9 => kX8_waitingError _ _ _ _ h9) (fun r1 st2 => ?_)
  refine ax_istoren hC dX8_countResponses_5 rfl (by decide) (lv' := [some (.inr 0), some (.inl x1), some (.inl r1), none, none]) rfl ?_
  refine ax_iloadn hC dX8_countResponses_6 rfl rfl ?_
  refine ax_if_eq hC dX8_countResponses_7 (tgt := 12) (by decide) (fun _ => ?_) (fun _ => ?_)
  · refine ax_aloadn hC dX8_countResponses_12 rfl rfl ?_
    refine ax_lkR hC lk_X8_12 LX_0 rfl dX8_countResponses_13 ?_
    refine ax_lkR hC lk_X8_74 LX_1 rfl dX8_countResponses_16 ?_
    refine ax_lkR hC lk_X8_93 LX_5 rfl dX8_countResponses_19 ?_
    refine ax_iloadn hC dX8_countResponses_22 rfl rfl ?_
    refine ax_iald hC LX_17 dX8_countResponses_23 (fun v3 => ?_)
    refine ax_istoren hC dX8_countResponses_24 rfl (by decide) (lv' := [some (.inr 0), some (.inl x1), some (.inl r1), some (.inl v3), none]) rfl ?_
    refine ax_aloadn hC dX8_countResponses_25 rfl rfl ?_
    refine ax_lkR hC lk_X8_12 LX_0 rfl dX8_countResponses_26 ?_
    refine ax_lkR hC lk_X8_74 LX_1 rfl dX8_countResponses_29 ?_
    refine ax_lkR hC lk_X8_127 LX_5 rfl dX8_countResponses_32 ?_
    refine ax_iloadn hC dX8_countResponses_35 rfl rfl ?_
    refine ax_iald hC LX_9 dX8_countResponses_36 (fun v4 => ?_)
    refine ax_istore hC dX8_countResponses_37 (by decide) (lv' := [some (.inr 0), some (.inl x1), some (.inl r1), some (.inl v3), some (.inl v4)]) rfl ?_
    refine ax_aloadn hC dX8_countResponses_39 rfl rfl ?_
    refine ax_callV0 hC mlk_X8_178 hst_X8_178 LX_0 [] rfl rfl (by decide) (by decide) (Nat.le_of_ble_eq_true rfl) dX8_countResponses_40 (fun r9 s9 h9 => kX8_prepareWholeHistory  _ _ _ h9) (fun r5 st6 => ?_)
    refine ax_aloadn hC dX8_countResponses_43 rfl rfl ?_
    refine ax_lkR hC lk_X8_24 LX_0 rfl dX8_countResponses_44 ?_
    refine ax_iloadn hC dX8_countResponses_47 rfl rfl ?_
    refine ax_iload hC dX8_countResponses_48 rfl ?_
    refine ax_callS1 hC mlk_X8_200 hst_X8_200 [.inl v4] rfl rfl (by decide) (by decide) (Nat.le_of_ble_eq_true rfl) dX8_countResponses_50 (fun r9 s9 h9 => kX8_lowestResult _ _ _ _ h9) (fun r7 st8 => ?_)
    refine ax_iload hC dX8_countResponses_53 rfl ?_
    refine ax_callS1 hC mlk_X8_203 hst_X8_203 [.inl v4] rfl rfl (by decide) (by decide) (Nat.le_of_ble_eq_true rfl) dX8_countResponses_55 (fun r9 s9 h9 => kX8_highestResult _ _ _ _ h9) (fun r9 st10 => ?_)
    refine ax_callV1 hC mlk_X8_206 hst_X8_206 LX_43 [.inl v3, .inl r7, .inl r9] rfl rfl (by decide) (by decide) (Nat.le_of_ble_eq_true rfl) dX8_countResponses_58 (fun r9 s9 h9 => kX5_countResults _ _ _ _ _ _ h9) (fun r11 st12 => ?_)
    exact ax_iret hC dX8_countResponses_61
  · refine ax_iloadn hC dX8_countResponses_10 rfl rfl ?_
    exact ax_iret hC dX8_countResponses_11
set_option maxRecDepth 100000 in
theorem kX2_positionOf_L2 {C : ax_C} {X : ax_X} (hC : ax_ok C X LX cX2_positionOf RX2 3 (some .int) 1) : ∀ (n : Nat) (x1 : Int32) (x2 : Int32) (st : ax_S), AW C X LX 3 1 (fX2_positionOf_L2 n x1 x2 st) 2 [some (.inr 20), some (.inl x1), some (.inl x2)] [] st := by
  intro n
  induction n with
  | zero => intros; exact ax_none rfl
  | succ n hrec20 =>
    intro x1 x2 st
    have hrec2 := hrec20
    rw [fX2_positionOf_L2.eq_2]
    refine ax_iloadn hC dX2_positionOf_2 rfl rfl ?_
    refine ax_aloadn hC dX2_positionOf_3 rfl rfl ?_
    refine ax_lkI hC lk_X2_15 LX_20 rfl dX2_positionOf_4 ?_
    refine ax_icmp_ge hC dX2_positionOf_7 (tgt := 28) (by decide) (fun _ => ?_) (fun _ => ?_)
    · refine ax_iconst hC dX2_positionOf_28 (v := -1) (by decide) ?_
      exact ax_iret hC dX2_positionOf_29
    · refine ax_aloadn hC dX2_positionOf_10 rfl rfl ?_
      refine ax_lkR hC lk_X2_9 LX_20 rfl dX2_positionOf_11 ?_
      refine ax_iloadn hC dX2_positionOf_14 rfl rfl ?_
      refine ax_iald hC LX_21 dX2_positionOf_15 (fun v1 => ?_)
      refine ax_iloadn hC dX2_positionOf_16 rfl rfl ?_
      refine ax_icmp_ne hC dX2_positionOf_17 (tgt := 22) (by decide) (fun _ => ?_) (fun _ => ?_)
      · refine ax_iloadn hC dX2_positionOf_20 rfl rfl ?_
        exact ax_iret hC dX2_positionOf_21
      · refine ax_iinc hC dX2_positionOf_22 rfl (v := (x2 + (1 : Int32))) rfl (by decide) (lv' := [some (.inr 20), some (.inl x1), some (.inl (x2 + (1 : Int32)))]) rfl ?_
        refine ax_goto hC dX2_positionOf_25 (tgt := 2) (by decide) ?_
        exact hrec2 _ _ _
set_option maxRecDepth 100000 in
theorem kX2_positionOf (x1 : Int32) (st : ax_S) (r : Int32) (stz : ax_S) (h : fX2_positionOf x1 st = some (r, stz)) : ax_M LX yX2_positionOf cX2_positionOf 3 (some .int) 1 [.inr 20, .inl x1] st 1 r stz := by
  refine ax_start (by decide) (Nat.le_of_ble_eq_true rfl) (lv0 := [some (.inr 20), some (.inl x1), none]) rfl (fun C X hC => ?_)
  rw [← h]
  unfold fX2_positionOf
  refine ax_iconst hC dX2_positionOf_0 (v := 0) (by decide) ?_
  refine ax_istoren hC dX2_positionOf_1 rfl (by decide) (lv' := [some (.inr 20), some (.inl x1), some (.inl (0 : Int32))]) rfl ?_
  exact kX2_positionOf_L2 hC 4000 _ _ _
set_option maxRecDepth 100000 in
theorem kX2_append_b29 {C : ax_C} {X : ax_X} (hC : ax_ok C X LX cX2_append RX2 2 none 1) (st : ax_S) : AW C X LX 2 0 (fX2_append_b29 st) 29 [none, none] [] st := by
  unfold fX2_append_b29
  exact ax_vret hC dX2_append_29
set_option maxRecDepth 100000 in
theorem kX2_append (x1 : Int32) (st : ax_S) (r : Int32) (stz : ax_S) (h : fX2_append x1 st = some (r, stz)) : ax_M LX yX2_append cX2_append 2 none 1 [.inr 20, .inl x1] st 0 r stz := by
  refine ax_start (by decide) (Nat.le_of_ble_eq_true rfl) (lv0 := [some (.inr 20), some (.inl x1)]) rfl (fun C X hC => ?_)
  rw [← h]
  unfold fX2_append
  refine ax_aloadn hC dX2_append_0 rfl rfl ?_
  refine ax_lkI hC lk_X2_15 LX_20 rfl dX2_append_1 ?_
  refine ax_bipush hC dX2_append_4 (v := 10) (by decide) ?_
  refine ax_icmp_ge hC dX2_append_6 (tgt := 29) (by decide) (fun _ => ?_) (fun _ => ?_)
  · refine ax_sub (lv' := [none, none]) (ax_leN (ax_leN ax_le0)) ?_
    exact kX2_append_b29 hC _
  · refine ax_aloadn hC dX2_append_9 rfl rfl ?_
    refine ax_lkR hC lk_X2_9 LX_20 rfl dX2_append_10 ?_
    refine ax_aloadn hC dX2_append_13 rfl rfl ?_
    refine ax_lkI hC lk_X2_15 LX_20 rfl dX2_append_14 ?_
    refine ax_iloadn hC dX2_append_17 rfl rfl ?_
    refine ax_iast hC LX_21 dX2_append_18 (fun st1 => ?_)
    refine ax_aloadn hC dX2_append_19 rfl rfl ?_
    refine ax_dup hC dX2_append_20 ?_
    refine ax_lkI hC lk_X2_15 LX_20 rfl dX2_append_21 ?_
    refine ax_iconst hC dX2_append_24 (v := 1) (by decide) ?_
    refine ax_iadd hC dX2_append_25 ?_
    refine ax_putI hC lp_X2_15 LX_20 rfl dX2_append_26 (fun st2 => ?_)
    refine ax_sub (lv' := [none, none]) (ax_leN (ax_leN ax_le0)) ?_
    exact kX2_append_b29 hC _
set_option maxRecDepth 100000 in
theorem kX8_appendToOrder (x1 : Int32) (st : ax_S) (r : Int32) (stz : ax_S) (h : fX8_appendToOrder x1 st = some (r, stz)) : ax_M LX yX8_appendToOrder cX8_appendToOrder 2 (some .int) 3 [.inr 0, .inl x1] st 1 r stz := by
  refine ax_start (by decide) (Nat.le_of_ble_eq_true rfl) (lv0 := [some (.inr 0), some (.inl x1)]) rfl (fun C X hC => ?_)
  rw [← h]
  unfold fX8_appendToOrder
  refine ax_aloadn hC dX8_appendToOrder_0 rfl rfl ?_
  refine ax_lkR hC lk_X8_12 LX_0 rfl dX8_appendToOrder_1 ?_
  refine ax_lkR hC lk_X8_74 LX_1 rfl dX8_appendToOrder_4 ?_
  refine ax_iloadn hC dX8_appendToOrder_7 rfl rfl ?_
  refine ax_callV1 hC mlk_X8_126 hst_X8_126 LX_5 [.inl x1] rfl rfl (by decide) (by decide) (Nat.le_of_ble_eq_true rfl) dX8_appendToOrder_8 (fun r9 s9 h9 => kX0_has _ _ _ _ h9) (fun r1 st2 => ?_)
  refine ax_if_ne hC dX8_appendToOrder_11 (tgt := 17) (by decide) (fun _ => ?_) (fun _ => ?_)
  · refine ax_bipush hC dX8_appendToOrder_14 (v := -9) (by decide) ?_
    exact ax_iret hC dX8_appendToOrder_16
  · refine ax_aloadn hC dX8_appendToOrder_17 rfl rfl ?_
    refine ax_lkR hC lk_X8_12 LX_0 rfl dX8_appendToOrder_18 ?_
    refine ax_lkR hC lk_X8_100 LX_1 rfl dX8_appendToOrder_21 ?_
    refine ax_iloadn hC dX8_appendToOrder_24 rfl rfl ?_
    refine ax_callV1 hC mlk_X8_210 hst_X8_210 LX_20 [.inl x1] rfl rfl (by decide) (by decide) (Nat.le_of_ble_eq_true rfl) dX8_appendToOrder_25 (fun r9 s9 h9 => kX2_positionOf _ _ _ _ h9) (fun r3 st4 => ?_)
    refine ax_iconst hC dX8_appendToOrder_28 (v := -1) (by decide) ?_
    refine ax_icmp_eq hC dX8_appendToOrder_29 (tgt := 35) (by decide) (fun _ => ?_) (fun _ => ?_)
    · refine ax_aloadn hC dX8_appendToOrder_35 rfl rfl ?_
      refine ax_lkR hC lk_X8_12 LX_0 rfl dX8_appendToOrder_36 ?_
      refine ax_lkR hC lk_X8_100 LX_1 rfl dX8_appendToOrder_39 ?_
      refine ax_iloadn hC dX8_appendToOrder_42 rfl rfl ?_
      refine ax_callV0 hC mlk_X8_213 hst_X8_213 LX_20 [.inl x1] rfl rfl (by decide) (by decide) (Nat.le_of_ble_eq_true rfl) dX8_appendToOrder_43 (fun r9 s9 h9 => kX2_append _ _ _ _ h9) (fun r5 st6 => ?_)
      refine ax_aloadn hC dX8_appendToOrder_46 rfl rfl ?_
      refine ax_lkR hC lk_X8_12 LX_0 rfl dX8_appendToOrder_47 ?_
      refine ax_lkR hC lk_X8_100 LX_1 rfl dX8_appendToOrder_50 ?_
      refine ax_lkI hC lk_X8_216 LX_20 rfl dX8_appendToOrder_53 ?_
      exact ax_iret hC dX8_appendToOrder_56
    · refine ax_bipush hC dX8_appendToOrder_32 (v := -12) (by decide) ?_
      exact ax_iret hC dX8_appendToOrder_34
set_option maxRecDepth 100000 in
theorem kX2_removeAt_L27 {C : ax_C} {X : ax_X} (hC : ax_ok C X LX cX2_removeAt RX2 3 none 2) : ∀ (n : Nat) (x2 : Int32) (st : ax_S), AW C X LX 3 0 (fX2_removeAt_L27 n x2 st) 27 [some (.inr 20), none, some (.inl x2)] [] st := by
  intro n
  induction n with
  | zero => intros; exact ax_none rfl
  | succ n hrec270 =>
    intro x2 st
    have hrec27 := hrec270
    rw [fX2_removeAt_L27.eq_2]
    refine ax_iloadn hC dX2_removeAt_27 rfl rfl ?_
    refine ax_aloadn hC dX2_removeAt_28 rfl rfl ?_
    refine ax_lkI hC lk_X2_15 LX_20 rfl dX2_removeAt_29 ?_
    refine ax_icmp_ge hC dX2_removeAt_32 (tgt := 55) (by decide) (fun _ => ?_) (fun _ => ?_)
    · exact ax_vret hC dX2_removeAt_55
    · refine ax_aloadn hC dX2_removeAt_35 rfl rfl ?_
      refine ax_lkR hC lk_X2_9 LX_20 rfl dX2_removeAt_36 ?_
      refine ax_iloadn hC dX2_removeAt_39 rfl rfl ?_
      refine ax_aloadn hC dX2_removeAt_40 rfl rfl ?_
      refine ax_lkR hC lk_X2_9 LX_20 rfl dX2_removeAt_41 ?_
      refine ax_iloadn hC dX2_removeAt_44 rfl rfl ?_
      refine ax_iconst hC dX2_removeAt_45 (v := 1) (by decide) ?_
      refine ax_iadd hC dX2_removeAt_46 ?_
      refine ax_iald hC LX_21 dX2_removeAt_47 (fun v4 => ?_)
      refine ax_iast hC LX_21 dX2_removeAt_48 (fun st5 => ?_)
      refine ax_iinc hC dX2_removeAt_49 rfl (v := (x2 + (1 : Int32))) rfl (by decide) (lv' := [some (.inr 20), none, some (.inl (x2 + (1 : Int32)))]) rfl ?_
      refine ax_goto hC dX2_removeAt_52 (tgt := 27) (by decide) ?_
      exact hrec27 _ _
set_option maxRecDepth 100000 in
theorem kX2_removeAt (x1 : Int32) (st : ax_S) (r : Int32) (stz : ax_S) (h : fX2_removeAt x1 st = some (r, stz)) : ax_M LX yX2_removeAt cX2_removeAt 3 none 2 [.inr 20, .inl x1] st 0 r stz := by
  refine ax_start (by decide) (Nat.le_of_ble_eq_true rfl) (lv0 := [some (.inr 20), some (.inl x1), none]) rfl (fun C X hC => ?_)
  rw [← h]
  unfold fX2_removeAt
  refine ax_iloadn hC dX2_removeAt_0 rfl rfl ?_
  refine ax_iconst hC dX2_removeAt_1 (v := 0) (by decide) ?_
  refine ax_aloadn hC dX2_removeAt_2 rfl rfl ?_
  refine ax_lkI hC lk_X2_15 LX_20 rfl dX2_removeAt_3 ?_
  refine ax_iconst hC dX2_removeAt_6 (v := 1) (by decide) ?_
  refine ax_isub hC dX2_removeAt_7 ?_
  refine ax_callS1n hC mlk_X2_19 hst_X2_19 [.inl x1, .inl (0 : Int32), .inl ((st.1 20 0) - (1 : Int32))] rfl rfl (by decide) (by decide) (Nat.le_of_ble_eq_true rfl) dX2_removeAt_8 (fun r9 s9 h9 => kX8_isBetween _ _ _ _ _ _ h9) (fun r1 st2 => ?_)
  refine ax_if_ne hC dX2_removeAt_11 (tgt := 15) (by decide) (fun _ => ?_) (fun _ => ?_)
  · exact ax_vret hC dX2_removeAt_14
  · refine ax_aloadn hC dX2_removeAt_15 rfl rfl ?_
    refine ax_dup hC dX2_removeAt_16 ?_
    refine ax_lkI hC lk_X2_15 LX_20 rfl dX2_removeAt_17 ?_
    refine ax_iconst hC dX2_removeAt_20 (v := 1) (by decide) ?_
    refine ax_isub hC dX2_removeAt_21 ?_
    refine ax_putI hC lp_X2_15 LX_20 rfl dX2_removeAt_22 (fun st3 => ?_)
    refine ax_iloadn hC dX2_removeAt_25 rfl rfl ?_
    refine ax_istoren hC dX2_removeAt_26 rfl (by decide) (lv' := [some (.inr 20), some (.inl x1), some (.inl x1)]) rfl ?_
    refine ax_sub (lv' := [some (.inr 20), none, some (.inl x1)]) (ax_leS (ax_leN (ax_leS ax_le0))) ?_
    exact kX2_removeAt_L27 hC 4000 _ _
set_option maxRecDepth 100000 in
theorem kX8_removeFromOrder (x1 : Int32) (st : ax_S) (r : Int32) (stz : ax_S) (h : fX8_removeFromOrder x1 st = some (r, stz)) : ax_M LX yX8_removeFromOrder cX8_removeFromOrder 3 (some .int) 3 [.inr 0, .inl x1] st 1 r stz := by
  refine ax_start (by decide) (Nat.le_of_ble_eq_true rfl) (lv0 := [some (.inr 0), some (.inl x1), none]) rfl (fun C X hC => ?_)
  rw [← h]
  unfold fX8_removeFromOrder
  refine ax_aloadn hC dX8_removeFromOrder_0 rfl rfl ?_
  refine ax_lkR hC lk_X8_12 LX_0 rfl dX8_removeFromOrder_1 ?_
  refine ax_lkR hC lk_X8_74 LX_1 rfl dX8_removeFromOrder_4 ?_
  refine ax_iloadn hC dX8_removeFromOrder_7 rfl rfl ?_
  refine ax_callV1 hC mlk_X8_126 hst_X8_126 LX_5 [.inl x1] rfl rfl (by decide) (by decide) (Nat.le_of_ble_eq_true rfl) dX8_removeFromOrder_8 (fun r9 s9 h9 => kX0_has _ _ _ _ h9) (fun r1 st2 => ?_)
  refine ax_if_ne hC dX8_removeFromOrder_11 (tgt := 17) (by decide) (fun _ => ?_) (fun _ => ?_)
  · refine ax_bipush hC dX8_removeFromOrder_14 (v := -9) (by decide) ?_
    exact ax_iret hC dX8_removeFromOrder_16
  · refine ax_aloadn hC dX8_removeFromOrder_17 rfl rfl ?_
    refine ax_lkR hC lk_X8_12 LX_0 rfl dX8_removeFromOrder_18 ?_
    refine ax_lkR hC lk_X8_100 LX_1 rfl dX8_removeFromOrder_21 ?_
    refine ax_iloadn hC dX8_removeFromOrder_24 rfl rfl ?_
    refine ax_callV1 hC mlk_X8_210 hst_X8_210 LX_20 [.inl x1] rfl rfl (by decide) (by decide) (Nat.le_of_ble_eq_true rfl) dX8_removeFromOrder_25 (fun r9 s9 h9 => kX2_positionOf _ _ _ _ h9) (fun r3 st4 => ?_)
    refine ax_istoren hC dX8_removeFromOrder_28 rfl (by decide) (lv' := [some (.inr 0), some (.inl x1), some (.inl r3)]) rfl ?_
    refine ax_iloadn hC dX8_removeFromOrder_29 rfl rfl ?_
    refine ax_iconst hC dX8_removeFromOrder_30 (v := -1) (by decide) ?_
    refine ax_icmp_ne hC dX8_removeFromOrder_31 (tgt := 37) (by decide) (fun _ => ?_) (fun _ => ?_)
    · refine ax_bipush hC dX8_removeFromOrder_34 (v := -10) (by decide) ?_
      exact ax_iret hC dX8_removeFromOrder_36
    · refine ax_aloadn hC dX8_removeFromOrder_37 rfl rfl ?_
      refine ax_lkR hC lk_X8_12 LX_0 rfl dX8_removeFromOrder_38 ?_
      refine ax_lkR hC lk_X8_100 LX_1 rfl dX8_removeFromOrder_41 ?_
      refine ax_iloadn hC dX8_removeFromOrder_44 rfl rfl ?_
      refine ax_callV0 hC mlk_X8_219 hst_X8_219 LX_20 [.inl r3] rfl rfl (by decide) (by decide) (Nat.le_of_ble_eq_true rfl) dX8_removeFromOrder_45 (fun r9 s9 h9 => kX2_removeAt _ _ _ _ h9) (fun r5 st6 => ?_)
      refine ax_iloadn hC dX8_removeFromOrder_48 rfl rfl ?_
      exact ax_iret hC dX8_removeFromOrder_49
set_option maxRecDepth 100000 in
theorem kX8_orderSize (st : ax_S) (r : Int32) (stz : ax_S) (h : fX8_orderSize st = some (r, stz)) : ax_M LX yX8_orderSize cX8_orderSize 1 (some .int) 1 [.inr 0] st 1 r stz := by
  refine ax_start (by decide) (Nat.le_of_ble_eq_true rfl) (lv0 := [some (.inr 0)]) rfl (fun C X hC => ?_)
  rw [← h]
  unfold fX8_orderSize
  refine ax_aloadn hC dX8_orderSize_0 rfl rfl ?_
  refine ax_lkR hC lk_X8_12 LX_0 rfl dX8_orderSize_1 ?_
  refine ax_lkR hC lk_X8_100 LX_1 rfl dX8_orderSize_4 ?_
  refine ax_lkI hC lk_X8_216 LX_20 rfl dX8_orderSize_7 ?_
  exact ax_iret hC dX8_orderSize_10
set_option maxRecDepth 100000 in
theorem kX8_orderAt (x1 : Int32) (st : ax_S) (r : Int32) (stz : ax_S) (h : fX8_orderAt x1 st = some (r, stz)) : ax_M LX yX8_orderAt cX8_orderAt 2 (some .int) 2 [.inr 0, .inl x1] st 1 r stz := by
  refine ax_start (by decide) (Nat.le_of_ble_eq_true rfl) (lv0 := [some (.inr 0), some (.inl x1)]) rfl (fun C X hC => ?_)
  rw [← h]
  unfold fX8_orderAt
  refine ax_iloadn hC dX8_orderAt_0 rfl rfl ?_
  refine ax_iconst hC dX8_orderAt_1 (v := 0) (by decide) ?_
  refine ax_aloadn hC dX8_orderAt_2 rfl rfl ?_
  refine ax_lkR hC lk_X8_12 LX_0 rfl dX8_orderAt_3 ?_
  refine ax_lkR hC lk_X8_100 LX_1 rfl dX8_orderAt_6 ?_
  refine ax_lkI hC lk_X8_216 LX_20 rfl dX8_orderAt_9 ?_
  refine ax_iconst hC dX8_orderAt_12 (v := 1) (by decide) ?_
  refine ax_isub hC dX8_orderAt_13 ?_
  refine ax_callS1 hC mlk_X8_48 hst_X8_48 [.inl x1, .inl (0 : Int32), .inl ((st.1 20 0) - (1 : Int32))] rfl rfl (by decide) (by decide) (Nat.le_of_ble_eq_true rfl) dX8_orderAt_14 (fun r9 s9 h9 => kX8_isBetween _ _ _ _ _ _ h9) (fun r1 st2 => ?_)
  refine ax_if_ne hC dX8_orderAt_17 (tgt := 23) (by decide) (fun _ => ?_) (fun _ => ?_)
  · refine ax_bipush hC dX8_orderAt_20 (v := -10) (by decide) ?_
    exact ax_iret hC dX8_orderAt_22
  · refine ax_aloadn hC dX8_orderAt_23 rfl rfl ?_
    refine ax_lkR hC lk_X8_12 LX_0 rfl dX8_orderAt_24 ?_
    refine ax_lkR hC lk_X8_100 LX_1 rfl dX8_orderAt_27 ?_
    refine ax_lkR hC lk_X8_222 LX_20 rfl dX8_orderAt_30 ?_
    refine ax_iloadn hC dX8_orderAt_33 rfl rfl ?_
    refine ax_iald hC LX_21 dX8_orderAt_34 (fun v3 => ?_)
    exact ax_iret hC dX8_orderAt_35
set_option maxRecDepth 100000 in
theorem kX5_coversRequired_b43 {C : ax_C} {X : ax_X} (hC : ax_ok C X LX cX5_coversRequired RX5 4 (some .boolean) 1) (s0 : Int32) (st : ax_S) : AW C X LX 4 1 (fX5_coversRequired_b43 s0 st) 43 [none, none, none, none] [.inl s0] st := by
  unfold fX5_coversRequired_b43
  exact ax_zret hC dX5_coversRequired_43
set_option maxRecDepth 100000 in
theorem kX5_coversRequired_L7 {C : ax_C} {X : ax_X} (hC : ax_ok C X LX cX5_coversRequired RX5 4 (some .boolean) 1) : ∀ (n : Nat) (x2 : Int32) (x3 : Int32) (st : ax_S), AW C X LX 4 1 (fX5_coversRequired_L7 n x2 x3 st) 7 [none, some (.inr 20), some (.inl x2), some (.inl x3)] [] st := by
  intro n
  induction n with
  | zero => intros; exact ax_none rfl
  | succ n hrec70 =>
    intro x2 x3 st
    have hrec7 := hrec70
    rw [fX5_coversRequired_L7.eq_2]
    refine ax_iloadn hC dX5_coversRequired_7 rfl rfl ?_
    refine ax_aloadn hC dX5_coversRequired_8 rfl rfl ?_
    refine ax_lkI hC lk_X5_111 LX_20 rfl dX5_coversRequired_9 ?_
    refine ax_icmp_ge hC dX5_coversRequired_12 (tgt := 34) (by decide) (fun _ => ?_) (fun _ => ?_)
    · refine ax_iloadn hC dX5_coversRequired_34 rfl rfl ?_
      refine ax_if_ne hC dX5_coversRequired_35 (tgt := 42) (by decide) (fun _ => ?_) (fun _ => ?_)
      · refine ax_iconst hC dX5_coversRequired_38 (v := 1) (by decide) ?_
        refine ax_goto hC dX5_coversRequired_39 (tgt := 43) (by decide) ?_
        refine ax_sub (lv' := [none, none, none, none]) (ax_leN (ax_leN (ax_leN (ax_leN ax_le0)))) ?_
        exact kX5_coversRequired_b43 hC _ _
      · refine ax_iconst hC dX5_coversRequired_42 (v := 0) (by decide) ?_
        refine ax_sub (lv' := [none, none, none, none]) (ax_leN (ax_leN (ax_leN (ax_leN ax_le0)))) ?_
        exact kX5_coversRequired_b43 hC _ _
    · refine ax_iloadn hC dX5_coversRequired_15 rfl rfl ?_
      refine ax_iconst hC dX5_coversRequired_16 (v := 1) (by decide) ?_
      refine ax_aloadn hC dX5_coversRequired_17 rfl rfl ?_
      refine ax_lkR hC lk_X5_116 LX_20 rfl dX5_coversRequired_18 ?_
      refine ax_iloadn hC dX5_coversRequired_21 rfl rfl ?_
      refine ax_iald hC LX_21 dX5_coversRequired_22 (fun v1 => ?_)
      refine ax_ishl hC dX5_coversRequired_23 ?_
      refine ax_iconst hC dX5_coversRequired_24 (v := -1) (by decide) ?_
      refine ax_ixor hC dX5_coversRequired_25 ?_
      refine ax_iand hC dX5_coversRequired_26 ?_
      refine ax_istoren hC dX5_coversRequired_27 rfl (by decide) (lv' := [none, some (.inr 20), some (.inl (x2 &&& (((1 : Int32) <<< (v1 &&& 31)) ^^^ (-1 : Int32)))), some (.inl x3)]) rfl ?_
      refine ax_iinc hC dX5_coversRequired_28 rfl (v := (x3 + (1 : Int32))) rfl (by decide) (lv' := [none, some (.inr 20), some (.inl (x2 &&& (((1 : Int32) <<< (v1 &&& 31)) ^^^ (-1 : Int32)))), some (.inl (x3 + (1 : Int32)))]) rfl ?_
      refine ax_goto hC dX5_coversRequired_31 (tgt := 7) (by decide) ?_
      exact hrec7 _ _ _
set_option maxRecDepth 100000 in
theorem kX5_coversRequired (st : ax_S) (r : Int32) (stz : ax_S) (h : fX5_coversRequired st = some (r, stz)) : ax_M LX yX5_coversRequired cX5_coversRequired 4 (some .boolean) 1 [.inr 43, .inr 20] st 1 r stz := by
  refine ax_start (by decide) (Nat.le_of_ble_eq_true rfl) (lv0 := [some (.inr 43), some (.inr 20), none, none]) rfl (fun C X hC => ?_)
  rw [← h]
  unfold fX5_coversRequired
  refine ax_aloadn hC dX5_coversRequired_0 rfl rfl ?_
  refine ax_lkI hC lk_X5_48 LX_43 rfl dX5_coversRequired_1 ?_
  refine ax_istoren hC dX5_coversRequired_4 rfl (by decide) (lv' := [some (.inr 43), some (.inr 20), some (.inl (st.1 43 4)), none]) rfl ?_
  refine ax_iconst hC dX5_coversRequired_5 (v := 0) (by decide) ?_
  refine ax_istoren hC dX5_coversRequired_6 rfl (by decide) (lv' := [some (.inr 43), some (.inr 20), some (.inl (st.1 43 4)), some (.inl (0 : Int32))]) rfl ?_
  refine ax_sub (lv' := [none, some (.inr 20), some (.inl (st.1 43 4)), some (.inl (0 : Int32))]) (ax_leN (ax_leS (ax_leS (ax_leS ax_le0)))) ?_
  exact kX5_coversRequired_L7 hC 4000 _ _ _
set_option maxRecDepth 100000 in
theorem kX5_resultOfNext (x1 : Int32) (st : ax_S) (r : Int32) (stz : ax_S) (h : fX5_resultOfNext x1 st = some (r, stz)) : ax_M LX yX5_resultOfNext cX5_resultOfNext 3 (some .int) 4 [.inr 43, .inl x1] st 1 r stz := by
  refine ax_start (by decide) (Nat.le_of_ble_eq_true rfl) (lv0 := [some (.inr 43), some (.inl x1), none]) rfl (fun C X hC => ?_)
  rw [← h]
  unfold fX5_resultOfNext
  refine ax_aloadn hC dX5_resultOfNext_0 rfl rfl ?_
  refine ax_lkR hC lk_X5_11 LX_43 rfl dX5_resultOfNext_1 ?_
  refine ax_aloadn hC dX5_resultOfNext_4 rfl rfl ?_
  refine ax_lkR hC lk_X5_42 LX_43 rfl dX5_resultOfNext_5 ?_
  refine ax_lkR hC lk_X5_59 LX_5 rfl dX5_resultOfNext_8 ?_
  refine ax_iloadn hC dX5_resultOfNext_11 rfl rfl ?_
  refine ax_iald hC LX_11 dX5_resultOfNext_12 (fun v1 => ?_)
  refine ax_aald hC LX_44 dX5_resultOfNext_13 (fun q2 hq2 => ?_)
  refine ax_astoren hC dX5_resultOfNext_14 rfl (by decide) (lv' := [some (.inr 43), some (.inl x1), some (.inr q2)]) rfl ?_
  refine ax_aloadn hC dX5_resultOfNext_15 rfl rfl ?_
  refine ax_aloadn hC dX5_resultOfNext_16 rfl rfl ?_
  refine ax_lkR hC lk_X5_42 LX_43 rfl dX5_resultOfNext_17 ?_
  refine ax_lkR hC lk_X5_128 LX_5 rfl dX5_resultOfNext_20 ?_
  refine ax_iloadn hC dX5_resultOfNext_23 rfl rfl ?_
  refine ax_iald hC LX_9 dX5_resultOfNext_24 (fun v3 => ?_)
  refine ax_aloadn hC dX5_resultOfNext_25 rfl rfl ?_
  refine ax_lkR hC lk_X5_42 LX_43 rfl dX5_resultOfNext_26 ?_
  refine ax_lkR hC lk_X5_131 LX_5 rfl dX5_resultOfNext_29 ?_
  refine ax_iloadn hC dX5_resultOfNext_32 rfl rfl ?_
  refine ax_iald hC LX_12 dX5_resultOfNext_33 (fun v4 => ?_)
  refine ax_aloadn hC dX5_resultOfNext_34 rfl rfl ?_
  refine ax_lkR hC lk_X5_42 LX_43 rfl dX5_resultOfNext_35 ?_
  refine ax_lkR hC lk_X5_134 LX_5 rfl dX5_resultOfNext_38 ?_
  refine ax_iloadn hC dX5_resultOfNext_41 rfl rfl ?_
  refine ax_iald hC LX_13 dX5_resultOfNext_42 (fun v5 => ?_)
  refine ax_callV1 hC mlk_X5_137 hst_X5_137 (LX_ss _ hq2).1 [.inl v3, .inl v4, .inl v5] rfl rfl (by decide) (by decide) (Nat.le_of_ble_eq_true rfl) dX5_resultOfNext_43 (fun r9 s9 h9 => kX6_perform _ hq2 _ _ _ _ _ _ h9) (fun r6 st7 => ?_)
  exact ax_iret hC dX5_resultOfNext_46
set_option maxRecDepth 100000 in
theorem kX5_badPosition_b45 {C : ax_C} {X : ax_X} (hC : ax_ok C X LX cX5_badPosition RX5 5 (some .int) 5) (x3 : Int32) (st : ax_S) : AW C X LX 5 1 (fX5_badPosition_b45 x3 st) 45 [none, none, none, some (.inl x3), none] [] st := by
  unfold fX5_badPosition_b45
  refine ax_iloadn hC dX5_badPosition_45 rfl rfl ?_
  exact ax_iret hC dX5_badPosition_46
set_option maxRecDepth 100000 in
theorem kX5_badPosition_L4 {C : ax_C} {X : ax_X} (hC : ax_ok C X LX cX5_badPosition RX5 5 (some .int) 5) : ∀ (n : Nat) (x2 : Int32) (x3 : Int32) (st : ax_S), AW C X LX 5 1 (fX5_badPosition_L4 n x2 x3 st) 4 [some (.inr 43), some (.inr 20), some (.inl x2), some (.inl x3), none] [] st := by
  intro n
  induction n with
  | zero => intros; exact ax_none rfl
  | succ n hrec40 =>
    intro x2 x3 st
    have hrec4 := hrec40
    rw [fX5_badPosition_L4.eq_2]
    refine ax_iloadn hC dX5_badPosition_4 rfl rfl ?_
    refine ax_aloadn hC dX5_badPosition_5 rfl rfl ?_
    refine ax_lkI hC lk_X5_111 LX_20 rfl dX5_badPosition_6 ?_
    refine ax_icmp_ge hC dX5_badPosition_9 (tgt := 60) (by decide) (fun _ => ?_) (fun _ => ?_)
    · refine ax_iconst hC dX5_badPosition_60 (v := -1) (by decide) ?_
      exact ax_iret hC dX5_badPosition_61
    · refine ax_aloadn hC dX5_badPosition_12 rfl rfl ?_
      refine ax_lkR hC lk_X5_116 LX_20 rfl dX5_badPosition_13 ?_
      refine ax_iloadn hC dX5_badPosition_16 rfl rfl ?_
      refine ax_iald hC LX_21 dX5_badPosition_17 (fun v1 => ?_)
      refine ax_istore hC dX5_badPosition_18 (by decide) (lv' := [some (.inr 43), some (.inr 20), some (.inl x2), some (.inl x3), some (.inl v1)]) rfl ?_
      refine ax_aloadn hC dX5_badPosition_20 rfl rfl ?_
      refine ax_iload hC dX5_badPosition_21 rfl ?_
      refine ax_iloadn hC dX5_badPosition_23 rfl rfl ?_
      refine ax_callV1 hC mlk_X5_118 hst_X5_118 LX_43 [.inl v1, .inl x2] rfl rfl (by decide) (by decide) (Nat.le_of_ble_eq_true rfl) dX5_badPosition_24 (fun r9 s9 h9 => kX5_mayFollow _ _ _ _ _ h9) (fun r2 st3 => ?_)
      refine ax_if_eq hC dX5_badPosition_27 (tgt := 45) (by decide) (fun _ => ?_) (fun _ => ?_)
      · refine ax_sub (lv' := [none, none, none, some (.inl x3), none]) (ax_leN (ax_leN (ax_leN (ax_leS (ax_leN ax_le0))))) ?_
        exact kX5_badPosition_b45 hC _ _
      · refine ax_aloadn hC dX5_badPosition_30 rfl rfl ?_
        refine ax_iload hC dX5_badPosition_31 rfl ?_
        refine ax_aloadn hC dX5_badPosition_33 rfl rfl ?_
        refine ax_iload hC dX5_badPosition_34 rfl ?_
        refine ax_callV1 hC mlk_X5_121 hst_X5_121 LX_43 [.inl v1] rfl rfl (by decide) (by decide) (Nat.le_of_ble_eq_true rfl) dX5_badPosition_36 (fun r9 s9 h9 => kX5_resultOfNext _ _ _ _ h9) (fun r4 st5 => ?_)
        refine ax_callV1 hC mlk_X5_125 hst_X5_125 LX_43 [.inl v1, .inl r4] rfl rfl (by decide) (by decide) (Nat.le_of_ble_eq_true rfl) dX5_badPosition_39 (fun r9 s9 h9 => kX5_agrees _ _ _ _ _ h9) (fun r6 st7 => ?_)
        refine ax_if_ne hC dX5_badPosition_42 (tgt := 47) (by decide) (fun _ => ?_) (fun _ => ?_)
        · refine ax_sub (lv' := [none, none, none, some (.inl x3), none]) (ax_leN (ax_leN (ax_leN (ax_leS (ax_leN ax_le0))))) ?_
          exact kX5_badPosition_b45 hC _ _
        · refine ax_iloadn hC dX5_badPosition_47 rfl rfl ?_
          refine ax_iconst hC dX5_badPosition_48 (v := 1) (by decide) ?_
          refine ax_iload hC dX5_badPosition_49 rfl ?_
          refine ax_ishl hC dX5_badPosition_51 ?_
          refine ax_ior hC dX5_badPosition_52 ?_
          refine ax_istoren hC dX5_badPosition_53 rfl (by decide) (lv' := [some (.inr 43), some (.inr 20), some (.inl (x2 ||| ((1 : Int32) <<< (v1 &&& 31)))), some (.inl x3), some (.inl v1)]) rfl ?_
          refine ax_iinc hC dX5_badPosition_54 rfl (v := (x3 + (1 : Int32))) rfl (by decide) (lv' := [some (.inr 43), some (.inr 20), some (.inl (x2 ||| ((1 : Int32) <<< (v1 &&& 31)))), some (.inl (x3 + (1 : Int32))), some (.inl v1)]) rfl ?_
          refine ax_goto hC dX5_badPosition_57 (tgt := 4) (by decide) ?_
          refine ax_sub (lv' := [some (.inr 43), some (.inr 20), some (.inl (x2 ||| ((1 : Int32) <<< (v1 &&& 31)))), some (.inl (x3 + (1 : Int32))), none]) (ax_leS (ax_leS (ax_leS (ax_leS (ax_leN ax_le0))))) ?_
          exact hrec4 _ _ _
set_option maxRecDepth 100000 in
theorem kX5_badPosition (st : ax_S) (r : Int32) (stz : ax_S) (h : fX5_badPosition st = some (r, stz)) : ax_M LX yX5_badPosition cX5_badPosition 5 (some .int) 5 [.inr 43, .inr 20] st 1 r stz := by
  refine ax_start (by decide) (Nat.le_of_ble_eq_true rfl) (lv0 := [some (.inr 43), some (.inr 20), none, none, none]) rfl (fun C X hC => ?_)
  rw [← h]
  unfold fX5_badPosition
  refine ax_iconst hC dX5_badPosition_0 (v := 0) (by decide) ?_
  refine ax_istoren hC dX5_badPosition_1 rfl (by decide) (lv' := [some (.inr 43), some (.inr 20), some (.inl (0 : Int32)), none, none]) rfl ?_
  refine ax_iconst hC dX5_badPosition_2 (v := 0) (by decide) ?_
  refine ax_istoren hC dX5_badPosition_3 rfl (by decide) (lv' := [some (.inr 43), some (.inr 20), some (.inl (0 : Int32)), some (.inl (0 : Int32)), none]) rfl ?_
  exact kX5_badPosition_L4 hC 4000 _ _ _
set_option maxRecDepth 100000 in
theorem kX8_isOrderLinearization_b44 {C : ax_C} {X : ax_X} (hC : ax_ok C X LX cX8_isOrderLinearization RX8 1 (some .int) 6) (s0 : Int32) (st : ax_S) : AW C X LX 1 1 (fX8_isOrderLinearization_b44 s0 st) 44 [none] [.inl s0] st := by
  unfold fX8_isOrderLinearization_b44
  refine ax_callS1 hC mlk_X8_151 hst_X8_151 [.inl s0] rfl rfl (by decide) (by decide) (Nat.le_of_ble_eq_true rfl) dX8_isOrderLinearization_44 (fun r9 s9 h9 => kX8_truth _ _ _ _ h9) (fun r7 st8 => ?_)
  exact ax_iret hC dX8_isOrderLinearization_47
set_option maxRecDepth 100000 in
theorem kX8_isOrderLinearization_b43 {C : ax_C} {X : ax_X} (hC : ax_ok C X LX cX8_isOrderLinearization RX8 1 (some .int) 6) (st : ax_S) : AW C X LX 1 1 (fX8_isOrderLinearization_b43 st) 43 [none] [] st := by
  unfold fX8_isOrderLinearization_b43
  refine ax_iconst hC dX8_isOrderLinearization_43 (v := 0) (by decide) ?_
  exact kX8_isOrderLinearization_b44 hC _ _
set_option maxRecDepth 100000 in
theorem kX8_isOrderLinearization (st : ax_S) (r : Int32) (stz : ax_S) (h : fX8_isOrderLinearization st = some (r, stz)) : ax_M LX yX8_isOrderLinearization cX8_isOrderLinearization 1 (some .int) 6 [.inr 0] st 1 r stz := by
  refine ax_start (by decide) (Nat.le_of_ble_eq_true rfl) (lv0 := [some (.inr 0)]) rfl (fun C X hC => ?_)
  rw [← h]
  unfold fX8_isOrderLinearization
  refine ax_aloadn hC dX8_isOrderLinearization_0 rfl rfl ?_
  refine ax_callV0 hC mlk_X8_178 hst_X8_178 LX_0 [] rfl rfl (by decide) (by decide) (Nat.le_of_ble_eq_true rfl) dX8_isOrderLinearization_1 (fun r9 s9 h9 => kX8_prepareWholeHistory  _ _ _ h9) (fun r1 st2 => ?_)
  refine ax_aloadn hC dX8_isOrderLinearization_4 rfl rfl ?_
  refine ax_lkR hC lk_X8_24 LX_0 rfl dX8_isOrderLinearization_5 ?_
  refine ax_aloadn hC dX8_isOrderLinearization_8 rfl rfl ?_
  refine ax_lkR hC lk_X8_12 LX_0 rfl dX8_isOrderLinearization_9 ?_
  refine ax_lkR hC lk_X8_100 LX_1 rfl dX8_isOrderLinearization_12 ?_
  refine ax_callV1 hC mlk_X8_224 hst_X8_224 LX_43 [.inr 20] rfl rfl (by decide) (by decide) (Nat.le_of_ble_eq_true rfl) dX8_isOrderLinearization_15 (fun r9 s9 h9 => kX5_coversRequired  _ _ _ h9) (fun r3 st4 => ?_)
  refine ax_if_eq hC dX8_isOrderLinearization_18 (tgt := 43) (by decide) (fun _ => ?_) (fun _ => ?_)
  · refine ax_sub (lv' := [none]) (ax_leN ax_le0) ?_
    exact kX8_isOrderLinearization_b43 hC _
  · refine ax_aloadn hC dX8_isOrderLinearization_21 rfl rfl ?_
    refine ax_lkR hC lk_X8_24 LX_0 rfl dX8_isOrderLinearization_22 ?_
    refine ax_aloadn hC dX8_isOrderLinearization_25 rfl rfl ?_
    refine ax_lkR hC lk_X8_12 LX_0 rfl dX8_isOrderLinearization_26 ?_
    refine ax_lkR hC lk_X8_100 LX_1 rfl dX8_isOrderLinearization_29 ?_
    refine ax_callV1 hC mlk_X8_228 hst_X8_228 LX_43 [.inr 20] rfl rfl (by decide) (by decide) (Nat.le_of_ble_eq_true rfl) dX8_isOrderLinearization_32 (fun r9 s9 h9 => kX5_badPosition  _ _ _ h9) (fun r5 st6 => ?_)
    refine ax_iconst hC dX8_isOrderLinearization_35 (v := -1) (by decide) ?_
    refine ax_icmp_ne hC dX8_isOrderLinearization_36 (tgt := 43) (by decide) (fun _ => ?_) (fun _ => ?_)
    · refine ax_iconst hC dX8_isOrderLinearization_39 (v := 1) (by decide) ?_
      refine ax_goto hC dX8_isOrderLinearization_40 (tgt := 44) (by decide) ?_
      refine ax_sub (lv' := [none]) (ax_leN ax_le0) ?_
      exact kX8_isOrderLinearization_b44 hC _ _
    · refine ax_sub (lv' := [none]) (ax_leN ax_le0) ?_
      exact kX8_isOrderLinearization_b43 hC _
set_option maxRecDepth 100000 in
theorem kX8_firstBadPosition_b30 {C : ax_C} {X : ax_X} (hC : ax_ok C X LX cX8_firstBadPosition RX8 2 (some .int) 6) (s0 : Int32) (st : ax_S) : AW C X LX 2 1 (fX8_firstBadPosition_b30 s0 st) 30 [none, none] [.inl s0] st := by
  unfold fX8_firstBadPosition_b30
  exact ax_iret hC dX8_firstBadPosition_30
set_option maxRecDepth 100000 in
theorem kX8_firstBadPosition (st : ax_S) (r : Int32) (stz : ax_S) (h : fX8_firstBadPosition st = some (r, stz)) : ax_M LX yX8_firstBadPosition cX8_firstBadPosition 2 (some .int) 6 [.inr 0] st 1 r stz := by
  refine ax_start (by decide) (Nat.le_of_ble_eq_true rfl) (lv0 := [some (.inr 0), none]) rfl (fun C X hC => ?_)
  rw [← h]
  unfold fX8_firstBadPosition
  refine ax_aloadn hC dX8_firstBadPosition_0 rfl rfl ?_
  refine ax_callV0 hC mlk_X8_178 hst_X8_178 LX_0 [] rfl rfl (by decide) (by decide) (Nat.le_of_ble_eq_true rfl) dX8_firstBadPosition_1 (fun r9 s9 h9 => kX8_prepareWholeHistory  _ _ _ h9) (fun r1 st2 => ?_)
  refine ax_aloadn hC dX8_firstBadPosition_4 rfl rfl ?_
  refine ax_lkR hC lk_X8_24 LX_0 rfl dX8_firstBadPosition_5 ?_
  refine ax_aloadn hC dX8_firstBadPosition_8 rfl rfl ?_
  refine ax_lkR hC lk_X8_12 LX_0 rfl dX8_firstBadPosition_9 ?_
  refine ax_lkR hC lk_X8_100 LX_1 rfl dX8_firstBadPosition_12 ?_
  refine ax_callV1 hC mlk_X8_228 hst_X8_228 LX_43 [.inr 20] rfl rfl (by decide) (by decide) (Nat.le_of_ble_eq_true rfl) dX8_firstBadPosition_15 (fun r9 s9 h9 => kX5_badPosition  _ _ _ h9) (fun r3 st4 => ?_)
  refine ax_istoren hC dX8_firstBadPosition_18 rfl (by decide) (lv' := [some (.inr 0), some (.inl r3)]) rfl ?_
  refine ax_iloadn hC dX8_firstBadPosition_19 rfl rfl ?_
  refine ax_iconst hC dX8_firstBadPosition_20 (v := -1) (by decide) ?_
  refine ax_icmp_ne hC dX8_firstBadPosition_21 (tgt := 29) (by decide) (fun _ => ?_) (fun _ => ?_)
  · refine ax_bipush hC dX8_firstBadPosition_24 (v := -10) (by decide) ?_
    refine ax_goto hC dX8_firstBadPosition_26 (tgt := 30) (by decide) ?_
    refine ax_sub (lv' := [none, none]) (ax_leN (ax_leN ax_le0)) ?_
    exact kX8_firstBadPosition_b30 hC _ _
  · refine ax_iloadn hC dX8_firstBadPosition_29 rfl rfl ?_
    refine ax_sub (lv' := [none, none]) (ax_leN (ax_leN ax_le0)) ?_
    exact kX8_firstBadPosition_b30 hC _ _
set_option maxRecDepth 100000 in
theorem kX7_append_b29 {C : ax_C} {X : ax_X} (hC : ax_ok C X LX cX7_append RX7 2 none 1) (st : ax_S) : AW C X LX 2 0 (fX7_append_b29 st) 29 [none, none] [] st := by
  unfold fX7_append_b29
  exact ax_vret hC dX7_append_29
set_option maxRecDepth 100000 in
theorem kX7_append (x1 : Int32) (st : ax_S) (r : Int32) (stz : ax_S) (h : fX7_append x1 st = some (r, stz)) : ax_M LX yX7_append cX7_append 2 none 1 [.inr 61, .inl x1] st 0 r stz := by
  refine ax_start (by decide) (Nat.le_of_ble_eq_true rfl) (lv0 := [some (.inr 61), some (.inl x1)]) rfl (fun C X hC => ?_)
  rw [← h]
  unfold fX7_append
  refine ax_aloadn hC dX7_append_0 rfl rfl ?_
  refine ax_lkI hC lk_X7_15 LX_61 rfl dX7_append_1 ?_
  refine ax_bipush hC dX7_append_4 (v := 120) (by decide) ?_
  refine ax_icmp_ge hC dX7_append_6 (tgt := 29) (by decide) (fun _ => ?_) (fun _ => ?_)
  · refine ax_sub (lv' := [none, none]) (ax_leN (ax_leN ax_le0)) ?_
    exact kX7_append_b29 hC _
  · refine ax_aloadn hC dX7_append_9 rfl rfl ?_
    refine ax_lkR hC lk_X7_9 LX_61 rfl dX7_append_10 ?_
    refine ax_aloadn hC dX7_append_13 rfl rfl ?_
    refine ax_lkI hC lk_X7_15 LX_61 rfl dX7_append_14 ?_
    refine ax_iloadn hC dX7_append_17 rfl rfl ?_
    refine ax_cast hC LX_62 dX7_append_18 (fun st1 => ?_)
    refine ax_aloadn hC dX7_append_19 rfl rfl ?_
    refine ax_dup hC dX7_append_20 ?_
    refine ax_lkI hC lk_X7_15 LX_61 rfl dX7_append_21 ?_
    refine ax_iconst hC dX7_append_24 (v := 1) (by decide) ?_
    refine ax_iadd hC dX7_append_25 ?_
    refine ax_putI hC lp_X7_15 LX_61 rfl dX7_append_26 (fun st2 => ?_)
    refine ax_sub (lv' := [none, none]) (ax_leN (ax_leN ax_le0)) ?_
    exact kX7_append_b29 hC _
set_option maxRecDepth 100000 in
theorem kX8_appendCharacter (x1 : Int32) (st : ax_S) (r : Int32) (stz : ax_S) (h : fX8_appendCharacter x1 st = some (r, stz)) : ax_M LX yX8_appendCharacter cX8_appendCharacter 2 (some .int) 2 [.inr 0, .inl x1] st 1 r stz := by
  refine ax_start (by decide) (Nat.le_of_ble_eq_true rfl) (lv0 := [some (.inr 0), some (.inl x1)]) rfl (fun C X hC => ?_)
  rw [← h]
  unfold fX8_appendCharacter
  refine ax_iloadn hC dX8_appendCharacter_0 rfl rfl ?_
  refine ax_bipush hC dX8_appendCharacter_1 (v := 32) (by decide) ?_
  refine ax_bipush hC dX8_appendCharacter_3 (v := 126) (by decide) ?_
  refine ax_callS1 hC mlk_X8_48 hst_X8_48 [.inl x1, .inl (32 : Int32), .inl (126 : Int32)] rfl rfl (by decide) (by decide) (Nat.le_of_ble_eq_true rfl) dX8_appendCharacter_5 (fun r9 s9 h9 => kX8_isBetween _ _ _ _ _ _ h9) (fun r1 st2 => ?_)
  refine ax_if_ne hC dX8_appendCharacter_8 (tgt := 14) (by decide) (fun _ => ?_) (fun _ => ?_)
  · refine ax_bipush hC dX8_appendCharacter_11 (v := -4) (by decide) ?_
    exact ax_iret hC dX8_appendCharacter_13
  · refine ax_aloadn hC dX8_appendCharacter_14 rfl rfl ?_
    refine ax_lkR hC lk_X8_31 LX_0 rfl dX8_appendCharacter_15 ?_
    refine ax_lkI hC lk_X8_232 LX_61 rfl dX8_appendCharacter_18 ?_
    refine ax_bipush hC dX8_appendCharacter_21 (v := 120) (by decide) ?_
    refine ax_icmp_lt hC dX8_appendCharacter_23 (tgt := 29) (by decide) (fun _ => ?_) (fun _ => ?_)
    · refine ax_aloadn hC dX8_appendCharacter_29 rfl rfl ?_
      refine ax_lkR hC lk_X8_31 LX_0 rfl dX8_appendCharacter_30 ?_
      refine ax_iloadn hC dX8_appendCharacter_33 rfl rfl ?_
      refine ax_i2c hC dX8_appendCharacter_34 ?_
      refine ax_callV0 hC mlk_X8_235 hst_X8_235 LX_61 [.inl (ax_c16 x1)] rfl rfl (by decide) (by decide) (Nat.le_of_ble_eq_true rfl) dX8_appendCharacter_35 (fun r9 s9 h9 => kX7_append _ _ _ _ h9) (fun r3 st4 => ?_)
      refine ax_aloadn hC dX8_appendCharacter_38 rfl rfl ?_
      refine ax_lkR hC lk_X8_31 LX_0 rfl dX8_appendCharacter_39 ?_
      refine ax_lkI hC lk_X8_232 LX_61 rfl dX8_appendCharacter_42 ?_
      exact ax_iret hC dX8_appendCharacter_45
    · refine ax_bipush hC dX8_appendCharacter_26 (v := -8) (by decide) ?_
      exact ax_iret hC dX8_appendCharacter_28
set_option maxRecDepth 100000 in
theorem kX7_empty (st : ax_S) (r : Int32) (stz : ax_S) (h : fX7_empty st = some (r, stz)) : ax_M LX yX7_empty cX7_empty 1 none 1 [.inr 61] st 0 r stz := by
  refine ax_start (by decide) (Nat.le_of_ble_eq_true rfl) (lv0 := [some (.inr 61)]) rfl (fun C X hC => ?_)
  rw [← h]
  unfold fX7_empty
  refine ax_aloadn hC dX7_empty_0 rfl rfl ?_
  refine ax_iconst hC dX7_empty_1 (v := 0) (by decide) ?_
  refine ax_putI hC lp_X7_15 LX_61 rfl dX7_empty_2 (fun st1 => ?_)
  exact ax_vret hC dX7_empty_5
set_option maxRecDepth 100000 in
theorem kX8_clearText (st : ax_S) (r : Int32) (stz : ax_S) (h : fX8_clearText st = some (r, stz)) : ax_M LX yX8_clearText cX8_clearText 2 (some .int) 2 [.inr 0] st 1 r stz := by
  refine ax_start (by decide) (Nat.le_of_ble_eq_true rfl) (lv0 := [some (.inr 0), none]) rfl (fun C X hC => ?_)
  rw [← h]
  unfold fX8_clearText
  refine ax_aloadn hC dX8_clearText_0 rfl rfl ?_
  refine ax_lkR hC lk_X8_31 LX_0 rfl dX8_clearText_1 ?_
  refine ax_lkI hC lk_X8_232 LX_61 rfl dX8_clearText_4 ?_
  refine ax_istoren hC dX8_clearText_7 rfl (by decide) (lv' := [some (.inr 0), some (.inl (st.1 61 0))]) rfl ?_
  refine ax_aloadn hC dX8_clearText_8 rfl rfl ?_
  refine ax_lkR hC lk_X8_31 LX_0 rfl dX8_clearText_9 ?_
  refine ax_callV0 hC mlk_X8_238 hst_X8_238 LX_61 [] rfl rfl (by decide) (by decide) (Nat.le_of_ble_eq_true rfl) dX8_clearText_12 (fun r9 s9 h9 => kX7_empty  _ _ _ h9) (fun r1 st2 => ?_)
  refine ax_iloadn hC dX8_clearText_15 rfl rfl ?_
  exact ax_iret hC dX8_clearText_16
