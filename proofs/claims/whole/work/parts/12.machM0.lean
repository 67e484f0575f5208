set_option maxRecDepth 100000 in
theorem kX9_isIn_b15 {C : ax_C} {X : ax_X} (hC : ax_ok C X LM cX9_isIn RX9 3 (some .boolean) 1) (s0 : Int32) (st : ax_S) : AW C X LM 3 1 (fX9_isIn_b15 s0 st) 15 [none, none, none] [.inl s0] st := by
  unfold fX9_isIn_b15
  exact ax_zret hC dX9_isIn_15
set_option maxRecDepth 100000 in
theorem kX9_isIn_b14 {C : ax_C} {X : ax_X} (hC : ax_ok C X LM cX9_isIn RX9 3 (some .boolean) 1) (st : ax_S) : AW C X LM 3 1 (fX9_isIn_b14 st) 14 [none, none, none] [] st := by
  unfold fX9_isIn_b14
  refine ax_iconst hC dX9_isIn_14 (v := 0) (by decide) ?_
  exact kX9_isIn_b15 hC _ _
set_option maxRecDepth 100000 in
theorem kX9_isIn (x0 : Int32) (x1 : Int32) (x2 : Int32) (st : ax_S) (r : Int32) (stz : ax_S) (h : fX9_isIn x0 x1 x2 st = some (r, stz)) : ax_M LM yX9_isIn cX9_isIn 3 (some .boolean) 1 [.inl x0, .inl x1, .inl x2] st 1 r stz := by
  refine ax_start (by decide) (Nat.le_of_ble_eq_true rfl) (lv0 := [some (.inl x0), some (.inl x1), some (.inl x2)]) rfl (fun C X hC => ?_)
  rw [← h]
  unfold fX9_isIn
  refine ax_iloadn hC dX9_isIn_0 rfl rfl ?_
  refine ax_iloadn hC dX9_isIn_1 rfl rfl ?_
  refine ax_icmp_lt hC dX9_isIn_2 (tgt := 14) (by decide) (fun _ => ?_) (fun _ => ?_)
  · refine ax_sub (lv' := [none, none, none]) (ax_leN (ax_leN (ax_leN ax_le0))) ?_
    exact kX9_isIn_b14 hC _
  · refine ax_iloadn hC dX9_isIn_5 rfl rfl ?_
    refine ax_iloadn hC dX9_isIn_6 rfl rfl ?_
    refine ax_icmp_gt hC dX9_isIn_7 (tgt := 14) (by decide) (fun _ => ?_) (fun _ => ?_)
    · refine ax_sub (lv' := [none, none, none]) (ax_leN (ax_leN (ax_leN ax_le0))) ?_
      exact kX9_isIn_b14 hC _
    · refine ax_iconst hC dX9_isIn_10 (v := 1) (by decide) ?_
      refine ax_goto hC dX9_isIn_11 (tgt := 15) (by decide) ?_
      refine ax_sub (lv' := [none, none, none]) (ax_leN (ax_leN (ax_leN ax_le0))) ?_
      exact kX9_isIn_b15 hC _ _
set_option maxRecDepth 100000 in
theorem kX9_create (x1 : Int32) (x2 : Int32) (st : ax_S) (r : Int32) (stz : ax_S) (h : fX9_create x1 x2 st = some (r, stz)) : ax_M LM yX9_create cX9_create 3 (some .int) 1 [.inr 0, .inl x1, .inl x2] st 1 r stz := by
  refine ax_start (by decide) (Nat.le_of_ble_eq_true rfl) (lv0 := [some (.inr 0), some (.inl x1), some (.inl x2)]) rfl (fun C X hC => ?_)
  rw [← h]
  unfold fX9_create
  refine ax_aloadn hC dX9_create_0 rfl rfl ?_
  refine ax_lkI hC lk_X9_97 LM_0 rfl dX9_create_1 ?_
  refine ax_iconst hC dX9_create_4 (v := 4) (by decide) ?_
  refine ax_icmp_ne hC dX9_create_5 (tgt := 11) (by decide) (fun _ => ?_) (fun _ => ?_)
  · refine ax_bipush hC dX9_create_8 (v := -8) (by decide) ?_
    exact ax_iret hC dX9_create_10
  · refine ax_aloadn hC dX9_create_11 rfl rfl ?_
    refine ax_lkR hC lk_X9_9 LM_0 rfl dX9_create_12 ?_
    refine ax_aloadn hC dX9_create_15 rfl rfl ?_
    refine ax_lkI hC lk_X9_97 LM_0 rfl dX9_create_16 ?_
    refine ax_iloadn hC dX9_create_19 rfl rfl ?_
    refine ax_iast hC LM_1 dX9_create_20 (fun st1 => ?_)
    refine ax_aloadn hC dX9_create_21 rfl rfl ?_
    refine ax_lkR hC lk_X9_13 LM_0 rfl dX9_create_22 ?_
    refine ax_aloadn hC dX9_create_25 rfl rfl ?_
    refine ax_lkI hC lk_X9_97 LM_0 rfl dX9_create_26 ?_
    refine ax_iloadn hC dX9_create_29 rfl rfl ?_
    refine ax_iast hC LM_2 dX9_create_30 (fun st2 => ?_)
    refine ax_aloadn hC dX9_create_31 rfl rfl ?_
    refine ax_dup hC dX9_create_32 ?_
    refine ax_lkI hC lk_X9_97 LM_0 rfl dX9_create_33 ?_
    refine ax_iconst hC dX9_create_36 (v := 1) (by decide) ?_
    refine ax_iadd hC dX9_create_37 ?_
    refine ax_putI hC lp_X9_97 LM_0 rfl dX9_create_38 (fun st3 => ?_)
    refine ax_aloadn hC dX9_create_41 rfl rfl ?_
    refine ax_iconst hC dX9_create_42 (v := 0) (by decide) ?_
    refine ax_putI hC lp_X9_107 LM_0 rfl dX9_create_43 (fun st4 => ?_)
    refine ax_aloadn hC dX9_create_46 rfl rfl ?_
    refine ax_lkI hC lk_X9_97 LM_0 rfl dX9_create_47 ?_
    refine ax_iconst hC dX9_create_50 (v := 1) (by decide) ?_
    refine ax_isub hC dX9_create_51 ?_
    exact ax_iret hC dX9_create_52
set_option maxRecDepth 100000 in
theorem kX9_createRegister_b21 {C : ax_C} {X : ax_X} (hC : ax_ok C X LM cX9_createRegister RX9 2 (some .int) 2) (s0 : Int32) (st : ax_S) : AW C X LM 2 1 (fX9_createRegister_b21 s0 st) 21 [none, none] [.inl s0] st := by
  unfold fX9_createRegister_b21
  exact ax_iret hC dX9_createRegister_21
set_option maxRecDepth 100000 in
theorem kX9_createRegister (x1 : Int32) (st : ax_S) (r : Int32) (stz : ax_S) (h : fX9_createRegister x1 st = some (r, stz)) : ax_M LM yX9_createRegister cX9_createRegister 2 (some .int) 2 [.inr 0, .inl x1] st 1 r stz := by
  refine ax_start (by decide) (Nat.le_of_ble_eq_true rfl) (lv0 := [some (.inr 0), some (.inl x1)]) rfl (fun C X hC => ?_)
  rw [← h]
  unfold fX9_createRegister
  refine ax_iloadn hC dX9_createRegister_0 rfl rfl ?_
  refine ax_iconst hC dX9_createRegister_1 (v := 0) (by decide) ?_
  refine ax_bipush hC dX9_createRegister_2 (v := 99) (by decide) ?_
  refine ax_callS1 hC mlk_X9_93 hst_X9_93 [.inl x1, .inl (0 : Int32), .inl (99 : Int32)] rfl rfl (by decide) (by decide) (Nat.le_of_ble_eq_true rfl) dX9_createRegister_4 (fun r9 s9 h9 => kX9_isIn _ _ _ _ _ _ h9) (fun r1 st2 => ?_)
  refine ax_if_eq hC dX9_createRegister_7 (tgt := 19) (by decide) (fun _ => ?_) (fun _ => ?_)
  · refine ax_bipush hC dX9_createRegister_19 (v := -4) (by decide) ?_
    refine ax_sub (lv' := [none, none]) (ax_leN (ax_leN ax_le0)) ?_
    exact kX9_createRegister_b21 hC _ _
  · refine ax_aloadn hC dX9_createRegister_10 rfl rfl ?_
    refine ax_iconst hC dX9_createRegister_11 (v := 0) (by decide) ?_
    refine ax_iloadn hC dX9_createRegister_12 rfl rfl ?_
    refine ax_callV1 hC mlk_X9_110 hst_X9_110 LM_0 [.inl (0 : Int32), .inl x1] rfl rfl (by decide) (by decide) (Nat.le_of_ble_eq_true rfl) dX9_createRegister_13 (fun r9 s9 h9 => kX9_create _ _ _ _ _ h9) (fun r3 st4 => ?_)
    refine ax_goto hC dX9_createRegister_16 (tgt := 21) (by decide) ?_
    refine ax_sub (lv' := [none, none]) (ax_leN (ax_leN ax_le0)) ?_
    exact kX9_createRegister_b21 hC _ _
set_option maxRecDepth 100000 in
theorem kX9_createCounter_b22 {C : ax_C} {X : ax_X} (hC : ax_ok C X LM cX9_createCounter RX9 2 (some .int) 2) (s0 : Int32) (st : ax_S) : AW C X LM 2 1 (fX9_createCounter_b22 s0 st) 22 [none, none] [.inl s0] st := by
  unfold fX9_createCounter_b22
  exact ax_iret hC dX9_createCounter_22
set_option maxRecDepth 100000 in
theorem kX9_createCounter (x1 : Int32) (st : ax_S) (r : Int32) (stz : ax_S) (h : fX9_createCounter x1 st = some (r, stz)) : ax_M LM yX9_createCounter cX9_createCounter 2 (some .int) 2 [.inr 0, .inl x1] st 1 r stz := by
  refine ax_start (by decide) (Nat.le_of_ble_eq_true rfl) (lv0 := [some (.inr 0), some (.inl x1)]) rfl (fun C X hC => ?_)
  rw [← h]
  unfold fX9_createCounter
  refine ax_iloadn hC dX9_createCounter_0 rfl rfl ?_
  refine ax_bipush hC dX9_createCounter_1 (v := -99) (by decide) ?_
  refine ax_bipush hC dX9_createCounter_3 (v := 99) (by decide) ?_
  refine ax_callS1 hC mlk_X9_93 hst_X9_93 [.inl x1, .inl (-99 : Int32), .inl (99 : Int32)] rfl rfl (by decide) (by decide) (Nat.le_of_ble_eq_true rfl) dX9_createCounter_5 (fun r9 s9 h9 => kX9_isIn _ _ _ _ _ _ h9) (fun r1 st2 => ?_)
  refine ax_if_eq hC dX9_createCounter_8 (tgt := 20) (by decide) (fun _ => ?_) (fun _ => ?_)
  · refine ax_bipush hC dX9_createCounter_20 (v := -4) (by decide) ?_
    refine ax_sub (lv' := [none, none]) (ax_leN (ax_leN ax_le0)) ?_
    exact kX9_createCounter_b22 hC _ _
  · refine ax_aloadn hC dX9_createCounter_11 rfl rfl ?_
    refine ax_iconst hC dX9_createCounter_12 (v := 1) (by decide) ?_
    refine ax_iloadn hC dX9_createCounter_13 rfl rfl ?_
    refine ax_callV1 hC mlk_X9_110 hst_X9_110 LM_0 [.inl (1 : Int32), .inl x1] rfl rfl (by decide) (by decide) (Nat.le_of_ble_eq_true rfl) dX9_createCounter_14 (fun r9 s9 h9 => kX9_create _ _ _ _ _ h9) (fun r3 st4 => ?_)
    refine ax_goto hC dX9_createCounter_17 (tgt := 22) (by decide) ?_
    refine ax_sub (lv' := [none, none]) (ax_leN (ax_leN ax_le0)) ?_
    exact kX9_createCounter_b22 hC _ _
set_option maxRecDepth 100000 in
theorem kX9_createQueue (st : ax_S) (r : Int32) (stz : ax_S) (h : fX9_createQueue st = some (r, stz)) : ax_M LM yX9_createQueue cX9_createQueue 1 (some .int) 2 [.inr 0] st 1 r stz := by
  refine ax_start (by decide) (Nat.le_of_ble_eq_true rfl) (lv0 := [some (.inr 0)]) rfl (fun C X hC => ?_)
  rw [← h]
  unfold fX9_createQueue
  refine ax_aloadn hC dX9_createQueue_0 rfl rfl ?_
  refine ax_iconst hC dX9_createQueue_1 (v := 2) (by decide) ?_
  refine ax_iconst hC dX9_createQueue_2 (v := 0) (by decide) ?_
  refine ax_callV1 hC mlk_X9_110 hst_X9_110 LM_0 [.inl (2 : Int32), .inl (0 : Int32)] rfl rfl (by decide) (by decide) (Nat.le_of_ble_eq_true rfl) dX9_createQueue_3 (fun r9 s9 h9 => kX9_create _ _ _ _ _ h9) (fun r1 st2 => ?_)
  exact ax_iret hC dX9_createQueue_6
set_option maxRecDepth 100000 in
theorem kX9_createSet (st : ax_S) (r : Int32) (stz : ax_S) (h : fX9_createSet st = some (r, stz)) : ax_M LM yX9_createSet cX9_createSet 1 (some .int) 2 [.inr 0] st 1 r stz := by
  refine ax_start (by decide) (Nat.le_of_ble_eq_true rfl) (lv0 := [some (.inr 0)]) rfl (fun C X hC => ?_)
  rw [← h]
  unfold fX9_createSet
  refine ax_aloadn hC dX9_createSet_0 rfl rfl ?_
  refine ax_iconst hC dX9_createSet_1 (v := 3) (by decide) ?_
  refine ax_iconst hC dX9_createSet_2 (v := 0) (by decide) ?_
  refine ax_callV1 hC mlk_X9_110 hst_X9_110 LM_0 [.inl (3 : Int32), .inl (0 : Int32)] rfl rfl (by decide) (by decide) (Nat.le_of_ble_eq_true rfl) dX9_createSet_3 (fun r9 s9 h9 => kX9_create _ _ _ _ _ h9) (fun r1 st2 => ?_)
  exact ax_iret hC dX9_createSet_6
set_option maxRecDepth 100000 in
theorem kX9_objectCount (st : ax_S) (r : Int32) (stz : ax_S) (h : fX9_objectCount st = some (r, stz)) : ax_M LM yX9_objectCount cX9_objectCount 1 (some .int) 1 [.inr 0] st 1 r stz := by
  refine ax_start (by decide) (Nat.le_of_ble_eq_true rfl) (lv0 := [some (.inr 0)]) rfl (fun C X hC => ?_)
  rw [← h]
  unfold fX9_objectCount
  refine ax_aloadn hC dX9_objectCount_0 rfl rfl ?_
  refine ax_lkI hC lk_X9_97 LM_0 rfl dX9_objectCount_1 ?_
  exact ax_iret hC dX9_objectCount_4
set_option maxRecDepth 100000 in
theorem kX9_isObject (x1 : Int32) (st : ax_S) (r : Int32) (stz : ax_S) (h : fX9_isObject x1 st = some (r, stz)) : ax_M LM yX9_isObject cX9_isObject 2 (some .boolean) 2 [.inr 0, .inl x1] st 1 r stz := by
  refine ax_start (by decide) (Nat.le_of_ble_eq_true rfl) (lv0 := [some (.inr 0), some (.inl x1)]) rfl (fun C X hC => ?_)
  rw [← h]
  unfold fX9_isObject
  refine ax_iloadn hC dX9_isObject_0 rfl rfl ?_
  refine ax_iconst hC dX9_isObject_1 (v := 0) (by decide) ?_
  refine ax_aloadn hC dX9_isObject_2 rfl rfl ?_
  refine ax_lkI hC lk_X9_97 LM_0 rfl dX9_isObject_3 ?_
  refine ax_iconst hC dX9_isObject_6 (v := 1) (by decide) ?_
  refine ax_isub hC dX9_isObject_7 ?_
  refine ax_callS1 hC mlk_X9_93 hst_X9_93 [.inl x1, .inl (0 : Int32), .inl ((st.1 0 0) - (1 : Int32))] rfl rfl (by decide) (by decide) (Nat.le_of_ble_eq_true rfl) dX9_isObject_8 (fun r9 s9 h9 => kX9_isIn _ _ _ _ _ _ h9) (fun r1 st2 => ?_)
  exact ax_zret hC dX9_isObject_11
set_option maxRecDepth 100000 in
theorem kX9_typeOf_b19 {C : ax_C} {X : ax_X} (hC : ax_ok C X LM cX9_typeOf RX9 2 (some .int) 3) (s0 : Int32) (st : ax_S) : AW C X LM 2 1 (fX9_typeOf_b19 s0 st) 19 [none, none] [.inl s0] st := by
  unfold fX9_typeOf_b19
  exact ax_iret hC dX9_typeOf_19
set_option maxRecDepth 100000 in
theorem kX9_typeOf (x1 : Int32) (st : ax_S) (r : Int32) (stz : ax_S) (h : fX9_typeOf x1 st = some (r, stz)) : ax_M LM yX9_typeOf cX9_typeOf 2 (some .int) 3 [.inr 0, .inl x1] st 1 r stz := by
  refine ax_start (by decide) (Nat.le_of_ble_eq_true rfl) (lv0 := [some (.inr 0), some (.inl x1)]) rfl (fun C X hC => ?_)
  rw [← h]
  unfold fX9_typeOf
  refine ax_aloadn hC dX9_typeOf_0 rfl rfl ?_
  refine ax_iloadn hC dX9_typeOf_1 rfl rfl ?_
  refine ax_callV1 hC mlk_X9_114 hst_X9_114 LM_0 [.inl x1] rfl rfl (by decide) (by decide) (Nat.le_of_ble_eq_true rfl) dX9_typeOf_2 (fun r9 s9 h9 => kX9_isObject _ _ _ _ h9) (fun r1 st2 => ?_)
  refine ax_if_eq hC dX9_typeOf_5 (tgt := 17) (by decide) (fun _ => ?_) (fun _ => ?_)
  · refine ax_bipush hC dX9_typeOf_17 (v := -2) (by decide) ?_
    refine ax_sub (lv' := [none, none]) (ax_leN (ax_leN ax_le0)) ?_
    exact kX9_typeOf_b19 hC _ _
  · refine ax_aloadn hC dX9_typeOf_8 rfl rfl ?_
    refine ax_lkR hC lk_X9_9 LM_0 rfl dX9_typeOf_9 ?_
    refine ax_iloadn hC dX9_typeOf_12 rfl rfl ?_
    refine ax_iald hC LM_1 dX9_typeOf_13 (fun v3 => ?_)
    refine ax_goto hC dX9_typeOf_14 (tgt := 19) (by decide) ?_
    refine ax_sub (lv' := [none, none]) (ax_leN (ax_leN ax_le0)) ?_
    exact kX9_typeOf_b19 hC _ _
set_option maxRecDepth 100000 in
theorem kX9_reset (st : ax_S) (r : Int32) (stz : ax_S) (h : fX9_reset st = some (r, stz)) : ax_M LM yX9_reset cX9_reset 2 (some .int) 1 [.inr 0] st 1 r stz := by
  refine ax_start (by decide) (Nat.le_of_ble_eq_true rfl) (lv0 := [some (.inr 0), none]) rfl (fun C X hC => ?_)
  rw [← h]
  unfold fX9_reset
  refine ax_aloadn hC dX9_reset_0 rfl rfl ?_
  refine ax_lkI hC lk_X9_104 LM_0 rfl dX9_reset_1 ?_
  refine ax_istoren hC dX9_reset_4 rfl (by decide) (lv' := [some (.inr 0), some (.inl (st.1 0 12))]) rfl ?_
  refine ax_aloadn hC dX9_reset_5 rfl rfl ?_
  refine ax_iconst hC dX9_reset_6 (v := 0) (by decide) ?_
  refine ax_putI hC lp_X9_97 LM_0 rfl dX9_reset_7 (fun st1 => ?_)
  refine ax_aloadn hC dX9_reset_10 rfl rfl ?_
  refine ax_iconst hC dX9_reset_11 (v := 0) (by decide) ?_
  refine ax_putI hC lp_X9_101 LM_0 rfl dX9_reset_12 (fun st2 => ?_)
  refine ax_aloadn hC dX9_reset_15 rfl rfl ?_
  refine ax_iconst hC dX9_reset_16 (v := 0) (by decide) ?_
  refine ax_putI hC lp_X9_104 LM_0 rfl dX9_reset_17 (fun st3 => ?_)
  refine ax_aloadn hC dX9_reset_20 rfl rfl ?_
  refine ax_iconst hC dX9_reset_21 (v := 0) (by decide) ?_
  refine ax_putI hC lp_X9_107 LM_0 rfl dX9_reset_22 (fun st4 => ?_)
  refine ax_iloadn hC dX9_reset_25 rfl rfl ?_
  exact ax_iret hC dX9_reset_26
set_option maxRecDepth 100000 in
theorem kX9_isThread (x0 : Int32) (st : ax_S) (r : Int32) (stz : ax_S) (h : fX9_isThread x0 st = some (r, stz)) : ax_M LM yX9_isThread cX9_isThread 1 (some .boolean) 2 [.inl x0] st 1 r stz := by
  refine ax_start (by decide) (Nat.le_of_ble_eq_true rfl) (lv0 := [some (.inl x0)]) rfl (fun C X hC => ?_)
  rw [← h]
  unfold fX9_isThread
  refine ax_iloadn hC dX9_isThread_0 rfl rfl ?_
  refine ax_iconst hC dX9_isThread_1 (v := 0) (by decide) ?_
  refine ax_iconst hC dX9_isThread_2 (v := 3) (by decide) ?_
  refine ax_callS1 hC mlk_X9_93 hst_X9_93 [.inl x0, .inl (0 : Int32), .inl (3 : Int32)] rfl rfl (by decide) (by decide) (Nat.le_of_ble_eq_true rfl) dX9_isThread_3 (fun r9 s9 h9 => kX9_isIn _ _ _ _ _ _ h9) (fun r1 st2 => ?_)
  exact ax_zret hC dX9_isThread_6
set_option maxRecDepth 100000 in
theorem kX9_typeFor_b29 {C : ax_C} {X : ax_X} (hC : ax_ok C X LM cX9_typeFor RX9 1 (some .int) 1) (s0 : Int32) (st : ax_S) : AW C X LM 1 1 (fX9_typeFor_b29 s0 st) 29 [none] [.inl s0] st := by
  unfold fX9_typeFor_b29
  exact ax_iret hC dX9_typeFor_29
set_option maxRecDepth 100000 in
theorem kX9_typeFor (x0 : Int32) (st : ax_S) (r : Int32) (stz : ax_S) (h : fX9_typeFor x0 st = some (r, stz)) : ax_M LM yX9_typeFor cX9_typeFor 1 (some .int) 1 [.inl x0] st 1 r stz := by
  refine ax_start (by decide) (Nat.le_of_ble_eq_true rfl) (lv0 := [some (.inl x0)]) rfl (fun C X hC => ?_)
  rw [← h]
  unfold fX9_typeFor
  refine ax_iloadn hC dX9_typeFor_0 rfl rfl ?_
  refine ax_iconst hC dX9_typeFor_1 (v := 2) (by decide) ?_
  refine ax_icmp_gt hC dX9_typeFor_2 (tgt := 9) (by decide) (fun _ => ?_) (fun _ => ?_)
  · refine ax_iloadn hC dX9_typeFor_9 rfl rfl ?_
    refine ax_iconst hC dX9_typeFor_10 (v := 4) (by decide) ?_
    refine ax_icmp_gt hC dX9_typeFor_11 (tgt := 18) (by decide) (fun _ => ?_) (fun _ => ?_)
    · refine ax_iloadn hC dX9_typeFor_18 rfl rfl ?_
      refine ax_bipush hC dX9_typeFor_19 (v := 6) (by decide) ?_
      refine ax_icmp_gt hC dX9_typeFor_21 (tgt := 28) (by decide) (fun _ => ?_) (fun _ => ?_)
      · refine ax_iconst hC dX9_typeFor_28 (v := 3) (by decide) ?_
        refine ax_sub (lv' := [none]) (ax_leN ax_le0) ?_
        exact kX9_typeFor_b29 hC _ _
      · refine ax_iconst hC dX9_typeFor_24 (v := 2) (by decide) ?_
        refine ax_goto hC dX9_typeFor_25 (tgt := 29) (by decide) ?_
        refine ax_sub (lv' := [none]) (ax_leN ax_le0) ?_
        exact kX9_typeFor_b29 hC _ _
    · refine ax_iconst hC dX9_typeFor_14 (v := 1) (by decide) ?_
      refine ax_goto hC dX9_typeFor_15 (tgt := 29) (by decide) ?_
      refine ax_sub (lv' := [none]) (ax_leN ax_le0) ?_
      exact kX9_typeFor_b29 hC _ _
  · refine ax_iconst hC dX9_typeFor_5 (v := 0) (by decide) ?_
    refine ax_goto hC dX9_typeFor_6 (tgt := 29) (by decide) ?_
    refine ax_sub (lv' := [none]) (ax_leN ax_le0) ?_
    exact kX9_typeFor_b29 hC _ _
set_option maxRecDepth 100000 in
theorem kX9_isArgument_b23 {C : ax_C} {X : ax_X} (hC : ax_ok C X LM cX9_isArgument RX9 2 (some .boolean) 2) (s0 : Int32) (st : ax_S) : AW C X LM 2 1 (fX9_isArgument_b23 s0 st) 23 [none, none] [.inl s0] st := by
  unfold fX9_isArgument_b23
  exact ax_zret hC dX9_isArgument_23
set_option maxRecDepth 100000 in
theorem kX9_isArgument (x0 : Int32) (x1 : Int32) (st : ax_S) (r : Int32) (stz : ax_S) (h : fX9_isArgument x0 x1 st = some (r, stz)) : ax_M LM yX9_isArgument cX9_isArgument 2 (some .boolean) 2 [.inl x0, .inl x1] st 1 r stz := by
  refine ax_start (by decide) (Nat.le_of_ble_eq_true rfl) (lv0 := [some (.inl x0), some (.inl x1)]) rfl (fun C X hC => ?_)
  rw [← h]
  unfold fX9_isArgument
  refine ax_iloadn hC dX9_isArgument_0 rfl rfl ?_
  refine ax_iconst hC dX9_isArgument_1 (v := 4) (by decide) ?_
  refine ax_icmp_ne hC dX9_isArgument_2 (tgt := 16) (by decide) (fun _ => ?_) (fun _ => ?_)
  · refine ax_iloadn hC dX9_isArgument_5 rfl rfl ?_
    refine ax_bipush hC dX9_isArgument_6 (v := -99) (by decide) ?_
    refine ax_bipush hC dX9_isArgument_8 (v := 99) (by decide) ?_
    refine ax_callS1 hC mlk_X9_93 hst_X9_93 [.inl x1, .inl (-99 : Int32), .inl (99 : Int32)] rfl rfl (by decide) (by decide) (Nat.le_of_ble_eq_true rfl) dX9_isArgument_10 (fun r9 s9 h9 => kX9_isIn _ _ _ _ _ _ h9) (fun r1 st2 => ?_)
    refine ax_goto hC dX9_isArgument_13 (tgt := 23) (by decide) ?_
    refine ax_sub (lv' := [none, none]) (ax_leN (ax_leN ax_le0)) ?_
    exact kX9_isArgument_b23 hC _ _
  · refine ax_iloadn hC dX9_isArgument_16 rfl rfl ?_
    refine ax_iconst hC dX9_isArgument_17 (v := 0) (by decide) ?_
    refine ax_bipush hC dX9_isArgument_18 (v := 99) (by decide) ?_
    refine ax_callS1 hC mlk_X9_93 hst_X9_93 [.inl x1, .inl (0 : Int32), .inl (99 : Int32)] rfl rfl (by decide) (by decide) (Nat.le_of_ble_eq_true rfl) dX9_isArgument_20 (fun r9 s9 h9 => kX9_isIn _ _ _ _ _ _ h9) (fun r3 st4 => ?_)
    refine ax_sub (lv' := [none, none]) (ax_leN (ax_leN ax_le0)) ?_
    exact kX9_isArgument_b23 hC _ _
set_option maxRecDepth 100000 in
theorem kX9_isCrashed_b41 {C : ax_C} {X : ax_X} (hC : ax_ok C X LM cX9_isCrashed RX9 4 (some .boolean) 1) {rec4 : Int32 → Int32 → Int32 → ax_S → ax_R} (hrec4 : ∀ (x1 : Int32) (x2 : Int32) (x3 : Int32) (st : ax_S), AW C X LM 4 1 (rec4 x1 x2 x3 st) 4 [some (.inr 0), some (.inl x1), some (.inl x2), some (.inl x3)] [] st) (x1 : Int32) (x3 : Int32) (s0 : Int32) (st : ax_S) : AW C X LM 4 1 (fX9_isCrashed_b41 rec4 x1 x3 s0 st) 41 [some (.inr 0), some (.inl x1), none, some (.inl x3)] [.inl s0] st := by
  unfold fX9_isCrashed_b41
  refine ax_istoren hC dX9_isCrashed_41 rfl (by decide) (lv' := [some (.inr 0), some (.inl x1), some (.inl s0), some (.inl x3)]) rfl ?_
  refine ax_iinc hC dX9_isCrashed_42 rfl (v := (x3 + (1 : Int32))) rfl (by decide) (lv' := [some (.inr 0), some (.inl x1), some (.inl s0), some (.inl (x3 + (1 : Int32)))]) rfl ?_
  refine ax_goto hC dX9_isCrashed_45 (tgt := 4) (by decide) ?_
  exact hrec4 _ _ _ _
set_option maxRecDepth 100000 in
theorem kX9_isCrashed_b36 {C : ax_C} {X : ax_X} (hC : ax_ok C X LM cX9_isCrashed RX9 4 (some .boolean) 1) {rec4 : Int32 → Int32 → Int32 → ax_S → ax_R} (hrec4 : ∀ (x1 : Int32) (x2 : Int32) (x3 : Int32) (st : ax_S), AW C X LM 4 1 (rec4 x1 x2 x3 st) 4 [some (.inr 0), some (.inl x1), some (.inl x2), some (.inl x3)] [] st) (x1 : Int32) (x3 : Int32) (st : ax_S) : AW C X LM 4 1 (fX9_isCrashed_b36 rec4 x1 x3 st) 36 [some (.inr 0), some (.inl x1), none, some (.inl x3)] [] st := by
  unfold fX9_isCrashed_b36
  refine ax_iconst hC dX9_isCrashed_36 (v := 1) (by decide) ?_
  refine ax_goto hC dX9_isCrashed_37 (tgt := 41) (by decide) ?_
  exact kX9_isCrashed_b41 hC hrec4 _ _ _ _
set_option maxRecDepth 100000 in
theorem kX9_isCrashed_b40 {C : ax_C} {X : ax_X} (hC : ax_ok C X LM cX9_isCrashed RX9 4 (some .boolean) 1) {rec4 : Int32 → Int32 → Int32 → ax_S → ax_R} (hrec4 : ∀ (x1 : Int32) (x2 : Int32) (x3 : Int32) (st : ax_S), AW C X LM 4 1 (rec4 x1 x2 x3 st) 4 [some (.inr 0), some (.inl x1), some (.inl x2), some (.inl x3)] [] st) (x1 : Int32) (x3 : Int32) (st : ax_S) : AW C X LM 4 1 (fX9_isCrashed_b40 rec4 x1 x3 st) 40 [some (.inr 0), some (.inl x1), none, some (.inl x3)] [] st := by
  unfold fX9_isCrashed_b40
  refine ax_iconst hC dX9_isCrashed_40 (v := 0) (by decide) ?_
  exact kX9_isCrashed_b41 hC hrec4 _ _ _ _
set_option maxRecDepth 100000 in
theorem kX9_isCrashed_L4 {C : ax_C} {X : ax_X} (hC : ax_ok C X LM cX9_isCrashed RX9 4 (some .boolean) 1) : ∀ (n : Nat) (x1 : Int32) (x2 : Int32) (x3 : Int32) (st : ax_S), AW C X LM 4 1 (fX9_isCrashed_L4 n x1 x2 x3 st) 4 [some (.inr 0), some (.inl x1), some (.inl x2), some (.inl x3)] [] st := by
  intro n
  induction n with
  | zero => intros; exact ax_none rfl
  | succ n hrec40 =>
    intro x1 x2 x3 st
    have hrec4 := hrec40
    rw [fX9_isCrashed_L4.eq_2]
    refine ax_iloadn hC dX9_isCrashed_4 rfl rfl ?_
    refine ax_aloadn hC dX9_isCrashed_5 rfl rfl ?_
    refine ax_lkI hC lk_X9_104 LM_0 rfl dX9_isCrashed_6 ?_
    refine ax_icmp_ge hC dX9_isCrashed_9 (tgt := 48) (by decide) (fun _ => ?_) (fun _ => ?_)
    · refine ax_iloadn hC dX9_isCrashed_48 rfl rfl ?_
      exact ax_zret hC dX9_isCrashed_49
    · refine ax_iloadn hC dX9_isCrashed_12 rfl rfl ?_
      refine ax_if_ne hC dX9_isCrashed_13 (tgt := 36) (by decide) (fun _ => ?_) (fun _ => ?_)
      · refine ax_aloadn hC dX9_isCrashed_16 rfl rfl ?_
        refine ax_lkR hC lk_X9_40 LM_0 rfl dX9_isCrashed_17 ?_
        refine ax_iloadn hC dX9_isCrashed_20 rfl rfl ?_
        refine ax_iald hC LM_11 dX9_isCrashed_21 (fun v1 => ?_)
        refine ax_iconst hC dX9_isCrashed_22 (v := 2) (by decide) ?_
        refine ax_icmp_ne hC dX9_isCrashed_23 (tgt := 40) (by decide) (fun _ => ?_) (fun _ => ?_)
        · refine ax_aloadn hC dX9_isCrashed_26 rfl rfl ?_
          refine ax_lkR hC lk_X9_43 LM_0 rfl dX9_isCrashed_27 ?_
          refine ax_iloadn hC dX9_isCrashed_30 rfl rfl ?_
          refine ax_iald hC LM_12 dX9_isCrashed_31 (fun v2 => ?_)
          refine ax_iloadn hC dX9_isCrashed_32 rfl rfl ?_
          refine ax_icmp_ne hC dX9_isCrashed_33 (tgt := 40) (by decide) (fun _ => ?_) (fun _ => ?_)
          · refine ax_sub (lv' := [some (.inr 0), some (.inl x1), none, some (.inl x3)]) (ax_leS (ax_leS (ax_leN (ax_leS ax_le0)))) ?_
            exact kX9_isCrashed_b36 hC hrec4 _ _ _
          · refine ax_sub (lv' := [some (.inr 0), some (.inl x1), none, some (.inl x3)]) (ax_leS (ax_leS (ax_leN (ax_leS ax_le0)))) ?_
            exact kX9_isCrashed_b40 hC hrec4 _ _ _
        · refine ax_sub (lv' := [some (.inr 0), some (.inl x1), none, some (.inl x3)]) (ax_leS (ax_leS (ax_leN (ax_leS ax_le0)))) ?_
          exact kX9_isCrashed_b40 hC hrec4 _ _ _
      · refine ax_sub (lv' := [some (.inr 0), some (.inl x1), none, some (.inl x3)]) (ax_leS (ax_leS (ax_leN (ax_leS ax_le0)))) ?_
        exact kX9_isCrashed_b36 hC hrec4 _ _ _
set_option maxRecDepth 100000 in
theorem kX9_isCrashed (x1 : Int32) (st : ax_S) (r : Int32) (stz : ax_S) (h : fX9_isCrashed x1 st = some (r, stz)) : ax_M LM yX9_isCrashed cX9_isCrashed 4 (some .boolean) 1 [.inr 0, .inl x1] st 1 r stz := by
  refine ax_start (by decide) (Nat.le_of_ble_eq_true rfl) (lv0 := [some (.inr 0), some (.inl x1), none, none]) rfl (fun C X hC => ?_)
  rw [← h]
  unfold fX9_isCrashed
  refine ax_iconst hC dX9_isCrashed_0 (v := 0) (by decide) ?_
  refine ax_istoren hC dX9_isCrashed_1 rfl (by decide) (lv' := [some (.inr 0), some (.inl x1), some (.inl (0 : Int32)), none]) rfl ?_
  refine ax_iconst hC dX9_isCrashed_2 (v := 0) (by decide) ?_
  refine ax_istoren hC dX9_isCrashed_3 rfl (by decide) (lv' := [some (.inr 0), some (.inl x1), some (.inl (0 : Int32)), some (.inl (0 : Int32))]) rfl ?_
  exact kX9_isCrashed_L4 hC 4000 _ _ _ _
set_option maxRecDepth 100000 in
theorem kX9_pendingOf_b32 {C : ax_C} {X : ax_X} (hC : ax_ok C X LM cX9_pendingOf RX9 3 (some .int) 1) {rec2 : Int32 → Int32 → ax_S → ax_R} (hrec2 : ∀ (x1 : Int32) (x2 : Int32) (st : ax_S), AW C X LM 3 1 (rec2 x1 x2 st) 2 [some (.inr 0), some (.inl x1), some (.inl x2)] [] st) (x1 : Int32) (x2 : Int32) (st : ax_S) : AW C X LM 3 1 (fX9_pendingOf_b32 rec2 x1 x2 st) 32 [some (.inr 0), some (.inl x1), some (.inl x2)] [] st := by
  unfold fX9_pendingOf_b32
  refine ax_iinc hC dX9_pendingOf_32 rfl (v := (x2 + (1 : Int32))) rfl (by decide) (lv' := [some (.inr 0), some (.inl x1), some (.inl (x2 + (1 : Int32)))]) rfl ?_
  refine ax_goto hC dX9_pendingOf_35 (tgt := 2) (by decide) ?_
  exact hrec2 _ _ _
set_option maxRecDepth 100000 in
theorem kX9_pendingOf_L2 {C : ax_C} {X : ax_X} (hC : ax_ok C X LM cX9_pendingOf RX9 3 (some .int) 1) : ∀ (n : Nat) (x1 : Int32) (x2 : Int32) (st : ax_S), AW C X LM 3 1 (fX9_pendingOf_L2 n x1 x2 st) 2 [some (.inr 0), some (.inl x1), some (.inl x2)] [] st := by
  intro n
  induction n with
  | zero => intros; exact ax_none rfl
  | succ n hrec20 =>
    intro x1 x2 st
    have hrec2 := hrec20
    rw [fX9_pendingOf_L2.eq_2]
    refine ax_iloadn hC dX9_pendingOf_2 rfl rfl ?_
    refine ax_aloadn hC dX9_pendingOf_3 rfl rfl ?_
    refine ax_lkI hC lk_X9_101 LM_0 rfl dX9_pendingOf_4 ?_
    refine ax_icmp_ge hC dX9_pendingOf_7 (tgt := 38) (by decide) (fun _ => ?_) (fun _ => ?_)
    · refine ax_bipush hC dX9_pendingOf_38 (v := -10) (by decide) ?_
      exact ax_iret hC dX9_pendingOf_40
    · refine ax_aloadn hC dX9_pendingOf_10 rfl rfl ?_
      refine ax_lkR hC lk_X9_19 LM_0 rfl dX9_pendingOf_11 ?_
      refine ax_iloadn hC dX9_pendingOf_14 rfl rfl ?_
      refine ax_iald hC LM_4 dX9_pendingOf_15 (fun v1 => ?_)
      refine ax_iloadn hC dX9_pendingOf_16 rfl rfl ?_
      refine ax_icmp_ne hC dX9_pendingOf_17 (tgt := 32) (by decide) (fun _ => ?_) (fun _ => ?_)
      · refine ax_aloadn hC dX9_pendingOf_20 rfl rfl ?_
        refine ax_lkR hC lk_X9_34 LM_0 rfl dX9_pendingOf_21 ?_
        refine ax_iloadn hC dX9_pendingOf_24 rfl rfl ?_
        refine ax_iald hC LM_9 dX9_pendingOf_25 (fun v2 => ?_)
        refine ax_iconst hC dX9_pendingOf_26 (v := -1) (by decide) ?_
        refine ax_icmp_ne hC dX9_pendingOf_27 (tgt := 32) (by decide) (fun _ => ?_) (fun _ => ?_)
        · refine ax_iloadn hC dX9_pendingOf_30 rfl rfl ?_
          exact ax_iret hC dX9_pendingOf_31
        · exact kX9_pendingOf_b32 hC hrec2 _ _ _
      · exact kX9_pendingOf_b32 hC hrec2 _ _ _
set_option maxRecDepth 100000 in
theorem kX9_pendingOf (x1 : Int32) (st : ax_S) (r : Int32) (stz : ax_S) (h : fX9_pendingOf x1 st = some (r, stz)) : ax_M LM yX9_pendingOf cX9_pendingOf 3 (some .int) 1 [.inr 0, .inl x1] st 1 r stz := by
  refine ax_start (by decide) (Nat.le_of_ble_eq_true rfl) (lv0 := [some (.inr 0), some (.inl x1), none]) rfl (fun C X hC => ?_)
  rw [← h]
  unfold fX9_pendingOf
  refine ax_iconst hC dX9_pendingOf_0 (v := 0) (by decide) ?_
  refine ax_istoren hC dX9_pendingOf_1 rfl (by decide) (lv' := [some (.inr 0), some (.inl x1), some (.inl (0 : Int32))]) rfl ?_
  exact kX9_pendingOf_L2 hC 4000 _ _ _
set_option maxRecDepth 100000 in
theorem kX9_append (x1 : Int32) (x2 : Int32) (x3 : Int32) (st : ax_S) (r : Int32) (stz : ax_S) (h : fX9_append x1 x2 x3 st = some (r, stz)) : ax_M LM yX9_append cX9_append 4 (some .int) 1 [.inr 0, .inl x1, .inl x2, .inl x3] st 1 r stz := by
  refine ax_start (by decide) (Nat.le_of_ble_eq_true rfl) (lv0 := [some (.inr 0), some (.inl x1), some (.inl x2), some (.inl x3)]) rfl (fun C X hC => ?_)
  rw [← h]
  unfold fX9_append
  refine ax_aloadn hC dX9_append_0 rfl rfl ?_
  refine ax_lkR hC lk_X9_40 LM_0 rfl dX9_append_1 ?_
  refine ax_aloadn hC dX9_append_4 rfl rfl ?_
  refine ax_lkI hC lk_X9_104 LM_0 rfl dX9_append_5 ?_
  refine ax_iloadn hC dX9_append_8 rfl rfl ?_
  refine ax_iast hC LM_11 dX9_append_9 (fun st1 => ?_)
  refine ax_aloadn hC dX9_append_10 rfl rfl ?_
  refine ax_lkR hC lk_X9_43 LM_0 rfl dX9_append_11 ?_
  refine ax_aloadn hC dX9_append_14 rfl rfl ?_
  refine ax_lkI hC lk_X9_104 LM_0 rfl dX9_append_15 ?_
  refine ax_iloadn hC dX9_append_18 rfl rfl ?_
  refine ax_iast hC LM_12 dX9_append_19 (fun st2 => ?_)
  refine ax_aloadn hC dX9_append_20 rfl rfl ?_
  refine ax_lkR hC lk_X9_46 LM_0 rfl dX9_append_21 ?_
  refine ax_aloadn hC dX9_append_24 rfl rfl ?_
  refine ax_lkI hC lk_X9_104 LM_0 rfl dX9_append_25 ?_
  refine ax_iloadn hC dX9_append_28 rfl rfl ?_
  refine ax_iast hC LM_13 dX9_append_29 (fun st3 => ?_)
  refine ax_aloadn hC dX9_append_30 rfl rfl ?_
  refine ax_dup hC dX9_append_31 ?_
  refine ax_lkI hC lk_X9_104 LM_0 rfl dX9_append_32 ?_
  refine ax_iconst hC dX9_append_35 (v := 1) (by decide) ?_
  refine ax_iadd hC dX9_append_36 ?_
  refine ax_putI hC lp_X9_104 LM_0 rfl dX9_append_37 (fun st4 => ?_)
  refine ax_aloadn hC dX9_append_40 rfl rfl ?_
  refine ax_iconst hC dX9_append_41 (v := 0) (by decide) ?_
  refine ax_putI hC lp_X9_107 LM_0 rfl dX9_append_42 (fun st5 => ?_)
  refine ax_aloadn hC dX9_append_45 rfl rfl ?_
  refine ax_lkI hC lk_X9_104 LM_0 rfl dX9_append_46 ?_
  refine ax_iconst hC dX9_append_49 (v := 1) (by decide) ?_
  refine ax_isub hC dX9_append_50 ?_
  exact ax_iret hC dX9_append_51
set_option maxRecDepth 100000 in
theorem kX9_invoke_b54 {C : ax_C} {X : ax_X} (hC : ax_ok C X LM cX9_invoke RX9 6 (some .int) 3) (st : ax_S) : AW C X LM 6 1 (fX9_invoke_b54 st) 54 [none, none, none, none, none, none] [] st := by
  unfold fX9_invoke_b54
  refine ax_bipush hC dX9_invoke_54 (v := -4) (by decide) ?_
  exact ax_iret hC dX9_invoke_56
set_option maxRecDepth 100000 in
theorem kX9_invoke (x1 : Int32) (x2 : Int32) (x3 : Int32) (x4 : Int32) (x5 : Int32) (st : ax_S) (r : Int32) (stz : ax_S) (h : fX9_invoke x1 x2 x3 x4 x5 st = some (r, stz)) : ax_M LM yX9_invoke cX9_invoke 6 (some .int) 3 [.inr 0, .inl x1, .inl x2, .inl x3, .inl x4, .inl x5] st 1 r stz := by
  refine ax_start (by decide) (Nat.le_of_ble_eq_true rfl) (lv0 := [some (.inr 0), some (.inl x1), some (.inl x2), some (.inl x3), some (.inl x4), some (.inl x5)]) rfl (fun C X hC => ?_)
  rw [← h]
  unfold fX9_invoke
  refine ax_iloadn hC dX9_invoke_0 rfl rfl ?_
  refine ax_callS1 hC mlk_X9_118 hst_X9_118 [.inl x2] rfl rfl (by decide) (by decide) (Nat.le_of_ble_eq_true rfl) dX9_invoke_1 (fun r9 s9 h9 => kX9_isThread _ _ _ _ h9) (fun r1 st2 => ?_)
  refine ax_if_ne hC dX9_invoke_4 (tgt := 9) (by decide) (fun _ => ?_) (fun _ => ?_)
  · refine ax_iconst hC dX9_invoke_7 (v := -1) (by decide) ?_
    exact ax_iret hC dX9_invoke_8
  · refine ax_aloadn hC dX9_invoke_9 rfl rfl ?_
    refine ax_iloadn hC dX9_invoke_10 rfl rfl ?_
    refine ax_callV1 hC mlk_X9_114 hst_X9_114 LM_0 [.inl x3] rfl rfl (by decide) (by decide) (Nat.le_of_ble_eq_true rfl) dX9_invoke_11 (fun r9 s9 h9 => kX9_isObject _ _ _ _ h9) (fun r3 st4 => ?_)
    refine ax_if_ne hC dX9_invoke_14 (tgt := 20) (by decide) (fun _ => ?_) (fun _ => ?_)
    · refine ax_bipush hC dX9_invoke_17 (v := -2) (by decide) ?_
      exact ax_iret hC dX9_invoke_19
    · refine ax_aloadn hC dX9_invoke_20 rfl rfl ?_
      refine ax_lkR hC lk_X9_9 LM_0 rfl dX9_invoke_21 ?_
      refine ax_iloadn hC dX9_invoke_24 rfl rfl ?_
      refine ax_iald hC LM_1 dX9_invoke_25 (fun v5 => ?_)
      refine ax_iloadn hC dX9_invoke_26 rfl rfl ?_
      refine ax_callS1 hC mlk_X9_121 hst_X9_121 [.inl x1] rfl rfl (by decide) (by decide) (Nat.le_of_ble_eq_true rfl) dX9_invoke_27 (fun r9 s9 h9 => kX9_typeFor _ _ _ _ h9) (fun r6 st7 => ?_)
      refine ax_icmp_eq hC dX9_invoke_30 (tgt := 36) (by decide) (fun _ => ?_) (fun _ => ?_)
      · refine ax_iloadn hC dX9_invoke_36 rfl rfl ?_
        refine ax_iload hC dX9_invoke_37 rfl ?_
        refine ax_callS1 hC mlk_X9_125 hst_X9_125 [.inl x1, .inl x4] rfl rfl (by decide) (by decide) (Nat.le_of_ble_eq_true rfl) dX9_invoke_39 (fun r9 s9 h9 => kX9_isArgument _ _ _ _ _ h9) (fun r8 st9 => ?_)
        refine ax_if_eq hC dX9_invoke_42 (tgt := 54) (by decide) (fun _ => ?_) (fun _ => ?_)
        · refine ax_sub (lv' := [none, none, none, none, none, none]) (ax_leN (ax_leN (ax_leN (ax_leN (ax_leN (ax_leN ax_le0)))))) ?_
          exact kX9_invoke_b54 hC _
        · refine ax_iloadn hC dX9_invoke_45 rfl rfl ?_
          refine ax_iload hC dX9_invoke_46 rfl ?_
          refine ax_callS1 hC mlk_X9_125 hst_X9_125 [.inl x1, .inl x5] rfl rfl (by decide) (by decide) (Nat.le_of_ble_eq_true rfl) dX9_invoke_48 (fun r9 s9 h9 => kX9_isArgument _ _ _ _ _ h9) (fun r10 st11 => ?_)
          refine ax_if_ne hC dX9_invoke_51 (tgt := 57) (by decide) (fun _ => ?_) (fun _ => ?_)
          · refine ax_sub (lv' := [none, none, none, none, none, none]) (ax_leN (ax_leN (ax_leN (ax_leN (ax_leN (ax_leN ax_le0)))))) ?_
            exact kX9_invoke_b54 hC _
          · refine ax_aloadn hC dX9_invoke_57 rfl rfl ?_
            refine ax_iloadn hC dX9_invoke_58 rfl rfl ?_
            refine ax_callV1 hC mlk_X9_129 hst_X9_129 LM_0 [.inl x2] rfl rfl (by decide) (by decide) (Nat.le_of_ble_eq_true rfl) dX9_invoke_59 (fun r9 s9 h9 => kX9_isCrashed _ _ _ _ h9) (fun r12 st13 => ?_)
            refine ax_if_eq hC dX9_invoke_62 (tgt := 68) (by decide) (fun _ => ?_) (fun _ => ?_)
            · refine ax_aloadn hC dX9_invoke_68 rfl rfl ?_
              refine ax_iloadn hC dX9_invoke_69 rfl rfl ?_
              refine ax_callV1 hC mlk_X9_132 hst_X9_132 LM_0 [.inl x2] rfl rfl (by decide) (by decide) (Nat.le_of_ble_eq_true rfl) dX9_invoke_70 (fun r9 s9 h9 => kX9_pendingOf _ _ _ _ h9) (fun r14 st15 => ?_)
              refine ax_bipush hC dX9_invoke_73 (v := -10) (by decide) ?_
              refine ax_icmp_eq hC dX9_invoke_75 (tgt := 81) (by decide) (fun _ => ?_) (fun _ => ?_)
              · refine ax_aloadn hC dX9_invoke_81 rfl rfl ?_
                refine ax_lkI hC lk_X9_101 LM_0 rfl dX9_invoke_82 ?_
                refine ax_bipush hC dX9_invoke_85 (v := 10) (by decide) ?_
                refine ax_icmp_ne hC dX9_invoke_87 (tgt := 93) (by decide) (fun _ => ?_) (fun _ => ?_)
                · refine ax_bipush hC dX9_invoke_90 (v := -8) (by decide) ?_
                  exact ax_iret hC dX9_invoke_92
                · refine ax_aloadn hC dX9_invoke_93 rfl rfl ?_
                  refine ax_lkR hC lk_X9_16 LM_0 rfl dX9_invoke_94 ?_
                  refine ax_aloadn hC dX9_invoke_97 rfl rfl ?_
                  refine ax_lkI hC lk_X9_101 LM_0 rfl dX9_invoke_98 ?_
                  refine ax_iloadn hC dX9_invoke_101 rfl rfl ?_
                  refine ax_iast hC LM_3 dX9_invoke_102 (fun st16 => ?_)
                  refine ax_aloadn hC dX9_invoke_103 rfl rfl ?_
                  refine ax_lkR hC lk_X9_19 LM_0 rfl dX9_invoke_104 ?_
                  refine ax_aloadn hC dX9_invoke_107 rfl rfl ?_
                  refine ax_lkI hC lk_X9_101 LM_0 rfl dX9_invoke_108 ?_
                  refine ax_iloadn hC dX9_invoke_111 rfl rfl ?_
                  refine ax_iast hC LM_4 dX9_invoke_112 (fun st17 => ?_)
                  refine ax_aloadn hC dX9_invoke_113 rfl rfl ?_
                  refine ax_lkR hC lk_X9_22 LM_0 rfl dX9_invoke_114 ?_
                  refine ax_aloadn hC dX9_invoke_117 rfl rfl ?_
                  refine ax_lkI hC lk_X9_101 LM_0 rfl dX9_invoke_118 ?_
                  refine ax_iloadn hC dX9_invoke_121 rfl rfl ?_
                  refine ax_iast hC LM_5 dX9_invoke_122 (fun st18 => ?_)
                  refine ax_aloadn hC dX9_invoke_123 rfl rfl ?_
                  refine ax_lkR hC lk_X9_25 LM_0 rfl dX9_invoke_124 ?_
                  refine ax_aloadn hC dX9_invoke_127 rfl rfl ?_
                  refine ax_lkI hC lk_X9_101 LM_0 rfl dX9_invoke_128 ?_
                  refine ax_iload hC dX9_invoke_131 rfl ?_
                  refine ax_iast hC LM_6 dX9_invoke_133 (fun st19 => ?_)
                  refine ax_aloadn hC dX9_invoke_134 rfl rfl ?_
                  refine ax_lkR hC lk_X9_28 LM_0 rfl dX9_invoke_135 ?_
                  refine ax_aloadn hC dX9_invoke_138 rfl rfl ?_
                  refine ax_lkI hC lk_X9_101 LM_0 rfl dX9_invoke_139 ?_
                  refine ax_iload hC dX9_invoke_142 rfl ?_
                  refine ax_iast hC LM_7 dX9_invoke_144 (fun st20 => ?_)
                  refine ax_aloadn hC dX9_invoke_145 rfl rfl ?_
                  refine ax_lkR hC lk_X9_34 LM_0 rfl dX9_invoke_146 ?_
                  refine ax_aloadn hC dX9_invoke_149 rfl rfl ?_
                  refine ax_lkI hC lk_X9_101 LM_0 rfl dX9_invoke_150 ?_
                  refine ax_iconst hC dX9_invoke_153 (v := -1) (by decide) ?_
                  refine ax_iast hC LM_9 dX9_invoke_154 (fun st21 => ?_)
                  refine ax_aloadn hC dX9_invoke_155 rfl rfl ?_
                  refine ax_lkR hC lk_X9_31 LM_0 rfl dX9_invoke_156 ?_
                  refine ax_aloadn hC dX9_invoke_159 rfl rfl ?_
                  refine ax_lkI hC lk_X9_101 LM_0 rfl dX9_invoke_160 ?_
                  refine ax_aloadn hC dX9_invoke_163 rfl rfl ?_
                  refine ax_iconst hC dX9_invoke_164 (v := 0) (by decide) ?_
                  refine ax_iloadn hC dX9_invoke_165 rfl rfl ?_
                  refine ax_aloadn hC dX9_invoke_166 rfl rfl ?_
                  refine ax_lkI hC lk_X9_101 LM_0 rfl dX9_invoke_167 ?_
                  refine ax_callV1 hC mlk_X9_135 hst_X9_135 LM_0 [.inl (0 : Int32), .inl x2, .inl (st21.1 0 3)] rfl rfl (by decide) (by decide) (Nat.le_of_ble_eq_true rfl) dX9_invoke_170 (fun r9 s9 h9 => kX9_append _ _ _ _ _ _ h9) (fun r22 st23 => ?_)
                  refine ax_iast hC LM_8 dX9_invoke_173 (fun st24 => ?_)
                  refine ax_aloadn hC dX9_invoke_174 rfl rfl ?_
                  refine ax_dup hC dX9_invoke_175 ?_
                  refine ax_lkI hC lk_X9_101 LM_0 rfl dX9_invoke_176 ?_
                  refine ax_iconst hC dX9_invoke_179 (v := 1) (by decide) ?_
                  refine ax_iadd hC dX9_invoke_180 ?_
                  refine ax_putI hC lp_X9_101 LM_0 rfl dX9_invoke_181 (fun st25 => ?_)
                  refine ax_aloadn hC dX9_invoke_184 rfl rfl ?_
                  refine ax_lkI hC lk_X9_101 LM_0 rfl dX9_invoke_185 ?_
                  refine ax_iconst hC dX9_invoke_188 (v := 1) (by decide) ?_
                  refine ax_isub hC dX9_invoke_189 ?_
                  exact ax_iret hC dX9_invoke_190
              · refine ax_bipush hC dX9_invoke_78 (v := -6) (by decide) ?_
                exact ax_iret hC dX9_invoke_80
            · refine ax_bipush hC dX9_invoke_65 (v := -5) (by decide) ?_
              exact ax_iret hC dX9_invoke_67
      · refine ax_bipush hC dX9_invoke_33 (v := -3) (by decide) ?_
        exact ax_iret hC dX9_invoke_35
set_option maxRecDepth 100000 in
theorem kX9_invokeRead (x1 : Int32) (x2 : Int32) (st : ax_S) (r : Int32) (stz : ax_S) (h : fX9_invokeRead x1 x2 st = some (r, stz)) : ax_M LM yX9_invokeRead cX9_invokeRead 3 (some .int) 4 [.inr 0, .inl x1, .inl x2] st 1 r stz := by
  refine ax_start (by decide) (Nat.le_of_ble_eq_true rfl) (lv0 := [some (.inr 0), some (.inl x1), some (.inl x2)]) rfl (fun C X hC => ?_)
  rw [← h]
  unfold fX9_invokeRead
  refine ax_aloadn hC dX9_invokeRead_0 rfl rfl ?_
  refine ax_iconst hC dX9_invokeRead_1 (v := 0) (by decide) ?_
  refine ax_iloadn hC dX9_invokeRead_2 rfl rfl ?_
  refine ax_iloadn hC dX9_invokeRead_3 rfl rfl ?_
  refine ax_iconst hC dX9_invokeRead_4 (v := 0) (by decide) ?_
  refine ax_iconst hC dX9_invokeRead_5 (v := 0) (by decide) ?_
  refine ax_callV1 hC mlk_X9_139 hst_X9_139 LM_0 [.inl (0 : Int32), .inl x1, .inl x2, .inl (0 : Int32), .inl (0 : Int32)] rfl rfl (by decide) (by decide) (Nat.le_of_ble_eq_true rfl) dX9_invokeRead_6 (fun r9 s9 h9 => kX9_invoke _ _ _ _ _ _ _ _ h9) (fun r1 st2 => ?_)
  exact ax_iret hC dX9_invokeRead_9
set_option maxRecDepth 100000 in
theorem kX9_invokeWrite (x1 : Int32) (x2 : Int32) (x3 : Int32) (st : ax_S) (r : Int32) (stz : ax_S) (h : fX9_invokeWrite x1 x2 x3 st = some (r, stz)) : ax_M LM yX9_invokeWrite cX9_invokeWrite 4 (some .int) 4 [.inr 0, .inl x1, .inl x2, .inl x3] st 1 r stz := by
  refine ax_start (by decide) (Nat.le_of_ble_eq_true rfl) (lv0 := [some (.inr 0), some (.inl x1), some (.inl x2), some (.inl x3)]) rfl (fun C X hC => ?_)
  rw [← h]
  unfold fX9_invokeWrite
  refine ax_aloadn hC dX9_invokeWrite_0 rfl rfl ?_
  refine ax_iconst hC dX9_invokeWrite_1 (v := 1) (by decide) ?_
  refine ax_iloadn hC dX9_invokeWrite_2 rfl rfl ?_
  refine ax_iloadn hC dX9_invokeWrite_3 rfl rfl ?_
  refine ax_iloadn hC dX9_invokeWrite_4 rfl rfl ?_
  refine ax_iconst hC dX9_invokeWrite_5 (v := 0) (by decide) ?_
  refine ax_callV1 hC mlk_X9_139 hst_X9_139 LM_0 [.inl (1 : Int32), .inl x1, .inl x2, .inl x3, .inl (0 : Int32)] rfl rfl (by decide) (by decide) (Nat.le_of_ble_eq_true rfl) dX9_invokeWrite_6 (fun r9 s9 h9 => kX9_invoke _ _ _ _ _ _ _ _ h9) (fun r1 st2 => ?_)
  exact ax_iret hC dX9_invokeWrite_9
set_option maxRecDepth 100000 in
theorem kX9_invokeCompareAndSet (x1 : Int32) (x2 : Int32) (x3 : Int32) (x4 : Int32) (st : ax_S) (r : Int32) (stz : ax_S) (h : fX9_invokeCompareAndSet x1 x2 x3 x4 st = some (r, stz)) : ax_M LM yX9_invokeCompareAndSet cX9_invokeCompareAndSet 5 (some .int) 4 [.inr 0, .inl x1, .inl x2, .inl x3, .inl x4] st 1 r stz := by
  refine ax_start (by decide) (Nat.le_of_ble_eq_true rfl) (lv0 := [some (.inr 0), some (.inl x1), some (.inl x2), some (.inl x3), some (.inl x4)]) rfl (fun C X hC => ?_)
  rw [← h]
  unfold fX9_invokeCompareAndSet
  refine ax_aloadn hC dX9_invokeCompareAndSet_0 rfl rfl ?_
  refine ax_iconst hC dX9_invokeCompareAndSet_1 (v := 2) (by decide) ?_
  refine ax_iloadn hC dX9_invokeCompareAndSet_2 rfl rfl ?_
  refine ax_iloadn hC dX9_invokeCompareAndSet_3 rfl rfl ?_
  refine ax_iloadn hC dX9_invokeCompareAndSet_4 rfl rfl ?_
  refine ax_iload hC dX9_invokeCompareAndSet_5 rfl ?_
  refine ax_callV1 hC mlk_X9_139 hst_X9_139 LM_0 [.inl (2 : Int32), .inl x1, .inl x2, .inl x3, .inl x4] rfl rfl (by decide) (by decide) (Nat.le_of_ble_eq_true rfl) dX9_invokeCompareAndSet_7 (fun r9 s9 h9 => kX9_invoke _ _ _ _ _ _ _ _ h9) (fun r1 st2 => ?_)
  exact ax_iret hC dX9_invokeCompareAndSet_10
set_option maxRecDepth 100000 in
theorem kX9_invokeGet (x1 : Int32) (x2 : Int32) (st : ax_S) (r : Int32) (stz : ax_S) (h : fX9_invokeGet x1 x2 st = some (r, stz)) : ax_M LM yX9_invokeGet cX9_invokeGet 3 (some .int) 4 [.inr 0, .inl x1, .inl x2] st 1 r stz := by
  refine ax_start (by decide) (Nat.le_of_ble_eq_true rfl) (lv0 := [some (.inr 0), some (.inl x1), some (.inl x2)]) rfl (fun C X hC => ?_)
  rw [← h]
  unfold fX9_invokeGet
  refine ax_aloadn hC dX9_invokeGet_0 rfl rfl ?_
  refine ax_iconst hC dX9_invokeGet_1 (v := 3) (by decide) ?_
  refine ax_iloadn hC dX9_invokeGet_2 rfl rfl ?_
  refine ax_iloadn hC dX9_invokeGet_3 rfl rfl ?_
  refine ax_iconst hC dX9_invokeGet_4 (v := 0) (by decide) ?_
  refine ax_iconst hC dX9_invokeGet_5 (v := 0) (by decide) ?_
  refine ax_callV1 hC mlk_X9_139 hst_X9_139 LM_0 [.inl (3 : Int32), .inl x1, .inl x2, .inl (0 : Int32), .inl (0 : Int32)] rfl rfl (by decide) (by decide) (Nat.le_of_ble_eq_true rfl) dX9_invokeGet_6 (fun r9 s9 h9 => kX9_invoke _ _ _ _ _ _ _ _ h9) (fun r1 st2 => ?_)
  exact ax_iret hC dX9_invokeGet_9
set_option maxRecDepth 100000 in
theorem kX9_invokeAdd (x1 : Int32) (x2 : Int32) (x3 : Int32) (st : ax_S) (r : Int32) (stz : ax_S) (h : fX9_invokeAdd x1 x2 x3 st = some (r, stz)) : ax_M LM yX9_invokeAdd cX9_invokeAdd 4 (some .int) 4 [.inr 0, .inl x1, .inl x2, .inl x3] st 1 r stz := by
  refine ax_start (by decide) (Nat.le_of_ble_eq_true rfl) (lv0 := [some (.inr 0), some (.inl x1), some (.inl x2), some (.inl x3)]) rfl (fun C X hC => ?_)
  rw [← h]
  unfold fX9_invokeAdd
  refine ax_aloadn hC dX9_invokeAdd_0 rfl rfl ?_
  refine ax_iconst hC dX9_invokeAdd_1 (v := 4) (by decide) ?_
  refine ax_iloadn hC dX9_invokeAdd_2 rfl rfl ?_
  refine ax_iloadn hC dX9_invokeAdd_3 rfl rfl ?_
  refine ax_iloadn hC dX9_invokeAdd_4 rfl rfl ?_
  refine ax_iconst hC dX9_invokeAdd_5 (v := 0) (by decide) ?_
  refine ax_callV1 hC mlk_X9_139 hst_X9_139 LM_0 [.inl (4 : Int32), .inl x1, .inl x2, .inl x3, .inl (0 : Int32)] rfl rfl (by decide) (by decide) (Nat.le_of_ble_eq_true rfl) dX9_invokeAdd_6 (fun r9 s9 h9 => kX9_invoke _ _ _ _ _ _ _ _ h9) (fun r1 st2 => ?_)
  exact ax_iret hC dX9_invokeAdd_9
set_option maxRecDepth 100000 in
theorem kX9_invokeEnqueue (x1 : Int32) (x2 : Int32) (x3 : Int32) (st : ax_S) (r : Int32) (stz : ax_S) (h : fX9_invokeEnqueue x1 x2 x3 st = some (r, stz)) : ax_M LM yX9_invokeEnqueue cX9_invokeEnqueue 4 (some .int) 4 [.inr 0, .inl x1, .inl x2, .inl x3] st 1 r stz := by
  refine ax_start (by decide) (Nat.le_of_ble_eq_true rfl) (lv0 := [some (.inr 0), some (.inl x1), some (.inl x2), some (.inl x3)]) rfl (fun C X hC => ?_)
  rw [← h]
  unfold fX9_invokeEnqueue
  refine ax_aloadn hC dX9_invokeEnqueue_0 rfl rfl ?_
  refine ax_iconst hC dX9_invokeEnqueue_1 (v := 5) (by decide) ?_
  refine ax_iloadn hC dX9_invokeEnqueue_2 rfl rfl ?_
  refine ax_iloadn hC dX9_invokeEnqueue_3 rfl rfl ?_
  refine ax_iloadn hC dX9_invokeEnqueue_4 rfl rfl ?_
  refine ax_iconst hC dX9_invokeEnqueue_5 (v := 0) (by decide) ?_
  refine ax_callV1 hC mlk_X9_139 hst_X9_139 LM_0 [.inl (5 : Int32), .inl x1, .inl x2, .inl x3, .inl (0 : Int32)] rfl rfl (by decide) (by decide) (Nat.le_of_ble_eq_true rfl) dX9_invokeEnqueue_6 (fun r9 s9 h9 => kX9_invoke _ _ _ _ _ _ _ _ h9) (fun r1 st2 => ?_)
  exact ax_iret hC dX9_invokeEnqueue_9
set_option maxRecDepth 100000 in
theorem kX9_invokeDequeue (x1 : Int32) (x2 : Int32) (st : ax_S) (r : Int32) (stz : ax_S) (h : fX9_invokeDequeue x1 x2 st = some (r, stz)) : ax_M LM yX9_invokeDequeue cX9_invokeDequeue 3 (some .int) 4 [.inr 0, .inl x1, .inl x2] st 1 r stz := by
  refine ax_start (by decide) (Nat.le_of_ble_eq_true rfl) (lv0 := [some (.inr 0), some (.inl x1), some (.inl x2)]) rfl (fun C X hC => ?_)
  rw [← h]
  unfold fX9_invokeDequeue
  refine ax_aloadn hC dX9_invokeDequeue_0 rfl rfl ?_
  refine ax_bipush hC dX9_invokeDequeue_1 (v := 6) (by decide) ?_
  refine ax_iloadn hC dX9_invokeDequeue_3 rfl rfl ?_
  refine ax_iloadn hC dX9_invokeDequeue_4 rfl rfl ?_
  refine ax_iconst hC dX9_invokeDequeue_5 (v := 0) (by decide) ?_
  refine ax_iconst hC dX9_invokeDequeue_6 (v := 0) (by decide) ?_
  refine ax_callV1 hC mlk_X9_139 hst_X9_139 LM_0 [.inl (6 : Int32), .inl x1, .inl x2, .inl (0 : Int32), .inl (0 : Int32)] rfl rfl (by decide) (by decide) (Nat.le_of_ble_eq_true rfl) dX9_invokeDequeue_7 (fun r9 s9 h9 => kX9_invoke _ _ _ _ _ _ _ _ h9) (fun r1 st2 => ?_)
  exact ax_iret hC dX9_invokeDequeue_10
set_option maxRecDepth 100000 in
theorem kX9_invokeInsert (x1 : Int32) (x2 : Int32) (x3 : Int32) (st : ax_S) (r : Int32) (stz : ax_S) (h : fX9_invokeInsert x1 x2 x3 st = some (r, stz)) : ax_M LM yX9_invokeInsert cX9_invokeInsert 4 (some .int) 4 [.inr 0, .inl x1, .inl x2, .inl x3] st 1 r stz := by
  refine ax_start (by decide) (Nat.le_of_ble_eq_true rfl) (lv0 := [some (.inr 0), some (.inl x1), some (.inl x2), some (.inl x3)]) rfl (fun C X hC => ?_)
  rw [← h]
  unfold fX9_invokeInsert
  refine ax_aloadn hC dX9_invokeInsert_0 rfl rfl ?_
  refine ax_bipush hC dX9_invokeInsert_1 (v := 7) (by decide) ?_
  refine ax_iloadn hC dX9_invokeInsert_3 rfl rfl ?_
  refine ax_iloadn hC dX9_invokeInsert_4 rfl rfl ?_
  refine ax_iloadn hC dX9_invokeInsert_5 rfl rfl ?_
  refine ax_iconst hC dX9_invokeInsert_6 (v := 0) (by decide) ?_
  refine ax_callV1 hC mlk_X9_139 hst_X9_139 LM_0 [.inl (7 : Int32), .inl x1, .inl x2, .inl x3, .inl (0 : Int32)] rfl rfl (by decide) (by decide) (Nat.le_of_ble_eq_true rfl) dX9_invokeInsert_7 (fun r9 s9 h9 => kX9_invoke _ _ _ _ _ _ _ _ h9) (fun r1 st2 => ?_)
  exact ax_iret hC dX9_invokeInsert_10
set_option maxRecDepth 100000 in
theorem kX9_invokeRemove (x1 : Int32) (x2 : Int32) (x3 : Int32) (st : ax_S) (r : Int32) (stz : ax_S) (h : fX9_invokeRemove x1 x2 x3 st = some (r, stz)) : ax_M LM yX9_invokeRemove cX9_invokeRemove 4 (some .int) 4 [.inr 0, .inl x1, .inl x2, .inl x3] st 1 r stz := by
  refine ax_start (by decide) (Nat.le_of_ble_eq_true rfl) (lv0 := [some (.inr 0), some (.inl x1), some (.inl x2), some (.inl x3)]) rfl (fun C X hC => ?_)
  rw [← h]
  unfold fX9_invokeRemove
  refine ax_aloadn hC dX9_invokeRemove_0 rfl rfl ?_
  refine ax_bipush hC dX9_invokeRemove_1 (v := 8) (by decide) ?_
  refine ax_iloadn hC dX9_invokeRemove_3 rfl rfl ?_
  refine ax_iloadn hC dX9_invokeRemove_4 rfl rfl ?_
  refine ax_iloadn hC dX9_invokeRemove_5 rfl rfl ?_
  refine ax_iconst hC dX9_invokeRemove_6 (v := 0) (by decide) ?_
  refine ax_callV1 hC mlk_X9_139 hst_X9_139 LM_0 [.inl (8 : Int32), .inl x1, .inl x2, .inl x3, .inl (0 : Int32)] rfl rfl (by decide) (by decide) (Nat.le_of_ble_eq_true rfl) dX9_invokeRemove_7 (fun r9 s9 h9 => kX9_invoke _ _ _ _ _ _ _ _ h9) (fun r1 st2 => ?_)
  exact ax_iret hC dX9_invokeRemove_10
set_option maxRecDepth 100000 in
theorem kX9_invokeContains (x1 : Int32) (x2 : Int32) (x3 : Int32) (st : ax_S) (r : Int32) (stz : ax_S) (h : fX9_invokeContains x1 x2 x3 st = some (r, stz)) : ax_M LM yX9_invokeContains cX9_invokeContains 4 (some .int) 4 [.inr 0, .inl x1, .inl x2, .inl x3] st 1 r stz := by
  refine ax_start (by decide) (Nat.le_of_ble_eq_true rfl) (lv0 := [some (.inr 0), some (.inl x1), some (.inl x2), some (.inl x3)]) rfl (fun C X hC => ?_)
  rw [← h]
  unfold fX9_invokeContains
  refine ax_aloadn hC dX9_invokeContains_0 rfl rfl ?_
  refine ax_bipush hC dX9_invokeContains_1 (v := 9) (by decide) ?_
  refine ax_iloadn hC dX9_invokeContains_3 rfl rfl ?_
  refine ax_iloadn hC dX9_invokeContains_4 rfl rfl ?_
  refine ax_iloadn hC dX9_invokeContains_5 rfl rfl ?_
  refine ax_iconst hC dX9_invokeContains_6 (v := 0) (by decide) ?_
  refine ax_callV1 hC mlk_X9_139 hst_X9_139 LM_0 [.inl (9 : Int32), .inl x1, .inl x2, .inl x3, .inl (0 : Int32)] rfl rfl (by decide) (by decide) (Nat.le_of_ble_eq_true rfl) dX9_invokeContains_7 (fun r9 s9 h9 => kX9_invoke _ _ _ _ _ _ _ _ h9) (fun r1 st2 => ?_)
  exact ax_iret hC dX9_invokeContains_10
set_option maxRecDepth 100000 in
theorem kX9_mayRespond_b38 {C : ax_C} {X : ax_X} (hC : ax_ok C X LM cX9_mayRespond RX9 3 (some .int) 3) (s0 : Int32) (st : ax_S) : AW C X LM 3 1 (fX9_mayRespond_b38 s0 st) 38 [none, none, none] [.inl s0] st := by
  unfold fX9_mayRespond_b38
  exact ax_iret hC dX9_mayRespond_38
set_option maxRecDepth 100000 in
theorem kX9_mayRespond (x1 : Int32) (st : ax_S) (r : Int32) (stz : ax_S) (h : fX9_mayRespond x1 st = some (r, stz)) : ax_M LM yX9_mayRespond cX9_mayRespond 3 (some .int) 3 [.inr 0, .inl x1] st 1 r stz := by
  refine ax_start (by decide) (Nat.le_of_ble_eq_true rfl) (lv0 := [some (.inr 0), some (.inl x1), none]) rfl (fun C X hC => ?_)
  rw [← h]
  unfold fX9_mayRespond
  refine ax_iloadn hC dX9_mayRespond_0 rfl rfl ?_
  refine ax_callS1 hC mlk_X9_118 hst_X9_118 [.inl x1] rfl rfl (by decide) (by decide) (Nat.le_of_ble_eq_true rfl) dX9_mayRespond_1 (fun r9 s9 h9 => kX9_isThread _ _ _ _ h9) (fun r1 st2 => ?_)
  refine ax_if_ne hC dX9_mayRespond_4 (tgt := 9) (by decide) (fun _ => ?_) (fun _ => ?_)
  · refine ax_iconst hC dX9_mayRespond_7 (v := -1) (by decide) ?_
    exact ax_iret hC dX9_mayRespond_8
  · refine ax_aloadn hC dX9_mayRespond_9 rfl rfl ?_
    refine ax_iloadn hC dX9_mayRespond_10 rfl rfl ?_
    refine ax_callV1 hC mlk_X9_129 hst_X9_129 LM_0 [.inl x1] rfl rfl (by decide) (by decide) (Nat.le_of_ble_eq_true rfl) dX9_mayRespond_11 (fun r9 s9 h9 => kX9_isCrashed _ _ _ _ h9) (fun r3 st4 => ?_)
    refine ax_if_eq hC dX9_mayRespond_14 (tgt := 20) (by decide) (fun _ => ?_) (fun _ => ?_)
    · refine ax_aloadn hC dX9_mayRespond_20 rfl rfl ?_
      refine ax_iloadn hC dX9_mayRespond_21 rfl rfl ?_
      refine ax_callV1 hC mlk_X9_132 hst_X9_132 LM_0 [.inl x1] rfl rfl (by decide) (by decide) (Nat.le_of_ble_eq_true rfl) dX9_mayRespond_22 (fun r9 s9 h9 => kX9_pendingOf _ _ _ _ h9) (fun r5 st6 => ?_)
      refine ax_istoren hC dX9_mayRespond_25 rfl (by decide) (lv' := [some (.inr 0), some (.inl x1), some (.inl r5)]) rfl ?_
      refine ax_iloadn hC dX9_mayRespond_26 rfl rfl ?_
      refine ax_bipush hC dX9_mayRespond_27 (v := -10) (by decide) ?_
      refine ax_icmp_ne hC dX9_mayRespond_29 (tgt := 37) (by decide) (fun _ => ?_) (fun _ => ?_)
      · refine ax_bipush hC dX9_mayRespond_32 (v := -7) (by decide) ?_
        refine ax_goto hC dX9_mayRespond_34 (tgt := 38) (by decide) ?_
        refine ax_sub (lv' := [none, none, none]) (ax_leN (ax_leN (ax_leN ax_le0))) ?_
        exact kX9_mayRespond_b38 hC _ _
      · refine ax_iloadn hC dX9_mayRespond_37 rfl rfl ?_
        refine ax_sub (lv' := [none, none, none]) (ax_leN (ax_leN (ax_leN ax_le0))) ?_
        exact kX9_mayRespond_b38 hC _ _
    · refine ax_bipush hC dX9_mayRespond_17 (v := -5) (by decide) ?_
      exact ax_iret hC dX9_mayRespond_19
set_option maxRecDepth 100000 in
theorem kX9_minResult_b27 {C : ax_C} {X : ax_X} (hC : ax_ok C X LM cX9_minResult RX9 1 (some .int) 1) (s0 : Int32) (st : ax_S) : AW C X LM 1 1 (fX9_minResult_b27 s0 st) 27 [none] [.inl s0] st := by
  unfold fX9_minResult_b27
  exact ax_iret hC dX9_minResult_27
set_option maxRecDepth 100000 in
theorem kX9_minResult_b10 {C : ax_C} {X : ax_X} (hC : ax_ok C X LM cX9_minResult RX9 1 (some .int) 1) (st : ax_S) : AW C X LM 1 1 (fX9_minResult_b10 st) 10 [none] [] st := by
  unfold fX9_minResult_b10
  refine ax_sipush hC dX9_minResult_10 (v := -999) (by decide) ?_
  refine ax_goto hC dX9_minResult_13 (tgt := 27) (by decide) ?_
  exact kX9_minResult_b27 hC _ _
set_option maxRecDepth 100000 in
theorem kX9_minResult (x0 : Int32) (st : ax_S) (r : Int32) (stz : ax_S) (h : fX9_minResult x0 st = some (r, stz)) : ax_M LM yX9_minResult cX9_minResult 1 (some .int) 1 [.inl x0] st 1 r stz := by
  refine ax_start (by decide) (Nat.le_of_ble_eq_true rfl) (lv0 := [some (.inl x0)]) rfl (fun C X hC => ?_)
  rw [← h]
  unfold fX9_minResult
  refine ax_iloadn hC dX9_minResult_0 rfl rfl ?_
  refine ax_iconst hC dX9_minResult_1 (v := 3) (by decide) ?_
  refine ax_icmp_eq hC dX9_minResult_2 (tgt := 10) (by decide) (fun _ => ?_) (fun _ => ?_)
  · refine ax_sub (lv' := [none]) (ax_leN ax_le0) ?_
    exact kX9_minResult_b10 hC _
  · refine ax_iloadn hC dX9_minResult_5 rfl rfl ?_
    refine ax_iconst hC dX9_minResult_6 (v := 4) (by decide) ?_
    refine ax_icmp_ne hC dX9_minResult_7 (tgt := 16) (by decide) (fun _ => ?_) (fun _ => ?_)
    · refine ax_sub (lv' := [none]) (ax_leN ax_le0) ?_
      exact kX9_minResult_b10 hC _
    · refine ax_iloadn hC dX9_minResult_16 rfl rfl ?_
      refine ax_bipush hC dX9_minResult_17 (v := 6) (by decide) ?_
      refine ax_icmp_ne hC dX9_minResult_19 (tgt := 26) (by decide) (fun _ => ?_) (fun _ => ?_)
      · refine ax_iconst hC dX9_minResult_22 (v := -1) (by decide) ?_
        refine ax_goto hC dX9_minResult_23 (tgt := 27) (by decide) ?_
        refine ax_sub (lv' := [none]) (ax_leN ax_le0) ?_
        exact kX9_minResult_b27 hC _ _
      · refine ax_iconst hC dX9_minResult_26 (v := 0) (by decide) ?_
        refine ax_sub (lv' := [none]) (ax_leN ax_le0) ?_
        exact kX9_minResult_b27 hC _ _
set_option maxRecDepth 100000 in
theorem kX9_maxResult (x0 : Int32) (st : ax_S) (r : Int32) (stz : ax_S) (h : fX9_maxResult x0 st = some (r, stz)) : ax_M LM yX9_maxResult cX9_maxResult 1 (some .int) 1 [.inl x0] st 1 r stz := by
  refine ax_start (by decide) (Nat.le_of_ble_eq_true rfl) (lv0 := [some (.inl x0)]) rfl (fun C X hC => ?_)
  rw [← h]
  unfold fX9_maxResult
  refine ax_iloadn hC dX9_maxResult_0 rfl rfl ?_
  refine ax_tsIn hC dX9_maxResult_1 (v := 0) (by decide) (by decide) (off := 43) rfl (tgt := 44) (by decide) ?_ (fun e0 => ?_)
  · refine ax_bipush hC dX9_maxResult_44 (v := 99) (by decide) ?_
    exact ax_iret hC dX9_maxResult_46
  · refine ax_tsIn hC dX9_maxResult_1 (v := 1) (by decide) (by decide) (off := 46) rfl (tgt := 47) (by decide) ?_ (fun e1 => ?_)
    · refine ax_iconst hC dX9_maxResult_47 (v := 0) (by decide) ?_
      exact ax_iret hC dX9_maxResult_48
    · refine ax_tsIn hC dX9_maxResult_1 (v := 2) (by decide) (by decide) (off := 52) rfl (tgt := 53) (by decide) ?_ (fun e2 => ?_)
      · refine ax_iconst hC dX9_maxResult_53 (v := 1) (by decide) ?_
        exact ax_iret hC dX9_maxResult_54
      · refine ax_tsIn hC dX9_maxResult_1 (v := 3) (by decide) (by decide) (off := 48) rfl (tgt := 49) (by decide) ?_ (fun e3 => ?_)
        · refine ax_sipush hC dX9_maxResult_49 (v := 999) (by decide) ?_
          exact ax_iret hC dX9_maxResult_52
        · refine ax_tsIn hC dX9_maxResult_1 (v := 4) (by decide) (by decide) (off := 48) rfl (tgt := 49) (by decide) ?_ (fun e4 => ?_)
          · refine ax_sipush hC dX9_maxResult_49 (v := 999) (by decide) ?_
            exact ax_iret hC dX9_maxResult_52
          · refine ax_tsIn hC dX9_maxResult_1 (v := 5) (by decide) (by decide) (off := 46) rfl (tgt := 47) (by decide) ?_ (fun e5 => ?_)
            · refine ax_iconst hC dX9_maxResult_47 (v := 0) (by decide) ?_
              exact ax_iret hC dX9_maxResult_48
            · refine ax_tsIn hC dX9_maxResult_1 (v := 6) (by decide) (by decide) (off := 43) rfl (tgt := 44) (by decide) ?_ (fun e6 => ?_)
              · refine ax_bipush hC dX9_maxResult_44 (v := 99) (by decide) ?_
                exact ax_iret hC dX9_maxResult_46
              · have g0 : ¬ x0.toInt = 0 := fun q => e0 (Int32.toInt_inj.mp (q.trans (by decide)))
                have g1 : ¬ x0.toInt = 1 := fun q => e1 (Int32.toInt_inj.mp (q.trans (by decide)))
                have g2 : ¬ x0.toInt = 2 := fun q => e2 (Int32.toInt_inj.mp (q.trans (by decide)))
                have g3 : ¬ x0.toInt = 3 := fun q => e3 (Int32.toInt_inj.mp (q.trans (by decide)))
                have g4 : ¬ x0.toInt = 4 := fun q => e4 (Int32.toInt_inj.mp (q.trans (by decide)))
                have g5 : ¬ x0.toInt = 5 := fun q => e5 (Int32.toInt_inj.mp (q.trans (by decide)))
                have g6 : ¬ x0.toInt = 6 := fun q => e6 (Int32.toInt_inj.mp (q.trans (by decide)))
                refine ax_tsOut hC dX9_maxResult_1 (by omega) (tgt := 53) (by decide) ?_
                refine ax_iconst hC dX9_maxResult_53 (v := 1) (by decide) ?_
                exact ax_iret hC dX9_maxResult_54
set_option maxRecDepth 100000 in
theorem kX9_mayRespondWith_b41 {C : ax_C} {X : ax_X} (hC : ax_ok C X LM cX9_mayRespondWith RX9 4 (some .int) 4) (s0 : Int32) (st : ax_S) : AW C X LM 4 1 (fX9_mayRespondWith_b41 s0 st) 41 [none, none, none, none] [.inl s0] st := by
  unfold fX9_mayRespondWith_b41
  exact ax_iret hC dX9_mayRespondWith_41
set_option maxRecDepth 100000 in
theorem kX9_mayRespondWith_b35 {C : ax_C} {X : ax_X} (hC : ax_ok C X LM cX9_mayRespondWith RX9 4 (some .int) 4) (x3 : Int32) (st : ax_S) : AW C X LM 4 1 (fX9_mayRespondWith_b35 x3 st) 35 [none, none, none, some (.inl x3)] [] st := by
  unfold fX9_mayRespondWith_b35
  refine ax_iloadn hC dX9_mayRespondWith_35 rfl rfl ?_
  refine ax_goto hC dX9_mayRespondWith_36 (tgt := 41) (by decide) ?_
  refine ax_sub (lv' := [none, none, none, none]) (ax_leN (ax_leN (ax_leN (ax_leN ax_le0)))) ?_
  exact kX9_mayRespondWith_b41 hC _ _
set_option maxRecDepth 100000 in
theorem kX9_mayRespondWith (x1 : Int32) (x2 : Int32) (st : ax_S) (r : Int32) (stz : ax_S) (h : fX9_mayRespondWith x1 x2 st = some (r, stz)) : ax_M LM yX9_mayRespondWith cX9_mayRespondWith 4 (some .int) 4 [.inr 0, .inl x1, .inl x2] st 1 r stz := by
  refine ax_start (by decide) (Nat.le_of_ble_eq_true rfl) (lv0 := [some (.inr 0), some (.inl x1), some (.inl x2), none]) rfl (fun C X hC => ?_)
  rw [← h]
  unfold fX9_mayRespondWith
  refine ax_aloadn hC dX9_mayRespondWith_0 rfl rfl ?_
  refine ax_iloadn hC dX9_mayRespondWith_1 rfl rfl ?_
  refine ax_callV1 hC mlk_X9_143 hst_X9_143 LM_0 [.inl x1] rfl rfl (by decide) (by decide) (Nat.le_of_ble_eq_true rfl) dX9_mayRespondWith_2 (fun r9 s9 h9 => kX9_mayRespond _ _ _ _ h9) (fun r1 st2 => ?_)
  refine ax_istoren hC dX9_mayRespondWith_5 rfl (by decide) (lv' := [some (.inr 0), some (.inl x1), some (.inl x2), some (.inl r1)]) rfl ?_
  refine ax_iloadn hC dX9_mayRespondWith_6 rfl rfl ?_
  refine ax_if_lt hC dX9_mayRespondWith_7 (tgt := 35) (by decide) (fun _ => ?_) (fun _ => ?_)
  · refine ax_sub (lv' := [none, none, none, some (.inl r1)]) (ax_leN (ax_leN (ax_leN (ax_leS ax_le0)))) ?_
    exact kX9_mayRespondWith_b35 hC _ _
  · refine ax_iloadn hC dX9_mayRespondWith_10 rfl rfl ?_
    refine ax_aloadn hC dX9_mayRespondWith_11 rfl rfl ?_
    refine ax_lkR hC lk_X9_16 LM_0 rfl dX9_mayRespondWith_12 ?_
    refine ax_iloadn hC dX9_mayRespondWith_15 rfl rfl ?_
    refine ax_iald hC LM_3 dX9_mayRespondWith_16 (fun v3 => ?_)
    refine ax_callS1 hC mlk_X9_146 hst_X9_146 [.inl v3] rfl rfl (by decide) (by decide) (Nat.le_of_ble_eq_true rfl) dX9_mayRespondWith_17 (fun r9 s9 h9 => kX9_minResult _ _ _ _ h9) (fun r4 st5 => ?_)
    refine ax_aloadn hC dX9_mayRespondWith_20 rfl rfl ?_
    refine ax_lkR hC lk_X9_16 LM_0 rfl dX9_mayRespondWith_21 ?_
    refine ax_iloadn hC dX9_mayRespondWith_24 rfl rfl ?_
    refine ax_iald hC LM_3 dX9_mayRespondWith_25 (fun v6 => ?_)
    refine ax_callS1 hC mlk_X9_149 hst_X9_149 [.inl v6] rfl rfl (by decide) (by decide) (Nat.le_of_ble_eq_true rfl) dX9_mayRespondWith_26 (fun r9 s9 h9 => kX9_maxResult _ _ _ _ h9) (fun r7 st8 => ?_)
    refine ax_callS1 hC mlk_X9_93 hst_X9_93 [.inl x2, .inl r4, .inl r7] rfl rfl (by decide) (by decide) (Nat.le_of_ble_eq_true rfl) dX9_mayRespondWith_29 (fun r9 s9 h9 => kX9_isIn _ _ _ _ _ _ h9) (fun r9 st10 => ?_)
    refine ax_if_eq hC dX9_mayRespondWith_32 (tgt := 39) (by decide) (fun _ => ?_) (fun _ => ?_)
    · refine ax_bipush hC dX9_mayRespondWith_39 (v := -4) (by decide) ?_
      refine ax_sub (lv' := [none, none, none, none]) (ax_leN (ax_leN (ax_leN (ax_leN ax_le0)))) ?_
      exact kX9_mayRespondWith_b41 hC _ _
    · refine ax_sub (lv' := [none, none, none, some (.inl r1)]) (ax_leN (ax_leN (ax_leN (ax_leS ax_le0)))) ?_
      exact kX9_mayRespondWith_b35 hC _ _
set_option maxRecDepth 100000 in
theorem kX9_respond_b31 {C : ax_C} {X : ax_X} (hC : ax_ok C X LM cX9_respond RX9 4 (some .int) 5) (x3 : Int32) (st : ax_S) : AW C X LM 4 1 (fX9_respond_b31 x3 st) 31 [none, none, none, some (.inl x3)] [] st := by
  unfold fX9_respond_b31
  refine ax_iloadn hC dX9_respond_31 rfl rfl ?_
  exact ax_iret hC dX9_respond_32
set_option maxRecDepth 100000 in
theorem kX9_respond (x1 : Int32) (x2 : Int32) (st : ax_S) (r : Int32) (stz : ax_S) (h : fX9_respond x1 x2 st = some (r, stz)) : ax_M LM yX9_respond cX9_respond 4 (some .int) 5 [.inr 0, .inl x1, .inl x2] st 1 r stz := by
  refine ax_start (by decide) (Nat.le_of_ble_eq_true rfl) (lv0 := [some (.inr 0), some (.inl x1), some (.inl x2), none]) rfl (fun C X hC => ?_)
  rw [← h]
  unfold fX9_respond
  refine ax_aloadn hC dX9_respond_0 rfl rfl ?_
  refine ax_iloadn hC dX9_respond_1 rfl rfl ?_
  refine ax_iloadn hC dX9_respond_2 rfl rfl ?_
  refine ax_callV1 hC mlk_X9_152 hst_X9_152 LM_0 [.inl x1, .inl x2] rfl rfl (by decide) (by decide) (Nat.le_of_ble_eq_true rfl) dX9_respond_3 (fun r9 s9 h9 => kX9_mayRespondWith _ _ _ _ _ h9) (fun r1 st2 => ?_)
  refine ax_istoren hC dX9_respond_6 rfl (by decide) (lv' := [some (.inr 0), some (.inl x1), some (.inl x2), some (.inl r1)]) rfl ?_
  refine ax_iloadn hC dX9_respond_7 rfl rfl ?_
  refine ax_if_lt hC dX9_respond_8 (tgt := 31) (by decide) (fun _ => ?_) (fun _ => ?_)
  · refine ax_sub (lv' := [none, none, none, some (.inl r1)]) (ax_leN (ax_leN (ax_leN (ax_leS ax_le0)))) ?_
    exact kX9_respond_b31 hC _ _
  · refine ax_aloadn hC dX9_respond_11 rfl rfl ?_
    refine ax_lkR hC lk_X9_37 LM_0 rfl dX9_respond_12 ?_
    refine ax_iloadn hC dX9_respond_15 rfl rfl ?_
    refine ax_iloadn hC dX9_respond_16 rfl rfl ?_
    refine ax_iast hC LM_10 dX9_respond_17 (fun st3 => ?_)
    refine ax_aloadn hC dX9_respond_18 rfl rfl ?_
    refine ax_lkR hC lk_X9_34 LM_0 rfl dX9_respond_19 ?_
    refine ax_iloadn hC dX9_respond_22 rfl rfl ?_
    refine ax_aloadn hC dX9_respond_23 rfl rfl ?_
    refine ax_iconst hC dX9_respond_24 (v := 1) (by decide) ?_
    refine ax_iloadn hC dX9_respond_25 rfl rfl ?_
    refine ax_iloadn hC dX9_respond_26 rfl rfl ?_
    refine ax_callV1 hC mlk_X9_135 hst_X9_135 LM_0 [.inl (1 : Int32), .inl x1, .inl r1] rfl rfl (by decide) (by decide) (Nat.le_of_ble_eq_true rfl) dX9_respond_27 (fun r9 s9 h9 => kX9_append _ _ _ _ _ _ h9) (fun r4 st5 => ?_)
    refine ax_iast hC LM_9 dX9_respond_30 (fun st6 => ?_)
    refine ax_sub (lv' := [none, none, none, some (.inl r1)]) (ax_leN (ax_leN (ax_leN (ax_leS ax_le0)))) ?_
    exact kX9_respond_b31 hC _ _
set_option maxRecDepth 100000 in
theorem kX9_crash_b30 {C : ax_C} {X : ax_X} (hC : ax_ok C X LM cX9_crash RX9 2 (some .int) 3) (s0 : Int32) (st : ax_S) : AW C X LM 2 1 (fX9_crash_b30 s0 st) 30 [none, none] [.inl s0] st := by
  unfold fX9_crash_b30
  exact ax_iret hC dX9_crash_30
set_option maxRecDepth 100000 in
theorem kX9_crash (x1 : Int32) (st : ax_S) (r : Int32) (stz : ax_S) (h : fX9_crash x1 st = some (r, stz)) : ax_M LM yX9_crash cX9_crash 2 (some .int) 3 [.inr 0, .inl x1] st 1 r stz := by
  refine ax_start (by decide) (Nat.le_of_ble_eq_true rfl) (lv0 := [some (.inr 0), some (.inl x1)]) rfl (fun C X hC => ?_)
  rw [← h]
  unfold fX9_crash
  refine ax_iloadn hC dX9_crash_0 rfl rfl ?_
  refine ax_callS1 hC mlk_X9_118 hst_X9_118 [.inl x1] rfl rfl (by decide) (by decide) (Nat.le_of_ble_eq_true rfl) dX9_crash_1 (fun r9 s9 h9 => kX9_isThread _ _ _ _ h9) (fun r1 st2 => ?_)
  refine ax_if_ne hC dX9_crash_4 (tgt := 9) (by decide) (fun _ => ?_) (fun _ => ?_)
  · refine ax_iconst hC dX9_crash_7 (v := -1) (by decide) ?_
    exact ax_iret hC dX9_crash_8
  · refine ax_aloadn hC dX9_crash_9 rfl rfl ?_
    refine ax_iloadn hC dX9_crash_10 rfl rfl ?_
    refine ax_callV1 hC mlk_X9_129 hst_X9_129 LM_0 [.inl x1] rfl rfl (by decide) (by decide) (Nat.le_of_ble_eq_true rfl) dX9_crash_11 (fun r9 s9 h9 => kX9_isCrashed _ _ _ _ h9) (fun r3 st4 => ?_)
    refine ax_if_eq hC dX9_crash_14 (tgt := 22) (by decide) (fun _ => ?_) (fun _ => ?_)
    · refine ax_aloadn hC dX9_crash_22 rfl rfl ?_
      refine ax_iconst hC dX9_crash_23 (v := 2) (by decide) ?_
      refine ax_iloadn hC dX9_crash_24 rfl rfl ?_
      refine ax_bipush hC dX9_crash_25 (v := -10) (by decide) ?_
      refine ax_callV1 hC mlk_X9_135 hst_X9_135 LM_0 [.inl (2 : Int32), .inl x1, .inl (-10 : Int32)] rfl rfl (by decide) (by decide) (Nat.le_of_ble_eq_true rfl) dX9_crash_27 (fun r9 s9 h9 => kX9_append _ _ _ _ _ _ h9) (fun r5 st6 => ?_)
      refine ax_sub (lv' := [none, none]) (ax_leN (ax_leN ax_le0)) ?_
      exact kX9_crash_b30 hC _ _
    · refine ax_bipush hC dX9_crash_17 (v := -5) (by decide) ?_
      refine ax_goto hC dX9_crash_19 (tgt := 30) (by decide) ?_
      refine ax_sub (lv' := [none, none]) (ax_leN (ax_leN ax_le0)) ?_
      exact kX9_crash_b30 hC _ _
set_option maxRecDepth 100000 in
theorem kX9_undo_b78 {C : ax_C} {X : ax_X} (hC : ax_ok C X LM cX9_undo RX9 1 (some .int) 1) (st : ax_S) : AW C X LM 1 1 (fX9_undo_b78 st) 78 [some (.inr 0)] [] st := by
  unfold fX9_undo_b78
  refine ax_aloadn hC dX9_undo_78 rfl rfl ?_
  refine ax_lkI hC lk_X9_104 LM_0 rfl dX9_undo_79 ?_
  exact ax_iret hC dX9_undo_82
set_option maxRecDepth 100000 in
theorem kX9_undo (st : ax_S) (r : Int32) (stz : ax_S) (h : fX9_undo st = some (r, stz)) : ax_M LM yX9_undo cX9_undo 1 (some .int) 1 [.inr 0] st 1 r stz := by
  refine ax_start (by decide) (Nat.le_of_ble_eq_true rfl) (lv0 := [some (.inr 0)]) rfl (fun C X hC => ?_)
  rw [← h]
  unfold fX9_undo
  refine ax_aloadn hC dX9_undo_0 rfl rfl ?_
  refine ax_lkI hC lk_X9_104 LM_0 rfl dX9_undo_1 ?_
  refine ax_if_ne hC dX9_undo_4 (tgt := 10) (by decide) (fun _ => ?_) (fun _ => ?_)
  · refine ax_bipush hC dX9_undo_7 (v := -11) (by decide) ?_
    exact ax_iret hC dX9_undo_9
  · refine ax_aloadn hC dX9_undo_10 rfl rfl ?_
    refine ax_dup hC dX9_undo_11 ?_
    refine ax_lkI hC lk_X9_104 LM_0 rfl dX9_undo_12 ?_
    refine ax_iconst hC dX9_undo_15 (v := 1) (by decide) ?_
    refine ax_isub hC dX9_undo_16 ?_
    refine ax_putI hC lp_X9_104 LM_0 rfl dX9_undo_17 (fun st1 => ?_)
    refine ax_aloadn hC dX9_undo_20 rfl rfl ?_
    refine ax_iconst hC dX9_undo_21 (v := 0) (by decide) ?_
    refine ax_putI hC lp_X9_107 LM_0 rfl dX9_undo_22 (fun st2 => ?_)
    refine ax_aloadn hC dX9_undo_25 rfl rfl ?_
    refine ax_lkR hC lk_X9_40 LM_0 rfl dX9_undo_26 ?_
    refine ax_aloadn hC dX9_undo_29 rfl rfl ?_
    refine ax_lkI hC lk_X9_104 LM_0 rfl dX9_undo_30 ?_
    refine ax_iald hC LM_11 dX9_undo_33 (fun v3 => ?_)
    refine ax_if_ne hC dX9_undo_34 (tgt := 50) (by decide) (fun _ => ?_) (fun _ => ?_)
    · refine ax_aloadn hC dX9_undo_37 rfl rfl ?_
      refine ax_dup hC dX9_undo_38 ?_
      refine ax_lkI hC lk_X9_101 LM_0 rfl dX9_undo_39 ?_
      refine ax_iconst hC dX9_undo_42 (v := 1) (by decide) ?_
      refine ax_isub hC dX9_undo_43 ?_
      refine ax_putI hC lp_X9_101 LM_0 rfl dX9_undo_44 (fun st4 => ?_)
      refine ax_goto hC dX9_undo_47 (tgt := 78) (by decide) ?_
      exact kX9_undo_b78 hC _
    · refine ax_aloadn hC dX9_undo_50 rfl rfl ?_
      refine ax_lkR hC lk_X9_40 LM_0 rfl dX9_undo_51 ?_
      refine ax_aloadn hC dX9_undo_54 rfl rfl ?_
      refine ax_lkI hC lk_X9_104 LM_0 rfl dX9_undo_55 ?_
      refine ax_iald hC LM_11 dX9_undo_58 (fun v5 => ?_)
      refine ax_iconst hC dX9_undo_59 (v := 1) (by decide) ?_
      refine ax_icmp_ne hC dX9_undo_60 (tgt := 78) (by decide) (fun _ => ?_) (fun _ => ?_)
      · refine ax_aloadn hC dX9_undo_63 rfl rfl ?_
        refine ax_lkR hC lk_X9_34 LM_0 rfl dX9_undo_64 ?_
        refine ax_aloadn hC dX9_undo_67 rfl rfl ?_
        refine ax_lkR hC lk_X9_46 LM_0 rfl dX9_undo_68 ?_
        refine ax_aloadn hC dX9_undo_71 rfl rfl ?_
        refine ax_lkI hC lk_X9_104 LM_0 rfl dX9_undo_72 ?_
        refine ax_iald hC LM_13 dX9_undo_75 (fun v6 => ?_)
        refine ax_iconst hC dX9_undo_76 (v := -1) (by decide) ?_
        refine ax_iast hC LM_9 dX9_undo_77 (fun st7 => ?_)
        exact kX9_undo_b78 hC _
      · exact kX9_undo_b78 hC _
set_option maxRecDepth 100000 in
theorem kX9_eventCount (st : ax_S) (r : Int32) (stz : ax_S) (h : fX9_eventCount st = some (r, stz)) : ax_M LM yX9_eventCount cX9_eventCount 1 (some .int) 1 [.inr 0] st 1 r stz := by
  refine ax_start (by decide) (Nat.le_of_ble_eq_true rfl) (lv0 := [some (.inr 0)]) rfl (fun C X hC => ?_)
  rw [← h]
  unfold fX9_eventCount
  refine ax_aloadn hC dX9_eventCount_0 rfl rfl ?_
  refine ax_lkI hC lk_X9_104 LM_0 rfl dX9_eventCount_1 ?_
  exact ax_iret hC dX9_eventCount_4
set_option maxRecDepth 100000 in
theorem kX9_operationCount (st : ax_S) (r : Int32) (stz : ax_S) (h : fX9_operationCount st = some (r, stz)) : ax_M LM yX9_operationCount cX9_operationCount 1 (some .int) 1 [.inr 0] st 1 r stz := by
  refine ax_start (by decide) (Nat.le_of_ble_eq_true rfl) (lv0 := [some (.inr 0)]) rfl (fun C X hC => ?_)
  rw [← h]
  unfold fX9_operationCount
  refine ax_aloadn hC dX9_operationCount_0 rfl rfl ?_
  refine ax_lkI hC lk_X9_101 LM_0 rfl dX9_operationCount_1 ?_
  exact ax_iret hC dX9_operationCount_4
set_option maxRecDepth 100000 in
theorem kX9_isOperation (x1 : Int32) (st : ax_S) (r : Int32) (stz : ax_S) (h : fX9_isOperation x1 st = some (r, stz)) : ax_M LM yX9_isOperation cX9_isOperation 2 (some .boolean) 2 [.inr 0, .inl x1] st 1 r stz := by
  refine ax_start (by decide) (Nat.le_of_ble_eq_true rfl) (lv0 := [some (.inr 0), some (.inl x1)]) rfl (fun C X hC => ?_)
  rw [← h]
  unfold fX9_isOperation
  refine ax_iloadn hC dX9_isOperation_0 rfl rfl ?_
  refine ax_iconst hC dX9_isOperation_1 (v := 0) (by decide) ?_
  refine ax_aloadn hC dX9_isOperation_2 rfl rfl ?_
  refine ax_lkI hC lk_X9_101 LM_0 rfl dX9_isOperation_3 ?_
  refine ax_iconst hC dX9_isOperation_6 (v := 1) (by decide) ?_
  refine ax_isub hC dX9_isOperation_7 ?_
  refine ax_callS1 hC mlk_X9_93 hst_X9_93 [.inl x1, .inl (0 : Int32), .inl ((st.1 0 3) - (1 : Int32))] rfl rfl (by decide) (by decide) (Nat.le_of_ble_eq_true rfl) dX9_isOperation_8 (fun r9 s9 h9 => kX9_isIn _ _ _ _ _ _ h9) (fun r1 st2 => ?_)
  exact ax_zret hC dX9_isOperation_11
set_option maxRecDepth 100000 in
theorem kX9_kindOf_b19 {C : ax_C} {X : ax_X} (hC : ax_ok C X LM cX9_kindOf RX9 2 (some .int) 3) (s0 : Int32) (st : ax_S) : AW C X LM 2 1 (fX9_kindOf_b19 s0 st) 19 [none, none] [.inl s0] st := by
  unfold fX9_kindOf_b19
  exact ax_iret hC dX9_kindOf_19
set_option maxRecDepth 100000 in
theorem kX9_kindOf (x1 : Int32) (st : ax_S) (r : Int32) (stz : ax_S) (h : fX9_kindOf x1 st = some (r, stz)) : ax_M LM yX9_kindOf cX9_kindOf 2 (some .int) 3 [.inr 0, .inl x1] st 1 r stz := by
  refine ax_start (by decide) (Nat.le_of_ble_eq_true rfl) (lv0 := [some (.inr 0), some (.inl x1)]) rfl (fun C X hC => ?_)
  rw [← h]
  unfold fX9_kindOf
  refine ax_aloadn hC dX9_kindOf_0 rfl rfl ?_
  refine ax_iloadn hC dX9_kindOf_1 rfl rfl ?_
  refine ax_callV1 hC mlk_X9_155 hst_X9_155 LM_0 [.inl x1] rfl rfl (by decide) (by decide) (Nat.le_of_ble_eq_true rfl) dX9_kindOf_2 (fun r9 s9 h9 => kX9_isOperation _ _ _ _ h9) (fun r1 st2 => ?_)
  refine ax_if_eq hC dX9_kindOf_5 (tgt := 17) (by decide) (fun _ => ?_) (fun _ => ?_)
  · refine ax_bipush hC dX9_kindOf_17 (v := -9) (by decide) ?_
    refine ax_sub (lv' := [none, none]) (ax_leN (ax_leN ax_le0)) ?_
    exact kX9_kindOf_b19 hC _ _
  · refine ax_aloadn hC dX9_kindOf_8 rfl rfl ?_
    refine ax_lkR hC lk_X9_16 LM_0 rfl dX9_kindOf_9 ?_
    refine ax_iloadn hC dX9_kindOf_12 rfl rfl ?_
    refine ax_iald hC LM_3 dX9_kindOf_13 (fun v3 => ?_)
    refine ax_goto hC dX9_kindOf_14 (tgt := 19) (by decide) ?_
    refine ax_sub (lv' := [none, none]) (ax_leN (ax_leN ax_le0)) ?_
    exact kX9_kindOf_b19 hC _ _
set_option maxRecDepth 100000 in
theorem kX9_threadOf_b19 {C : ax_C} {X : ax_X} (hC : ax_ok C X LM cX9_threadOf RX9 2 (some .int) 3) (s0 : Int32) (st : ax_S) : AW C X LM 2 1 (fX9_threadOf_b19 s0 st) 19 [none, none] [.inl s0] st := by
  unfold fX9_threadOf_b19
  exact ax_iret hC dX9_threadOf_19
set_option maxRecDepth 100000 in
theorem kX9_threadOf (x1 : Int32) (st : ax_S) (r : Int32) (stz : ax_S) (h : fX9_threadOf x1 st = some (r, stz)) : ax_M LM yX9_threadOf cX9_threadOf 2 (some .int) 3 [.inr 0, .inl x1] st 1 r stz := by
  refine ax_start (by decide) (Nat.le_of_ble_eq_true rfl) (lv0 := [some (.inr 0), some (.inl x1)]) rfl (fun C X hC => ?_)
  rw [← h]
  unfold fX9_threadOf
  refine ax_aloadn hC dX9_threadOf_0 rfl rfl ?_
  refine ax_iloadn hC dX9_threadOf_1 rfl rfl ?_
  refine ax_callV1 hC mlk_X9_155 hst_X9_155 LM_0 [.inl x1] rfl rfl (by decide) (by decide) (Nat.le_of_ble_eq_true rfl) dX9_threadOf_2 (fun r9 s9 h9 => kX9_isOperation _ _ _ _ h9) (fun r1 st2 => ?_)
  refine ax_if_eq hC dX9_threadOf_5 (tgt := 17) (by decide) (fun _ => ?_) (fun _ => ?_)
  · refine ax_bipush hC dX9_threadOf_17 (v := -9) (by decide) ?_
    refine ax_sub (lv' := [none, none]) (ax_leN (ax_leN ax_le0)) ?_
    exact kX9_threadOf_b19 hC _ _
  · refine ax_aloadn hC dX9_threadOf_8 rfl rfl ?_
    refine ax_lkR hC lk_X9_19 LM_0 rfl dX9_threadOf_9 ?_
    refine ax_iloadn hC dX9_threadOf_12 rfl rfl ?_
    refine ax_iald hC LM_4 dX9_threadOf_13 (fun v3 => ?_)
    refine ax_goto hC dX9_threadOf_14 (tgt := 19) (by decide) ?_
    refine ax_sub (lv' := [none, none]) (ax_leN (ax_leN ax_le0)) ?_
    exact kX9_threadOf_b19 hC _ _
set_option maxRecDepth 100000 in
theorem kX9_objectOf_b19 {C : ax_C} {X : ax_X} (hC : ax_ok C X LM cX9_objectOf RX9 2 (some .int) 3) (s0 : Int32) (st : ax_S) : AW C X LM 2 1 (fX9_objectOf_b19 s0 st) 19 [none, none] [.inl s0] st := by
  unfold fX9_objectOf_b19
  exact ax_iret hC dX9_objectOf_19
set_option maxRecDepth 100000 in
theorem kX9_objectOf (x1 : Int32) (st : ax_S) (r : Int32) (stz : ax_S) (h : fX9_objectOf x1 st = some (r, stz)) : ax_M LM yX9_objectOf cX9_objectOf 2 (some .int) 3 [.inr 0, .inl x1] st 1 r stz := by
  refine ax_start (by decide) (Nat.le_of_ble_eq_true rfl) (lv0 := [some (.inr 0), some (.inl x1)]) rfl (fun C X hC => ?_)
  rw [← h]
  unfold fX9_objectOf
  refine ax_aloadn hC dX9_objectOf_0 rfl rfl ?_
  refine ax_iloadn hC dX9_objectOf_1 rfl rfl ?_
  refine ax_callV1 hC mlk_X9_155 hst_X9_155 LM_0 [.inl x1] rfl rfl (by decide) (by decide) (Nat.le_of_ble_eq_true rfl) dX9_objectOf_2 (fun r9 s9 h9 => kX9_isOperation _ _ _ _ h9) (fun r1 st2 => ?_)
  refine ax_if_eq hC dX9_objectOf_5 (tgt := 17) (by decide) (fun _ => ?_) (fun _ => ?_)
  · refine ax_bipush hC dX9_objectOf_17 (v := -9) (by decide) ?_
    refine ax_sub (lv' := [none, none]) (ax_leN (ax_leN ax_le0)) ?_
    exact kX9_objectOf_b19 hC _ _
  · refine ax_aloadn hC dX9_objectOf_8 rfl rfl ?_
    refine ax_lkR hC lk_X9_22 LM_0 rfl dX9_objectOf_9 ?_
    refine ax_iloadn hC dX9_objectOf_12 rfl rfl ?_
    refine ax_iald hC LM_5 dX9_objectOf_13 (fun v3 => ?_)
    refine ax_goto hC dX9_objectOf_14 (tgt := 19) (by decide) ?_
    refine ax_sub (lv' := [none, none]) (ax_leN (ax_leN ax_le0)) ?_
    exact kX9_objectOf_b19 hC _ _
set_option maxRecDepth 100000 in
theorem kX9_invocationTime_b19 {C : ax_C} {X : ax_X} (hC : ax_ok C X LM cX9_invocationTime RX9 2 (some .int) 3) (s0 : Int32) (st : ax_S) : AW C X LM 2 1 (fX9_invocationTime_b19 s0 st) 19 [none, none] [.inl s0] st := by
  unfold fX9_invocationTime_b19
  exact ax_iret hC dX9_invocationTime_19
set_option maxRecDepth 100000 in
theorem kX9_invocationTime (x1 : Int32) (st : ax_S) (r : Int32) (stz : ax_S) (h : fX9_invocationTime x1 st = some (r, stz)) : ax_M LM yX9_invocationTime cX9_invocationTime 2 (some .int) 3 [.inr 0, .inl x1] st 1 r stz := by
  refine ax_start (by decide) (Nat.le_of_ble_eq_true rfl) (lv0 := [some (.inr 0), some (.inl x1)]) rfl (fun C X hC => ?_)
  rw [← h]
  unfold fX9_invocationTime
  refine ax_aloadn hC dX9_invocationTime_0 rfl rfl ?_
  refine ax_iloadn hC dX9_invocationTime_1 rfl rfl ?_
  refine ax_callV1 hC mlk_X9_155 hst_X9_155 LM_0 [.inl x1] rfl rfl (by decide) (by decide) (Nat.le_of_ble_eq_true rfl) dX9_invocationTime_2 (fun r9 s9 h9 => kX9_isOperation _ _ _ _ h9) (fun r1 st2 => ?_)
  refine ax_if_eq hC dX9_invocationTime_5 (tgt := 17) (by decide) (fun _ => ?_) (fun _ => ?_)
  · refine ax_bipush hC dX9_invocationTime_17 (v := -9) (by decide) ?_
    refine ax_sub (lv' := [none, none]) (ax_leN (ax_leN ax_le0)) ?_
    exact kX9_invocationTime_b19 hC _ _
  · refine ax_aloadn hC dX9_invocationTime_8 rfl rfl ?_
    refine ax_lkR hC lk_X9_31 LM_0 rfl dX9_invocationTime_9 ?_
    refine ax_iloadn hC dX9_invocationTime_12 rfl rfl ?_
    refine ax_iald hC LM_8 dX9_invocationTime_13 (fun v3 => ?_)
    refine ax_goto hC dX9_invocationTime_14 (tgt := 19) (by decide) ?_
    refine ax_sub (lv' := [none, none]) (ax_leN (ax_leN ax_le0)) ?_
    exact kX9_invocationTime_b19 hC _ _
set_option maxRecDepth 100000 in
theorem kX9_responseTime_b32 {C : ax_C} {X : ax_X} (hC : ax_ok C X LM cX9_responseTime RX9 2 (some .int) 3) (s0 : Int32) (st : ax_S) : AW C X LM 2 1 (fX9_responseTime_b32 s0 st) 32 [none, none] [.inl s0] st := by
  unfold fX9_responseTime_b32
  exact ax_iret hC dX9_responseTime_32
set_option maxRecDepth 100000 in
theorem kX9_responseTime (x1 : Int32) (st : ax_S) (r : Int32) (stz : ax_S) (h : fX9_responseTime x1 st = some (r, stz)) : ax_M LM yX9_responseTime cX9_responseTime 2 (some .int) 3 [.inr 0, .inl x1] st 1 r stz := by
  refine ax_start (by decide) (Nat.le_of_ble_eq_true rfl) (lv0 := [some (.inr 0), some (.inl x1)]) rfl (fun C X hC => ?_)
  rw [← h]
  unfold fX9_responseTime
  refine ax_aloadn hC dX9_responseTime_0 rfl rfl ?_
  refine ax_iloadn hC dX9_responseTime_1 rfl rfl ?_
  refine ax_callV1 hC mlk_X9_155 hst_X9_155 LM_0 [.inl x1] rfl rfl (by decide) (by decide) (Nat.le_of_ble_eq_true rfl) dX9_responseTime_2 (fun r9 s9 h9 => kX9_isOperation _ _ _ _ h9) (fun r1 st2 => ?_)
  refine ax_if_ne hC dX9_responseTime_5 (tgt := 11) (by decide) (fun _ => ?_) (fun _ => ?_)
  · refine ax_bipush hC dX9_responseTime_8 (v := -9) (by decide) ?_
    exact ax_iret hC dX9_responseTime_10
  · refine ax_aloadn hC dX9_responseTime_11 rfl rfl ?_
    refine ax_lkR hC lk_X9_34 LM_0 rfl dX9_responseTime_12 ?_
    refine ax_iloadn hC dX9_responseTime_15 rfl rfl ?_
    refine ax_iald hC LM_9 dX9_responseTime_16 (fun v3 => ?_)
    refine ax_iconst hC dX9_responseTime_17 (v := -1) (by decide) ?_
    refine ax_icmp_ne hC dX9_responseTime_18 (tgt := 26) (by decide) (fun _ => ?_) (fun _ => ?_)
    · refine ax_bipush hC dX9_responseTime_21 (v := -10) (by decide) ?_
      refine ax_goto hC dX9_responseTime_23 (tgt := 32) (by decide) ?_
      refine ax_sub (lv' := [none, none]) (ax_leN (ax_leN ax_le0)) ?_
      exact kX9_responseTime_b32 hC _ _
    · refine ax_aloadn hC dX9_responseTime_26 rfl rfl ?_
      refine ax_lkR hC lk_X9_34 LM_0 rfl dX9_responseTime_27 ?_
      refine ax_iloadn hC dX9_responseTime_30 rfl rfl ?_
      refine ax_iald hC LM_9 dX9_responseTime_31 (fun v4 => ?_)
      refine ax_sub (lv' := [none, none]) (ax_leN (ax_leN ax_le0)) ?_
      exact kX9_responseTime_b32 hC _ _
set_option maxRecDepth 100000 in
theorem kX9_resultOf_b36 {C : ax_C} {X : ax_X} (hC : ax_ok C X LM cX9_resultOf RX9 2 (some .int) 3) (s0 : Int32) (st : ax_S) : AW C X LM 2 1 (fX9_resultOf_b36 s0 st) 36 [none, none] [.inl s0] st := by
  unfold fX9_resultOf_b36
  exact ax_iret hC dX9_resultOf_36
set_option maxRecDepth 100000 in
theorem kX9_resultOf (x1 : Int32) (st : ax_S) (r : Int32) (stz : ax_S) (h : fX9_resultOf x1 st = some (r, stz)) : ax_M LM yX9_resultOf cX9_resultOf 2 (some .int) 3 [.inr 0, .inl x1] st 1 r stz := by
  refine ax_start (by decide) (Nat.le_of_ble_eq_true rfl) (lv0 := [some (.inr 0), some (.inl x1)]) rfl (fun C X hC => ?_)
  rw [← h]
  unfold fX9_resultOf
  refine ax_aloadn hC dX9_resultOf_0 rfl rfl ?_
  refine ax_iloadn hC dX9_resultOf_1 rfl rfl ?_
  refine ax_callV1 hC mlk_X9_155 hst_X9_155 LM_0 [.inl x1] rfl rfl (by decide) (by decide) (Nat.le_of_ble_eq_true rfl) dX9_resultOf_2 (fun r9 s9 h9 => kX9_isOperation _ _ _ _ h9) (fun r1 st2 => ?_)
  refine ax_if_ne hC dX9_resultOf_5 (tgt := 11) (by decide) (fun _ => ?_) (fun _ => ?_)
  · refine ax_bipush hC dX9_resultOf_8 (v := -9) (by decide) ?_
    exact ax_iret hC dX9_resultOf_10
  · refine ax_aloadn hC dX9_resultOf_11 rfl rfl ?_
    refine ax_lkR hC lk_X9_34 LM_0 rfl dX9_resultOf_12 ?_
    refine ax_iloadn hC dX9_resultOf_15 rfl rfl ?_
    refine ax_iald hC LM_9 dX9_resultOf_16 (fun v3 => ?_)
    refine ax_iconst hC dX9_resultOf_17 (v := -1) (by decide) ?_
    refine ax_icmp_ne hC dX9_resultOf_18 (tgt := 26) (by decide) (fun _ => ?_) (fun _ => ?_)
    · refine ax_bipush hC dX9_resultOf_21 (v := -10) (by decide) ?_
      refine ax_goto hC dX9_resultOf_23 (tgt := 36) (by decide) ?_
      refine ax_sub (lv' := [none, none]) (ax_leN (ax_leN ax_le0)) ?_
      exact kX9_resultOf_b36 hC _ _
    · refine ax_aloadn hC dX9_resultOf_26 rfl rfl ?_
      refine ax_lkR hC lk_X9_37 LM_0 rfl dX9_resultOf_27 ?_
      refine ax_iloadn hC dX9_resultOf_30 rfl rfl ?_
      refine ax_iald hC LM_10 dX9_resultOf_31 (fun v4 => ?_)
      refine ax_sipush hC dX9_resultOf_32 (v := 1000) (by decide) ?_
      refine ax_iadd hC dX9_resultOf_35 ?_
      refine ax_sub (lv' := [none, none]) (ax_leN (ax_leN ax_le0)) ?_
      exact kX9_resultOf_b36 hC _ _
set_option maxRecDepth 100000 in
theorem kX9_isBefore_b30 {C : ax_C} {X : ax_X} (hC : ax_ok C X LM cX9_isBefore RX9 3 (some .boolean) 1) (s0 : Int32) (st : ax_S) : AW C X LM 3 1 (fX9_isBefore_b30 s0 st) 30 [none, none, none] [.inl s0] st := by
  unfold fX9_isBefore_b30
  exact ax_zret hC dX9_isBefore_30
set_option maxRecDepth 100000 in
theorem kX9_isBefore_b29 {C : ax_C} {X : ax_X} (hC : ax_ok C X LM cX9_isBefore RX9 3 (some .boolean) 1) (st : ax_S) : AW C X LM 3 1 (fX9_isBefore_b29 st) 29 [none, none, none] [] st := by
  unfold fX9_isBefore_b29
  refine ax_iconst hC dX9_isBefore_29 (v := 0) (by decide) ?_
  exact kX9_isBefore_b30 hC _ _
set_option maxRecDepth 100000 in
theorem kX9_isBefore (x1 : Int32) (x2 : Int32) (st : ax_S) (r : Int32) (stz : ax_S) (h : fX9_isBefore x1 x2 st = some (r, stz)) : ax_M LM yX9_isBefore cX9_isBefore 3 (some .boolean) 1 [.inr 0, .inl x1, .inl x2] st 1 r stz := by
  refine ax_start (by decide) (Nat.le_of_ble_eq_true rfl) (lv0 := [some (.inr 0), some (.inl x1), some (.inl x2)]) rfl (fun C X hC => ?_)
  rw [← h]
  unfold fX9_isBefore
  refine ax_aloadn hC dX9_isBefore_0 rfl rfl ?_
  refine ax_lkR hC lk_X9_34 LM_0 rfl dX9_isBefore_1 ?_
  refine ax_iloadn hC dX9_isBefore_4 rfl rfl ?_
  refine ax_iald hC LM_9 dX9_isBefore_5 (fun v1 => ?_)
  refine ax_iconst hC dX9_isBefore_6 (v := -1) (by decide) ?_
  refine ax_icmp_eq hC dX9_isBefore_7 (tgt := 29) (by decide) (fun _ => ?_) (fun _ => ?_)
  · refine ax_sub (lv' := [none, none, none]) (ax_leN (ax_leN (ax_leN ax_le0))) ?_
    exact kX9_isBefore_b29 hC _
  · refine ax_aloadn hC dX9_isBefore_10 rfl rfl ?_
    refine ax_lkR hC lk_X9_34 LM_0 rfl dX9_isBefore_11 ?_
    refine ax_iloadn hC dX9_isBefore_14 rfl rfl ?_
    refine ax_iald hC LM_9 dX9_isBefore_15 (fun v2 => ?_)
    refine ax_aloadn hC dX9_isBefore_16 rfl rfl ?_
    refine ax_lkR hC lk_X9_31 LM_0 rfl dX9_isBefore_17 ?_
    refine ax_iloadn hC dX9_isBefore_20 rfl rfl ?_
    refine ax_iald hC LM_8 dX9_isBefore_21 (fun v3 => ?_)
    refine ax_icmp_ge hC dX9_isBefore_22 (tgt := 29) (by decide) (fun _ => ?_) (fun _ => ?_)
    · refine ax_sub (lv' := [none, none, none]) (ax_leN (ax_leN (ax_leN ax_le0))) ?_
      exact kX9_isBefore_b29 hC _
    · refine ax_iconst hC dX9_isBefore_25 (v := 1) (by decide) ?_
      refine ax_goto hC dX9_isBefore_26 (tgt := 30) (by decide) ?_
      refine ax_sub (lv' := [none, none, none]) (ax_leN (ax_leN (ax_leN ax_le0))) ?_
      exact kX9_isBefore_b30 hC _ _
set_option maxRecDepth 100000 in
theorem kX9_precedes_b16 {C : ax_C} {X : ax_X} (hC : ax_ok C X LM cX9_precedes RX9 3 (some .int) 3) (st : ax_S) : AW C X LM 3 1 (fX9_precedes_b16 st) 16 [none, none, none] [] st := by
  unfold fX9_precedes_b16
  refine ax_bipush hC dX9_precedes_16 (v := -9) (by decide) ?_
  exact ax_iret hC dX9_precedes_18
set_option maxRecDepth 100000 in
theorem kX9_precedes_b33 {C : ax_C} {X : ax_X} (hC : ax_ok C X LM cX9_precedes RX9 3 (some .int) 3) (s0 : Int32) (st : ax_S) : AW C X LM 3 1 (fX9_precedes_b33 s0 st) 33 [none, none, none] [.inl s0] st := by
  unfold fX9_precedes_b33
  exact ax_iret hC dX9_precedes_33
set_option maxRecDepth 100000 in
theorem kX9_precedes (x1 : Int32) (x2 : Int32) (st : ax_S) (r : Int32) (stz : ax_S) (h : fX9_precedes x1 x2 st = some (r, stz)) : ax_M LM yX9_precedes cX9_precedes 3 (some .int) 3 [.inr 0, .inl x1, .inl x2] st 1 r stz := by
  refine ax_start (by decide) (Nat.le_of_ble_eq_true rfl) (lv0 := [some (.inr 0), some (.inl x1), some (.inl x2)]) rfl (fun C X hC => ?_)
  rw [← h]
  unfold fX9_precedes
  refine ax_aloadn hC dX9_precedes_0 rfl rfl ?_
  refine ax_iloadn hC dX9_precedes_1 rfl rfl ?_
  refine ax_callV1 hC mlk_X9_155 hst_X9_155 LM_0 [.inl x1] rfl rfl (by decide) (by decide) (Nat.le_of_ble_eq_true rfl) dX9_precedes_2 (fun r9 s9 h9 => kX9_isOperation _ _ _ _ h9) (fun r1 st2 => ?_)
  refine ax_if_eq hC dX9_precedes_5 (tgt := 16) (by decide) (fun _ => ?_) (fun _ => ?_)
  · refine ax_sub (lv' := [none, none, none]) (ax_leN (ax_leN (ax_leN ax_le0))) ?_
    exact kX9_precedes_b16 hC _
  · refine ax_aloadn hC dX9_precedes_8 rfl rfl ?_
    refine ax_iloadn hC dX9_precedes_9 rfl rfl ?_
    refine ax_callV1 hC mlk_X9_155 hst_X9_155 LM_0 [.inl x2] rfl rfl (by decide) (by decide) (Nat.le_of_ble_eq_true rfl) dX9_precedes_10 (fun r9 s9 h9 => kX9_isOperation _ _ _ _ h9) (fun r3 st4 => ?_)
    refine ax_if_ne hC dX9_precedes_13 (tgt := 19) (by decide) (fun _ => ?_) (fun _ => ?_)
    · refine ax_sub (lv' := [none, none, none]) (ax_leN (ax_leN (ax_leN ax_le0))) ?_
      exact kX9_precedes_b16 hC _
    · refine ax_aloadn hC dX9_precedes_19 rfl rfl ?_
      refine ax_iloadn hC dX9_precedes_20 rfl rfl ?_
      refine ax_iloadn hC dX9_precedes_21 rfl rfl ?_
      refine ax_callV1 hC mlk_X9_158 hst_X9_158 LM_0 [.inl x1, .inl x2] rfl rfl (by decide) (by decide) (Nat.le_of_ble_eq_true rfl) dX9_precedes_22 (fun r9 s9 h9 => kX9_isBefore _ _ _ _ _ h9) (fun r5 st6 => ?_)
      refine ax_if_eq hC dX9_precedes_25 (tgt := 32) (by decide) (fun _ => ?_) (fun _ => ?_)
      · refine ax_iconst hC dX9_precedes_32 (v := 0) (by decide) ?_
        refine ax_sub (lv' := [none, none, none]) (ax_leN (ax_leN (ax_leN ax_le0))) ?_
        exact kX9_precedes_b33 hC _ _
      · refine ax_iconst hC dX9_precedes_28 (v := 1) (by decide) ?_
        refine ax_goto hC dX9_precedes_29 (tgt := 33) (by decide) ?_
        refine ax_sub (lv' := [none, none, none]) (ax_leN (ax_leN (ax_leN ax_le0))) ?_
        exact kX9_precedes_b33 hC _ _
set_option maxRecDepth 100000 in
theorem kX9_maxPending_b43 {C : ax_C} {X : ax_X} (hC : ax_ok C X LM cX9_maxPending RX9 4 (some .int) 1) {rec6 : Int32 → Int32 → Int32 → ax_S → ax_R} (hrec6 : ∀ (x1 : Int32) (x2 : Int32) (x3 : Int32) (st : ax_S), AW C X LM 4 1 (rec6 x1 x2 x3 st) 6 [some (.inr 0), some (.inl x1), some (.inl x2), some (.inl x3)] [] st) (x2 : Int32) (x3 : Int32) (s0 : Int32) (s1 : Int32) (st : ax_S) : AW C X LM 4 1 (fX9_maxPending_b43 rec6 x2 x3 s0 s1 st) 43 [some (.inr 0), none, some (.inl x2), some (.inl x3)] [.inl s0, .inl s1] st := by
  unfold fX9_maxPending_b43
  refine ax_iadd hC dX9_maxPending_43 ?_
  refine ax_istoren hC dX9_maxPending_44 rfl (by decide) (lv' := [some (.inr 0), some (.inl (s1 + s0)), some (.inl x2), some (.inl x3)]) rfl ?_
  refine ax_iloadn hC dX9_maxPending_45 rfl rfl ?_
  refine ax_iloadn hC dX9_maxPending_46 rfl rfl ?_
  refine ax_mmax hC mx_X9_161 (by decide) (Nat.le_of_ble_eq_true rfl) dX9_maxPending_47 ?_
  refine ax_istoren hC dX9_maxPending_50 rfl (by decide) (lv' := [some (.inr 0), some (.inl (s1 + s0)), some (.inl (ax_mx x2 (s1 + s0))), some (.inl x3)]) rfl ?_
  refine ax_iinc hC dX9_maxPending_51 rfl (v := (x3 + (1 : Int32))) rfl (by decide) (lv' := [some (.inr 0), some (.inl (s1 + s0)), some (.inl (ax_mx x2 (s1 + s0))), some (.inl (x3 + (1 : Int32)))]) rfl ?_
  refine ax_goto hC dX9_maxPending_54 (tgt := 6) (by decide) ?_
  exact hrec6 _ _ _ _
set_option maxRecDepth 100000 in
theorem kX9_maxPending_L6 {C : ax_C} {X : ax_X} (hC : ax_ok C X LM cX9_maxPending RX9 4 (some .int) 1) : ∀ (n : Nat) (x1 : Int32) (x2 : Int32) (x3 : Int32) (st : ax_S), AW C X LM 4 1 (fX9_maxPending_L6 n x1 x2 x3 st) 6 [some (.inr 0), some (.inl x1), some (.inl x2), some (.inl x3)] [] st := by
  intro n
  induction n with
  | zero => intros; exact ax_none rfl
  | succ n hrec60 =>
    intro x1 x2 x3 st
    have hrec6 := hrec60
    rw [fX9_maxPending_L6.eq_2]
    refine ax_iloadn hC dX9_maxPending_6 rfl rfl ?_
    refine ax_aloadn hC dX9_maxPending_7 rfl rfl ?_
    refine ax_lkI hC lk_X9_104 LM_0 rfl dX9_maxPending_8 ?_
    refine ax_icmp_ge hC dX9_maxPending_11 (tgt := 57) (by decide) (fun _ => ?_) (fun _ => ?_)
    · refine ax_iloadn hC dX9_maxPending_57 rfl rfl ?_
      exact ax_iret hC dX9_maxPending_58
    · refine ax_iloadn hC dX9_maxPending_14 rfl rfl ?_
      refine ax_aloadn hC dX9_maxPending_15 rfl rfl ?_
      refine ax_lkR hC lk_X9_40 LM_0 rfl dX9_maxPending_16 ?_
      refine ax_iloadn hC dX9_maxPending_19 rfl rfl ?_
      refine ax_iald hC LM_11 dX9_maxPending_20 (fun v1 => ?_)
      refine ax_if_ne hC dX9_maxPending_21 (tgt := 28) (by decide) (fun _ => ?_) (fun _ => ?_)
      · refine ax_iconst hC dX9_maxPending_24 (v := 1) (by decide) ?_
        refine ax_goto hC dX9_maxPending_25 (tgt := 43) (by decide) ?_
        refine ax_sub (lv' := [some (.inr 0), none, some (.inl x2), some (.inl x3)]) (ax_leS (ax_leN (ax_leS (ax_leS ax_le0)))) ?_
        exact kX9_maxPending_b43 hC hrec6 _ _ _ _ _
      · refine ax_aloadn hC dX9_maxPending_28 rfl rfl ?_
        refine ax_lkR hC lk_X9_40 LM_0 rfl dX9_maxPending_29 ?_
        refine ax_iloadn hC dX9_maxPending_32 rfl rfl ?_
        refine ax_iald hC LM_11 dX9_maxPending_33 (fun v2 => ?_)
        refine ax_iconst hC dX9_maxPending_34 (v := 1) (by decide) ?_
        refine ax_icmp_ne hC dX9_maxPending_35 (tgt := 42) (by decide) (fun _ => ?_) (fun _ => ?_)
        · refine ax_iconst hC dX9_maxPending_38 (v := -1) (by decide) ?_
          refine ax_goto hC dX9_maxPending_39 (tgt := 43) (by decide) ?_
          refine ax_sub (lv' := [some (.inr 0), none, some (.inl x2), some (.inl x3)]) (ax_leS (ax_leN (ax_leS (ax_leS ax_le0)))) ?_
          exact kX9_maxPending_b43 hC hrec6 _ _ _ _ _
        · refine ax_iconst hC dX9_maxPending_42 (v := 0) (by decide) ?_
          refine ax_sub (lv' := [some (.inr 0), none, some (.inl x2), some (.inl x3)]) (ax_leS (ax_leN (ax_leS (ax_leS ax_le0)))) ?_
          exact kX9_maxPending_b43 hC hrec6 _ _ _ _ _
set_option maxRecDepth 100000 in
theorem kX9_maxPending (st : ax_S) (r : Int32) (stz : ax_S) (h : fX9_maxPending st = some (r, stz)) : ax_M LM yX9_maxPending cX9_maxPending 4 (some .int) 1 [.inr 0] st 1 r stz := by
  refine ax_start (by decide) (Nat.le_of_ble_eq_true rfl) (lv0 := [some (.inr 0), none, none, none]) rfl (fun C X hC => ?_)
  rw [← h]
  unfold fX9_maxPending
  refine ax_iconst hC dX9_maxPending_0 (v := 0) (by decide) ?_
  refine ax_istoren hC dX9_maxPending_1 rfl (by decide) (lv' := [some (.inr 0), some (.inl (0 : Int32)), none, none]) rfl ?_
  refine ax_iconst hC dX9_maxPending_2 (v := 0) (by decide) ?_
  refine ax_istoren hC dX9_maxPending_3 rfl (by decide) (lv' := [some (.inr 0), some (.inl (0 : Int32)), some (.inl (0 : Int32)), none]) rfl ?_
  refine ax_iconst hC dX9_maxPending_4 (v := 0) (by decide) ?_
  refine ax_istoren hC dX9_maxPending_5 rfl (by decide) (lv' := [some (.inr 0), some (.inl (0 : Int32)), some (.inl (0 : Int32)), some (.inl (0 : Int32))]) rfl ?_
  exact kX9_maxPending_L6 hC 4000 _ _ _ _
set_option maxRecDepth 100000 in
theorem kX9_longestChain_b58 {C : ax_C} {X : ax_X} (hC : ax_ok C X LM cX9_longestChain RX9 4 (some .int) 2) {rec4 : Int32 → Int32 → ax_S → ax_R} {rec21 : Int32 → Int32 → Int32 → ax_S → ax_R} (hrec4 : ∀ (x1 : Int32) (x2 : Int32) (st : ax_S), AW C X LM 4 1 (rec4 x1 x2 st) 4 [some (.inr 0), some (.inl x1), some (.inl x2), none] [] st) (hrec21 : ∀ (x1 : Int32) (x2 : Int32) (x3 : Int32) (st : ax_S), AW C X LM 4 1 (rec21 x1 x2 x3 st) 21 [some (.inr 0), some (.inl x1), some (.inl x2), some (.inl x3)] [] st) (x1 : Int32) (x2 : Int32) (x3 : Int32) (st : ax_S) : AW C X LM 4 1 (fX9_longestChain_b58 rec4 rec21 x1 x2 x3 st) 58 [some (.inr 0), some (.inl x1), some (.inl x2), some (.inl x3)] [] st := by
  unfold fX9_longestChain_b58
  refine ax_iinc hC dX9_longestChain_58 rfl (v := (x3 + (1 : Int32))) rfl (by decide) (lv' := [some (.inr 0), some (.inl x1), some (.inl x2), some (.inl (x3 + (1 : Int32)))]) rfl ?_
  refine ax_goto hC dX9_longestChain_61 (tgt := 21) (by decide) ?_
  exact hrec21 _ _ _ _
set_option maxRecDepth 100000 in
theorem kX9_longestChain_L21 {C : ax_C} {X : ax_X} (hC : ax_ok C X LM cX9_longestChain RX9 4 (some .int) 2) {rec4 : Int32 → Int32 → ax_S → ax_R} (hrec4 : ∀ (x1 : Int32) (x2 : Int32) (st : ax_S), AW C X LM 4 1 (rec4 x1 x2 st) 4 [some (.inr 0), some (.inl x1), some (.inl x2), none] [] st) : ∀ (n : Nat) (x1 : Int32) (x2 : Int32) (x3 : Int32) (st : ax_S), AW C X LM 4 1 (fX9_longestChain_L21 rec4 n x1 x2 x3 st) 21 [some (.inr 0), some (.inl x1), some (.inl x2), some (.inl x3)] [] st := by
  intro n
  induction n with
  | zero => intros; exact ax_none rfl
  | succ n hrec210 =>
    intro x1 x2 x3 st
    have hrec21 := hrec210
    rw [fX9_longestChain_L21.eq_2]
    refine ax_iloadn hC dX9_longestChain_21 rfl rfl ?_
    refine ax_iloadn hC dX9_longestChain_22 rfl rfl ?_
    refine ax_icmp_ge hC dX9_longestChain_23 (tgt := 64) (by decide) (fun _ => ?_) (fun _ => ?_)
    · refine ax_iloadn hC dX9_longestChain_64 rfl rfl ?_
      refine ax_aloadn hC dX9_longestChain_65 rfl rfl ?_
      refine ax_lkR hC lk_X9_52 LM_0 rfl dX9_longestChain_66 ?_
      refine ax_iloadn hC dX9_longestChain_69 rfl rfl ?_
      refine ax_iald hC LM_15 dX9_longestChain_70 (fun v2 => ?_)
      refine ax_mmax hC mx_X9_161 (by decide) (Nat.le_of_ble_eq_true rfl) dX9_longestChain_71 ?_
      refine ax_istoren hC dX9_longestChain_74 rfl (by decide) (lv' := [some (.inr 0), some (.inl (ax_mx x1 v2)), some (.inl x2), some (.inl x3)]) rfl ?_
      refine ax_iinc hC dX9_longestChain_75 rfl (v := (x2 + (1 : Int32))) rfl (by decide) (lv' := [some (.inr 0), some (.inl (ax_mx x1 v2)), some (.inl (x2 + (1 : Int32))), some (.inl x3)]) rfl ?_
      refine ax_goto hC dX9_longestChain_78 (tgt := 4) (by decide) ?_
      refine ax_sub (lv' := [some (.inr 0), some (.inl (ax_mx x1 v2)), some (.inl (x2 + (1 : Int32))), none]) (ax_leS (ax_leS (ax_leS (ax_leN ax_le0)))) ?_
      exact hrec4 _ _ _
    · refine ax_aloadn hC dX9_longestChain_26 rfl rfl ?_
      refine ax_iloadn hC dX9_longestChain_27 rfl rfl ?_
      refine ax_iloadn hC dX9_longestChain_28 rfl rfl ?_
      refine ax_callV1 hC mlk_X9_158 hst_X9_158 LM_0 [.inl x3, .inl x2] rfl rfl (by decide) (by decide) (Nat.le_of_ble_eq_true rfl) dX9_longestChain_29 (fun r9 s9 h9 => kX9_isBefore _ _ _ _ _ h9) (fun r3 st4 => ?_)
      refine ax_if_eq hC dX9_longestChain_32 (tgt := 58) (by decide) (fun _ => ?_) (fun _ => ?_)
      · exact kX9_longestChain_b58 hC hrec4 hrec21 _ _ _ _
      · refine ax_aloadn hC dX9_longestChain_35 rfl rfl ?_
        refine ax_lkR hC lk_X9_52 LM_0 rfl dX9_longestChain_36 ?_
        refine ax_iloadn hC dX9_longestChain_39 rfl rfl ?_
        refine ax_aloadn hC dX9_longestChain_40 rfl rfl ?_
        refine ax_lkR hC lk_X9_52 LM_0 rfl dX9_longestChain_41 ?_
        refine ax_iloadn hC dX9_longestChain_44 rfl rfl ?_
        refine ax_iald hC LM_15 dX9_longestChain_45 (fun v5 => ?_)
        refine ax_aloadn hC dX9_longestChain_46 rfl rfl ?_
        refine ax_lkR hC lk_X9_52 LM_0 rfl dX9_longestChain_47 ?_
        refine ax_iloadn hC dX9_longestChain_50 rfl rfl ?_
        refine ax_iald hC LM_15 dX9_longestChain_51 (fun v6 => ?_)
        refine ax_iconst hC dX9_longestChain_52 (v := 1) (by decide) ?_
        refine ax_iadd hC dX9_longestChain_53 ?_
        refine ax_mmax hC mx_X9_161 (by decide) (Nat.le_of_ble_eq_true rfl) dX9_longestChain_54 ?_
        refine ax_iast hC LM_15 dX9_longestChain_57 (fun st7 => ?_)
        exact kX9_longestChain_b58 hC hrec4 hrec21 _ _ _ _
set_option maxRecDepth 100000 in
theorem kX9_longestChain_L4 {C : ax_C} {X : ax_X} (hC : ax_ok C X LM cX9_longestChain RX9 4 (some .int) 2) : ∀ (n : Nat) (x1 : Int32) (x2 : Int32) (st : ax_S), AW C X LM 4 1 (fX9_longestChain_L4 n x1 x2 st) 4 [some (.inr 0), some (.inl x1), some (.inl x2), none] [] st := by
  intro n
  induction n with
  | zero => intros; exact ax_none rfl
  | succ n hrec40 =>
    intro x1 x2 st
    have hrec4 := hrec40
    rw [fX9_longestChain_L4.eq_2]
    refine ax_iloadn hC dX9_longestChain_4 rfl rfl ?_
    refine ax_aloadn hC dX9_longestChain_5 rfl rfl ?_
    refine ax_lkI hC lk_X9_101 LM_0 rfl dX9_longestChain_6 ?_
    refine ax_icmp_ge hC dX9_longestChain_9 (tgt := 81) (by decide) (fun _ => ?_) (fun _ => ?_)
    · refine ax_iloadn hC dX9_longestChain_81 rfl rfl ?_
      exact ax_iret hC dX9_longestChain_82
    · refine ax_aloadn hC dX9_longestChain_12 rfl rfl ?_
      refine ax_lkR hC lk_X9_52 LM_0 rfl dX9_longestChain_13 ?_
      refine ax_iloadn hC dX9_longestChain_16 rfl rfl ?_
      refine ax_iconst hC dX9_longestChain_17 (v := 1) (by decide) ?_
      refine ax_iast hC LM_15 dX9_longestChain_18 (fun st1 => ?_)
      refine ax_iconst hC dX9_longestChain_19 (v := 0) (by decide) ?_
      refine ax_istoren hC dX9_longestChain_20 rfl (by decide) (lv' := [some (.inr 0), some (.inl x1), some (.inl x2), some (.inl (0 : Int32))]) rfl ?_
      exact kX9_longestChain_L21 hC hrec4 4000 _ _ _ _
set_option maxRecDepth 100000 in
theorem kX9_longestChain (st : ax_S) (r : Int32) (stz : ax_S) (h : fX9_longestChain st = some (r, stz)) : ax_M LM yX9_longestChain cX9_longestChain 4 (some .int) 2 [.inr 0] st 1 r stz := by
  refine ax_start (by decide) (Nat.le_of_ble_eq_true rfl) (lv0 := [some (.inr 0), none, none, none]) rfl (fun C X hC => ?_)
  rw [← h]
  unfold fX9_longestChain
  refine ax_iconst hC dX9_longestChain_0 (v := 0) (by decide) ?_
  refine ax_istoren hC dX9_longestChain_1 rfl (by decide) (lv' := [some (.inr 0), some (.inl (0 : Int32)), none, none]) rfl ?_
  refine ax_iconst hC dX9_longestChain_2 (v := 0) (by decide) ?_
  refine ax_istoren hC dX9_longestChain_3 rfl (by decide) (lv' := [some (.inr 0), some (.inl (0 : Int32)), some (.inl (0 : Int32)), none]) rfl ?_
  exact kX9_longestChain_L4 hC 4000 _ _ _
set_option maxRecDepth 100000 in
theorem kX9_start_L41 {C : ax_C} {X : ax_X} (hC : ax_ok C X LM cX9_start RX9 2 none 1) : ∀ (n : Nat) (x1 : Int32) (st : ax_S), AW C X LM 2 0 (fX9_start_L41 n x1 st) 41 [some (.inr 0), some (.inl x1)] [] st := by
  intro n
  induction n with
  | zero => intros; exact ax_none rfl
  | succ n hrec410 =>
    intro x1 st
    have hrec41 := hrec410
    rw [fX9_start_L41.eq_2]
    refine ax_iloadn hC dX9_start_41 rfl rfl ?_
    refine ax_sipush hC dX9_start_42 (v := 400) (by decide) ?_
    refine ax_icmp_ge hC dX9_start_45 (tgt := 61) (by decide) (fun _ => ?_) (fun _ => ?_)
    · exact ax_vret hC dX9_start_61
    · refine ax_aloadn hC dX9_start_48 rfl rfl ?_
      refine ax_lkR hC lk_X9_67 LM_0 rfl dX9_start_49 ?_
      refine ax_iloadn hC dX9_start_52 rfl rfl ?_
      refine ax_iconst hC dX9_start_53 (v := 0) (by decide) ?_
      refine ax_zast hC LM_20 dX9_start_54 (fun st5 => ?_)
      refine ax_iinc hC dX9_start_55 rfl (v := (x1 + (1 : Int32))) rfl (by decide) (lv' := [some (.inr 0), some (.inl (x1 + (1 : Int32)))]) rfl ?_
      refine ax_goto hC dX9_start_58 (tgt := 41) (by decide) ?_
      exact hrec41 _ _
set_option maxRecDepth 100000 in
theorem kX9_start_L2 {C : ax_C} {X : ax_X} (hC : ax_ok C X LM cX9_start RX9 2 none 1) : ∀ (n : Nat) (x1 : Int32) (st : ax_S), AW C X LM 2 0 (fX9_start_L2 n x1 st) 2 [some (.inr 0), some (.inl x1)] [] st := by
  intro n
  induction n with
  | zero => intros; exact ax_none rfl
  | succ n hrec20 =>
    intro x1 st
    have hrec2 := hrec20
    rw [fX9_start_L2.eq_2]
    refine ax_iloadn hC dX9_start_2 rfl rfl ?_
    refine ax_iconst hC dX9_start_3 (v := 4) (by decide) ?_
    refine ax_icmp_ge hC dX9_start_4 (tgt := 39) (by decide) (fun _ => ?_) (fun _ => ?_)
    · refine ax_iconst hC dX9_start_39 (v := 0) (by decide) ?_
      refine ax_istoren hC dX9_start_40 rfl (by decide) (lv' := [some (.inr 0), some (.inl (0 : Int32))]) rfl ?_
      exact kX9_start_L41 hC 4000 _ _
    · refine ax_aloadn hC dX9_start_7 rfl rfl ?_
      refine ax_lkR hC lk_X9_55 LM_0 rfl dX9_start_8 ?_
      refine ax_iloadn hC dX9_start_11 rfl rfl ?_
      refine ax_aloadn hC dX9_start_12 rfl rfl ?_
      refine ax_lkR hC lk_X9_13 LM_0 rfl dX9_start_13 ?_
      refine ax_iloadn hC dX9_start_16 rfl rfl ?_
      refine ax_iald hC LM_2 dX9_start_17 (fun v1 => ?_)
      refine ax_iast hC LM_16 dX9_start_18 (fun st2 => ?_)
      refine ax_aloadn hC dX9_start_19 rfl rfl ?_
      refine ax_lkR hC lk_X9_61 LM_0 rfl dX9_start_20 ?_
      refine ax_iloadn hC dX9_start_23 rfl rfl ?_
      refine ax_iconst hC dX9_start_24 (v := 0) (by decide) ?_
      refine ax_iast hC LM_18 dX9_start_25 (fun st3 => ?_)
      refine ax_aloadn hC dX9_start_26 rfl rfl ?_
      refine ax_lkR hC lk_X9_64 LM_0 rfl dX9_start_27 ?_
      refine ax_iloadn hC dX9_start_30 rfl rfl ?_
      refine ax_iconst hC dX9_start_31 (v := 0) (by decide) ?_
      refine ax_iast hC LM_19 dX9_start_32 (fun st4 => ?_)
      refine ax_iinc hC dX9_start_33 rfl (v := (x1 + (1 : Int32))) rfl (by decide) (lv' := [some (.inr 0), some (.inl (x1 + (1 : Int32)))]) rfl ?_
      refine ax_goto hC dX9_start_36 (tgt := 2) (by decide) ?_
      exact hrec2 _ _
set_option maxRecDepth 100000 in
theorem kX9_start (st : ax_S) (r : Int32) (stz : ax_S) (h : fX9_start st = some (r, stz)) : ax_M LM yX9_start cX9_start 2 none 1 [.inr 0] st 0 r stz := by
  refine ax_start (by decide) (Nat.le_of_ble_eq_true rfl) (lv0 := [some (.inr 0), none]) rfl (fun C X hC => ?_)
  rw [← h]
  unfold fX9_start
  refine ax_iconst hC dX9_start_0 (v := 0) (by decide) ?_
  refine ax_istoren hC dX9_start_1 rfl (by decide) (lv' := [some (.inr 0), some (.inl (0 : Int32))]) rfl ?_
  exact kX9_start_L2 hC 4000 _ _
set_option maxRecDepth 100000 in
theorem kX9_isThere_b40 {C : ax_C} {X : ax_X} (hC : ax_ok C X LM cX9_isThere RX9 2 (some .boolean) 1) (s0 : Int32) (st : ax_S) : AW C X LM 2 1 (fX9_isThere_b40 s0 st) 40 [none, none] [.inl s0] st := by
  unfold fX9_isThere_b40
  exact ax_zret hC dX9_isThere_40
set_option maxRecDepth 100000 in
theorem kX9_isThere_b39 {C : ax_C} {X : ax_X} (hC : ax_ok C X LM cX9_isThere RX9 2 (some .boolean) 1) (st : ax_S) : AW C X LM 2 1 (fX9_isThere_b39 st) 39 [none, none] [] st := by
  unfold fX9_isThere_b39
  refine ax_iconst hC dX9_isThere_39 (v := 0) (by decide) ?_
  exact kX9_isThere_b40 hC _ _
set_option maxRecDepth 100000 in
theorem kX9_isThere_b35 {C : ax_C} {X : ax_X} (hC : ax_ok C X LM cX9_isThere RX9 2 (some .boolean) 1) (st : ax_S) : AW C X LM 2 1 (fX9_isThere_b35 st) 35 [none, none] [] st := by
  unfold fX9_isThere_b35
  refine ax_iconst hC dX9_isThere_35 (v := 1) (by decide) ?_
  refine ax_goto hC dX9_isThere_36 (tgt := 40) (by decide) ?_
  exact kX9_isThere_b40 hC _ _
set_option maxRecDepth 100000 in
theorem kX9_isThere (x1 : Int32) (st : ax_S) (r : Int32) (stz : ax_S) (h : fX9_isThere x1 st = some (r, stz)) : ax_M LM yX9_isThere cX9_isThere 2 (some .boolean) 1 [.inr 0, .inl x1] st 1 r stz := by
  refine ax_start (by decide) (Nat.le_of_ble_eq_true rfl) (lv0 := [some (.inr 0), some (.inl x1)]) rfl (fun C X hC => ?_)
  rw [← h]
  unfold fX9_isThere
  refine ax_aloadn hC dX9_isThere_0 rfl rfl ?_
  refine ax_lkR hC lk_X9_31 LM_0 rfl dX9_isThere_1 ?_
  refine ax_iloadn hC dX9_isThere_4 rfl rfl ?_
  refine ax_iald hC LM_8 dX9_isThere_5 (fun v1 => ?_)
  refine ax_aloadn hC dX9_isThere_6 rfl rfl ?_
  refine ax_lkI hC lk_X9_166 LM_0 rfl dX9_isThere_7 ?_
  refine ax_icmp_ge hC dX9_isThere_10 (tgt := 39) (by decide) (fun _ => ?_) (fun _ => ?_)
  · refine ax_sub (lv' := [none, none]) (ax_leN (ax_leN ax_le0)) ?_
    exact kX9_isThere_b39 hC _
  · refine ax_aloadn hC dX9_isThere_13 rfl rfl ?_
    refine ax_lkI hC lk_X9_169 LM_0 rfl dX9_isThere_14 ?_
    refine ax_bipush hC dX9_isThere_17 (v := -10) (by decide) ?_
    refine ax_icmp_eq hC dX9_isThere_19 (tgt := 35) (by decide) (fun _ => ?_) (fun _ => ?_)
    · refine ax_sub (lv' := [none, none]) (ax_leN (ax_leN ax_le0)) ?_
      exact kX9_isThere_b35 hC _
    · refine ax_aloadn hC dX9_isThere_22 rfl rfl ?_
      refine ax_lkR hC lk_X9_22 LM_0 rfl dX9_isThere_23 ?_
      refine ax_iloadn hC dX9_isThere_26 rfl rfl ?_
      refine ax_iald hC LM_5 dX9_isThere_27 (fun v2 => ?_)
      refine ax_aloadn hC dX9_isThere_28 rfl rfl ?_
      refine ax_lkI hC lk_X9_169 LM_0 rfl dX9_isThere_29 ?_
      refine ax_icmp_ne hC dX9_isThere_32 (tgt := 39) (by decide) (fun _ => ?_) (fun _ => ?_)
      · refine ax_sub (lv' := [none, none]) (ax_leN (ax_leN ax_le0)) ?_
        exact kX9_isThere_b35 hC _
      · refine ax_sub (lv' := [none, none]) (ax_leN (ax_leN ax_le0)) ?_
        exact kX9_isThere_b39 hC _
set_option maxRecDepth 100000 in
theorem kX9_isComplete_b28 {C : ax_C} {X : ax_X} (hC : ax_ok C X LM cX9_isComplete RX9 2 (some .boolean) 1) (s0 : Int32) (st : ax_S) : AW C X LM 2 1 (fX9_isComplete_b28 s0 st) 28 [none, none] [.inl s0] st := by
  unfold fX9_isComplete_b28
  exact ax_zret hC dX9_isComplete_28
set_option maxRecDepth 100000 in
theorem kX9_isComplete_b27 {C : ax_C} {X : ax_X} (hC : ax_ok C X LM cX9_isComplete RX9 2 (some .boolean) 1) (st : ax_S) : AW C X LM 2 1 (fX9_isComplete_b27 st) 27 [none, none] [] st := by
  unfold fX9_isComplete_b27
  refine ax_iconst hC dX9_isComplete_27 (v := 0) (by decide) ?_
  exact kX9_isComplete_b28 hC _ _
set_option maxRecDepth 100000 in
theorem kX9_isComplete (x1 : Int32) (st : ax_S) (r : Int32) (stz : ax_S) (h : fX9_isComplete x1 st = some (r, stz)) : ax_M LM yX9_isComplete cX9_isComplete 2 (some .boolean) 1 [.inr 0, .inl x1] st 1 r stz := by
  refine ax_start (by decide) (Nat.le_of_ble_eq_true rfl) (lv0 := [some (.inr 0), some (.inl x1)]) rfl (fun C X hC => ?_)
  rw [← h]
  unfold fX9_isComplete
  refine ax_aloadn hC dX9_isComplete_0 rfl rfl ?_
  refine ax_lkR hC lk_X9_34 LM_0 rfl dX9_isComplete_1 ?_
  refine ax_iloadn hC dX9_isComplete_4 rfl rfl ?_
  refine ax_iald hC LM_9 dX9_isComplete_5 (fun v1 => ?_)
  refine ax_iconst hC dX9_isComplete_6 (v := -1) (by decide) ?_
  refine ax_icmp_eq hC dX9_isComplete_7 (tgt := 27) (by decide) (fun _ => ?_) (fun _ => ?_)
  · refine ax_sub (lv' := [none, none]) (ax_leN (ax_leN ax_le0)) ?_
    exact kX9_isComplete_b27 hC _
  · refine ax_aloadn hC dX9_isComplete_10 rfl rfl ?_
    refine ax_lkR hC lk_X9_34 LM_0 rfl dX9_isComplete_11 ?_
    refine ax_iloadn hC dX9_isComplete_14 rfl rfl ?_
    refine ax_iald hC LM_9 dX9_isComplete_15 (fun v2 => ?_)
    refine ax_aloadn hC dX9_isComplete_16 rfl rfl ?_
    refine ax_lkI hC lk_X9_166 LM_0 rfl dX9_isComplete_17 ?_
    refine ax_icmp_ge hC dX9_isComplete_20 (tgt := 27) (by decide) (fun _ => ?_) (fun _ => ?_)
    · refine ax_sub (lv' := [none, none]) (ax_leN (ax_leN ax_le0)) ?_
      exact kX9_isComplete_b27 hC _
    · refine ax_iconst hC dX9_isComplete_23 (v := 1) (by decide) ?_
      refine ax_goto hC dX9_isComplete_24 (tgt := 28) (by decide) ?_
      refine ax_sub (lv' := [none, none]) (ax_leN (ax_leN ax_le0)) ?_
      exact kX9_isComplete_b28 hC _ _
set_option maxRecDepth 100000 in
theorem kX9_hasAll_b46 {C : ax_C} {X : ax_X} (hC : ax_ok C X LM cX9_hasAll RX9 4 (some .boolean) 2) {rec4 : Int32 → Int32 → Int32 → ax_S → ax_R} (hrec4 : ∀ (x1 : Int32) (x2 : Int32) (x3 : Int32) (st : ax_S), AW C X LM 4 1 (rec4 x1 x2 x3 st) 4 [some (.inr 0), some (.inl x1), some (.inl x2), some (.inl x3)] [] st) (x1 : Int32) (x3 : Int32) (s0 : Int32) (st : ax_S) : AW C X LM 4 1 (fX9_hasAll_b46 rec4 x1 x3 s0 st) 46 [some (.inr 0), some (.inl x1), none, some (.inl x3)] [.inl s0] st := by
  unfold fX9_hasAll_b46
  refine ax_istoren hC dX9_hasAll_46 rfl (by decide) (lv' := [some (.inr 0), some (.inl x1), some (.inl s0), some (.inl x3)]) rfl ?_
  refine ax_iinc hC dX9_hasAll_47 rfl (v := (x3 + (1 : Int32))) rfl (by decide) (lv' := [some (.inr 0), some (.inl x1), some (.inl s0), some (.inl (x3 + (1 : Int32)))]) rfl ?_
  refine ax_goto hC dX9_hasAll_50 (tgt := 4) (by decide) ?_
  exact hrec4 _ _ _ _
set_option maxRecDepth 100000 in
theorem kX9_hasAll_b45 {C : ax_C} {X : ax_X} (hC : ax_ok C X LM cX9_hasAll RX9 4 (some .boolean) 2) {rec4 : Int32 → Int32 → Int32 → ax_S → ax_R} (hrec4 : ∀ (x1 : Int32) (x2 : Int32) (x3 : Int32) (st : ax_S), AW C X LM 4 1 (rec4 x1 x2 x3 st) 4 [some (.inr 0), some (.inl x1), some (.inl x2), some (.inl x3)] [] st) (x1 : Int32) (x3 : Int32) (st : ax_S) : AW C X LM 4 1 (fX9_hasAll_b45 rec4 x1 x3 st) 45 [some (.inr 0), some (.inl x1), none, some (.inl x3)] [] st := by
  unfold fX9_hasAll_b45
  refine ax_iconst hC dX9_hasAll_45 (v := 0) (by decide) ?_
  exact kX9_hasAll_b46 hC hrec4 _ _ _ _
set_option maxRecDepth 100000 in
theorem kX9_hasAll_b41 {C : ax_C} {X : ax_X} (hC : ax_ok C X LM cX9_hasAll RX9 4 (some .boolean) 2) {rec4 : Int32 → Int32 → Int32 → ax_S → ax_R} (hrec4 : ∀ (x1 : Int32) (x2 : Int32) (x3 : Int32) (st : ax_S), AW C X LM 4 1 (rec4 x1 x2 x3 st) 4 [some (.inr 0), some (.inl x1), some (.inl x2), some (.inl x3)] [] st) (x1 : Int32) (x3 : Int32) (st : ax_S) : AW C X LM 4 1 (fX9_hasAll_b41 rec4 x1 x3 st) 41 [some (.inr 0), some (.inl x1), none, some (.inl x3)] [] st := by
  unfold fX9_hasAll_b41
  refine ax_iconst hC dX9_hasAll_41 (v := 1) (by decide) ?_
  refine ax_goto hC dX9_hasAll_42 (tgt := 46) (by decide) ?_
  exact kX9_hasAll_b46 hC hrec4 _ _ _ _
set_option maxRecDepth 100000 in
theorem kX9_hasAll_L4 {C : ax_C} {X : ax_X} (hC : ax_ok C X LM cX9_hasAll RX9 4 (some .boolean) 2) : ∀ (n : Nat) (x1 : Int32) (x2 : Int32) (x3 : Int32) (st : ax_S), AW C X LM 4 1 (fX9_hasAll_L4 n x1 x2 x3 st) 4 [some (.inr 0), some (.inl x1), some (.inl x2), some (.inl x3)] [] st := by
  intro n
  induction n with
  | zero => intros; exact ax_none rfl
  | succ n hrec40 =>
    intro x1 x2 x3 st
    have hrec4 := hrec40
    rw [fX9_hasAll_L4.eq_2]
    refine ax_iloadn hC dX9_hasAll_4 rfl rfl ?_
    refine ax_aloadn hC dX9_hasAll_5 rfl rfl ?_
    refine ax_lkI hC lk_X9_101 LM_0 rfl dX9_hasAll_6 ?_
    refine ax_icmp_ge hC dX9_hasAll_9 (tgt := 53) (by decide) (fun _ => ?_) (fun _ => ?_)
    · refine ax_iloadn hC dX9_hasAll_53 rfl rfl ?_
      exact ax_zret hC dX9_hasAll_54
    · refine ax_iloadn hC dX9_hasAll_12 rfl rfl ?_
      refine ax_if_eq hC dX9_hasAll_13 (tgt := 45) (by decide) (fun _ => ?_) (fun _ => ?_)
      · refine ax_sub (lv' := [some (.inr 0), some (.inl x1), none, some (.inl x3)]) (ax_leS (ax_leS (ax_leN (ax_leS ax_le0)))) ?_
        exact kX9_hasAll_b45 hC hrec4 _ _ _
      · refine ax_aloadn hC dX9_hasAll_16 rfl rfl ?_
        refine ax_iloadn hC dX9_hasAll_17 rfl rfl ?_
        refine ax_callV1 hC mlk_X9_176 hst_X9_176 LM_0 [.inl x3] rfl rfl (by decide) (by decide) (Nat.le_of_ble_eq_true rfl) dX9_hasAll_18 (fun r9 s9 h9 => kX9_isThere _ _ _ _ h9) (fun r1 st2 => ?_)
        refine ax_if_eq hC dX9_hasAll_21 (tgt := 41) (by decide) (fun _ => ?_) (fun _ => ?_)
        · refine ax_sub (lv' := [some (.inr 0), some (.inl x1), none, some (.inl x3)]) (ax_leS (ax_leS (ax_leN (ax_leS ax_le0)))) ?_
          exact kX9_hasAll_b41 hC hrec4 _ _ _
        · refine ax_aloadn hC dX9_hasAll_24 rfl rfl ?_
          refine ax_iloadn hC dX9_hasAll_25 rfl rfl ?_
          refine ax_callV1 hC mlk_X9_179 hst_X9_179 LM_0 [.inl x3] rfl rfl (by decide) (by decide) (Nat.le_of_ble_eq_true rfl) dX9_hasAll_26 (fun r9 s9 h9 => kX9_isComplete _ _ _ _ h9) (fun r3 st4 => ?_)
          refine ax_if_eq hC dX9_hasAll_29 (tgt := 41) (by decide) (fun _ => ?_) (fun _ => ?_)
          · refine ax_sub (lv' := [some (.inr 0), some (.inl x1), none, some (.inl x3)]) (ax_leS (ax_leS (ax_leN (ax_leS ax_le0)))) ?_
            exact kX9_hasAll_b41 hC hrec4 _ _ _
          · refine ax_iloadn hC dX9_hasAll_32 rfl rfl ?_
            refine ax_iloadn hC dX9_hasAll_33 rfl rfl ?_
            refine ax_ishr hC dX9_hasAll_34 ?_
            refine ax_iconst hC dX9_hasAll_35 (v := 1) (by decide) ?_
            refine ax_iand hC dX9_hasAll_36 ?_
            refine ax_iconst hC dX9_hasAll_37 (v := 1) (by decide) ?_
            refine ax_icmp_ne hC dX9_hasAll_38 (tgt := 45) (by decide) (fun _ => ?_) (fun _ => ?_)
            · refine ax_sub (lv' := [some (.inr 0), some (.inl x1), none, some (.inl x3)]) (ax_leS (ax_leS (ax_leN (ax_leS ax_le0)))) ?_
              exact kX9_hasAll_b41 hC hrec4 _ _ _
            · refine ax_sub (lv' := [some (.inr 0), some (.inl x1), none, some (.inl x3)]) (ax_leS (ax_leS (ax_leN (ax_leS ax_le0)))) ?_
              exact kX9_hasAll_b45 hC hrec4 _ _ _
set_option maxRecDepth 100000 in
theorem kX9_hasAll (x1 : Int32) (st : ax_S) (r : Int32) (stz : ax_S) (h : fX9_hasAll x1 st = some (r, stz)) : ax_M LM yX9_hasAll cX9_hasAll 4 (some .boolean) 2 [.inr 0, .inl x1] st 1 r stz := by
  refine ax_start (by decide) (Nat.le_of_ble_eq_true rfl) (lv0 := [some (.inr 0), some (.inl x1), none, none]) rfl (fun C X hC => ?_)
  rw [← h]
  unfold fX9_hasAll
  refine ax_iconst hC dX9_hasAll_0 (v := 1) (by decide) ?_
  refine ax_istoren hC dX9_hasAll_1 rfl (by decide) (lv' := [some (.inr 0), some (.inl x1), some (.inl (1 : Int32)), none]) rfl ?_
  refine ax_iconst hC dX9_hasAll_2 (v := 0) (by decide) ?_
  refine ax_istoren hC dX9_hasAll_3 rfl (by decide) (lv' := [some (.inr 0), some (.inl x1), some (.inl (1 : Int32)), some (.inl (0 : Int32))]) rfl ?_
  exact kX9_hasAll_L4 hC 4000 _ _ _ _
set_option maxRecDepth 100000 in
theorem kX9_finds_b83 {C : ax_C} {X : ax_X} (hC : ax_ok C X LM cX9_finds RX9 5 none 1) (st : ax_S) : AW C X LM 5 0 (fX9_finds_b83 st) 83 [none, none, none, none, none] [] st := by
  unfold fX9_finds_b83
  exact ax_vret hC dX9_finds_83
set_option maxRecDepth 100000 in
theorem kX9_finds_b41 {C : ax_C} {X : ax_X} (hC : ax_ok C X LM cX9_finds RX9 5 none 1) (x1 : Int32) (x3 : Int32) (st : ax_S) : AW C X LM 5 0 (fX9_finds_b41 x1 x3 st) 41 [some (.inr 0), some (.inl x1), none, some (.inl x3), none] [] st := by
  unfold fX9_finds_b41
  refine ax_aloadn hC dX9_finds_41 rfl rfl ?_
  refine ax_dup hC dX9_finds_42 ?_
  refine ax_lkI hC lk_X9_182 LM_0 rfl dX9_finds_43 ?_
  refine ax_iconst hC dX9_finds_46 (v := 1) (by decide) ?_
  refine ax_iadd hC dX9_finds_47 ?_
  refine ax_putI hC lp_X9_182 LM_0 rfl dX9_finds_48 (fun st4 => ?_)
  refine ax_aloadn hC dX9_finds_51 rfl rfl ?_
  refine ax_lkI hC lk_X9_188 LM_0 rfl dX9_finds_52 ?_
  refine ax_bipush hC dX9_finds_55 (v := -10) (by decide) ?_
  refine ax_icmp_eq hC dX9_finds_57 (tgt := 83) (by decide) (fun _ => ?_) (fun _ => ?_)
  · refine ax_sub (lv' := [none, none, none, none, none]) (ax_leN (ax_leN (ax_leN (ax_leN (ax_leN ax_le0))))) ?_
    exact kX9_finds_b83 hC _
  · refine ax_iloadn hC dX9_finds_60 rfl rfl ?_
    refine ax_aloadn hC dX9_finds_61 rfl rfl ?_
    refine ax_lkI hC lk_X9_188 LM_0 rfl dX9_finds_62 ?_
    refine ax_ishr hC dX9_finds_65 ?_
    refine ax_iconst hC dX9_finds_66 (v := 1) (by decide) ?_
    refine ax_iand hC dX9_finds_67 ?_
    refine ax_iconst hC dX9_finds_68 (v := 1) (by decide) ?_
    refine ax_icmp_ne hC dX9_finds_69 (tgt := 83) (by decide) (fun _ => ?_) (fun _ => ?_)
    · refine ax_aloadn hC dX9_finds_72 rfl rfl ?_
      refine ax_lkR hC lk_X9_77 LM_0 rfl dX9_finds_73 ?_
      refine ax_iloadn hC dX9_finds_76 rfl rfl ?_
      refine ax_sipush hC dX9_finds_77 (v := 1100) (by decide) ?_
      refine ax_iadd hC dX9_finds_80 ?_
      refine ax_iconst hC dX9_finds_81 (v := 1) (by decide) ?_
      refine ax_zast hC LM_23 dX9_finds_82 (fun st5 => ?_)
      refine ax_sub (lv' := [none, none, none, none, none]) (ax_leN (ax_leN (ax_leN (ax_leN (ax_leN ax_le0))))) ?_
      exact kX9_finds_b83 hC _
    · refine ax_sub (lv' := [none, none, none, none, none]) (ax_leN (ax_leN (ax_leN (ax_leN (ax_leN ax_le0))))) ?_
      exact kX9_finds_b83 hC _
set_option maxRecDepth 100000 in
theorem kX9_finds_L15 {C : ax_C} {X : ax_X} (hC : ax_ok C X LM cX9_finds RX9 5 none 1) : ∀ (n : Nat) (x1 : Int32) (x2 : Int32) (x3 : Int32) (x4 : Int32) (st : ax_S), AW C X LM 5 0 (fX9_finds_L15 n x1 x2 x3 x4 st) 15 [some (.inr 0), some (.inl x1), some (.inl x2), some (.inl x3), some (.inl x4)] [] st := by
  intro n
  induction n with
  | zero => intros; exact ax_none rfl
  | succ n hrec150 =>
    intro x1 x2 x3 x4 st
    have hrec15 := hrec150
    rw [fX9_finds_L15.eq_2]
    refine ax_iload hC dX9_finds_15 rfl ?_
    refine ax_iloadn hC dX9_finds_17 rfl rfl ?_
    refine ax_icmp_ge hC dX9_finds_18 (tgt := 41) (by decide) (fun _ => ?_) (fun _ => ?_)
    · refine ax_sub (lv' := [some (.inr 0), some (.inl x1), none, some (.inl x3), none]) (ax_leS (ax_leS (ax_leN (ax_leS (ax_leN ax_le0))))) ?_
      exact kX9_finds_b41 hC _ _ _
    · refine ax_aloadn hC dX9_finds_21 rfl rfl ?_
      refine ax_lkR hC lk_X9_74 LM_0 rfl dX9_finds_22 ?_
      refine ax_iload hC dX9_finds_25 rfl ?_
      refine ax_aloadn hC dX9_finds_27 rfl rfl ?_
      refine ax_lkR hC lk_X9_71 LM_0 rfl dX9_finds_28 ?_
      refine ax_iload hC dX9_finds_31 rfl ?_
      refine ax_iald hC LM_21 dX9_finds_33 (fun v2 => ?_)
      refine ax_iast hC LM_22 dX9_finds_34 (fun st3 => ?_)
      refine ax_iinc hC dX9_finds_35 rfl (v := (x4 + (1 : Int32))) rfl (by decide) (lv' := [some (.inr 0), some (.inl x1), some (.inl x2), some (.inl x3), some (.inl (x4 + (1 : Int32)))]) rfl ?_
      refine ax_goto hC dX9_finds_38 (tgt := 15) (by decide) ?_
      exact hrec15 _ _ _ _ _
set_option maxRecDepth 100000 in
theorem kX9_finds (x1 : Int32) (x2 : Int32) (x3 : Int32) (st : ax_S) (r : Int32) (stz : ax_S) (h : fX9_finds x1 x2 x3 st = some (r, stz)) : ax_M LM yX9_finds cX9_finds 5 none 1 [.inr 0, .inl x1, .inl x2, .inl x3] st 0 r stz := by
  refine ax_start (by decide) (Nat.le_of_ble_eq_true rfl) (lv0 := [some (.inr 0), some (.inl x1), some (.inl x2), some (.inl x3), none]) rfl (fun C X hC => ?_)
  rw [← h]
  unfold fX9_finds
  refine ax_aloadn hC dX9_finds_0 rfl rfl ?_
  refine ax_lkI hC lk_X9_182 LM_0 rfl dX9_finds_1 ?_
  refine ax_if_ne hC dX9_finds_4 (tgt := 41) (by decide) (fun _ => ?_) (fun _ => ?_)
  · refine ax_aloadn hC dX9_finds_7 rfl rfl ?_
    refine ax_iloadn hC dX9_finds_8 rfl rfl ?_
    refine ax_putI hC lp_X9_185 LM_0 rfl dX9_finds_9 (fun st1 => ?_)
    refine ax_iconst hC dX9_finds_12 (v := 0) (by decide) ?_
    refine ax_istore hC dX9_finds_13 (by decide) (lv' := [some (.inr 0), some (.inl x1), some (.inl x2), some (.inl x3), some (.inl (0 : Int32))]) rfl ?_
    exact kX9_finds_L15 hC 4000 _ _ _ _ _
  · refine ax_sub (lv' := [some (.inr 0), some (.inl x1), none, some (.inl x3), none]) (ax_leS (ax_leS (ax_leN (ax_leS (ax_leN ax_le0))))) ?_
    exact kX9_finds_b41 hC _ _ _
set_option maxRecDepth 100000 in
theorem kX9_isReady_b93 {C : ax_C} {X : ax_X} (hC : ax_ok C X LM cX9_isReady RX9 6 (some .boolean) 2) {rec5 : Int32 → Int32 → Int32 → Int32 → ax_S → ax_R} (hrec5 : ∀ (x1 : Int32) (x2 : Int32) (x3 : Int32) (x4 : Int32) (st : ax_S), AW C X LM 6 1 (rec5 x1 x2 x3 x4 st) 5 [some (.inr 0), some (.inl x1), some (.inl x2), some (.inl x3), some (.inl x4), none] [] st) (x1 : Int32) (x2 : Int32) (x4 : Int32) (s0 : Int32) (st : ax_S) : AW C X LM 6 1 (fX9_isReady_b93 rec5 x1 x2 x4 s0 st) 93 [some (.inr 0), some (.inl x1), some (.inl x2), none, some (.inl x4), none] [.inl s0] st := by
  unfold fX9_isReady_b93
  refine ax_istoren hC dX9_isReady_93 rfl (by decide) (lv' := [some (.inr 0), some (.inl x1), some (.inl x2), some (.inl s0), some (.inl x4), none]) rfl ?_
  refine ax_iinc hC dX9_isReady_94 rfl (v := (x4 + (1 : Int32))) rfl (by decide) (lv' := [some (.inr 0), some (.inl x1), some (.inl x2), some (.inl s0), some (.inl (x4 + (1 : Int32))), none]) rfl ?_
  refine ax_goto hC dX9_isReady_97 (tgt := 5) (by decide) ?_
  exact hrec5 _ _ _ _ _
set_option maxRecDepth 100000 in
theorem kX9_isReady_b92 {C : ax_C} {X : ax_X} (hC : ax_ok C X LM cX9_isReady RX9 6 (some .boolean) 2) {rec5 : Int32 → Int32 → Int32 → Int32 → ax_S → ax_R} (hrec5 : ∀ (x1 : Int32) (x2 : Int32) (x3 : Int32) (x4 : Int32) (st : ax_S), AW C X LM 6 1 (rec5 x1 x2 x3 x4 st) 5 [some (.inr 0), some (.inl x1), some (.inl x2), some (.inl x3), some (.inl x4), none] [] st) (x1 : Int32) (x2 : Int32) (x4 : Int32) (st : ax_S) : AW C X LM 6 1 (fX9_isReady_b92 rec5 x1 x2 x4 st) 92 [some (.inr 0), some (.inl x1), some (.inl x2), none, some (.inl x4), none] [] st := by
  unfold fX9_isReady_b92
  refine ax_iconst hC dX9_isReady_92 (v := 0) (by decide) ?_
  exact kX9_isReady_b93 hC hrec5 _ _ _ _ _
set_option maxRecDepth 100000 in
theorem kX9_isReady_b88 {C : ax_C} {X : ax_X} (hC : ax_ok C X LM cX9_isReady RX9 6 (some .boolean) 2) {rec5 : Int32 → Int32 → Int32 → Int32 → ax_S → ax_R} (hrec5 : ∀ (x1 : Int32) (x2 : Int32) (x3 : Int32) (x4 : Int32) (st : ax_S), AW C X LM 6 1 (rec5 x1 x2 x3 x4 st) 5 [some (.inr 0), some (.inl x1), some (.inl x2), some (.inl x3), some (.inl x4), none] [] st) (x1 : Int32) (x2 : Int32) (x4 : Int32) (st : ax_S) : AW C X LM 6 1 (fX9_isReady_b88 rec5 x1 x2 x4 st) 88 [some (.inr 0), some (.inl x1), some (.inl x2), none, some (.inl x4), none] [] st := by
  unfold fX9_isReady_b88
  refine ax_iconst hC dX9_isReady_88 (v := 1) (by decide) ?_
  refine ax_goto hC dX9_isReady_89 (tgt := 93) (by decide) ?_
  exact kX9_isReady_b93 hC hrec5 _ _ _ _ _
set_option maxRecDepth 100000 in
theorem kX9_isReady_b58 {C : ax_C} {X : ax_X} (hC : ax_ok C X LM cX9_isReady RX9 6 (some .boolean) 2) {rec5 : Int32 → Int32 → Int32 → Int32 → ax_S → ax_R} (hrec5 : ∀ (x1 : Int32) (x2 : Int32) (x3 : Int32) (x4 : Int32) (st : ax_S), AW C X LM 6 1 (rec5 x1 x2 x3 x4 st) 5 [some (.inr 0), some (.inl x1), some (.inl x2), some (.inl x3), some (.inl x4), none] [] st) (x1 : Int32) (x2 : Int32) (x3 : Int32) (x4 : Int32) (s0 : Int32) (st : ax_S) : AW C X LM 6 1 (fX9_isReady_b58 rec5 x1 x2 x3 x4 s0 st) 58 [some (.inr 0), some (.inl x1), some (.inl x2), some (.inl x3), some (.inl x4), none] [.inl s0] st := by
  unfold fX9_isReady_b58
  refine ax_istore hC dX9_isReady_58 (by decide) (lv' := [some (.inr 0), some (.inl x1), some (.inl x2), some (.inl x3), some (.inl x4), some (.inl s0)]) rfl ?_
  refine ax_iloadn hC dX9_isReady_60 rfl rfl ?_
  refine ax_if_eq hC dX9_isReady_61 (tgt := 92) (by decide) (fun _ => ?_) (fun _ => ?_)
  · refine ax_sub (lv' := [some (.inr 0), some (.inl x1), some (.inl x2), none, some (.inl x4), none]) (ax_leS (ax_leS (ax_leS (ax_leN (ax_leS (ax_leN ax_le0)))))) ?_
    exact kX9_isReady_b92 hC hrec5 _ _ _ _
  · refine ax_iload hC dX9_isReady_64 rfl ?_
    refine ax_if_eq hC dX9_isReady_66 (tgt := 88) (by decide) (fun _ => ?_) (fun _ => ?_)
    · refine ax_sub (lv' := [some (.inr 0), some (.inl x1), some (.inl x2), none, some (.inl x4), none]) (ax_leS (ax_leS (ax_leS (ax_leN (ax_leS (ax_leN ax_le0)))))) ?_
      exact kX9_isReady_b88 hC hrec5 _ _ _ _
    · refine ax_aloadn hC dX9_isReady_69 rfl rfl ?_
      refine ax_iload hC dX9_isReady_70 rfl ?_
      refine ax_callV1 hC mlk_X9_176 hst_X9_176 LM_0 [.inl x4] rfl rfl (by decide) (by decide) (Nat.le_of_ble_eq_true rfl) dX9_isReady_72 (fun r9 s9 h9 => kX9_isThere _ _ _ _ h9) (fun r5 st6 => ?_)
      refine ax_if_eq hC dX9_isReady_75 (tgt := 88) (by decide) (fun _ => ?_) (fun _ => ?_)
      · refine ax_sub (lv' := [some (.inr 0), some (.inl x1), some (.inl x2), none, some (.inl x4), none]) (ax_leS (ax_leS (ax_leS (ax_leN (ax_leS (ax_leN ax_le0)))))) ?_
        exact kX9_isReady_b88 hC hrec5 _ _ _ _
      · refine ax_iloadn hC dX9_isReady_78 rfl rfl ?_
        refine ax_iload hC dX9_isReady_79 rfl ?_
        refine ax_ishr hC dX9_isReady_81 ?_
        refine ax_iconst hC dX9_isReady_82 (v := 1) (by decide) ?_
        refine ax_iand hC dX9_isReady_83 ?_
        refine ax_iconst hC dX9_isReady_84 (v := 1) (by decide) ?_
        refine ax_icmp_ne hC dX9_isReady_85 (tgt := 92) (by decide) (fun _ => ?_) (fun _ => ?_)
        · refine ax_sub (lv' := [some (.inr 0), some (.inl x1), some (.inl x2), none, some (.inl x4), none]) (ax_leS (ax_leS (ax_leS (ax_leN (ax_leS (ax_leN ax_le0)))))) ?_
          exact kX9_isReady_b88 hC hrec5 _ _ _ _
        · refine ax_sub (lv' := [some (.inr 0), some (.inl x1), some (.inl x2), none, some (.inl x4), none]) (ax_leS (ax_leS (ax_leS (ax_leN (ax_leS (ax_leN ax_le0)))))) ?_
          exact kX9_isReady_b92 hC hrec5 _ _ _ _
set_option maxRecDepth 100000 in
theorem kX9_isReady_b47 {C : ax_C} {X : ax_X} (hC : ax_ok C X LM cX9_isReady RX9 6 (some .boolean) 2) {rec5 : Int32 → Int32 → Int32 → Int32 → ax_S → ax_R} (hrec5 : ∀ (x1 : Int32) (x2 : Int32) (x3 : Int32) (x4 : Int32) (st : ax_S), AW C X LM 6 1 (rec5 x1 x2 x3 x4 st) 5 [some (.inr 0), some (.inl x1), some (.inl x2), some (.inl x3), some (.inl x4), none] [] st) (x1 : Int32) (x2 : Int32) (x3 : Int32) (x4 : Int32) (st : ax_S) : AW C X LM 6 1 (fX9_isReady_b47 rec5 x1 x2 x3 x4 st) 47 [some (.inr 0), some (.inl x1), some (.inl x2), some (.inl x3), some (.inl x4), none] [] st := by
  unfold fX9_isReady_b47
  refine ax_iconst hC dX9_isReady_47 (v := 0) (by decide) ?_
  refine ax_goto hC dX9_isReady_48 (tgt := 58) (by decide) ?_
  exact kX9_isReady_b58 hC hrec5 _ _ _ _ _ _
set_option maxRecDepth 100000 in
theorem kX9_isReady_L5 {C : ax_C} {X : ax_X} (hC : ax_ok C X LM cX9_isReady RX9 6 (some .boolean) 2) : ∀ (n : Nat) (x1 : Int32) (x2 : Int32) (x3 : Int32) (x4 : Int32) (st : ax_S), AW C X LM 6 1 (fX9_isReady_L5 n x1 x2 x3 x4 st) 5 [some (.inr 0), some (.inl x1), some (.inl x2), some (.inl x3), some (.inl x4), none] [] st := by
  intro n
  induction n with
  | zero => intros; exact ax_none rfl
  | succ n hrec50 =>
    intro x1 x2 x3 x4 st
    have hrec5 := hrec50
    rw [fX9_isReady_L5.eq_2]
    refine ax_iload hC dX9_isReady_5 rfl ?_
    refine ax_aloadn hC dX9_isReady_7 rfl rfl ?_
    refine ax_lkI hC lk_X9_101 LM_0 rfl dX9_isReady_8 ?_
    refine ax_icmp_ge hC dX9_isReady_11 (tgt := 100) (by decide) (fun _ => ?_) (fun _ => ?_)
    · refine ax_iloadn hC dX9_isReady_100 rfl rfl ?_
      exact ax_zret hC dX9_isReady_101
    · refine ax_aloadn hC dX9_isReady_14 rfl rfl ?_
      refine ax_lkI hC lk_X9_172 LM_0 rfl dX9_isReady_15 ?_
      refine ax_if_eq hC dX9_isReady_18 (tgt := 51) (by decide) (fun _ => ?_) (fun _ => ?_)
      · refine ax_aloadn hC dX9_isReady_51 rfl rfl ?_
        refine ax_iload hC dX9_isReady_52 rfl ?_
        refine ax_iloadn hC dX9_isReady_54 rfl rfl ?_
        refine ax_callV1 hC mlk_X9_158 hst_X9_158 LM_0 [.inl x4, .inl x1] rfl rfl (by decide) (by decide) (Nat.le_of_ble_eq_true rfl) dX9_isReady_55 (fun r9 s9 h9 => kX9_isBefore _ _ _ _ _ h9) (fun r1 st2 => ?_)
        exact kX9_isReady_b58 hC hrec5 _ _ _ _ _ _
      · refine ax_aloadn hC dX9_isReady_21 rfl rfl ?_
        refine ax_lkR hC lk_X9_19 LM_0 rfl dX9_isReady_22 ?_
        refine ax_iload hC dX9_isReady_25 rfl ?_
        refine ax_iald hC LM_4 dX9_isReady_27 (fun v3 => ?_)
        refine ax_aloadn hC dX9_isReady_28 rfl rfl ?_
        refine ax_lkR hC lk_X9_19 LM_0 rfl dX9_isReady_29 ?_
        refine ax_iloadn hC dX9_isReady_32 rfl rfl ?_
        refine ax_iald hC LM_4 dX9_isReady_33 (fun v4 => ?_)
        refine ax_icmp_ne hC dX9_isReady_34 (tgt := 47) (by decide) (fun _ => ?_) (fun _ => ?_)
        · refine ax_iload hC dX9_isReady_37 rfl ?_
          refine ax_iloadn hC dX9_isReady_39 rfl rfl ?_
          refine ax_icmp_ge hC dX9_isReady_40 (tgt := 47) (by decide) (fun _ => ?_) (fun _ => ?_)
          · exact kX9_isReady_b47 hC hrec5 _ _ _ _ _
          · refine ax_iconst hC dX9_isReady_43 (v := 1) (by decide) ?_
            refine ax_goto hC dX9_isReady_44 (tgt := 58) (by decide) ?_
            exact kX9_isReady_b58 hC hrec5 _ _ _ _ _ _
        · exact kX9_isReady_b47 hC hrec5 _ _ _ _ _
set_option maxRecDepth 100000 in
theorem kX9_isReady (x1 : Int32) (x2 : Int32) (st : ax_S) (r : Int32) (stz : ax_S) (h : fX9_isReady x1 x2 st = some (r, stz)) : ax_M LM yX9_isReady cX9_isReady 6 (some .boolean) 2 [.inr 0, .inl x1, .inl x2] st 1 r stz := by
  refine ax_start (by decide) (Nat.le_of_ble_eq_true rfl) (lv0 := [some (.inr 0), some (.inl x1), some (.inl x2), none, none, none]) rfl (fun C X hC => ?_)
  rw [← h]
  unfold fX9_isReady
  refine ax_iconst hC dX9_isReady_0 (v := 1) (by decide) ?_
  refine ax_istoren hC dX9_isReady_1 rfl (by decide) (lv' := [some (.inr 0), some (.inl x1), some (.inl x2), some (.inl (1 : Int32)), none, none]) rfl ?_
  refine ax_iconst hC dX9_isReady_2 (v := 0) (by decide) ?_
  refine ax_istore hC dX9_isReady_3 (by decide) (lv' := [some (.inr 0), some (.inl x1), some (.inl x2), some (.inl (1 : Int32)), some (.inl (0 : Int32)), none]) rfl ?_
  exact kX9_isReady_L5 hC 4000 _ _ _ _ _
set_option maxRecDepth 100000 in
theorem kX9_execute_b284 {C : ax_C} {X : ax_X} (hC : ax_ok C X LM cX9_execute RX9 7 (some .int) 1) (s0 : Int32) (st : ax_S) : AW C X LM 7 1 (fX9_execute_b284 s0 st) 284 [none, none, none, none, none, none, none] [.inl s0] st := by
  unfold fX9_execute_b284
  exact ax_iret hC dX9_execute_284
set_option maxRecDepth 100000 in
theorem kX9_execute_b273 {C : ax_C} {X : ax_X} (hC : ax_ok C X LM cX9_execute RX9 7 (some .int) 1) (s0 : Int32) (st : ax_S) : AW C X LM 7 1 (fX9_execute_b273 s0 st) 273 [none, none, none, none, none, none, none] [.inl s0] st := by
  unfold fX9_execute_b273
  exact ax_iret hC dX9_execute_273
set_option maxRecDepth 100000 in
theorem kX9_execute_b254 {C : ax_C} {X : ax_X} (hC : ax_ok C X LM cX9_execute RX9 7 (some .int) 1) (s0 : Int32) (st : ax_S) : AW C X LM 7 1 (fX9_execute_b254 s0 st) 254 [none, none, none, none, none, none, none] [.inl s0] st := by
  unfold fX9_execute_b254
  exact ax_iret hC dX9_execute_254
set_option maxRecDepth 100000 in
theorem kX9_execute_b147 {C : ax_C} {X : ax_X} (hC : ax_ok C X LM cX9_execute RX9 7 (some .int) 1) (s0 : Int32) (st : ax_S) : AW C X LM 7 1 (fX9_execute_b147 s0 st) 147 [none, none, none, none, none, none, none] [.inl s0] st := by
  unfold fX9_execute_b147
  exact ax_iret hC dX9_execute_147
set_option maxRecDepth 100000 in
theorem kX9_execute_b135 {C : ax_C} {X : ax_X} (hC : ax_ok C X LM cX9_execute RX9 7 (some .int) 1) (x3 : Int32) (x5 : Int32) (s0 : Int32) (s1 : Int32) (st : ax_S) : AW C X LM 7 1 (fX9_execute_b135 x3 x5 s0 s1 st) 135 [none, none, none, some (.inl x3), none, some (.inl x5), none] [.inl s0, .inl s1, .inr 16] st := by
  unfold fX9_execute_b135
  refine ax_iast hC LM_16 dX9_execute_135 (fun st21 => ?_)
  refine ax_iload hC dX9_execute_136 rfl ?_
  refine ax_iloadn hC dX9_execute_138 rfl rfl ?_
  refine ax_icmp_ne hC dX9_execute_139 (tgt := 146) (by decide) (fun _ => ?_) (fun _ => ?_)
  · refine ax_iconst hC dX9_execute_142 (v := 1) (by decide) ?_
    refine ax_goto hC dX9_execute_143 (tgt := 147) (by decide) ?_
    refine ax_sub (lv' := [none, none, none, none, none, none, none]) (ax_leN (ax_leN (ax_leN (ax_leN (ax_leN (ax_leN (ax_leN ax_le0))))))) ?_
    exact kX9_execute_b147 hC _ _
  · refine ax_iconst hC dX9_execute_146 (v := 0) (by decide) ?_
    refine ax_sub (lv' := [none, none, none, none, none, none, none]) (ax_leN (ax_leN (ax_leN (ax_leN (ax_leN (ax_leN (ax_leN ax_le0))))))) ?_
    exact kX9_execute_b147 hC _ _
set_option maxRecDepth 100000 in
theorem kX9_execute_b27 {C : ax_C} {X : ax_X} (hC : ax_ok C X LM cX9_execute RX9 7 (some .int) 1) (x1 : Int32) (x2 : Int32) (x3 : Int32) (s0 : Int32) (s1 : Int32) (st : ax_S) : AW C X LM 7 1 (fX9_execute_b27 x1 x2 x3 s0 s1 st) 27 [some (.inr 0), some (.inl x1), some (.inl x2), some (.inl x3), none, none, none] [.inl s0, .inl s1] st := by
  unfold fX9_execute_b27
  refine ax_iadd hC dX9_execute_27 ?_
  refine ax_istore hC dX9_execute_28 (by decide) (lv' := [some (.inr 0), some (.inl x1), some (.inl x2), some (.inl x3), some (.inl (s1 + s0)), none, none]) rfl ?_
  refine ax_aloadn hC dX9_execute_30 rfl rfl ?_
  refine ax_lkR hC lk_X9_55 LM_0 rfl dX9_execute_31 ?_
  refine ax_iloadn hC dX9_execute_34 rfl rfl ?_
  refine ax_iald hC LM_16 dX9_execute_35 (fun v3 => ?_)
  refine ax_istore hC dX9_execute_36 (by decide) (lv' := [some (.inr 0), some (.inl x1), some (.inl x2), some (.inl x3), some (.inl (s1 + s0)), some (.inl v3), none]) rfl ?_
  refine ax_aloadn hC dX9_execute_38 rfl rfl ?_
  refine ax_lkR hC lk_X9_67 LM_0 rfl dX9_execute_39 ?_
  refine ax_iload hC dX9_execute_42 rfl ?_
  refine ax_zald hC LM_20 dX9_execute_44 (fun v4 => ?_)
  refine ax_istore hC dX9_execute_45 (by decide) (lv' := [some (.inr 0), some (.inl x1), some (.inl x2), some (.inl x3), some (.inl (s1 + s0)), some (.inl v3), some (.inl v4)]) rfl ?_
  refine ax_aloadn hC dX9_execute_47 rfl rfl ?_
  refine ax_lkR hC lk_X9_16 LM_0 rfl dX9_execute_48 ?_
  refine ax_iloadn hC dX9_execute_51 rfl rfl ?_
  refine ax_iald hC LM_3 dX9_execute_52 (fun v5 => ?_)
  refine ax_tsIn hC dX9_execute_53 (v := 1) (by decide) (by decide) (off := 51) rfl (tgt := 104) (by decide) ?_ (fun e0 => ?_)
  · refine ax_aloadn hC dX9_execute_104 rfl rfl ?_
    refine ax_lkR hC lk_X9_55 LM_0 rfl dX9_execute_105 ?_
    refine ax_iloadn hC dX9_execute_108 rfl rfl ?_
    refine ax_iloadn hC dX9_execute_109 rfl rfl ?_
    refine ax_iast hC LM_16 dX9_execute_110 (fun st20 => ?_)
    refine ax_iconst hC dX9_execute_111 (v := 0) (by decide) ?_
    exact ax_iret hC dX9_execute_112
  · refine ax_tsIn hC dX9_execute_53 (v := 2) (by decide) (by decide) (off := 60) rfl (tgt := 113) (by decide) ?_ (fun e1 => ?_)
    · refine ax_aloadn hC dX9_execute_113 rfl rfl ?_
      refine ax_lkR hC lk_X9_55 LM_0 rfl dX9_execute_114 ?_
      refine ax_iloadn hC dX9_execute_117 rfl rfl ?_
      refine ax_iload hC dX9_execute_118 rfl ?_
      refine ax_iloadn hC dX9_execute_120 rfl rfl ?_
      refine ax_icmp_ne hC dX9_execute_121 (tgt := 133) (by decide) (fun _ => ?_) (fun _ => ?_)
      · refine ax_aloadn hC dX9_execute_124 rfl rfl ?_
        refine ax_lkR hC lk_X9_28 LM_0 rfl dX9_execute_125 ?_
        refine ax_iloadn hC dX9_execute_128 rfl rfl ?_
        refine ax_iald hC LM_7 dX9_execute_129 (fun v19 => ?_)
        refine ax_goto hC dX9_execute_130 (tgt := 135) (by decide) ?_
        refine ax_sub (lv' := [none, none, none, some (.inl x3), none, some (.inl v3), none]) (ax_leN (ax_leN (ax_leN (ax_leS (ax_leN (ax_leS (ax_leN ax_le0))))))) ?_
        exact kX9_execute_b135 hC _ _ _ _ _
      · refine ax_iload hC dX9_execute_133 rfl ?_
        refine ax_sub (lv' := [none, none, none, some (.inl x3), none, some (.inl v3), none]) (ax_leN (ax_leN (ax_leN (ax_leS (ax_leN (ax_leS (ax_leN ax_le0))))))) ?_
        exact kX9_execute_b135 hC _ _ _ _ _
    · refine ax_tsIn hC dX9_execute_53 (v := 3) (by decide) (by decide) (off := 232) rfl (tgt := 285) (by decide) ?_ (fun e2 => ?_)
      · refine ax_iload hC dX9_execute_285 rfl ?_
        exact ax_iret hC dX9_execute_287
      · refine ax_tsIn hC dX9_execute_53 (v := 4) (by decide) (by decide) (off := 95) rfl (tgt := 148) (by decide) ?_ (fun e3 => ?_)
        · refine ax_aloadn hC dX9_execute_148 rfl rfl ?_
          refine ax_lkR hC lk_X9_55 LM_0 rfl dX9_execute_149 ?_
          refine ax_iloadn hC dX9_execute_152 rfl rfl ?_
          refine ax_iload hC dX9_execute_153 rfl ?_
          refine ax_iloadn hC dX9_execute_155 rfl rfl ?_
          refine ax_iadd hC dX9_execute_156 ?_
          refine ax_iast hC LM_16 dX9_execute_157 (fun st18 => ?_)
          refine ax_iload hC dX9_execute_158 rfl ?_
          exact ax_iret hC dX9_execute_160
        · refine ax_tsIn hC dX9_execute_53 (v := 5) (by decide) (by decide) (off := 108) rfl (tgt := 161) (by decide) ?_ (fun e4 => ?_)
          · refine ax_aloadn hC dX9_execute_161 rfl rfl ?_
            refine ax_lkR hC lk_X9_58 LM_0 rfl dX9_execute_162 ?_
            refine ax_bipush hC dX9_execute_165 (v := 10) (by decide) ?_
            refine ax_iloadn hC dX9_execute_167 rfl rfl ?_
            refine ax_imul hC dX9_execute_168 ?_
            refine ax_aloadn hC dX9_execute_169 rfl rfl ?_
            refine ax_lkR hC lk_X9_64 LM_0 rfl dX9_execute_170 ?_
            refine ax_iloadn hC dX9_execute_173 rfl rfl ?_
            refine ax_iald hC LM_19 dX9_execute_174 (fun v14 => ?_)
            refine ax_iadd hC dX9_execute_175 ?_
            refine ax_iloadn hC dX9_execute_176 rfl rfl ?_
            refine ax_iast hC LM_17 dX9_execute_177 (fun st15 => ?_)
            refine ax_aloadn hC dX9_execute_178 rfl rfl ?_
            refine ax_lkR hC lk_X9_64 LM_0 rfl dX9_execute_179 ?_
            refine ax_iloadn hC dX9_execute_182 rfl rfl ?_
            refine ax_dup2 hC dX9_execute_183 ?_
            refine ax_iald hC LM_19 dX9_execute_184 (fun v16 => ?_)
            refine ax_iconst hC dX9_execute_185 (v := 1) (by decide) ?_
            refine ax_iadd hC dX9_execute_186 ?_
            refine ax_iast hC LM_19 dX9_execute_187 (fun st17 => ?_)
            refine ax_iconst hC dX9_execute_188 (v := 0) (by decide) ?_
            exact ax_iret hC dX9_execute_189
          · refine ax_tsIn hC dX9_execute_53 (v := 6) (by decide) (by decide) (off := 137) rfl (tgt := 190) (by decide) ?_ (fun e5 => ?_)
            · refine ax_aloadn hC dX9_execute_190 rfl rfl ?_
              refine ax_lkR hC lk_X9_61 LM_0 rfl dX9_execute_191 ?_
              refine ax_iloadn hC dX9_execute_194 rfl rfl ?_
              refine ax_iald hC LM_18 dX9_execute_195 (fun v8 => ?_)
              refine ax_aloadn hC dX9_execute_196 rfl rfl ?_
              refine ax_lkR hC lk_X9_64 LM_0 rfl dX9_execute_197 ?_
              refine ax_iloadn hC dX9_execute_200 rfl rfl ?_
              refine ax_iald hC LM_19 dX9_execute_201 (fun v9 => ?_)
              refine ax_icmp_ne hC dX9_execute_202 (tgt := 207) (by decide) (fun _ => ?_) (fun _ => ?_)
              · refine ax_iconst hC dX9_execute_205 (v := -1) (by decide) ?_
                exact ax_iret hC dX9_execute_206
              · refine ax_aloadn hC dX9_execute_207 rfl rfl ?_
                refine ax_lkR hC lk_X9_61 LM_0 rfl dX9_execute_208 ?_
                refine ax_iloadn hC dX9_execute_211 rfl rfl ?_
                refine ax_dup2 hC dX9_execute_212 ?_
                refine ax_iald hC LM_18 dX9_execute_213 (fun v10 => ?_)
                refine ax_iconst hC dX9_execute_214 (v := 1) (by decide) ?_
                refine ax_iadd hC dX9_execute_215 ?_
                refine ax_iast hC LM_18 dX9_execute_216 (fun st11 => ?_)
                refine ax_aloadn hC dX9_execute_217 rfl rfl ?_
                refine ax_lkR hC lk_X9_58 LM_0 rfl dX9_execute_218 ?_
                refine ax_bipush hC dX9_execute_221 (v := 10) (by decide) ?_
                refine ax_iloadn hC dX9_execute_223 rfl rfl ?_
                refine ax_imul hC dX9_execute_224 ?_
                refine ax_aloadn hC dX9_execute_225 rfl rfl ?_
                refine ax_lkR hC lk_X9_61 LM_0 rfl dX9_execute_226 ?_
                refine ax_iloadn hC dX9_execute_229 rfl rfl ?_
                refine ax_iald hC LM_18 dX9_execute_230 (fun v12 => ?_)
                refine ax_iadd hC dX9_execute_231 ?_
                refine ax_iconst hC dX9_execute_232 (v := 1) (by decide) ?_
                refine ax_isub hC dX9_execute_233 ?_
                refine ax_iald hC LM_17 dX9_execute_234 (fun v13 => ?_)
                exact ax_iret hC dX9_execute_235
            · refine ax_tsIn hC dX9_execute_53 (v := 7) (by decide) (by decide) (off := 183) rfl (tgt := 236) (by decide) ?_ (fun e6 => ?_)
              · refine ax_aloadn hC dX9_execute_236 rfl rfl ?_
                refine ax_lkR hC lk_X9_67 LM_0 rfl dX9_execute_237 ?_
                refine ax_iload hC dX9_execute_240 rfl ?_
                refine ax_iconst hC dX9_execute_242 (v := 1) (by decide) ?_
                refine ax_zast hC LM_20 dX9_execute_243 (fun st7 => ?_)
                refine ax_iload hC dX9_execute_244 rfl ?_
                refine ax_if_eq hC dX9_execute_246 (tgt := 253) (by decide) (fun _ => ?_) (fun _ => ?_)
                · refine ax_iconst hC dX9_execute_253 (v := 1) (by decide) ?_
                  refine ax_sub (lv' := [none, none, none, none, none, none, none]) (ax_leN (ax_leN (ax_leN (ax_leN (ax_leN (ax_leN (ax_leN ax_le0))))))) ?_
                  exact kX9_execute_b254 hC _ _
                · refine ax_iconst hC dX9_execute_249 (v := 0) (by decide) ?_
                  refine ax_goto hC dX9_execute_250 (tgt := 254) (by decide) ?_
                  refine ax_sub (lv' := [none, none, none, none, none, none, none]) (ax_leN (ax_leN (ax_leN (ax_leN (ax_leN (ax_leN (ax_leN ax_le0))))))) ?_
                  exact kX9_execute_b254 hC _ _
              · refine ax_tsIn hC dX9_execute_53 (v := 8) (by decide) (by decide) (off := 202) rfl (tgt := 255) (by decide) ?_ (fun e7 => ?_)
                · refine ax_aloadn hC dX9_execute_255 rfl rfl ?_
                  refine ax_lkR hC lk_X9_67 LM_0 rfl dX9_execute_256 ?_
                  refine ax_iload hC dX9_execute_259 rfl ?_
                  refine ax_iconst hC dX9_execute_261 (v := 0) (by decide) ?_
                  refine ax_zast hC LM_20 dX9_execute_262 (fun st6 => ?_)
                  refine ax_iload hC dX9_execute_263 rfl ?_
                  refine ax_if_eq hC dX9_execute_265 (tgt := 272) (by decide) (fun _ => ?_) (fun _ => ?_)
                  · refine ax_iconst hC dX9_execute_272 (v := 0) (by decide) ?_
                    refine ax_sub (lv' := [none, none, none, none, none, none, none]) (ax_leN (ax_leN (ax_leN (ax_leN (ax_leN (ax_leN (ax_leN ax_le0))))))) ?_
                    exact kX9_execute_b273 hC _ _
                  · refine ax_iconst hC dX9_execute_268 (v := 1) (by decide) ?_
                    refine ax_goto hC dX9_execute_269 (tgt := 273) (by decide) ?_
                    refine ax_sub (lv' := [none, none, none, none, none, none, none]) (ax_leN (ax_leN (ax_leN (ax_leN (ax_leN (ax_leN (ax_leN ax_le0))))))) ?_
                    exact kX9_execute_b273 hC _ _
                · refine ax_tsIn hC dX9_execute_53 (v := 9) (by decide) (by decide) (off := 221) rfl (tgt := 274) (by decide) ?_ (fun e8 => ?_)
                  · refine ax_iload hC dX9_execute_274 rfl ?_
                    refine ax_if_eq hC dX9_execute_276 (tgt := 283) (by decide) (fun _ => ?_) (fun _ => ?_)
                    · refine ax_iconst hC dX9_execute_283 (v := 0) (by decide) ?_
                      refine ax_sub (lv' := [none, none, none, none, none, none, none]) (ax_leN (ax_leN (ax_leN (ax_leN (ax_leN (ax_leN (ax_leN ax_le0))))))) ?_
                      exact kX9_execute_b284 hC _ _
                    · refine ax_iconst hC dX9_execute_279 (v := 1) (by decide) ?_
                      refine ax_goto hC dX9_execute_280 (tgt := 284) (by decide) ?_
                      refine ax_sub (lv' := [none, none, none, none, none, none, none]) (ax_leN (ax_leN (ax_leN (ax_leN (ax_leN (ax_leN (ax_leN ax_le0))))))) ?_
                      exact kX9_execute_b284 hC _ _
                  · have g0 : ¬ v5.toInt = 1 := fun q => e0 (Int32.toInt_inj.mp (q.trans (by decide)))
                    have g1 : ¬ v5.toInt = 2 := fun q => e1 (Int32.toInt_inj.mp (q.trans (by decide)))
                    have g2 : ¬ v5.toInt = 3 := fun q => e2 (Int32.toInt_inj.mp (q.trans (by decide)))
                    have g3 : ¬ v5.toInt = 4 := fun q => e3 (Int32.toInt_inj.mp (q.trans (by decide)))
                    have g4 : ¬ v5.toInt = 5 := fun q => e4 (Int32.toInt_inj.mp (q.trans (by decide)))
                    have g5 : ¬ v5.toInt = 6 := fun q => e5 (Int32.toInt_inj.mp (q.trans (by decide)))
                    have g6 : ¬ v5.toInt = 7 := fun q => e6 (Int32.toInt_inj.mp (q.trans (by decide)))
                    have g7 : ¬ v5.toInt = 8 := fun q => e7 (Int32.toInt_inj.mp (q.trans (by decide)))
                    have g8 : ¬ v5.toInt = 9 := fun q => e8 (Int32.toInt_inj.mp (q.trans (by decide)))
                    refine ax_tsOut hC dX9_execute_53 (by omega) (tgt := 285) (by decide) ?_
                    refine ax_iload hC dX9_execute_285 rfl ?_
                    exact ax_iret hC dX9_execute_287
set_option maxRecDepth 100000 in
theorem kX9_execute (x1 : Int32) (st : ax_S) (r : Int32) (stz : ax_S) (h : fX9_execute x1 st = some (r, stz)) : ax_M LM yX9_execute cX9_execute 7 (some .int) 1 [.inr 0, .inl x1] st 1 r stz := by
  refine ax_start (by decide) (Nat.le_of_ble_eq_true rfl) (lv0 := [some (.inr 0), some (.inl x1), none, none, none, none, none]) rfl (fun C X hC => ?_)
  rw [← h]
  unfold fX9_execute
  refine ax_aloadn hC dX9_execute_0 rfl rfl ?_
  refine ax_lkR hC lk_X9_22 LM_0 rfl dX9_execute_1 ?_
  refine ax_iloadn hC dX9_execute_4 rfl rfl ?_
  refine ax_iald hC LM_5 dX9_execute_5 (fun v1 => ?_)
  refine ax_istoren hC dX9_execute_6 rfl (by decide) (lv' := [some (.inr 0), some (.inl x1), some (.inl v1), none, none, none, none]) rfl ?_
  refine ax_aloadn hC dX9_execute_7 rfl rfl ?_
  refine ax_lkR hC lk_X9_25 LM_0 rfl dX9_execute_8 ?_
  refine ax_iloadn hC dX9_execute_11 rfl rfl ?_
  refine ax_iald hC LM_6 dX9_execute_12 (fun v2 => ?_)
  refine ax_istoren hC dX9_execute_13 rfl (by decide) (lv' := [some (.inr 0), some (.inl x1), some (.inl v1), some (.inl v2), none, none, none]) rfl ?_
  refine ax_bipush hC dX9_execute_14 (v := 100) (by decide) ?_
  refine ax_iloadn hC dX9_execute_16 rfl rfl ?_
  refine ax_imul hC dX9_execute_17 ?_
  refine ax_iloadn hC dX9_execute_18 rfl rfl ?_
  refine ax_if_ge hC dX9_execute_19 (tgt := 26) (by decide) (fun _ => ?_) (fun _ => ?_)
  · refine ax_iloadn hC dX9_execute_26 rfl rfl ?_
    exact kX9_execute_b27 hC _ _ _ _ _ _
  · refine ax_iconst hC dX9_execute_22 (v := 0) (by decide) ?_
    refine ax_goto hC dX9_execute_23 (tgt := 27) (by decide) ?_
    exact kX9_execute_b27 hC _ _ _ _ _ _
set_option maxRecDepth 100000 in
theorem kX9_takeBack_b148 {C : ax_C} {X : ax_X} (hC : ax_ok C X LM cX9_takeBack RX9 5 none 1) (st : ax_S) : AW C X LM 5 0 (fX9_takeBack_b148 st) 148 [none, none, none, none, none] [] st := by
  unfold fX9_takeBack_b148
  exact ax_vret hC dX9_takeBack_148
set_option maxRecDepth 100000 in
theorem kX9_takeBack_b144 {C : ax_C} {X : ax_X} (hC : ax_ok C X LM cX9_takeBack RX9 5 none 1) (s0 : Int32) (s1 : Int32) (st : ax_S) : AW C X LM 5 0 (fX9_takeBack_b144 s0 s1 st) 144 [none, none, none, none, none] [.inl s0, .inl s1, .inr 20] st := by
  unfold fX9_takeBack_b144
  refine ax_zast hC LM_20 dX9_takeBack_144 (fun st9 => ?_)
  refine ax_goto hC dX9_takeBack_145 (tgt := 148) (by decide) ?_
  exact kX9_takeBack_b148 hC _
set_option maxRecDepth 100000 in
theorem kX9_takeBack_b114 {C : ax_C} {X : ax_X} (hC : ax_ok C X LM cX9_takeBack RX9 5 none 1) (s0 : Int32) (s1 : Int32) (st : ax_S) : AW C X LM 5 0 (fX9_takeBack_b114 s0 s1 st) 114 [none, none, none, none, none] [.inl s0, .inl s1, .inr 20] st := by
  unfold fX9_takeBack_b114
  refine ax_zast hC LM_20 dX9_takeBack_114 (fun st10 => ?_)
  refine ax_goto hC dX9_takeBack_115 (tgt := 148) (by decide) ?_
  exact kX9_takeBack_b148 hC _
set_option maxRecDepth 100000 in
theorem kX9_takeBack_b84 {C : ax_C} {X : ax_X} (hC : ax_ok C X LM cX9_takeBack RX9 5 none 1) (s0 : Int32) (s1 : Int32) (s2 : Int32) (st : ax_S) : AW C X LM 5 0 (fX9_takeBack_b84 s0 s1 s2 st) 84 [none, none, none, none, none] [.inl s0, .inl s1, .inl s2, .inr 18] st := by
  unfold fX9_takeBack_b84
  refine ax_isub hC dX9_takeBack_84 ?_
  refine ax_iast hC LM_18 dX9_takeBack_85 (fun st11 => ?_)
  refine ax_goto hC dX9_takeBack_86 (tgt := 148) (by decide) ?_
  exact kX9_takeBack_b148 hC _
set_option maxRecDepth 100000 in
theorem kX9_takeBack (x1 : Int32) (x2 : Int32) (x3 : Int32) (st : ax_S) (r : Int32) (stz : ax_S) (h : fX9_takeBack x1 x2 x3 st = some (r, stz)) : ax_M LM yX9_takeBack cX9_takeBack 5 none 1 [.inr 0, .inl x1, .inl x2, .inl x3] st 0 r stz := by
  refine ax_start (by decide) (Nat.le_of_ble_eq_true rfl) (lv0 := [some (.inr 0), some (.inl x1), some (.inl x2), some (.inl x3), none]) rfl (fun C X hC => ?_)
  rw [← h]
  unfold fX9_takeBack
  refine ax_aloadn hC dX9_takeBack_0 rfl rfl ?_
  refine ax_lkR hC lk_X9_22 LM_0 rfl dX9_takeBack_1 ?_
  refine ax_iloadn hC dX9_takeBack_4 rfl rfl ?_
  refine ax_iald hC LM_5 dX9_takeBack_5 (fun v1 => ?_)
  refine ax_istore hC dX9_takeBack_6 (by decide) (lv' := [some (.inr 0), some (.inl x1), some (.inl x2), some (.inl x3), some (.inl v1)]) rfl ?_
  refine ax_aloadn hC dX9_takeBack_8 rfl rfl ?_
  refine ax_lkR hC lk_X9_55 LM_0 rfl dX9_takeBack_9 ?_
  refine ax_iload hC dX9_takeBack_12 rfl ?_
  refine ax_iloadn hC dX9_takeBack_14 rfl rfl ?_
  refine ax_iast hC LM_16 dX9_takeBack_15 (fun st2 => ?_)
  refine ax_aloadn hC dX9_takeBack_16 rfl rfl ?_
  refine ax_lkR hC lk_X9_16 LM_0 rfl dX9_takeBack_17 ?_
  refine ax_iloadn hC dX9_takeBack_20 rfl rfl ?_
  refine ax_iald hC LM_3 dX9_takeBack_21 (fun v3 => ?_)
  refine ax_tsIn hC dX9_takeBack_22 (v := 5) (by decide) (by decide) (off := 30) rfl (tgt := 52) (by decide) ?_ (fun e0 => ?_)
  · refine ax_aloadn hC dX9_takeBack_52 rfl rfl ?_
    refine ax_lkR hC lk_X9_64 LM_0 rfl dX9_takeBack_53 ?_
    refine ax_iload hC dX9_takeBack_56 rfl ?_
    refine ax_dup2 hC dX9_takeBack_58 ?_
    refine ax_iald hC LM_19 dX9_takeBack_59 (fun v7 => ?_)
    refine ax_iconst hC dX9_takeBack_60 (v := 1) (by decide) ?_
    refine ax_isub hC dX9_takeBack_61 ?_
    refine ax_iast hC LM_19 dX9_takeBack_62 (fun st8 => ?_)
    refine ax_goto hC dX9_takeBack_63 (tgt := 148) (by decide) ?_
    refine ax_sub (lv' := [none, none, none, none, none]) (ax_leN (ax_leN (ax_leN (ax_leN (ax_leN ax_le0))))) ?_
    exact kX9_takeBack_b148 hC _
  · refine ax_tsIn hC dX9_takeBack_22 (v := 6) (by decide) (by decide) (off := 44) rfl (tgt := 66) (by decide) ?_ (fun e1 => ?_)
    · refine ax_aloadn hC dX9_takeBack_66 rfl rfl ?_
      refine ax_lkR hC lk_X9_61 LM_0 rfl dX9_takeBack_67 ?_
      refine ax_iload hC dX9_takeBack_70 rfl ?_
      refine ax_dup2 hC dX9_takeBack_72 ?_
      refine ax_iald hC LM_18 dX9_takeBack_73 (fun v6 => ?_)
      refine ax_iloadn hC dX9_takeBack_74 rfl rfl ?_
      refine ax_iconst hC dX9_takeBack_75 (v := -1) (by decide) ?_
      refine ax_icmp_ne hC dX9_takeBack_76 (tgt := 83) (by decide) (fun _ => ?_) (fun _ => ?_)
      · refine ax_iconst hC dX9_takeBack_79 (v := 0) (by decide) ?_
        refine ax_goto hC dX9_takeBack_80 (tgt := 84) (by decide) ?_
        refine ax_sub (lv' := [none, none, none, none, none]) (ax_leN (ax_leN (ax_leN (ax_leN (ax_leN ax_le0))))) ?_
        exact kX9_takeBack_b84 hC _ _ _ _
      · refine ax_iconst hC dX9_takeBack_83 (v := 1) (by decide) ?_
        refine ax_sub (lv' := [none, none, none, none, none]) (ax_leN (ax_leN (ax_leN (ax_leN (ax_leN ax_le0))))) ?_
        exact kX9_takeBack_b84 hC _ _ _ _
    · refine ax_tsIn hC dX9_takeBack_22 (v := 7) (by decide) (by decide) (off := 67) rfl (tgt := 89) (by decide) ?_ (fun e2 => ?_)
      · refine ax_aloadn hC dX9_takeBack_89 rfl rfl ?_
        refine ax_lkR hC lk_X9_67 LM_0 rfl dX9_takeBack_90 ?_
        refine ax_bipush hC dX9_takeBack_93 (v := 100) (by decide) ?_
        refine ax_iload hC dX9_takeBack_95 rfl ?_
        refine ax_imul hC dX9_takeBack_97 ?_
        refine ax_aloadn hC dX9_takeBack_98 rfl rfl ?_
        refine ax_lkR hC lk_X9_25 LM_0 rfl dX9_takeBack_99 ?_
        refine ax_iloadn hC dX9_takeBack_102 rfl rfl ?_
        refine ax_iald hC LM_6 dX9_takeBack_103 (fun v5 => ?_)
        refine ax_iadd hC dX9_takeBack_104 ?_
        refine ax_iloadn hC dX9_takeBack_105 rfl rfl ?_
        refine ax_if_ne hC dX9_takeBack_106 (tgt := 113) (by decide) (fun _ => ?_) (fun _ => ?_)
        · refine ax_iconst hC dX9_takeBack_109 (v := 1) (by decide) ?_
          refine ax_goto hC dX9_takeBack_110 (tgt := 114) (by decide) ?_
          refine ax_sub (lv' := [none, none, none, none, none]) (ax_leN (ax_leN (ax_leN (ax_leN (ax_leN ax_le0))))) ?_
          exact kX9_takeBack_b114 hC _ _ _
        · refine ax_iconst hC dX9_takeBack_113 (v := 0) (by decide) ?_
          refine ax_sub (lv' := [none, none, none, none, none]) (ax_leN (ax_leN (ax_leN (ax_leN (ax_leN ax_le0))))) ?_
          exact kX9_takeBack_b114 hC _ _ _
      · refine ax_tsIn hC dX9_takeBack_22 (v := 8) (by decide) (by decide) (off := 96) rfl (tgt := 118) (by decide) ?_ (fun e3 => ?_)
        · refine ax_aloadn hC dX9_takeBack_118 rfl rfl ?_
          refine ax_lkR hC lk_X9_67 LM_0 rfl dX9_takeBack_119 ?_
          refine ax_bipush hC dX9_takeBack_122 (v := 100) (by decide) ?_
          refine ax_iload hC dX9_takeBack_124 rfl ?_
          refine ax_imul hC dX9_takeBack_126 ?_
          refine ax_aloadn hC dX9_takeBack_127 rfl rfl ?_
          refine ax_lkR hC lk_X9_25 LM_0 rfl dX9_takeBack_128 ?_
          refine ax_iloadn hC dX9_takeBack_131 rfl rfl ?_
          refine ax_iald hC LM_6 dX9_takeBack_132 (fun v4 => ?_)
          refine ax_iadd hC dX9_takeBack_133 ?_
          refine ax_iloadn hC dX9_takeBack_134 rfl rfl ?_
          refine ax_iconst hC dX9_takeBack_135 (v := 1) (by decide) ?_
          refine ax_icmp_ne hC dX9_takeBack_136 (tgt := 143) (by decide) (fun _ => ?_) (fun _ => ?_)
          · refine ax_iconst hC dX9_takeBack_139 (v := 1) (by decide) ?_
            refine ax_goto hC dX9_takeBack_140 (tgt := 144) (by decide) ?_
            refine ax_sub (lv' := [none, none, none, none, none]) (ax_leN (ax_leN (ax_leN (ax_leN (ax_leN ax_le0))))) ?_
            exact kX9_takeBack_b144 hC _ _ _
          · refine ax_iconst hC dX9_takeBack_143 (v := 0) (by decide) ?_
            refine ax_sub (lv' := [none, none, none, none, none]) (ax_leN (ax_leN (ax_leN (ax_leN (ax_leN ax_le0))))) ?_
            exact kX9_takeBack_b144 hC _ _ _
        · have g0 : ¬ v3.toInt = 5 := fun q => e0 (Int32.toInt_inj.mp (q.trans (by decide)))
          have g1 : ¬ v3.toInt = 6 := fun q => e1 (Int32.toInt_inj.mp (q.trans (by decide)))
          have g2 : ¬ v3.toInt = 7 := fun q => e2 (Int32.toInt_inj.mp (q.trans (by decide)))
          have g3 : ¬ v3.toInt = 8 := fun q => e3 (Int32.toInt_inj.mp (q.trans (by decide)))
          refine ax_tsOut hC dX9_takeBack_22 (by omega) (tgt := 148) (by decide) ?_
          refine ax_sub (lv' := [none, none, none, none, none]) (ax_leN (ax_leN (ax_leN (ax_leN (ax_leN ax_le0))))) ?_
          exact kX9_takeBack_b148 hC _
set_option maxRecDepth 100000 in
theorem kX9_search_b164 {C : ax_C} {X : ax_X} {rc : Int32 → Int32 → Int32 → ax_S → ax_R} {dd : Nat} (hrc : ∀ (u ln v : Int32) (st : ax_S) (r : Int32) (st1 : ax_S), rc u ln v st = some (r, st1) → ax_M LM yX9_search cX9_search 7 none dd [.inr 0, .inl u, .inl ln, .inl v] st 0 r st1) (h10 : 10 ≤ dd) (hC : ax_ok C X LM cX9_search RX9 7 none (dd + 1)) (st : ax_S) : AW C X LM 7 0 (fX9_search_b164 rc st) 164 [none, none, none, none, none, none, none] [] st := by
  unfold fX9_search_b164
  exact ax_vret hC dX9_search_164
set_option maxRecDepth 100000 in
theorem kX9_search_b158 {C : ax_C} {X : ax_X} {rc : Int32 → Int32 → Int32 → ax_S → ax_R} {dd : Nat} (hrc : ∀ (u ln v : Int32) (st : ax_S) (r : Int32) (st1 : ax_S), rc u ln v st = some (r, st1) → ax_M LM yX9_search cX9_search 7 none dd [.inr 0, .inl u, .inl ln, .inl v] st 0 r st1) (h10 : 10 ≤ dd) (hC : ax_ok C X LM cX9_search RX9 7 none (dd + 1)) {rec18 : Int32 → Int32 → Int32 → Int32 → ax_S → ax_R} (hrec18 : ∀ (x1 : Int32) (x2 : Int32) (x3 : Int32) (x4 : Int32) (st : ax_S), AW C X LM 7 0 (rec18 x1 x2 x3 x4 st) 18 [some (.inr 0), some (.inl x1), some (.inl x2), some (.inl x3), some (.inl x4), none, none] [] st) (x1 : Int32) (x2 : Int32) (x3 : Int32) (x4 : Int32) (st : ax_S) : AW C X LM 7 0 (fX9_search_b158 rc rec18 x1 x2 x3 x4 st) 158 [some (.inr 0), some (.inl x1), some (.inl x2), some (.inl x3), some (.inl x4), none, none] [] st := by
  unfold fX9_search_b158
  refine ax_iinc hC dX9_search_158 rfl (v := (x4 + (1 : Int32))) rfl (by decide) (lv' := [some (.inr 0), some (.inl x1), some (.inl x2), some (.inl x3), some (.inl (x4 + (1 : Int32))), none, none]) rfl ?_
  refine ax_goto hC dX9_search_161 (tgt := 18) (by decide) ?_
  exact hrec18 _ _ _ _ _
set_option maxRecDepth 100000 in
theorem kX9_search_b148 {C : ax_C} {X : ax_X} {rc : Int32 → Int32 → Int32 → ax_S → ax_R} {dd : Nat} (hrc : ∀ (u ln v : Int32) (st : ax_S) (r : Int32) (st1 : ax_S), rc u ln v st = some (r, st1) → ax_M LM yX9_search cX9_search 7 none dd [.inr 0, .inl u, .inl ln, .inl v] st 0 r st1) (h10 : 10 ≤ dd) (hC : ax_ok C X LM cX9_search RX9 7 none (dd + 1)) {rec18 : Int32 → Int32 → Int32 → Int32 → ax_S → ax_R} (hrec18 : ∀ (x1 : Int32) (x2 : Int32) (x3 : Int32) (x4 : Int32) (st : ax_S), AW C X LM 7 0 (rec18 x1 x2 x3 x4 st) 18 [some (.inr 0), some (.inl x1), some (.inl x2), some (.inl x3), some (.inl x4), none, none] [] st) (x1 : Int32) (x2 : Int32) (x3 : Int32) (x4 : Int32) (x5 : Int32) (x6 : Int32) (st : ax_S) : AW C X LM 7 0 (fX9_search_b148 rc rec18 x1 x2 x3 x4 x5 x6 st) 148 [some (.inr 0), some (.inl x1), some (.inl x2), some (.inl x3), some (.inl x4), some (.inl x5), some (.inl x6)] [] st := by
  unfold fX9_search_b148
  refine ax_aloadn hC dX9_search_148 rfl rfl ?_
  refine ax_iload hC dX9_search_149 rfl ?_
  refine ax_iload hC dX9_search_151 rfl ?_
  refine ax_iload hC dX9_search_153 rfl ?_
  refine ax_callV0 hC mlk_X9_210 hst_X9_210 LM_0 [.inl x4, .inl x5, .inl x6] rfl rfl (by omega) (by decide) (Nat.le_of_ble_eq_true rfl) dX9_search_155 (fun r9 s9 h9 => kX9_takeBack _ _ _ _ _ _ h9) (fun r17 st18 => ?_)
  refine ax_sub (lv' := [some (.inr 0), some (.inl x1), some (.inl x2), some (.inl x3), some (.inl x4), none, none]) (ax_leS (ax_leS (ax_leS (ax_leS (ax_leS (ax_leN (ax_leN ax_le0))))))) ?_
  exact kX9_search_b158 hrc h10 hC hrec18 _ _ _ _ _
set_option maxRecDepth 100000 in
theorem kX9_search_b145 {C : ax_C} {X : ax_X} {rc : Int32 → Int32 → Int32 → ax_S → ax_R} {dd : Nat} (hrc : ∀ (u ln v : Int32) (st : ax_S) (r : Int32) (st1 : ax_S), rc u ln v st = some (r, st1) → ax_M LM yX9_search cX9_search 7 none dd [.inr 0, .inl u, .inl ln, .inl v] st 0 r st1) (h10 : 10 ≤ dd) (hC : ax_ok C X LM cX9_search RX9 7 none (dd + 1)) {rec18 : Int32 → Int32 → Int32 → Int32 → ax_S → ax_R} (hrec18 : ∀ (x1 : Int32) (x2 : Int32) (x3 : Int32) (x4 : Int32) (st : ax_S), AW C X LM 7 0 (rec18 x1 x2 x3 x4 st) 18 [some (.inr 0), some (.inl x1), some (.inl x2), some (.inl x3), some (.inl x4), none, none] [] st) (x1 : Int32) (x2 : Int32) (x3 : Int32) (x4 : Int32) (x5 : Int32) (x6 : Int32) (s0 : Int32) (s1 : Int32) (s2 : Int32) (st : ax_S) : AW C X LM 7 0 (fX9_search_b145 rc rec18 x1 x2 x3 x4 x5 x6 s0 s1 s2 st) 145 [some (.inr 0), some (.inl x1), some (.inl x2), some (.inl x3), some (.inl x4), some (.inl x5), some (.inl x6)] [.inl s0, .inl s1, .inl s2, .inr 0] st := by
  unfold fX9_search_b145
  refine ax_callV0 hC mlk_X9_207 hst_X9_207 LM_0 [.inl s2, .inl s1, .inl s0] rfl rfl (by omega) (by decide) (Nat.le_of_ble_eq_true rfl) dX9_search_145 (fun r9 s9 h9 => hrc _ _ _ _ _ _ h9) (fun r19 st20 => ?_)
  exact kX9_search_b148 hrc h10 hC hrec18 _ _ _ _ _ _ _
set_option maxRecDepth 100000 in
theorem kX9_search_b112 {C : ax_C} {X : ax_X} {rc : Int32 → Int32 → Int32 → ax_S → ax_R} {dd : Nat} (hrc : ∀ (u ln v : Int32) (st : ax_S) (r : Int32) (st1 : ax_S), rc u ln v st = some (r, st1) → ax_M LM yX9_search cX9_search 7 none dd [.inr 0, .inl u, .inl ln, .inl v] st 0 r st1) (h10 : 10 ≤ dd) (hC : ax_ok C X LM cX9_search RX9 7 none (dd + 1)) {rec18 : Int32 → Int32 → Int32 → Int32 → ax_S → ax_R} (hrec18 : ∀ (x1 : Int32) (x2 : Int32) (x3 : Int32) (x4 : Int32) (st : ax_S), AW C X LM 7 0 (rec18 x1 x2 x3 x4 st) 18 [some (.inr 0), some (.inl x1), some (.inl x2), some (.inl x3), some (.inl x4), none, none] [] st) (x1 : Int32) (x2 : Int32) (x3 : Int32) (x4 : Int32) (x5 : Int32) (x6 : Int32) (st : ax_S) : AW C X LM 7 0 (fX9_search_b112 rc rec18 x1 x2 x3 x4 x5 x6 st) 112 [some (.inr 0), some (.inl x1), some (.inl x2), some (.inl x3), some (.inl x4), some (.inl x5), some (.inl x6)] [] st := by
  unfold fX9_search_b112
  refine ax_aloadn hC dX9_search_112 rfl rfl ?_
  refine ax_lkR hC lk_X9_71 LM_0 rfl dX9_search_113 ?_
  refine ax_iloadn hC dX9_search_116 rfl rfl ?_
  refine ax_iload hC dX9_search_117 rfl ?_
  refine ax_iast hC LM_21 dX9_search_119 (fun st16 => ?_)
  refine ax_aloadn hC dX9_search_120 rfl rfl ?_
  refine ax_iloadn hC dX9_search_121 rfl rfl ?_
  refine ax_iconst hC dX9_search_122 (v := 1) (by decide) ?_
  refine ax_iload hC dX9_search_123 rfl ?_
  refine ax_ishl hC dX9_search_125 ?_
  refine ax_ior hC dX9_search_126 ?_
  refine ax_iloadn hC dX9_search_127 rfl rfl ?_
  refine ax_iconst hC dX9_search_128 (v := 1) (by decide) ?_
  refine ax_iadd hC dX9_search_129 ?_
  refine ax_iload hC dX9_search_130 rfl ?_
  refine ax_aloadn hC dX9_search_132 rfl rfl ?_
  refine ax_lkI hC lk_X9_188 LM_0 rfl dX9_search_133 ?_
  refine ax_icmp_ne hC dX9_search_136 (tgt := 144) (by decide) (fun _ => ?_) (fun _ => ?_)
  · refine ax_iload hC dX9_search_139 rfl ?_
    refine ax_goto hC dX9_search_141 (tgt := 145) (by decide) ?_
    exact kX9_search_b145 hrc h10 hC hrec18 _ _ _ _ _ _ _ _ _ _
  · refine ax_iloadn hC dX9_search_144 rfl rfl ?_
    exact kX9_search_b145 hrc h10 hC hrec18 _ _ _ _ _ _ _ _ _ _
set_option maxRecDepth 100000 in
theorem kX9_search_b41 {C : ax_C} {X : ax_X} {rc : Int32 → Int32 → Int32 → ax_S → ax_R} {dd : Nat} (hrc : ∀ (u ln v : Int32) (st : ax_S) (r : Int32) (st1 : ax_S), rc u ln v st = some (r, st1) → ax_M LM yX9_search cX9_search 7 none dd [.inr 0, .inl u, .inl ln, .inl v] st 0 r st1) (h10 : 10 ≤ dd) (hC : ax_ok C X LM cX9_search RX9 7 none (dd + 1)) {rec18 : Int32 → Int32 → Int32 → Int32 → ax_S → ax_R} (hrec18 : ∀ (x1 : Int32) (x2 : Int32) (x3 : Int32) (x4 : Int32) (st : ax_S), AW C X LM 7 0 (rec18 x1 x2 x3 x4 st) 18 [some (.inr 0), some (.inl x1), some (.inl x2), some (.inl x3), some (.inl x4), none, none] [] st) (x1 : Int32) (x2 : Int32) (x3 : Int32) (x4 : Int32) (st : ax_S) : AW C X LM 7 0 (fX9_search_b41 rc rec18 x1 x2 x3 x4 st) 41 [some (.inr 0), some (.inl x1), some (.inl x2), some (.inl x3), some (.inl x4), none, none] [] st := by
  unfold fX9_search_b41
  refine ax_iloadn hC dX9_search_41 rfl rfl ?_
  refine ax_iload hC dX9_search_42 rfl ?_
  refine ax_ishr hC dX9_search_44 ?_
  refine ax_iconst hC dX9_search_45 (v := 1) (by decide) ?_
  refine ax_iand hC dX9_search_46 ?_
  refine ax_if_ne hC dX9_search_47 (tgt := 158) (by decide) (fun _ => ?_) (fun _ => ?_)
  · refine ax_aloadn hC dX9_search_50 rfl rfl ?_
    refine ax_iload hC dX9_search_51 rfl ?_
    refine ax_callV1 hC mlk_X9_176 hst_X9_176 LM_0 [.inl x4] rfl rfl (by omega) (by decide) (Nat.le_of_ble_eq_true rfl) dX9_search_53 (fun r9 s9 h9 => kX9_isThere _ _ _ _ h9) (fun r5 st6 => ?_)
    refine ax_if_eq hC dX9_search_56 (tgt := 158) (by decide) (fun _ => ?_) (fun _ => ?_)
    · exact kX9_search_b158 hrc h10 hC hrec18 _ _ _ _ _
    · refine ax_aloadn hC dX9_search_59 rfl rfl ?_
      refine ax_iload hC dX9_search_60 rfl ?_
      refine ax_iloadn hC dX9_search_62 rfl rfl ?_
      refine ax_callV1 hC mlk_X9_201 hst_X9_201 LM_0 [.inl x4, .inl x1] rfl rfl (by omega) (by decide) (Nat.le_of_ble_eq_true rfl) dX9_search_63 (fun r9 s9 h9 => kX9_isReady _ _ _ _ _ h9) (fun r7 st8 => ?_)
      refine ax_if_eq hC dX9_search_66 (tgt := 158) (by decide) (fun _ => ?_) (fun _ => ?_)
      · exact kX9_search_b158 hrc h10 hC hrec18 _ _ _ _ _
      · refine ax_aloadn hC dX9_search_69 rfl rfl ?_
        refine ax_lkR hC lk_X9_55 LM_0 rfl dX9_search_70 ?_
        refine ax_aloadn hC dX9_search_73 rfl rfl ?_
        refine ax_lkR hC lk_X9_22 LM_0 rfl dX9_search_74 ?_
        refine ax_iload hC dX9_search_77 rfl ?_
        refine ax_iald hC LM_5 dX9_search_79 (fun v9 => ?_)
        refine ax_iald hC LM_16 dX9_search_80 (fun v10 => ?_)
        refine ax_istore hC dX9_search_81 (by decide) (lv' := [some (.inr 0), some (.inl x1), some (.inl x2), some (.inl x3), some (.inl x4), some (.inl v10), none]) rfl ?_
        refine ax_aloadn hC dX9_search_83 rfl rfl ?_
        refine ax_iload hC dX9_search_84 rfl ?_
        refine ax_callV1 hC mlk_X9_204 hst_X9_204 LM_0 [.inl x4] rfl rfl (by omega) (by decide) (Nat.le_of_ble_eq_true rfl) dX9_search_86 (fun r9 s9 h9 => kX9_execute _ _ _ _ h9) (fun r11 st12 => ?_)
        refine ax_istore hC dX9_search_89 (by decide) (lv' := [some (.inr 0), some (.inl x1), some (.inl x2), some (.inl x3), some (.inl x4), some (.inl v10), some (.inl r11)]) rfl ?_
        refine ax_aloadn hC dX9_search_91 rfl rfl ?_
        refine ax_iload hC dX9_search_92 rfl ?_
        refine ax_callV1 hC mlk_X9_179 hst_X9_179 LM_0 [.inl x4] rfl rfl (by omega) (by decide) (Nat.le_of_ble_eq_true rfl) dX9_search_94 (fun r9 s9 h9 => kX9_isComplete _ _ _ _ h9) (fun r13 st14 => ?_)
        refine ax_if_eq hC dX9_search_97 (tgt := 112) (by decide) (fun _ => ?_) (fun _ => ?_)
        · exact kX9_search_b112 hrc h10 hC hrec18 _ _ _ _ _ _ _
        · refine ax_iload hC dX9_search_100 rfl ?_
          refine ax_aloadn hC dX9_search_102 rfl rfl ?_
          refine ax_lkR hC lk_X9_37 LM_0 rfl dX9_search_103 ?_
          refine ax_iload hC dX9_search_106 rfl ?_
          refine ax_iald hC LM_10 dX9_search_108 (fun v15 => ?_)
          refine ax_icmp_ne hC dX9_search_109 (tgt := 148) (by decide) (fun _ => ?_) (fun _ => ?_)
          · exact kX9_search_b112 hrc h10 hC hrec18 _ _ _ _ _ _ _
          · exact kX9_search_b148 hrc h10 hC hrec18 _ _ _ _ _ _ _
  · exact kX9_search_b158 hrc h10 hC hrec18 _ _ _ _ _
set_option maxRecDepth 100000 in
theorem kX9_search_L18 {C : ax_C} {X : ax_X} {rc : Int32 → Int32 → Int32 → ax_S → ax_R} {dd : Nat} (hrc : ∀ (u ln v : Int32) (st : ax_S) (r : Int32) (st1 : ax_S), rc u ln v st = some (r, st1) → ax_M LM yX9_search cX9_search 7 none dd [.inr 0, .inl u, .inl ln, .inl v] st 0 r st1) (h10 : 10 ≤ dd) (hC : ax_ok C X LM cX9_search RX9 7 none (dd + 1)) : ∀ (n : Nat) (x1 : Int32) (x2 : Int32) (x3 : Int32) (x4 : Int32) (st : ax_S), AW C X LM 7 0 (fX9_search_L18 rc n x1 x2 x3 x4 st) 18 [some (.inr 0), some (.inl x1), some (.inl x2), some (.inl x3), some (.inl x4), none, none] [] st := by
  intro n
  induction n with
  | zero => intros; exact ax_none rfl
  | succ n hrec180 =>
    intro x1 x2 x3 x4 st
    have hrec18 := hrec180
    rw [fX9_search_L18.eq_2]
    refine ax_iload hC dX9_search_18 rfl ?_
    refine ax_aloadn hC dX9_search_20 rfl rfl ?_
    refine ax_lkI hC lk_X9_101 LM_0 rfl dX9_search_21 ?_
    refine ax_icmp_ge hC dX9_search_24 (tgt := 164) (by decide) (fun _ => ?_) (fun _ => ?_)
    · refine ax_sub (lv' := [none, none, none, none, none, none, none]) (ax_leN (ax_leN (ax_leN (ax_leN (ax_leN (ax_leN (ax_leN ax_le0))))))) ?_
      exact kX9_search_b164 hrc h10 hC _
    · refine ax_aloadn hC dX9_search_27 rfl rfl ?_
      refine ax_lkI hC lk_X9_198 LM_0 rfl dX9_search_28 ?_
      refine ax_if_ne hC dX9_search_31 (tgt := 41) (by decide) (fun _ => ?_) (fun _ => ?_)
      · refine ax_aloadn hC dX9_search_34 rfl rfl ?_
        refine ax_lkI hC lk_X9_182 LM_0 rfl dX9_search_35 ?_
        refine ax_if_ne hC dX9_search_38 (tgt := 164) (by decide) (fun _ => ?_) (fun _ => ?_)
        · exact kX9_search_b41 hrc h10 hC hrec18 _ _ _ _ _
        · refine ax_sub (lv' := [none, none, none, none, none, none, none]) (ax_leN (ax_leN (ax_leN (ax_leN (ax_leN (ax_leN (ax_leN ax_le0))))))) ?_
          exact kX9_search_b164 hrc h10 hC _
      · exact kX9_search_b41 hrc h10 hC hrec18 _ _ _ _ _
set_option maxRecDepth 100000 in
theorem kX9_search_b15 {C : ax_C} {X : ax_X} {rc : Int32 → Int32 → Int32 → ax_S → ax_R} {dd : Nat} (hrc : ∀ (u ln v : Int32) (st : ax_S) (r : Int32) (st1 : ax_S), rc u ln v st = some (r, st1) → ax_M LM yX9_search cX9_search 7 none dd [.inr 0, .inl u, .inl ln, .inl v] st 0 r st1) (h10 : 10 ≤ dd) (hC : ax_ok C X LM cX9_search RX9 7 none (dd + 1)) (x1 : Int32) (x2 : Int32) (x3 : Int32) (st : ax_S) : AW C X LM 7 0 (fX9_search_b15 rc x1 x2 x3 st) 15 [some (.inr 0), some (.inl x1), some (.inl x2), some (.inl x3), none, none, none] [] st := by
  unfold fX9_search_b15
  refine ax_iconst hC dX9_search_15 (v := 0) (by decide) ?_
  refine ax_istore hC dX9_search_16 (by decide) (lv' := [some (.inr 0), some (.inl x1), some (.inl x2), some (.inl x3), some (.inl (0 : Int32)), none, none]) rfl ?_
  exact kX9_search_L18 hrc h10 hC 4000 _ _ _ _ _
set_option maxRecDepth 100000 in
theorem kX9_search_o {rc : Int32 → Int32 → Int32 → ax_S → ax_R} {dd : Nat} (hrc : ∀ (u ln v : Int32) (st : ax_S) (r : Int32) (st1 : ax_S), rc u ln v st = some (r, st1) → ax_M LM yX9_search cX9_search 7 none dd [.inr 0, .inl u, .inl ln, .inl v] st 0 r st1) (h10 : 10 ≤ dd) (x1 : Int32) (x2 : Int32) (x3 : Int32) (st : ax_S) (r : Int32) (stz : ax_S) (h : fX9_search_o rc x1 x2 x3 st = some (r, stz)) : ax_M LM yX9_search cX9_search 7 none (dd + 1) [.inr 0, .inl x1, .inl x2, .inl x3] st 0 r stz := by
  refine ax_start (by decide) (Nat.le_of_ble_eq_true rfl) (lv0 := [some (.inr 0), some (.inl x1), some (.inl x2), some (.inl x3), none, none, none]) rfl (fun C X hC => ?_)
  rw [← h]
  unfold fX9_search_o
  refine ax_aloadn hC dX9_search_0 rfl rfl ?_
  refine ax_iloadn hC dX9_search_1 rfl rfl ?_
  refine ax_callV1 hC mlk_X9_191 hst_X9_191 LM_0 [.inl x1] rfl rfl (by omega) (by decide) (Nat.le_of_ble_eq_true rfl) dX9_search_2 (fun r9 s9 h9 => kX9_hasAll _ _ _ _ h9) (fun r1 st2 => ?_)
  refine ax_if_eq hC dX9_search_5 (tgt := 15) (by decide) (fun _ => ?_) (fun _ => ?_)
  · exact kX9_search_b15 hrc h10 hC _ _ _ _
  · refine ax_aloadn hC dX9_search_8 rfl rfl ?_
    refine ax_iloadn hC dX9_search_9 rfl rfl ?_
    refine ax_iloadn hC dX9_search_10 rfl rfl ?_
    refine ax_iloadn hC dX9_search_11 rfl rfl ?_
    refine ax_callV0 hC mlk_X9_194 hst_X9_194 LM_0 [.inl x1, .inl x2, .inl x3] rfl rfl (by omega) (by decide) (Nat.le_of_ble_eq_true rfl) dX9_search_12 (fun r9 s9 h9 => kX9_finds _ _ _ _ _ _ h9) (fun r3 st4 => ?_)
    exact kX9_search_b15 hrc h10 hC _ _ _ _
theorem kX9_search : ∀ (n : Nat) (x1 : Int32) (x2 : Int32) (x3 : Int32) (st : ax_S) (r : Int32) (st1 : ax_S), fX9_search n x1 x2 x3 st = some (r, st1) → ax_M LM yX9_search cX9_search 7 none (10 + 1 * n) [.inr 0, .inl x1, .inl x2, .inl x3] st 0 r st1 := by
  intro n
  induction n with
  | zero => intro x1 x2 x3 st r st1 h; cases h
  | succ n ih =>
    intro x1 x2 x3 st r st1 h
    have h2 := kX9_search_o (dd := 10 + 1 * n) ih (by omega) x1 x2 x3 st r st1 h
    rw [show 10 + 1 * (n + 1) = 10 + 1 * n + 1 from by omega]
    exact h2
set_option maxRecDepth 100000 in
theorem kX9_searches_L40 {C : ax_C} {X : ax_X} (hC : ax_ok C X LM cX9_searches RX9 7 (some .int) 23) : ∀ (n : Nat) (x6 : Int32) (st : ax_S), AW C X LM 7 1 (fX9_searches_L40 n x6 st) 40 [some (.inr 0), none, none, none, none, none, some (.inl x6)] [] st := by
  intro n
  induction n with
  | zero => intros; exact ax_none rfl
  | succ n hrec400 =>
    intro x6 st
    have hrec40 := hrec400
    rw [fX9_searches_L40.eq_2]
    refine ax_iload hC dX9_searches_40 rfl ?_
    refine ax_aloadn hC dX9_searches_42 rfl rfl ?_
    refine ax_lkR hC lk_X9_77 LM_0 rfl dX9_searches_43 ?_
    refine ax_alen hC LM_23 (v := 2200) (by decide) dX9_searches_46 ?_
    refine ax_icmp_ge hC dX9_searches_47 (tgt := 64) (by decide) (fun _ => ?_) (fun _ => ?_)
    · refine ax_aloadn hC dX9_searches_64 rfl rfl ?_
      refine ax_callV0 hC mlk_X9_213 hst_X9_213 LM_0 [] rfl rfl (by decide) (by decide) (Nat.le_of_ble_eq_true rfl) dX9_searches_65 (fun r9 s9 h9 => kX9_start  _ _ _ h9) (fun r8 st9 => ?_)
      refine ax_aloadn hC dX9_searches_68 rfl rfl ?_
      refine ax_iconst hC dX9_searches_69 (v := 0) (by decide) ?_
      refine ax_iconst hC dX9_searches_70 (v := 0) (by decide) ?_
      refine ax_iconst hC dX9_searches_71 (v := 0) (by decide) ?_
      refine ax_callV0 hC mlk_X9_207 hst_X9_207 LM_0 [.inl (0 : Int32), .inl (0 : Int32), .inl (0 : Int32)] rfl rfl (by decide) (by decide) (Nat.le_of_ble_eq_true rfl) dX9_searches_72 (fun r9 s9 h9 => kX9_search 12 _ _ _ _ _ _ h9) (fun r10 st11 => ?_)
      refine ax_aloadn hC dX9_searches_75 rfl rfl ?_
      refine ax_lkI hC lk_X9_182 LM_0 rfl dX9_searches_76 ?_
      exact ax_iret hC dX9_searches_79
    · refine ax_aloadn hC dX9_searches_50 rfl rfl ?_
      refine ax_lkR hC lk_X9_77 LM_0 rfl dX9_searches_51 ?_
      refine ax_iload hC dX9_searches_54 rfl ?_
      refine ax_iconst hC dX9_searches_56 (v := 0) (by decide) ?_
      refine ax_zast hC LM_23 dX9_searches_57 (fun st12 => ?_)
      refine ax_iinc hC dX9_searches_58 rfl (v := (x6 + (1 : Int32))) rfl (by decide) (lv' := [some (.inr 0), none, none, none, none, none, some (.inl (x6 + (1 : Int32)))]) rfl ?_
      refine ax_goto hC dX9_searches_61 (tgt := 40) (by decide) ?_
      exact hrec40 _ _
set_option maxRecDepth 100000 in
theorem kX9_searches (x1 : Int32) (x2 : Int32) (x3 : Int32) (x4 : Int32) (x5 : Int32) (st : ax_S) (r : Int32) (stz : ax_S) (h : fX9_searches x1 x2 x3 x4 x5 st = some (r, stz)) : ax_M LM yX9_searches cX9_searches 7 (some .int) 23 [.inr 0, .inl x1, .inl x2, .inl x3, .inl x4, .inl x5] st 1 r stz := by
  refine ax_start (by decide) (Nat.le_of_ble_eq_true rfl) (lv0 := [some (.inr 0), some (.inl x1), some (.inl x2), some (.inl x3), some (.inl x4), some (.inl x5), none]) rfl (fun C X hC => ?_)
  rw [← h]
  unfold fX9_searches
  refine ax_aloadn hC dX9_searches_0 rfl rfl ?_
  refine ax_iloadn hC dX9_searches_1 rfl rfl ?_
  refine ax_putI hC lp_X9_166 LM_0 rfl dX9_searches_2 (fun st1 => ?_)
  refine ax_aloadn hC dX9_searches_5 rfl rfl ?_
  refine ax_iloadn hC dX9_searches_6 rfl rfl ?_
  refine ax_putI hC lp_X9_169 LM_0 rfl dX9_searches_7 (fun st2 => ?_)
  refine ax_aloadn hC dX9_searches_10 rfl rfl ?_
  refine ax_iloadn hC dX9_searches_11 rfl rfl ?_
  refine ax_putZ hC lp_X9_172 LM_0 rfl dX9_searches_12 (fun st3 => ?_)
  refine ax_aloadn hC dX9_searches_15 rfl rfl ?_
  refine ax_iload hC dX9_searches_16 rfl ?_
  refine ax_putZ hC lp_X9_198 LM_0 rfl dX9_searches_18 (fun st4 => ?_)
  refine ax_aloadn hC dX9_searches_21 rfl rfl ?_
  refine ax_iload hC dX9_searches_22 rfl ?_
  refine ax_putI hC lp_X9_188 LM_0 rfl dX9_searches_24 (fun st5 => ?_)
  refine ax_aloadn hC dX9_searches_27 rfl rfl ?_
  refine ax_iconst hC dX9_searches_28 (v := 0) (by decide) ?_
  refine ax_putI hC lp_X9_182 LM_0 rfl dX9_searches_29 (fun st6 => ?_)
  refine ax_aloadn hC dX9_searches_32 rfl rfl ?_
  refine ax_iconst hC dX9_searches_33 (v := 0) (by decide) ?_
  refine ax_putI hC lp_X9_185 LM_0 rfl dX9_searches_34 (fun st7 => ?_)
  refine ax_iconst hC dX9_searches_37 (v := 0) (by decide) ?_
  refine ax_istore hC dX9_searches_38 (by decide) (lv' := [some (.inr 0), some (.inl x1), some (.inl x2), some (.inl x3), some (.inl x4), some (.inl x5), some (.inl (0 : Int32))]) rfl ?_
  refine ax_sub (lv' := [some (.inr 0), none, none, none, none, none, some (.inl (0 : Int32))]) (ax_leS (ax_leN (ax_leN (ax_leN (ax_leN (ax_leN (ax_leS ax_le0))))))) ?_
  exact kX9_searches_L40 hC 4000 _ _
set_option maxRecDepth 100000 in
theorem kX9_isLinear_b19 {C : ax_C} {X : ax_X} (hC : ax_ok C X LM cX9_isLinear RX9 2 (some .boolean) 24) (s0 : Int32) (st : ax_S) : AW C X LM 2 1 (fX9_isLinear_b19 s0 st) 19 [none, none] [.inl s0] st := by
  unfold fX9_isLinear_b19
  exact ax_zret hC dX9_isLinear_19
set_option maxRecDepth 100000 in
theorem kX9_isLinear (x1 : Int32) (st : ax_S) (r : Int32) (stz : ax_S) (h : fX9_isLinear x1 st = some (r, stz)) : ax_M LM yX9_isLinear cX9_isLinear 2 (some .boolean) 24 [.inr 0, .inl x1] st 1 r stz := by
  refine ax_start (by decide) (Nat.le_of_ble_eq_true rfl) (lv0 := [some (.inr 0), some (.inl x1)]) rfl (fun C X hC => ?_)
  rw [← h]
  unfold fX9_isLinear
  refine ax_aloadn hC dX9_isLinear_0 rfl rfl ?_
  refine ax_iloadn hC dX9_isLinear_1 rfl rfl ?_
  refine ax_bipush hC dX9_isLinear_2 (v := -10) (by decide) ?_
  refine ax_iconst hC dX9_isLinear_4 (v := 0) (by decide) ?_
  refine ax_iconst hC dX9_isLinear_5 (v := 0) (by decide) ?_
  refine ax_bipush hC dX9_isLinear_6 (v := -10) (by decide) ?_
  refine ax_callV1 hC mlk_X9_216 hst_X9_216 LM_0 [.inl x1, .inl (-10 : Int32), .inl (0 : Int32), .inl (0 : Int32), .inl (-10 : Int32)] rfl rfl (by decide) (by decide) (Nat.le_of_ble_eq_true rfl) dX9_isLinear_8 (fun r9 s9 h9 => kX9_searches _ _ _ _ _ _ _ _ h9) (fun r1 st2 => ?_)
  refine ax_if_le hC dX9_isLinear_11 (tgt := 18) (by decide) (fun _ => ?_) (fun _ => ?_)
  · refine ax_iconst hC dX9_isLinear_18 (v := 0) (by decide) ?_
    refine ax_sub (lv' := [none, none]) (ax_leN (ax_leN ax_le0)) ?_
    exact kX9_isLinear_b19 hC _ _
  · refine ax_iconst hC dX9_isLinear_14 (v := 1) (by decide) ?_
    refine ax_goto hC dX9_isLinear_15 (tgt := 19) (by decide) ?_
    refine ax_sub (lv' := [none, none]) (ax_leN (ax_leN ax_le0)) ?_
    exact kX9_isLinear_b19 hC _ _
set_option maxRecDepth 100000 in
theorem kX9_isLinearizable_b16 {C : ax_C} {X : ax_X} (hC : ax_ok C X LM cX9_isLinearizable RX9 1 (some .int) 25) (s0 : Int32) (st : ax_S) : AW C X LM 1 1 (fX9_isLinearizable_b16 s0 st) 16 [none] [.inl s0] st := by
  unfold fX9_isLinearizable_b16
  exact ax_iret hC dX9_isLinearizable_16
set_option maxRecDepth 100000 in
theorem kX9_isLinearizable (st : ax_S) (r : Int32) (stz : ax_S) (h : fX9_isLinearizable st = some (r, stz)) : ax_M LM yX9_isLinearizable cX9_isLinearizable 1 (some .int) 25 [.inr 0] st 1 r stz := by
  refine ax_start (by decide) (Nat.le_of_ble_eq_true rfl) (lv0 := [some (.inr 0)]) rfl (fun C X hC => ?_)
  rw [← h]
  unfold fX9_isLinearizable
  refine ax_aloadn hC dX9_isLinearizable_0 rfl rfl ?_
  refine ax_aloadn hC dX9_isLinearizable_1 rfl rfl ?_
  refine ax_lkI hC lk_X9_104 LM_0 rfl dX9_isLinearizable_2 ?_
  refine ax_callV1 hC mlk_X9_220 hst_X9_220 LM_0 [.inl (st.1 0 12)] rfl rfl (by decide) (by decide) (Nat.le_of_ble_eq_true rfl) dX9_isLinearizable_5 (fun r9 s9 h9 => kX9_isLinear _ _ _ _ h9) (fun r1 st2 => ?_)
  refine ax_if_eq hC dX9_isLinearizable_8 (tgt := 15) (by decide) (fun _ => ?_) (fun _ => ?_)
  · refine ax_iconst hC dX9_isLinearizable_15 (v := 0) (by decide) ?_
    refine ax_sub (lv' := [none]) (ax_leN ax_le0) ?_
    exact kX9_isLinearizable_b16 hC _ _
  · refine ax_iconst hC dX9_isLinearizable_11 (v := 1) (by decide) ?_
    refine ax_goto hC dX9_isLinearizable_12 (tgt := 16) (by decide) ?_
    refine ax_sub (lv' := [none]) (ax_leN ax_le0) ?_
    exact kX9_isLinearizable_b16 hC _ _
set_option maxRecDepth 100000 in
theorem kX9_isObjectLinearizable_b32 {C : ax_C} {X : ax_X} (hC : ax_ok C X LM cX9_isObjectLinearizable RX9 2 (some .int) 24) (s0 : Int32) (st : ax_S) : AW C X LM 2 1 (fX9_isObjectLinearizable_b32 s0 st) 32 [none, none] [.inl s0] st := by
  unfold fX9_isObjectLinearizable_b32
  exact ax_iret hC dX9_isObjectLinearizable_32
set_option maxRecDepth 100000 in
theorem kX9_isObjectLinearizable (x1 : Int32) (st : ax_S) (r : Int32) (stz : ax_S) (h : fX9_isObjectLinearizable x1 st = some (r, stz)) : ax_M LM yX9_isObjectLinearizable cX9_isObjectLinearizable 2 (some .int) 24 [.inr 0, .inl x1] st 1 r stz := by
  refine ax_start (by decide) (Nat.le_of_ble_eq_true rfl) (lv0 := [some (.inr 0), some (.inl x1)]) rfl (fun C X hC => ?_)
  rw [← h]
  unfold fX9_isObjectLinearizable
  refine ax_aloadn hC dX9_isObjectLinearizable_0 rfl rfl ?_
  refine ax_iloadn hC dX9_isObjectLinearizable_1 rfl rfl ?_
  refine ax_callV1 hC mlk_X9_114 hst_X9_114 LM_0 [.inl x1] rfl rfl (by decide) (by decide) (Nat.le_of_ble_eq_true rfl) dX9_isObjectLinearizable_2 (fun r9 s9 h9 => kX9_isObject _ _ _ _ h9) (fun r1 st2 => ?_)
  refine ax_if_ne hC dX9_isObjectLinearizable_5 (tgt := 11) (by decide) (fun _ => ?_) (fun _ => ?_)
  · refine ax_bipush hC dX9_isObjectLinearizable_8 (v := -2) (by decide) ?_
    exact ax_iret hC dX9_isObjectLinearizable_10
  · refine ax_aloadn hC dX9_isObjectLinearizable_11 rfl rfl ?_
    refine ax_aloadn hC dX9_isObjectLinearizable_12 rfl rfl ?_
    refine ax_lkI hC lk_X9_104 LM_0 rfl dX9_isObjectLinearizable_13 ?_
    refine ax_iloadn hC dX9_isObjectLinearizable_16 rfl rfl ?_
    refine ax_iconst hC dX9_isObjectLinearizable_17 (v := 0) (by decide) ?_
    refine ax_iconst hC dX9_isObjectLinearizable_18 (v := 0) (by decide) ?_
    refine ax_bipush hC dX9_isObjectLinearizable_19 (v := -10) (by decide) ?_
    refine ax_callV1 hC mlk_X9_216 hst_X9_216 LM_0 [.inl (st2.1 0 12), .inl x1, .inl (0 : Int32), .inl (0 : Int32), .inl (-10 : Int32)] rfl rfl (by decide) (by decide) (Nat.le_of_ble_eq_true rfl) dX9_isObjectLinearizable_21 (fun r9 s9 h9 => kX9_searches _ _ _ _ _ _ _ _ h9) (fun r3 st4 => ?_)
    refine ax_if_le hC dX9_isObjectLinearizable_24 (tgt := 31) (by decide) (fun _ => ?_) (fun _ => ?_)
    · refine ax_iconst hC dX9_isObjectLinearizable_31 (v := 0) (by decide) ?_
      refine ax_sub (lv' := [none, none]) (ax_leN (ax_leN ax_le0)) ?_
      exact kX9_isObjectLinearizable_b32 hC _ _
    · refine ax_iconst hC dX9_isObjectLinearizable_27 (v := 1) (by decide) ?_
      refine ax_goto hC dX9_isObjectLinearizable_28 (tgt := 32) (by decide) ?_
      refine ax_sub (lv' := [none, none]) (ax_leN (ax_leN ax_le0)) ?_
      exact kX9_isObjectLinearizable_b32 hC _ _
set_option maxRecDepth 100000 in
theorem kX9_isSequentiallyConsistent_b22 {C : ax_C} {X : ax_X} (hC : ax_ok C X LM cX9_isSequentiallyConsistent RX9 1 (some .int) 24) (s0 : Int32) (st : ax_S) : AW C X LM 1 1 (fX9_isSequentiallyConsistent_b22 s0 st) 22 [none] [.inl s0] st := by
  unfold fX9_isSequentiallyConsistent_b22
  exact ax_iret hC dX9_isSequentiallyConsistent_22
set_option maxRecDepth 100000 in
theorem kX9_isSequentiallyConsistent (st : ax_S) (r : Int32) (stz : ax_S) (h : fX9_isSequentiallyConsistent st = some (r, stz)) : ax_M LM yX9_isSequentiallyConsistent cX9_isSequentiallyConsistent 1 (some .int) 24 [.inr 0] st 1 r stz := by
  refine ax_start (by decide) (Nat.le_of_ble_eq_true rfl) (lv0 := [some (.inr 0)]) rfl (fun C X hC => ?_)
  rw [← h]
  unfold fX9_isSequentiallyConsistent
  refine ax_aloadn hC dX9_isSequentiallyConsistent_0 rfl rfl ?_
  refine ax_aloadn hC dX9_isSequentiallyConsistent_1 rfl rfl ?_
  refine ax_lkI hC lk_X9_104 LM_0 rfl dX9_isSequentiallyConsistent_2 ?_
  refine ax_bipush hC dX9_isSequentiallyConsistent_5 (v := -10) (by decide) ?_
  refine ax_iconst hC dX9_isSequentiallyConsistent_7 (v := 1) (by decide) ?_
  refine ax_iconst hC dX9_isSequentiallyConsistent_8 (v := 0) (by decide) ?_
  refine ax_bipush hC dX9_isSequentiallyConsistent_9 (v := -10) (by decide) ?_
  refine ax_callV1 hC mlk_X9_216 hst_X9_216 LM_0 [.inl (st.1 0 12), .inl (-10 : Int32), .inl (1 : Int32), .inl (0 : Int32), .inl (-10 : Int32)] rfl rfl (by decide) (by decide) (Nat.le_of_ble_eq_true rfl) dX9_isSequentiallyConsistent_11 (fun r9 s9 h9 => kX9_searches _ _ _ _ _ _ _ _ h9) (fun r1 st2 => ?_)
  refine ax_if_le hC dX9_isSequentiallyConsistent_14 (tgt := 21) (by decide) (fun _ => ?_) (fun _ => ?_)
  · refine ax_iconst hC dX9_isSequentiallyConsistent_21 (v := 0) (by decide) ?_
    refine ax_sub (lv' := [none]) (ax_leN ax_le0) ?_
    exact kX9_isSequentiallyConsistent_b22 hC _ _
  · refine ax_iconst hC dX9_isSequentiallyConsistent_17 (v := 1) (by decide) ?_
    refine ax_goto hC dX9_isSequentiallyConsistent_18 (tgt := 22) (by decide) ?_
    refine ax_sub (lv' := [none]) (ax_leN ax_le0) ?_
    exact kX9_isSequentiallyConsistent_b22 hC _ _
set_option maxRecDepth 100000 in
theorem kX9_countLinearizations (st : ax_S) (r : Int32) (stz : ax_S) (h : fX9_countLinearizations st = some (r, stz)) : ax_M LM yX9_countLinearizations cX9_countLinearizations 1 (some .int) 24 [.inr 0] st 1 r stz := by
  refine ax_start (by decide) (Nat.le_of_ble_eq_true rfl) (lv0 := [some (.inr 0)]) rfl (fun C X hC => ?_)
  rw [← h]
  unfold fX9_countLinearizations
  refine ax_aloadn hC dX9_countLinearizations_0 rfl rfl ?_
  refine ax_aloadn hC dX9_countLinearizations_1 rfl rfl ?_
  refine ax_lkI hC lk_X9_104 LM_0 rfl dX9_countLinearizations_2 ?_
  refine ax_bipush hC dX9_countLinearizations_5 (v := -10) (by decide) ?_
  refine ax_iconst hC dX9_countLinearizations_7 (v := 0) (by decide) ?_
  refine ax_iconst hC dX9_countLinearizations_8 (v := 1) (by decide) ?_
  refine ax_bipush hC dX9_countLinearizations_9 (v := -10) (by decide) ?_
  refine ax_callV1 hC mlk_X9_216 hst_X9_216 LM_0 [.inl (st.1 0 12), .inl (-10 : Int32), .inl (0 : Int32), .inl (1 : Int32), .inl (-10 : Int32)] rfl rfl (by decide) (by decide) (Nat.le_of_ble_eq_true rfl) dX9_countLinearizations_11 (fun r9 s9 h9 => kX9_searches _ _ _ _ _ _ _ _ h9) (fun r1 st2 => ?_)
  exact ax_iret hC dX9_countLinearizations_14
set_option maxRecDepth 100000 in
theorem kX9_firstLinearizationLength_b20 {C : ax_C} {X : ax_X} (hC : ax_ok C X LM cX9_firstLinearizationLength RX9 1 (some .int) 25) (s0 : Int32) (st : ax_S) : AW C X LM 1 1 (fX9_firstLinearizationLength_b20 s0 st) 20 [none] [.inl s0] st := by
  unfold fX9_firstLinearizationLength_b20
  exact ax_iret hC dX9_firstLinearizationLength_20
set_option maxRecDepth 100000 in
theorem kX9_firstLinearizationLength (st : ax_S) (r : Int32) (stz : ax_S) (h : fX9_firstLinearizationLength st = some (r, stz)) : ax_M LM yX9_firstLinearizationLength cX9_firstLinearizationLength 1 (some .int) 25 [.inr 0] st 1 r stz := by
  refine ax_start (by decide) (Nat.le_of_ble_eq_true rfl) (lv0 := [some (.inr 0)]) rfl (fun C X hC => ?_)
  rw [← h]
  unfold fX9_firstLinearizationLength
  refine ax_aloadn hC dX9_firstLinearizationLength_0 rfl rfl ?_
  refine ax_aloadn hC dX9_firstLinearizationLength_1 rfl rfl ?_
  refine ax_lkI hC lk_X9_104 LM_0 rfl dX9_firstLinearizationLength_2 ?_
  refine ax_callV1 hC mlk_X9_220 hst_X9_220 LM_0 [.inl (st.1 0 12)] rfl rfl (by decide) (by decide) (Nat.le_of_ble_eq_true rfl) dX9_firstLinearizationLength_5 (fun r9 s9 h9 => kX9_isLinear _ _ _ _ h9) (fun r1 st2 => ?_)
  refine ax_if_eq hC dX9_firstLinearizationLength_8 (tgt := 18) (by decide) (fun _ => ?_) (fun _ => ?_)
  · refine ax_bipush hC dX9_firstLinearizationLength_18 (v := -10) (by decide) ?_
    refine ax_sub (lv' := [none]) (ax_leN ax_le0) ?_
    exact kX9_firstLinearizationLength_b20 hC _ _
  · refine ax_aloadn hC dX9_firstLinearizationLength_11 rfl rfl ?_
    refine ax_lkI hC lk_X9_185 LM_0 rfl dX9_firstLinearizationLength_12 ?_
    refine ax_goto hC dX9_firstLinearizationLength_15 (tgt := 20) (by decide) ?_
    refine ax_sub (lv' := [none]) (ax_leN ax_le0) ?_
    exact kX9_firstLinearizationLength_b20 hC _ _
set_option maxRecDepth 100000 in
theorem kX9_firstLinearizationAt_b36 {C : ax_C} {X : ax_X} (hC : ax_ok C X LM cX9_firstLinearizationAt RX9 2 (some .int) 25) (s0 : Int32) (st : ax_S) : AW C X LM 2 1 (fX9_firstLinearizationAt_b36 s0 st) 36 [none, none] [.inl s0] st := by
  unfold fX9_firstLinearizationAt_b36
  exact ax_iret hC dX9_firstLinearizationAt_36
set_option maxRecDepth 100000 in
theorem kX9_firstLinearizationAt_b34 {C : ax_C} {X : ax_X} (hC : ax_ok C X LM cX9_firstLinearizationAt RX9 2 (some .int) 25) (st : ax_S) : AW C X LM 2 1 (fX9_firstLinearizationAt_b34 st) 34 [none, none] [] st := by
  unfold fX9_firstLinearizationAt_b34
  refine ax_bipush hC dX9_firstLinearizationAt_34 (v := -10) (by decide) ?_
  exact kX9_firstLinearizationAt_b36 hC _ _
set_option maxRecDepth 100000 in
theorem kX9_firstLinearizationAt (x1 : Int32) (st : ax_S) (r : Int32) (stz : ax_S) (h : fX9_firstLinearizationAt x1 st = some (r, stz)) : ax_M LM yX9_firstLinearizationAt cX9_firstLinearizationAt 2 (some .int) 25 [.inr 0, .inl x1] st 1 r stz := by
  refine ax_start (by decide) (Nat.le_of_ble_eq_true rfl) (lv0 := [some (.inr 0), some (.inl x1)]) rfl (fun C X hC => ?_)
  rw [← h]
  unfold fX9_firstLinearizationAt
  refine ax_aloadn hC dX9_firstLinearizationAt_0 rfl rfl ?_
  refine ax_aloadn hC dX9_firstLinearizationAt_1 rfl rfl ?_
  refine ax_lkI hC lk_X9_104 LM_0 rfl dX9_firstLinearizationAt_2 ?_
  refine ax_callV1 hC mlk_X9_220 hst_X9_220 LM_0 [.inl (st.1 0 12)] rfl rfl (by decide) (by decide) (Nat.le_of_ble_eq_true rfl) dX9_firstLinearizationAt_5 (fun r9 s9 h9 => kX9_isLinear _ _ _ _ h9) (fun r1 st2 => ?_)
  refine ax_if_eq hC dX9_firstLinearizationAt_8 (tgt := 34) (by decide) (fun _ => ?_) (fun _ => ?_)
  · refine ax_sub (lv' := [none, none]) (ax_leN (ax_leN ax_le0)) ?_
    exact kX9_firstLinearizationAt_b34 hC _
  · refine ax_iloadn hC dX9_firstLinearizationAt_11 rfl rfl ?_
    refine ax_iconst hC dX9_firstLinearizationAt_12 (v := 0) (by decide) ?_
    refine ax_aloadn hC dX9_firstLinearizationAt_13 rfl rfl ?_
    refine ax_lkI hC lk_X9_185 LM_0 rfl dX9_firstLinearizationAt_14 ?_
    refine ax_iconst hC dX9_firstLinearizationAt_17 (v := 1) (by decide) ?_
    refine ax_isub hC dX9_firstLinearizationAt_18 ?_
    refine ax_callS1 hC mlk_X9_93 hst_X9_93 [.inl x1, .inl (0 : Int32), .inl ((st2.1 0 30) - (1 : Int32))] rfl rfl (by decide) (by decide) (Nat.le_of_ble_eq_true rfl) dX9_firstLinearizationAt_19 (fun r9 s9 h9 => kX9_isIn _ _ _ _ _ _ h9) (fun r3 st4 => ?_)
    refine ax_if_eq hC dX9_firstLinearizationAt_22 (tgt := 34) (by decide) (fun _ => ?_) (fun _ => ?_)
    · refine ax_sub (lv' := [none, none]) (ax_leN (ax_leN ax_le0)) ?_
      exact kX9_firstLinearizationAt_b34 hC _
    · refine ax_aloadn hC dX9_firstLinearizationAt_25 rfl rfl ?_
      refine ax_lkR hC lk_X9_74 LM_0 rfl dX9_firstLinearizationAt_26 ?_
      refine ax_iloadn hC dX9_firstLinearizationAt_29 rfl rfl ?_
      refine ax_iald hC LM_22 dX9_firstLinearizationAt_30 (fun v5 => ?_)
      refine ax_goto hC dX9_firstLinearizationAt_31 (tgt := 36) (by decide) ?_
      refine ax_sub (lv' := [none, none]) (ax_leN (ax_leN ax_le0)) ?_
      exact kX9_firstLinearizationAt_b36 hC _ _
set_option maxRecDepth 100000 in
theorem kX9_firstViolation_L2 {C : ax_C} {X : ax_X} (hC : ax_ok C X LM cX9_firstViolation RX9 2 (some .int) 25) : ∀ (n : Nat) (x1 : Int32) (st : ax_S), AW C X LM 2 1 (fX9_firstViolation_L2 n x1 st) 2 [some (.inr 0), some (.inl x1)] [] st := by
  intro n
  induction n with
  | zero => intros; exact ax_none rfl
  | succ n hrec20 =>
    intro x1 st
    have hrec2 := hrec20
    rw [fX9_firstViolation_L2.eq_2]
    refine ax_iloadn hC dX9_firstViolation_2 rfl rfl ?_
    refine ax_aloadn hC dX9_firstViolation_3 rfl rfl ?_
    refine ax_lkI hC lk_X9_104 LM_0 rfl dX9_firstViolation_4 ?_
    refine ax_icmp_gt hC dX9_firstViolation_7 (tgt := 26) (by decide) (fun _ => ?_) (fun _ => ?_)
    · refine ax_bipush hC dX9_firstViolation_26 (v := -10) (by decide) ?_
      exact ax_iret hC dX9_firstViolation_28
    · refine ax_aloadn hC dX9_firstViolation_10 rfl rfl ?_
      refine ax_iloadn hC dX9_firstViolation_11 rfl rfl ?_
      refine ax_callV1 hC mlk_X9_220 hst_X9_220 LM_0 [.inl x1] rfl rfl (by decide) (by decide) (Nat.le_of_ble_eq_true rfl) dX9_firstViolation_12 (fun r9 s9 h9 => kX9_isLinear _ _ _ _ h9) (fun r1 st2 => ?_)
      refine ax_if_ne hC dX9_firstViolation_15 (tgt := 20) (by decide) (fun _ => ?_) (fun _ => ?_)
      · refine ax_iloadn hC dX9_firstViolation_18 rfl rfl ?_
        exact ax_iret hC dX9_firstViolation_19
      · refine ax_iinc hC dX9_firstViolation_20 rfl (v := (x1 + (1 : Int32))) rfl (by decide) (lv' := [some (.inr 0), some (.inl (x1 + (1 : Int32)))]) rfl ?_
        refine ax_goto hC dX9_firstViolation_23 (tgt := 2) (by decide) ?_
        exact hrec2 _ _
set_option maxRecDepth 100000 in
theorem kX9_firstViolation (st : ax_S) (r : Int32) (stz : ax_S) (h : fX9_firstViolation st = some (r, stz)) : ax_M LM yX9_firstViolation cX9_firstViolation 2 (some .int) 25 [.inr 0] st 1 r stz := by
  refine ax_start (by decide) (Nat.le_of_ble_eq_true rfl) (lv0 := [some (.inr 0), none]) rfl (fun C X hC => ?_)
  rw [← h]
  unfold fX9_firstViolation
  refine ax_iconst hC dX9_firstViolation_0 (v := 1) (by decide) ?_
  refine ax_istoren hC dX9_firstViolation_1 rfl (by decide) (lv' := [some (.inr 0), some (.inl (1 : Int32))]) rfl ?_
  exact kX9_firstViolation_L2 hC 4000 _ _
set_option maxRecDepth 100000 in
theorem kX9_canRespond_b45 {C : ax_C} {X : ax_X} (hC : ax_ok C X LM cX9_canRespond RX9 4 (some .int) 24) (s0 : Int32) (st : ax_S) : AW C X LM 4 1 (fX9_canRespond_b45 s0 st) 45 [none, none, none, none] [.inl s0] st := by
  unfold fX9_canRespond_b45
  exact ax_iret hC dX9_canRespond_45
set_option maxRecDepth 100000 in
theorem kX9_canRespond (x1 : Int32) (x2 : Int32) (st : ax_S) (r : Int32) (stz : ax_S) (h : fX9_canRespond x1 x2 st = some (r, stz)) : ax_M LM yX9_canRespond cX9_canRespond 4 (some .int) 24 [.inr 0, .inl x1, .inl x2] st 1 r stz := by
  refine ax_start (by decide) (Nat.le_of_ble_eq_true rfl) (lv0 := [some (.inr 0), some (.inl x1), some (.inl x2), none]) rfl (fun C X hC => ?_)
  rw [← h]
  unfold fX9_canRespond
  refine ax_aloadn hC dX9_canRespond_0 rfl rfl ?_
  refine ax_iloadn hC dX9_canRespond_1 rfl rfl ?_
  refine ax_iloadn hC dX9_canRespond_2 rfl rfl ?_
  refine ax_callV1 hC mlk_X9_152 hst_X9_152 LM_0 [.inl x1, .inl x2] rfl rfl (by decide) (by decide) (Nat.le_of_ble_eq_true rfl) dX9_canRespond_3 (fun r9 s9 h9 => kX9_mayRespondWith _ _ _ _ _ h9) (fun r1 st2 => ?_)
  refine ax_istoren hC dX9_canRespond_6 rfl (by decide) (lv' := [some (.inr 0), some (.inl x1), some (.inl x2), some (.inl r1)]) rfl ?_
  refine ax_iloadn hC dX9_canRespond_7 rfl rfl ?_
  refine ax_if_ge hC dX9_canRespond_8 (tgt := 13) (by decide) (fun _ => ?_) (fun _ => ?_)
  · refine ax_aloadn hC dX9_canRespond_13 rfl rfl ?_
    refine ax_aloadn hC dX9_canRespond_14 rfl rfl ?_
    refine ax_lkI hC lk_X9_104 LM_0 rfl dX9_canRespond_15 ?_
    refine ax_bipush hC dX9_canRespond_18 (v := -10) (by decide) ?_
    refine ax_iconst hC dX9_canRespond_20 (v := 0) (by decide) ?_
    refine ax_iconst hC dX9_canRespond_21 (v := 1) (by decide) ?_
    refine ax_iloadn hC dX9_canRespond_22 rfl rfl ?_
    refine ax_callV1 hC mlk_X9_216 hst_X9_216 LM_0 [.inl (st2.1 0 12), .inl (-10 : Int32), .inl (0 : Int32), .inl (1 : Int32), .inl r1] rfl rfl (by decide) (by decide) (Nat.le_of_ble_eq_true rfl) dX9_canRespond_23 (fun r9 s9 h9 => kX9_searches _ _ _ _ _ _ _ _ h9) (fun r3 st4 => ?_)
    refine ax_pop hC dX9_canRespond_26 ?_
    refine ax_aloadn hC dX9_canRespond_27 rfl rfl ?_
    refine ax_lkR hC lk_X9_77 LM_0 rfl dX9_canRespond_28 ?_
    refine ax_iloadn hC dX9_canRespond_31 rfl rfl ?_
    refine ax_sipush hC dX9_canRespond_32 (v := 1100) (by decide) ?_
    refine ax_iadd hC dX9_canRespond_35 ?_
    refine ax_zald hC LM_23 dX9_canRespond_36 (fun v5 => ?_)
    refine ax_if_eq hC dX9_canRespond_37 (tgt := 44) (by decide) (fun _ => ?_) (fun _ => ?_)
    · refine ax_iconst hC dX9_canRespond_44 (v := 0) (by decide) ?_
      refine ax_sub (lv' := [none, none, none, none]) (ax_leN (ax_leN (ax_leN (ax_leN ax_le0)))) ?_
      exact kX9_canRespond_b45 hC _ _
    · refine ax_iconst hC dX9_canRespond_40 (v := 1) (by decide) ?_
      refine ax_goto hC dX9_canRespond_41 (tgt := 45) (by decide) ?_
      refine ax_sub (lv' := [none, none, none, none]) (ax_leN (ax_leN (ax_leN (ax_leN ax_le0)))) ?_
      exact kX9_canRespond_b45 hC _ _
  · refine ax_iloadn hC dX9_canRespond_11 rfl rfl ?_
    exact ax_iret hC dX9_canRespond_12
set_option maxRecDepth 100000 in
theorem kX9_countResponses_b73 {C : ax_C} {X : ax_X} (hC : ax_ok C X LM cX9_countResponses RX9 5 (some .int) 24) {rec39 : Int32 → Int32 → Int32 → ax_S → ax_R} (hrec39 : ∀ (x2 : Int32) (x3 : Int32) (x4 : Int32) (st : ax_S), AW C X LM 5 1 (rec39 x2 x3 x4 st) 39 [some (.inr 0), none, some (.inl x2), some (.inl x3), some (.inl x4)] [] st) (x2 : Int32) (x4 : Int32) (s0 : Int32) (s1 : Int32) (st : ax_S) : AW C X LM 5 1 (fX9_countResponses_b73 rec39 x2 x4 s0 s1 st) 73 [some (.inr 0), none, some (.inl x2), none, some (.inl x4)] [.inl s0, .inl s1] st := by
  unfold fX9_countResponses_b73
  refine ax_iadd hC dX9_countResponses_73 ?_
  refine ax_istoren hC dX9_countResponses_74 rfl (by decide) (lv' := [some (.inr 0), none, some (.inl x2), some (.inl (s1 + s0)), some (.inl x4)]) rfl ?_
  refine ax_iinc hC dX9_countResponses_75 rfl (v := (x4 + (1 : Int32))) rfl (by decide) (lv' := [some (.inr 0), none, some (.inl x2), some (.inl (s1 + s0)), some (.inl (x4 + (1 : Int32)))]) rfl ?_
  refine ax_goto hC dX9_countResponses_78 (tgt := 39) (by decide) ?_
  exact hrec39 _ _ _ _
set_option maxRecDepth 100000 in
theorem kX9_countResponses_L39 {C : ax_C} {X : ax_X} (hC : ax_ok C X LM cX9_countResponses RX9 5 (some .int) 24) : ∀ (n : Nat) (x2 : Int32) (x3 : Int32) (x4 : Int32) (st : ax_S), AW C X LM 5 1 (fX9_countResponses_L39 n x2 x3 x4 st) 39 [some (.inr 0), none, some (.inl x2), some (.inl x3), some (.inl x4)] [] st := by
  intro n
  induction n with
  | zero => intros; exact ax_none rfl
  | succ n hrec390 =>
    intro x2 x3 x4 st
    have hrec39 := hrec390
    rw [fX9_countResponses_L39.eq_2]
    refine ax_iload hC dX9_countResponses_39 rfl ?_
    refine ax_aloadn hC dX9_countResponses_41 rfl rfl ?_
    refine ax_lkR hC lk_X9_16 LM_0 rfl dX9_countResponses_42 ?_
    refine ax_iloadn hC dX9_countResponses_45 rfl rfl ?_
    refine ax_iald hC LM_3 dX9_countResponses_46 (fun v8 => ?_)
    refine ax_callS1 hC mlk_X9_149 hst_X9_149 [.inl v8] rfl rfl (by decide) (by decide) (Nat.le_of_ble_eq_true rfl) dX9_countResponses_47 (fun r9 s9 h9 => kX9_maxResult _ _ _ _ h9) (fun r9 st10 => ?_)
    refine ax_icmp_gt hC dX9_countResponses_50 (tgt := 81) (by decide) (fun _ => ?_) (fun _ => ?_)
    · refine ax_iloadn hC dX9_countResponses_81 rfl rfl ?_
      exact ax_iret hC dX9_countResponses_82
    · refine ax_iloadn hC dX9_countResponses_53 rfl rfl ?_
      refine ax_aloadn hC dX9_countResponses_54 rfl rfl ?_
      refine ax_lkR hC lk_X9_77 LM_0 rfl dX9_countResponses_55 ?_
      refine ax_iload hC dX9_countResponses_58 rfl ?_
      refine ax_sipush hC dX9_countResponses_60 (v := 1100) (by decide) ?_
      refine ax_iadd hC dX9_countResponses_63 ?_
      refine ax_zald hC LM_23 dX9_countResponses_64 (fun v11 => ?_)
      refine ax_if_eq hC dX9_countResponses_65 (tgt := 72) (by decide) (fun _ => ?_) (fun _ => ?_)
      · refine ax_iconst hC dX9_countResponses_72 (v := 0) (by decide) ?_
        refine ax_sub (lv' := [some (.inr 0), none, some (.inl x2), none, some (.inl x4)]) (ax_leS (ax_leN (ax_leS (ax_leN (ax_leS ax_le0))))) ?_
        exact kX9_countResponses_b73 hC hrec39 _ _ _ _ _
      · refine ax_iconst hC dX9_countResponses_68 (v := 1) (by decide) ?_
        refine ax_goto hC dX9_countResponses_69 (tgt := 73) (by decide) ?_
        refine ax_sub (lv' := [some (.inr 0), none, some (.inl x2), none, some (.inl x4)]) (ax_leS (ax_leN (ax_leS (ax_leN (ax_leS ax_le0))))) ?_
        exact kX9_countResponses_b73 hC hrec39 _ _ _ _ _
set_option maxRecDepth 100000 in
theorem kX9_countResponses (x1 : Int32) (st : ax_S) (r : Int32) (stz : ax_S) (h : fX9_countResponses x1 st = some (r, stz)) : ax_M LM yX9_countResponses cX9_countResponses 5 (some .int) 24 [.inr 0, .inl x1] st 1 r stz := by
  refine ax_start (by decide) (Nat.le_of_ble_eq_true rfl) (lv0 := [some (.inr 0), some (.inl x1), none, none, none]) rfl (fun C X hC => ?_)
  rw [← h]
  unfold fX9_countResponses
  refine ax_aloadn hC dX9_countResponses_0 rfl rfl ?_
  refine ax_iloadn hC dX9_countResponses_1 rfl rfl ?_
  refine ax_callV1 hC mlk_X9_143 hst_X9_143 LM_0 [.inl x1] rfl rfl (by decide) (by decide) (Nat.le_of_ble_eq_true rfl) dX9_countResponses_2 (fun r9 s9 h9 => kX9_mayRespond _ _ _ _ h9) (fun r1 st2 => ?_)
  refine ax_istoren hC dX9_countResponses_5 rfl (by decide) (lv' := [some (.inr 0), some (.inl x1), some (.inl r1), none, none]) rfl ?_
  refine ax_iloadn hC dX9_countResponses_6 rfl rfl ?_
  refine ax_if_ge hC dX9_countResponses_7 (tgt := 12) (by decide) (fun _ => ?_) (fun _ => ?_)
  · refine ax_aloadn hC dX9_countResponses_12 rfl rfl ?_
    refine ax_aloadn hC dX9_countResponses_13 rfl rfl ?_
    refine ax_lkI hC lk_X9_104 LM_0 rfl dX9_countResponses_14 ?_
    refine ax_bipush hC dX9_countResponses_17 (v := -10) (by decide) ?_
    refine ax_iconst hC dX9_countResponses_19 (v := 0) (by decide) ?_
    refine ax_iconst hC dX9_countResponses_20 (v := 1) (by decide) ?_
    refine ax_iloadn hC dX9_countResponses_21 rfl rfl ?_
    refine ax_callV1 hC mlk_X9_216 hst_X9_216 LM_0 [.inl (st2.1 0 12), .inl (-10 : Int32), .inl (0 : Int32), .inl (1 : Int32), .inl r1] rfl rfl (by decide) (by decide) (Nat.le_of_ble_eq_true rfl) dX9_countResponses_22 (fun r9 s9 h9 => kX9_searches _ _ _ _ _ _ _ _ h9) (fun r3 st4 => ?_)
    refine ax_pop hC dX9_countResponses_25 ?_
    refine ax_iconst hC dX9_countResponses_26 (v := 0) (by decide) ?_
    refine ax_istoren hC dX9_countResponses_27 rfl (by decide) (lv' := [some (.inr 0), some (.inl x1), some (.inl r1), some (.inl (0 : Int32)), none]) rfl ?_
    refine ax_aloadn hC dX9_countResponses_28 rfl rfl ?_
    refine ax_lkR hC lk_X9_16 LM_0 rfl dX9_countResponses_29 ?_
    refine ax_iloadn hC dX9_countResponses_32 rfl rfl ?_
    refine ax_iald hC LM_3 dX9_countResponses_33 (fun v5 => ?_)
    refine ax_callS1 hC mlk_X9_146 hst_X9_146 [.inl v5] rfl rfl (by decide) (by decide) (Nat.le_of_ble_eq_true rfl) dX9_countResponses_34 (fun r9 s9 h9 => kX9_minResult _ _ _ _ h9) (fun r6 st7 => ?_)
    refine ax_istore hC dX9_countResponses_37 (by decide) (lv' := [some (.inr 0), some (.inl x1), some (.inl r1), some (.inl (0 : Int32)), some (.inl r6)]) rfl ?_
    refine ax_sub (lv' := [some (.inr 0), none, some (.inl r1), some (.inl (0 : Int32)), some (.inl r6)]) (ax_leS (ax_leN (ax_leS (ax_leS (ax_leS ax_le0))))) ?_
    exact kX9_countResponses_L39 hC 4000 _ _ _ _
  · refine ax_iloadn hC dX9_countResponses_10 rfl rfl ?_
    exact ax_iret hC dX9_countResponses_11
set_option maxRecDepth 100000 in
theorem kX9_positionOf_L2 {C : ax_C} {X : ax_X} (hC : ax_ok C X LM cX9_positionOf RX9 3 (some .int) 1) : ∀ (n : Nat) (x1 : Int32) (x2 : Int32) (st : ax_S), AW C X LM 3 1 (fX9_positionOf_L2 n x1 x2 st) 2 [some (.inr 0), some (.inl x1), some (.inl x2)] [] st := by
  intro n
  induction n with
  | zero => intros; exact ax_none rfl
  | succ n hrec20 =>
    intro x1 x2 st
    have hrec2 := hrec20
    rw [fX9_positionOf_L2.eq_2]
    refine ax_iloadn hC dX9_positionOf_2 rfl rfl ?_
    refine ax_aloadn hC dX9_positionOf_3 rfl rfl ?_
    refine ax_lkI hC lk_X9_107 LM_0 rfl dX9_positionOf_4 ?_
    refine ax_icmp_ge hC dX9_positionOf_7 (tgt := 28) (by decide) (fun _ => ?_) (fun _ => ?_)
    · refine ax_bipush hC dX9_positionOf_28 (v := -10) (by decide) ?_
      exact ax_iret hC dX9_positionOf_30
    · refine ax_aloadn hC dX9_positionOf_10 rfl rfl ?_
      refine ax_lkR hC lk_X9_49 LM_0 rfl dX9_positionOf_11 ?_
      refine ax_iloadn hC dX9_positionOf_14 rfl rfl ?_
      refine ax_iald hC LM_14 dX9_positionOf_15 (fun v1 => ?_)
      refine ax_iloadn hC dX9_positionOf_16 rfl rfl ?_
      refine ax_icmp_ne hC dX9_positionOf_17 (tgt := 22) (by decide) (fun _ => ?_) (fun _ => ?_)
      · refine ax_iloadn hC dX9_positionOf_20 rfl rfl ?_
        exact ax_iret hC dX9_positionOf_21
      · refine ax_iinc hC dX9_positionOf_22 rfl (v := (x2 + (1 : Int32))) rfl (by decide) (lv' := [some (.inr 0), some (.inl x1), some (.inl (x2 + (1 : Int32)))]) rfl ?_
        refine ax_goto hC dX9_positionOf_25 (tgt := 2) (by decide) ?_
        exact hrec2 _ _ _
set_option maxRecDepth 100000 in
theorem kX9_positionOf (x1 : Int32) (st : ax_S) (r : Int32) (stz : ax_S) (h : fX9_positionOf x1 st = some (r, stz)) : ax_M LM yX9_positionOf cX9_positionOf 3 (some .int) 1 [.inr 0, .inl x1] st 1 r stz := by
  refine ax_start (by decide) (Nat.le_of_ble_eq_true rfl) (lv0 := [some (.inr 0), some (.inl x1), none]) rfl (fun C X hC => ?_)
  rw [← h]
  unfold fX9_positionOf
  refine ax_iconst hC dX9_positionOf_0 (v := 0) (by decide) ?_
  refine ax_istoren hC dX9_positionOf_1 rfl (by decide) (lv' := [some (.inr 0), some (.inl x1), some (.inl (0 : Int32))]) rfl ?_
  exact kX9_positionOf_L2 hC 4000 _ _ _
set_option maxRecDepth 100000 in
theorem kX9_appendToOrder (x1 : Int32) (st : ax_S) (r : Int32) (stz : ax_S) (h : fX9_appendToOrder x1 st = some (r, stz)) : ax_M LM yX9_appendToOrder cX9_appendToOrder 2 (some .int) 3 [.inr 0, .inl x1] st 1 r stz := by
  refine ax_start (by decide) (Nat.le_of_ble_eq_true rfl) (lv0 := [some (.inr 0), some (.inl x1)]) rfl (fun C X hC => ?_)
  rw [← h]
  unfold fX9_appendToOrder
  refine ax_aloadn hC dX9_appendToOrder_0 rfl rfl ?_
  refine ax_iloadn hC dX9_appendToOrder_1 rfl rfl ?_
  refine ax_callV1 hC mlk_X9_155 hst_X9_155 LM_0 [.inl x1] rfl rfl (by decide) (by decide) (Nat.le_of_ble_eq_true rfl) dX9_appendToOrder_2 (fun r9 s9 h9 => kX9_isOperation _ _ _ _ h9) (fun r1 st2 => ?_)
  refine ax_if_ne hC dX9_appendToOrder_5 (tgt := 11) (by decide) (fun _ => ?_) (fun _ => ?_)
  · refine ax_bipush hC dX9_appendToOrder_8 (v := -9) (by decide) ?_
    exact ax_iret hC dX9_appendToOrder_10
  · refine ax_aloadn hC dX9_appendToOrder_11 rfl rfl ?_
    refine ax_iloadn hC dX9_appendToOrder_12 rfl rfl ?_
    refine ax_callV1 hC mlk_X9_223 hst_X9_223 LM_0 [.inl x1] rfl rfl (by decide) (by decide) (Nat.le_of_ble_eq_true rfl) dX9_appendToOrder_13 (fun r9 s9 h9 => kX9_positionOf _ _ _ _ h9) (fun r3 st4 => ?_)
    refine ax_bipush hC dX9_appendToOrder_16 (v := -10) (by decide) ?_
    refine ax_icmp_eq hC dX9_appendToOrder_18 (tgt := 24) (by decide) (fun _ => ?_) (fun _ => ?_)
    · refine ax_aloadn hC dX9_appendToOrder_24 rfl rfl ?_
      refine ax_lkR hC lk_X9_49 LM_0 rfl dX9_appendToOrder_25 ?_
      refine ax_aloadn hC dX9_appendToOrder_28 rfl rfl ?_
      refine ax_lkI hC lk_X9_107 LM_0 rfl dX9_appendToOrder_29 ?_
      refine ax_iloadn hC dX9_appendToOrder_32 rfl rfl ?_
      refine ax_iast hC LM_14 dX9_appendToOrder_33 (fun st5 => ?_)
      refine ax_aloadn hC dX9_appendToOrder_34 rfl rfl ?_
      refine ax_dup hC dX9_appendToOrder_35 ?_
      refine ax_lkI hC lk_X9_107 LM_0 rfl dX9_appendToOrder_36 ?_
      refine ax_iconst hC dX9_appendToOrder_39 (v := 1) (by decide) ?_
      refine ax_iadd hC dX9_appendToOrder_40 ?_
      refine ax_putI hC lp_X9_107 LM_0 rfl dX9_appendToOrder_41 (fun st6 => ?_)
      refine ax_aloadn hC dX9_appendToOrder_44 rfl rfl ?_
      refine ax_lkI hC lk_X9_107 LM_0 rfl dX9_appendToOrder_45 ?_
      exact ax_iret hC dX9_appendToOrder_48
    · refine ax_bipush hC dX9_appendToOrder_21 (v := -12) (by decide) ?_
      exact ax_iret hC dX9_appendToOrder_23
set_option maxRecDepth 100000 in
theorem kX9_removeFromOrder_b63 {C : ax_C} {X : ax_X} (hC : ax_ok C X LM cX9_removeFromOrder RX9 4 (some .int) 3) (x2 : Int32) (st : ax_S) : AW C X LM 4 1 (fX9_removeFromOrder_b63 x2 st) 63 [none, none, some (.inl x2), none] [] st := by
  unfold fX9_removeFromOrder_b63
  refine ax_iloadn hC dX9_removeFromOrder_63 rfl rfl ?_
  exact ax_iret hC dX9_removeFromOrder_64
set_option maxRecDepth 100000 in
theorem kX9_removeFromOrder_L35 {C : ax_C} {X : ax_X} (hC : ax_ok C X LM cX9_removeFromOrder RX9 4 (some .int) 3) : ∀ (n : Nat) (x2 : Int32) (x3 : Int32) (st : ax_S), AW C X LM 4 1 (fX9_removeFromOrder_L35 n x2 x3 st) 35 [some (.inr 0), none, some (.inl x2), some (.inl x3)] [] st := by
  intro n
  induction n with
  | zero => intros; exact ax_none rfl
  | succ n hrec350 =>
    intro x2 x3 st
    have hrec35 := hrec350
    rw [fX9_removeFromOrder_L35.eq_2]
    refine ax_iloadn hC dX9_removeFromOrder_35 rfl rfl ?_
    refine ax_aloadn hC dX9_removeFromOrder_36 rfl rfl ?_
    refine ax_lkI hC lk_X9_107 LM_0 rfl dX9_removeFromOrder_37 ?_
    refine ax_icmp_ge hC dX9_removeFromOrder_40 (tgt := 63) (by decide) (fun _ => ?_) (fun _ => ?_)
    · refine ax_sub (lv' := [none, none, some (.inl x2), none]) (ax_leN (ax_leN (ax_leS (ax_leN ax_le0)))) ?_
      exact kX9_removeFromOrder_b63 hC _ _
    · refine ax_aloadn hC dX9_removeFromOrder_43 rfl rfl ?_
      refine ax_lkR hC lk_X9_49 LM_0 rfl dX9_removeFromOrder_44 ?_
      refine ax_iloadn hC dX9_removeFromOrder_47 rfl rfl ?_
      refine ax_aloadn hC dX9_removeFromOrder_48 rfl rfl ?_
      refine ax_lkR hC lk_X9_49 LM_0 rfl dX9_removeFromOrder_49 ?_
      refine ax_iloadn hC dX9_removeFromOrder_52 rfl rfl ?_
      refine ax_iconst hC dX9_removeFromOrder_53 (v := 1) (by decide) ?_
      refine ax_iadd hC dX9_removeFromOrder_54 ?_
      refine ax_iald hC LM_14 dX9_removeFromOrder_55 (fun v6 => ?_)
      refine ax_iast hC LM_14 dX9_removeFromOrder_56 (fun st7 => ?_)
      refine ax_iinc hC dX9_removeFromOrder_57 rfl (v := (x3 + (1 : Int32))) rfl (by decide) (lv' := [some (.inr 0), none, some (.inl x2), some (.inl (x3 + (1 : Int32)))]) rfl ?_
      refine ax_goto hC dX9_removeFromOrder_60 (tgt := 35) (by decide) ?_
      exact hrec35 _ _ _
set_option maxRecDepth 100000 in
theorem kX9_removeFromOrder (x1 : Int32) (st : ax_S) (r : Int32) (stz : ax_S) (h : fX9_removeFromOrder x1 st = some (r, stz)) : ax_M LM yX9_removeFromOrder cX9_removeFromOrder 4 (some .int) 3 [.inr 0, .inl x1] st 1 r stz := by
  refine ax_start (by decide) (Nat.le_of_ble_eq_true rfl) (lv0 := [some (.inr 0), some (.inl x1), none, none]) rfl (fun C X hC => ?_)
  rw [← h]
  unfold fX9_removeFromOrder
  refine ax_aloadn hC dX9_removeFromOrder_0 rfl rfl ?_
  refine ax_iloadn hC dX9_removeFromOrder_1 rfl rfl ?_
  refine ax_callV1 hC mlk_X9_155 hst_X9_155 LM_0 [.inl x1] rfl rfl (by decide) (by decide) (Nat.le_of_ble_eq_true rfl) dX9_removeFromOrder_2 (fun r9 s9 h9 => kX9_isOperation _ _ _ _ h9) (fun r1 st2 => ?_)
  refine ax_if_ne hC dX9_removeFromOrder_5 (tgt := 11) (by decide) (fun _ => ?_) (fun _ => ?_)
  · refine ax_bipush hC dX9_removeFromOrder_8 (v := -9) (by decide) ?_
    exact ax_iret hC dX9_removeFromOrder_10
  · refine ax_aloadn hC dX9_removeFromOrder_11 rfl rfl ?_
    refine ax_iloadn hC dX9_removeFromOrder_12 rfl rfl ?_
    refine ax_callV1 hC mlk_X9_223 hst_X9_223 LM_0 [.inl x1] rfl rfl (by decide) (by decide) (Nat.le_of_ble_eq_true rfl) dX9_removeFromOrder_13 (fun r9 s9 h9 => kX9_positionOf _ _ _ _ h9) (fun r3 st4 => ?_)
    refine ax_istoren hC dX9_removeFromOrder_16 rfl (by decide) (lv' := [some (.inr 0), some (.inl x1), some (.inl r3), none]) rfl ?_
    refine ax_iloadn hC dX9_removeFromOrder_17 rfl rfl ?_
    refine ax_bipush hC dX9_removeFromOrder_18 (v := -10) (by decide) ?_
    refine ax_icmp_eq hC dX9_removeFromOrder_20 (tgt := 63) (by decide) (fun _ => ?_) (fun _ => ?_)
    · refine ax_sub (lv' := [none, none, some (.inl r3), none]) (ax_leN (ax_leN (ax_leS (ax_leN ax_le0)))) ?_
      exact kX9_removeFromOrder_b63 hC _ _
    · refine ax_aloadn hC dX9_removeFromOrder_23 rfl rfl ?_
      refine ax_dup hC dX9_removeFromOrder_24 ?_
      refine ax_lkI hC lk_X9_107 LM_0 rfl dX9_removeFromOrder_25 ?_
      refine ax_iconst hC dX9_removeFromOrder_28 (v := 1) (by decide) ?_
      refine ax_isub hC dX9_removeFromOrder_29 ?_
      refine ax_putI hC lp_X9_107 LM_0 rfl dX9_removeFromOrder_30 (fun st5 => ?_)
      refine ax_iloadn hC dX9_removeFromOrder_33 rfl rfl ?_
      refine ax_istoren hC dX9_removeFromOrder_34 rfl (by decide) (lv' := [some (.inr 0), some (.inl x1), some (.inl r3), some (.inl r3)]) rfl ?_
      refine ax_sub (lv' := [some (.inr 0), none, some (.inl r3), some (.inl r3)]) (ax_leS (ax_leN (ax_leS (ax_leS ax_le0)))) ?_
      exact kX9_removeFromOrder_L35 hC 4000 _ _ _
set_option maxRecDepth 100000 in
theorem kX9_orderSize (st : ax_S) (r : Int32) (stz : ax_S) (h : fX9_orderSize st = some (r, stz)) : ax_M LM yX9_orderSize cX9_orderSize 1 (some .int) 1 [.inr 0] st 1 r stz := by
  refine ax_start (by decide) (Nat.le_of_ble_eq_true rfl) (lv0 := [some (.inr 0)]) rfl (fun C X hC => ?_)
  rw [← h]
  unfold fX9_orderSize
  refine ax_aloadn hC dX9_orderSize_0 rfl rfl ?_
  refine ax_lkI hC lk_X9_107 LM_0 rfl dX9_orderSize_1 ?_
  exact ax_iret hC dX9_orderSize_4
set_option maxRecDepth 100000 in
theorem kX9_orderAt_b25 {C : ax_C} {X : ax_X} (hC : ax_ok C X LM cX9_orderAt RX9 2 (some .int) 2) (s0 : Int32) (st : ax_S) : AW C X LM 2 1 (fX9_orderAt_b25 s0 st) 25 [none, none] [.inl s0] st := by
  unfold fX9_orderAt_b25
  exact ax_iret hC dX9_orderAt_25
set_option maxRecDepth 100000 in
theorem kX9_orderAt (x1 : Int32) (st : ax_S) (r : Int32) (stz : ax_S) (h : fX9_orderAt x1 st = some (r, stz)) : ax_M LM yX9_orderAt cX9_orderAt 2 (some .int) 2 [.inr 0, .inl x1] st 1 r stz := by
  refine ax_start (by decide) (Nat.le_of_ble_eq_true rfl) (lv0 := [some (.inr 0), some (.inl x1)]) rfl (fun C X hC => ?_)
  rw [← h]
  unfold fX9_orderAt
  refine ax_iloadn hC dX9_orderAt_0 rfl rfl ?_
  refine ax_iconst hC dX9_orderAt_1 (v := 0) (by decide) ?_
  refine ax_aloadn hC dX9_orderAt_2 rfl rfl ?_
  refine ax_lkI hC lk_X9_107 LM_0 rfl dX9_orderAt_3 ?_
  refine ax_iconst hC dX9_orderAt_6 (v := 1) (by decide) ?_
  refine ax_isub hC dX9_orderAt_7 ?_
  refine ax_callS1 hC mlk_X9_93 hst_X9_93 [.inl x1, .inl (0 : Int32), .inl ((st.1 0 16) - (1 : Int32))] rfl rfl (by decide) (by decide) (Nat.le_of_ble_eq_true rfl) dX9_orderAt_8 (fun r9 s9 h9 => kX9_isIn _ _ _ _ _ _ h9) (fun r1 st2 => ?_)
  refine ax_if_eq hC dX9_orderAt_11 (tgt := 23) (by decide) (fun _ => ?_) (fun _ => ?_)
  · refine ax_bipush hC dX9_orderAt_23 (v := -10) (by decide) ?_
    refine ax_sub (lv' := [none, none]) (ax_leN (ax_leN ax_le0)) ?_
    exact kX9_orderAt_b25 hC _ _
  · refine ax_aloadn hC dX9_orderAt_14 rfl rfl ?_
    refine ax_lkR hC lk_X9_49 LM_0 rfl dX9_orderAt_15 ?_
    refine ax_iloadn hC dX9_orderAt_18 rfl rfl ?_
    refine ax_iald hC LM_14 dX9_orderAt_19 (fun v3 => ?_)
    refine ax_goto hC dX9_orderAt_20 (tgt := 25) (by decide) ?_
    refine ax_sub (lv' := [none, none]) (ax_leN (ax_leN ax_le0)) ?_
    exact kX9_orderAt_b25 hC _ _
set_option maxRecDepth 100000 in
theorem kX9_firstBadPosition_b110 {C : ax_C} {X : ax_X} (hC : ax_ok C X LM cX9_firstBadPosition RX9 6 (some .int) 2) {rec8 : Int32 → Int32 → ax_S → ax_R} (hrec8 : ∀ (x1 : Int32) (x2 : Int32) (st : ax_S), AW C X LM 6 1 (rec8 x1 x2 st) 8 [some (.inr 0), some (.inl x1), some (.inl x2), none, none, none] [] st) (x1 : Int32) (x2 : Int32) (x3 : Int32) (st : ax_S) : AW C X LM 6 1 (fX9_firstBadPosition_b110 rec8 x1 x2 x3 st) 110 [some (.inr 0), some (.inl x1), some (.inl x2), some (.inl x3), none, none] [] st := by
  unfold fX9_firstBadPosition_b110
  refine ax_iloadn hC dX9_firstBadPosition_110 rfl rfl ?_
  refine ax_iconst hC dX9_firstBadPosition_111 (v := 1) (by decide) ?_
  refine ax_iloadn hC dX9_firstBadPosition_112 rfl rfl ?_
  refine ax_ishl hC dX9_firstBadPosition_113 ?_
  refine ax_ior hC dX9_firstBadPosition_114 ?_
  refine ax_istoren hC dX9_firstBadPosition_115 rfl (by decide) (lv' := [some (.inr 0), some (.inl (x1 ||| ((1 : Int32) <<< (x3 &&& 31)))), some (.inl x2), some (.inl x3), none, none]) rfl ?_
  refine ax_iinc hC dX9_firstBadPosition_116 rfl (v := (x2 + (1 : Int32))) rfl (by decide) (lv' := [some (.inr 0), some (.inl (x1 ||| ((1 : Int32) <<< (x3 &&& 31)))), some (.inl (x2 + (1 : Int32))), some (.inl x3), none, none]) rfl ?_
  refine ax_goto hC dX9_firstBadPosition_119 (tgt := 8) (by decide) ?_
  refine ax_sub (lv' := [some (.inr 0), some (.inl (x1 ||| ((1 : Int32) <<< (x3 &&& 31)))), some (.inl (x2 + (1 : Int32))), none, none, none]) (ax_leS (ax_leS (ax_leS (ax_leN (ax_leN (ax_leN ax_le0)))))) ?_
  exact hrec8 _ _ _
set_option maxRecDepth 100000 in
theorem kX9_firstBadPosition_b108 {C : ax_C} {X : ax_X} (hC : ax_ok C X LM cX9_firstBadPosition RX9 6 (some .int) 2) (x2 : Int32) (st : ax_S) : AW C X LM 6 1 (fX9_firstBadPosition_b108 x2 st) 108 [none, none, some (.inl x2), none, none, none] [] st := by
  unfold fX9_firstBadPosition_b108
  refine ax_iloadn hC dX9_firstBadPosition_108 rfl rfl ?_
  exact ax_iret hC dX9_firstBadPosition_109
set_option maxRecDepth 100000 in
theorem kX9_firstBadPosition_b67 {C : ax_C} {X : ax_X} (hC : ax_ok C X LM cX9_firstBadPosition RX9 6 (some .int) 2) {rec8 : Int32 → Int32 → ax_S → ax_R} {rec29 : Int32 → Int32 → Int32 → Int32 → Int32 → ax_S → ax_R} (hrec8 : ∀ (x1 : Int32) (x2 : Int32) (st : ax_S), AW C X LM 6 1 (rec8 x1 x2 st) 8 [some (.inr 0), some (.inl x1), some (.inl x2), none, none, none] [] st) (hrec29 : ∀ (x1 : Int32) (x2 : Int32) (x3 : Int32) (x4 : Int32) (x5 : Int32) (st : ax_S), AW C X LM 6 1 (rec29 x1 x2 x3 x4 x5 st) 29 [some (.inr 0), some (.inl x1), some (.inl x2), some (.inl x3), some (.inl x4), some (.inl x5)] [] st) (x1 : Int32) (x2 : Int32) (x3 : Int32) (x5 : Int32) (s0 : Int32) (st : ax_S) : AW C X LM 6 1 (fX9_firstBadPosition_b67 rec8 rec29 x1 x2 x3 x5 s0 st) 67 [some (.inr 0), some (.inl x1), some (.inl x2), some (.inl x3), none, some (.inl x5)] [.inl s0] st := by
  unfold fX9_firstBadPosition_b67
  refine ax_istore hC dX9_firstBadPosition_67 (by decide) (lv' := [some (.inr 0), some (.inl x1), some (.inl x2), some (.inl x3), some (.inl s0), some (.inl x5)]) rfl ?_
  refine ax_iinc hC dX9_firstBadPosition_69 rfl (v := (x5 + (1 : Int32))) rfl (by decide) (lv' := [some (.inr 0), some (.inl x1), some (.inl x2), some (.inl x3), some (.inl s0), some (.inl (x5 + (1 : Int32)))]) rfl ?_
  refine ax_goto hC dX9_firstBadPosition_72 (tgt := 29) (by decide) ?_
  exact hrec29 _ _ _ _ _ _
set_option maxRecDepth 100000 in
theorem kX9_firstBadPosition_b66 {C : ax_C} {X : ax_X} (hC : ax_ok C X LM cX9_firstBadPosition RX9 6 (some .int) 2) {rec8 : Int32 → Int32 → ax_S → ax_R} {rec29 : Int32 → Int32 → Int32 → Int32 → Int32 → ax_S → ax_R} (hrec8 : ∀ (x1 : Int32) (x2 : Int32) (st : ax_S), AW C X LM 6 1 (rec8 x1 x2 st) 8 [some (.inr 0), some (.inl x1), some (.inl x2), none, none, none] [] st) (hrec29 : ∀ (x1 : Int32) (x2 : Int32) (x3 : Int32) (x4 : Int32) (x5 : Int32) (st : ax_S), AW C X LM 6 1 (rec29 x1 x2 x3 x4 x5 st) 29 [some (.inr 0), some (.inl x1), some (.inl x2), some (.inl x3), some (.inl x4), some (.inl x5)] [] st) (x1 : Int32) (x2 : Int32) (x3 : Int32) (x5 : Int32) (st : ax_S) : AW C X LM 6 1 (fX9_firstBadPosition_b66 rec8 rec29 x1 x2 x3 x5 st) 66 [some (.inr 0), some (.inl x1), some (.inl x2), some (.inl x3), none, some (.inl x5)] [] st := by
  unfold fX9_firstBadPosition_b66
  refine ax_iconst hC dX9_firstBadPosition_66 (v := 0) (by decide) ?_
  exact kX9_firstBadPosition_b67 hC hrec8 hrec29 _ _ _ _ _ _
set_option maxRecDepth 100000 in
theorem kX9_firstBadPosition_b62 {C : ax_C} {X : ax_X} (hC : ax_ok C X LM cX9_firstBadPosition RX9 6 (some .int) 2) {rec8 : Int32 → Int32 → ax_S → ax_R} {rec29 : Int32 → Int32 → Int32 → Int32 → Int32 → ax_S → ax_R} (hrec8 : ∀ (x1 : Int32) (x2 : Int32) (st : ax_S), AW C X LM 6 1 (rec8 x1 x2 st) 8 [some (.inr 0), some (.inl x1), some (.inl x2), none, none, none] [] st) (hrec29 : ∀ (x1 : Int32) (x2 : Int32) (x3 : Int32) (x4 : Int32) (x5 : Int32) (st : ax_S), AW C X LM 6 1 (rec29 x1 x2 x3 x4 x5 st) 29 [some (.inr 0), some (.inl x1), some (.inl x2), some (.inl x3), some (.inl x4), some (.inl x5)] [] st) (x1 : Int32) (x2 : Int32) (x3 : Int32) (x5 : Int32) (st : ax_S) : AW C X LM 6 1 (fX9_firstBadPosition_b62 rec8 rec29 x1 x2 x3 x5 st) 62 [some (.inr 0), some (.inl x1), some (.inl x2), some (.inl x3), none, some (.inl x5)] [] st := by
  unfold fX9_firstBadPosition_b62
  refine ax_iconst hC dX9_firstBadPosition_62 (v := 1) (by decide) ?_
  refine ax_goto hC dX9_firstBadPosition_63 (tgt := 67) (by decide) ?_
  exact kX9_firstBadPosition_b67 hC hrec8 hrec29 _ _ _ _ _ _
set_option maxRecDepth 100000 in
theorem kX9_firstBadPosition_L29 {C : ax_C} {X : ax_X} (hC : ax_ok C X LM cX9_firstBadPosition RX9 6 (some .int) 2) {rec8 : Int32 → Int32 → ax_S → ax_R} (hrec8 : ∀ (x1 : Int32) (x2 : Int32) (st : ax_S), AW C X LM 6 1 (rec8 x1 x2 st) 8 [some (.inr 0), some (.inl x1), some (.inl x2), none, none, none] [] st) : ∀ (n : Nat) (x1 : Int32) (x2 : Int32) (x3 : Int32) (x4 : Int32) (x5 : Int32) (st : ax_S), AW C X LM 6 1 (fX9_firstBadPosition_L29 rec8 n x1 x2 x3 x4 x5 st) 29 [some (.inr 0), some (.inl x1), some (.inl x2), some (.inl x3), some (.inl x4), some (.inl x5)] [] st := by
  intro n
  induction n with
  | zero => intros; exact ax_none rfl
  | succ n hrec290 =>
    intro x1 x2 x3 x4 x5 st
    have hrec29 := hrec290
    rw [fX9_firstBadPosition_L29.eq_2]
    refine ax_iload hC dX9_firstBadPosition_29 rfl ?_
    refine ax_aloadn hC dX9_firstBadPosition_31 rfl rfl ?_
    refine ax_lkI hC lk_X9_101 LM_0 rfl dX9_firstBadPosition_32 ?_
    refine ax_icmp_ge hC dX9_firstBadPosition_35 (tgt := 75) (by decide) (fun _ => ?_) (fun _ => ?_)
    · refine ax_aloadn hC dX9_firstBadPosition_75 rfl rfl ?_
      refine ax_iloadn hC dX9_firstBadPosition_76 rfl rfl ?_
      refine ax_callV1 hC mlk_X9_204 hst_X9_204 LM_0 [.inl x3] rfl rfl (by decide) (by decide) (Nat.le_of_ble_eq_true rfl) dX9_firstBadPosition_77 (fun r9 s9 h9 => kX9_execute _ _ _ _ h9) (fun r4 st5 => ?_)
      refine ax_istore hC dX9_firstBadPosition_80 (by decide) (lv' := [some (.inr 0), some (.inl x1), some (.inl x2), some (.inl x3), some (.inl x4), some (.inl r4)]) rfl ?_
      refine ax_iload hC dX9_firstBadPosition_82 rfl ?_
      refine ax_if_ne hC dX9_firstBadPosition_84 (tgt := 108) (by decide) (fun _ => ?_) (fun _ => ?_)
      · refine ax_aloadn hC dX9_firstBadPosition_87 rfl rfl ?_
        refine ax_lkR hC lk_X9_34 LM_0 rfl dX9_firstBadPosition_88 ?_
        refine ax_iloadn hC dX9_firstBadPosition_91 rfl rfl ?_
        refine ax_iald hC LM_9 dX9_firstBadPosition_92 (fun v6 => ?_)
        refine ax_iconst hC dX9_firstBadPosition_93 (v := -1) (by decide) ?_
        refine ax_icmp_eq hC dX9_firstBadPosition_94 (tgt := 110) (by decide) (fun _ => ?_) (fun _ => ?_)
        · refine ax_sub (lv' := [some (.inr 0), some (.inl x1), some (.inl x2), some (.inl x3), none, none]) (ax_leS (ax_leS (ax_leS (ax_leS (ax_leN (ax_leN ax_le0)))))) ?_
          exact kX9_firstBadPosition_b110 hC hrec8 _ _ _ _
        · refine ax_iload hC dX9_firstBadPosition_97 rfl ?_
          refine ax_aloadn hC dX9_firstBadPosition_99 rfl rfl ?_
          refine ax_lkR hC lk_X9_37 LM_0 rfl dX9_firstBadPosition_100 ?_
          refine ax_iloadn hC dX9_firstBadPosition_103 rfl rfl ?_
          refine ax_iald hC LM_10 dX9_firstBadPosition_104 (fun v7 => ?_)
          refine ax_icmp_eq hC dX9_firstBadPosition_105 (tgt := 110) (by decide) (fun _ => ?_) (fun _ => ?_)
          · refine ax_sub (lv' := [some (.inr 0), some (.inl x1), some (.inl x2), some (.inl x3), none, none]) (ax_leS (ax_leS (ax_leS (ax_leS (ax_leN (ax_leN ax_le0)))))) ?_
            exact kX9_firstBadPosition_b110 hC hrec8 _ _ _ _
          · refine ax_sub (lv' := [none, none, some (.inl x2), none, none, none]) (ax_leN (ax_leN (ax_leS (ax_leN (ax_leN (ax_leN ax_le0)))))) ?_
            exact kX9_firstBadPosition_b108 hC _ _
      · refine ax_sub (lv' := [none, none, some (.inl x2), none, none, none]) (ax_leN (ax_leN (ax_leS (ax_leN (ax_leN (ax_leN ax_le0)))))) ?_
        exact kX9_firstBadPosition_b108 hC _ _
    · refine ax_iload hC dX9_firstBadPosition_38 rfl ?_
      refine ax_if_ne hC dX9_firstBadPosition_40 (tgt := 62) (by decide) (fun _ => ?_) (fun _ => ?_)
      · refine ax_aloadn hC dX9_firstBadPosition_43 rfl rfl ?_
        refine ax_iload hC dX9_firstBadPosition_44 rfl ?_
        refine ax_iloadn hC dX9_firstBadPosition_46 rfl rfl ?_
        refine ax_callV1 hC mlk_X9_158 hst_X9_158 LM_0 [.inl x5, .inl x3] rfl rfl (by decide) (by decide) (Nat.le_of_ble_eq_true rfl) dX9_firstBadPosition_47 (fun r9 s9 h9 => kX9_isBefore _ _ _ _ _ h9) (fun r8 st9 => ?_)
        refine ax_if_eq hC dX9_firstBadPosition_50 (tgt := 66) (by decide) (fun _ => ?_) (fun _ => ?_)
        · refine ax_sub (lv' := [some (.inr 0), some (.inl x1), some (.inl x2), some (.inl x3), none, some (.inl x5)]) (ax_leS (ax_leS (ax_leS (ax_leS (ax_leN (ax_leS ax_le0)))))) ?_
          exact kX9_firstBadPosition_b66 hC hrec8 hrec29 _ _ _ _ _
        · refine ax_iloadn hC dX9_firstBadPosition_53 rfl rfl ?_
          refine ax_iload hC dX9_firstBadPosition_54 rfl ?_
          refine ax_ishr hC dX9_firstBadPosition_56 ?_
          refine ax_iconst hC dX9_firstBadPosition_57 (v := 1) (by decide) ?_
          refine ax_iand hC dX9_firstBadPosition_58 ?_
          refine ax_if_ne hC dX9_firstBadPosition_59 (tgt := 66) (by decide) (fun _ => ?_) (fun _ => ?_)
          · refine ax_sub (lv' := [some (.inr 0), some (.inl x1), some (.inl x2), some (.inl x3), none, some (.inl x5)]) (ax_leS (ax_leS (ax_leS (ax_leS (ax_leN (ax_leS ax_le0)))))) ?_
            exact kX9_firstBadPosition_b62 hC hrec8 hrec29 _ _ _ _ _
          · refine ax_sub (lv' := [some (.inr 0), some (.inl x1), some (.inl x2), some (.inl x3), none, some (.inl x5)]) (ax_leS (ax_leS (ax_leS (ax_leS (ax_leN (ax_leS ax_le0)))))) ?_
            exact kX9_firstBadPosition_b66 hC hrec8 hrec29 _ _ _ _ _
      · refine ax_sub (lv' := [some (.inr 0), some (.inl x1), some (.inl x2), some (.inl x3), none, some (.inl x5)]) (ax_leS (ax_leS (ax_leS (ax_leS (ax_leN (ax_leS ax_le0)))))) ?_
        exact kX9_firstBadPosition_b62 hC hrec8 hrec29 _ _ _ _ _
set_option maxRecDepth 100000 in
theorem kX9_firstBadPosition_L8 {C : ax_C} {X : ax_X} (hC : ax_ok C X LM cX9_firstBadPosition RX9 6 (some .int) 2) : ∀ (n : Nat) (x1 : Int32) (x2 : Int32) (st : ax_S), AW C X LM 6 1 (fX9_firstBadPosition_L8 n x1 x2 st) 8 [some (.inr 0), some (.inl x1), some (.inl x2), none, none, none] [] st := by
  intro n
  induction n with
  | zero => intros; exact ax_none rfl
  | succ n hrec80 =>
    intro x1 x2 st
    have hrec8 := hrec80
    rw [fX9_firstBadPosition_L8.eq_2]
    refine ax_iloadn hC dX9_firstBadPosition_8 rfl rfl ?_
    refine ax_aloadn hC dX9_firstBadPosition_9 rfl rfl ?_
    refine ax_lkI hC lk_X9_107 LM_0 rfl dX9_firstBadPosition_10 ?_
    refine ax_icmp_ge hC dX9_firstBadPosition_13 (tgt := 122) (by decide) (fun _ => ?_) (fun _ => ?_)
    · refine ax_bipush hC dX9_firstBadPosition_122 (v := -10) (by decide) ?_
      exact ax_iret hC dX9_firstBadPosition_124
    · refine ax_aloadn hC dX9_firstBadPosition_16 rfl rfl ?_
      refine ax_lkR hC lk_X9_49 LM_0 rfl dX9_firstBadPosition_17 ?_
      refine ax_iloadn hC dX9_firstBadPosition_20 rfl rfl ?_
      refine ax_iald hC LM_14 dX9_firstBadPosition_21 (fun v3 => ?_)
      refine ax_istoren hC dX9_firstBadPosition_22 rfl (by decide) (lv' := [some (.inr 0), some (.inl x1), some (.inl x2), some (.inl v3), none, none]) rfl ?_
      refine ax_iconst hC dX9_firstBadPosition_23 (v := 0) (by decide) ?_
      refine ax_istore hC dX9_firstBadPosition_24 (by decide) (lv' := [some (.inr 0), some (.inl x1), some (.inl x2), some (.inl v3), some (.inl (0 : Int32)), none]) rfl ?_
      refine ax_iconst hC dX9_firstBadPosition_26 (v := 0) (by decide) ?_
      refine ax_istore hC dX9_firstBadPosition_27 (by decide) (lv' := [some (.inr 0), some (.inl x1), some (.inl x2), some (.inl v3), some (.inl (0 : Int32)), some (.inl (0 : Int32))]) rfl ?_
      exact kX9_firstBadPosition_L29 hC hrec8 4000 _ _ _ _ _ _
set_option maxRecDepth 100000 in
theorem kX9_firstBadPosition (st : ax_S) (r : Int32) (stz : ax_S) (h : fX9_firstBadPosition st = some (r, stz)) : ax_M LM yX9_firstBadPosition cX9_firstBadPosition 6 (some .int) 2 [.inr 0] st 1 r stz := by
  refine ax_start (by decide) (Nat.le_of_ble_eq_true rfl) (lv0 := [some (.inr 0), none, none, none, none, none]) rfl (fun C X hC => ?_)
  rw [← h]
  unfold fX9_firstBadPosition
  refine ax_aloadn hC dX9_firstBadPosition_0 rfl rfl ?_
  refine ax_callV0 hC mlk_X9_213 hst_X9_213 LM_0 [] rfl rfl (by decide) (by decide) (Nat.le_of_ble_eq_true rfl) dX9_firstBadPosition_1 (fun r9 s9 h9 => kX9_start  _ _ _ h9) (fun r1 st2 => ?_)
  refine ax_iconst hC dX9_firstBadPosition_4 (v := 0) (by decide) ?_
  refine ax_istoren hC dX9_firstBadPosition_5 rfl (by decide) (lv' := [some (.inr 0), some (.inl (0 : Int32)), none, none, none, none]) rfl ?_
  refine ax_iconst hC dX9_firstBadPosition_6 (v := 0) (by decide) ?_
  refine ax_istoren hC dX9_firstBadPosition_7 rfl (by decide) (lv' := [some (.inr 0), some (.inl (0 : Int32)), some (.inl (0 : Int32)), none, none, none]) rfl ?_
  exact kX9_firstBadPosition_L8 hC 4000 _ _ _
set_option maxRecDepth 100000 in
theorem kX9_isOrderLinearization_b70 {C : ax_C} {X : ax_X} (hC : ax_ok C X LM cX9_isOrderLinearization RX9 3 (some .int) 3) (s0 : Int32) (st : ax_S) : AW C X LM 3 1 (fX9_isOrderLinearization_b70 s0 st) 70 [none, none, none] [.inl s0] st := by
  unfold fX9_isOrderLinearization_b70
  exact ax_iret hC dX9_isOrderLinearization_70
set_option maxRecDepth 100000 in
theorem kX9_isOrderLinearization_b54 {C : ax_C} {X : ax_X} (hC : ax_ok C X LM cX9_isOrderLinearization RX9 3 (some .int) 3) {rec17 : Int32 → Int32 → ax_S → ax_R} (hrec17 : ∀ (x1 : Int32) (x2 : Int32) (st : ax_S), AW C X LM 3 1 (rec17 x1 x2 st) 17 [some (.inr 0), some (.inl x1), some (.inl x2)] [] st) (x2 : Int32) (s0 : Int32) (st : ax_S) : AW C X LM 3 1 (fX9_isOrderLinearization_b54 rec17 x2 s0 st) 54 [some (.inr 0), none, some (.inl x2)] [.inl s0] st := by
  unfold fX9_isOrderLinearization_b54
  refine ax_istoren hC dX9_isOrderLinearization_54 rfl (by decide) (lv' := [some (.inr 0), some (.inl s0), some (.inl x2)]) rfl ?_
  refine ax_iinc hC dX9_isOrderLinearization_55 rfl (v := (x2 + (1 : Int32))) rfl (by decide) (lv' := [some (.inr 0), some (.inl s0), some (.inl (x2 + (1 : Int32)))]) rfl ?_
  refine ax_goto hC dX9_isOrderLinearization_58 (tgt := 17) (by decide) ?_
  exact hrec17 _ _ _
set_option maxRecDepth 100000 in
theorem kX9_isOrderLinearization_b53 {C : ax_C} {X : ax_X} (hC : ax_ok C X LM cX9_isOrderLinearization RX9 3 (some .int) 3) {rec17 : Int32 → Int32 → ax_S → ax_R} (hrec17 : ∀ (x1 : Int32) (x2 : Int32) (st : ax_S), AW C X LM 3 1 (rec17 x1 x2 st) 17 [some (.inr 0), some (.inl x1), some (.inl x2)] [] st) (x2 : Int32) (st : ax_S) : AW C X LM 3 1 (fX9_isOrderLinearization_b53 rec17 x2 st) 53 [some (.inr 0), none, some (.inl x2)] [] st := by
  unfold fX9_isOrderLinearization_b53
  refine ax_iconst hC dX9_isOrderLinearization_53 (v := 0) (by decide) ?_
  exact kX9_isOrderLinearization_b54 hC hrec17 _ _ _
set_option maxRecDepth 100000 in
theorem kX9_isOrderLinearization_b49 {C : ax_C} {X : ax_X} (hC : ax_ok C X LM cX9_isOrderLinearization RX9 3 (some .int) 3) {rec17 : Int32 → Int32 → ax_S → ax_R} (hrec17 : ∀ (x1 : Int32) (x2 : Int32) (st : ax_S), AW C X LM 3 1 (rec17 x1 x2 st) 17 [some (.inr 0), some (.inl x1), some (.inl x2)] [] st) (x2 : Int32) (st : ax_S) : AW C X LM 3 1 (fX9_isOrderLinearization_b49 rec17 x2 st) 49 [some (.inr 0), none, some (.inl x2)] [] st := by
  unfold fX9_isOrderLinearization_b49
  refine ax_iconst hC dX9_isOrderLinearization_49 (v := 1) (by decide) ?_
  refine ax_goto hC dX9_isOrderLinearization_50 (tgt := 54) (by decide) ?_
  exact kX9_isOrderLinearization_b54 hC hrec17 _ _ _
set_option maxRecDepth 100000 in
theorem kX9_isOrderLinearization_L17 {C : ax_C} {X : ax_X} (hC : ax_ok C X LM cX9_isOrderLinearization RX9 3 (some .int) 3) : ∀ (n : Nat) (x1 : Int32) (x2 : Int32) (st : ax_S), AW C X LM 3 1 (fX9_isOrderLinearization_L17 n x1 x2 st) 17 [some (.inr 0), some (.inl x1), some (.inl x2)] [] st := by
  intro n
  induction n with
  | zero => intros; exact ax_none rfl
  | succ n hrec170 =>
    intro x1 x2 st
    have hrec17 := hrec170
    rw [fX9_isOrderLinearization_L17.eq_2]
    refine ax_iloadn hC dX9_isOrderLinearization_17 rfl rfl ?_
    refine ax_aloadn hC dX9_isOrderLinearization_18 rfl rfl ?_
    refine ax_lkI hC lk_X9_101 LM_0 rfl dX9_isOrderLinearization_19 ?_
    refine ax_icmp_ge hC dX9_isOrderLinearization_22 (tgt := 61) (by decide) (fun _ => ?_) (fun _ => ?_)
    · refine ax_iloadn hC dX9_isOrderLinearization_61 rfl rfl ?_
      refine ax_if_eq hC dX9_isOrderLinearization_62 (tgt := 69) (by decide) (fun _ => ?_) (fun _ => ?_)
      · refine ax_iconst hC dX9_isOrderLinearization_69 (v := 0) (by decide) ?_
        refine ax_sub (lv' := [none, none, none]) (ax_leN (ax_leN (ax_leN ax_le0))) ?_
        exact kX9_isOrderLinearization_b70 hC _ _
      · refine ax_iconst hC dX9_isOrderLinearization_65 (v := 1) (by decide) ?_
        refine ax_goto hC dX9_isOrderLinearization_66 (tgt := 70) (by decide) ?_
        refine ax_sub (lv' := [none, none, none]) (ax_leN (ax_leN (ax_leN ax_le0))) ?_
        exact kX9_isOrderLinearization_b70 hC _ _
    · refine ax_iloadn hC dX9_isOrderLinearization_25 rfl rfl ?_
      refine ax_if_eq hC dX9_isOrderLinearization_26 (tgt := 53) (by decide) (fun _ => ?_) (fun _ => ?_)
      · refine ax_sub (lv' := [some (.inr 0), none, some (.inl x2)]) (ax_leS (ax_leN (ax_leS ax_le0))) ?_
        exact kX9_isOrderLinearization_b53 hC hrec17 _ _
      · refine ax_aloadn hC dX9_isOrderLinearization_29 rfl rfl ?_
        refine ax_lkR hC lk_X9_34 LM_0 rfl dX9_isOrderLinearization_30 ?_
        refine ax_iloadn hC dX9_isOrderLinearization_33 rfl rfl ?_
        refine ax_iald hC LM_9 dX9_isOrderLinearization_34 (fun v3 => ?_)
        refine ax_iconst hC dX9_isOrderLinearization_35 (v := -1) (by decide) ?_
        refine ax_icmp_eq hC dX9_isOrderLinearization_36 (tgt := 49) (by decide) (fun _ => ?_) (fun _ => ?_)
        · refine ax_sub (lv' := [some (.inr 0), none, some (.inl x2)]) (ax_leS (ax_leN (ax_leS ax_le0))) ?_
          exact kX9_isOrderLinearization_b49 hC hrec17 _ _
        · refine ax_aloadn hC dX9_isOrderLinearization_39 rfl rfl ?_
          refine ax_iloadn hC dX9_isOrderLinearization_40 rfl rfl ?_
          refine ax_callV1 hC mlk_X9_223 hst_X9_223 LM_0 [.inl x2] rfl rfl (by decide) (by decide) (Nat.le_of_ble_eq_true rfl) dX9_isOrderLinearization_41 (fun r9 s9 h9 => kX9_positionOf _ _ _ _ h9) (fun r4 st5 => ?_)
          refine ax_bipush hC dX9_isOrderLinearization_44 (v := -10) (by decide) ?_
          refine ax_icmp_eq hC dX9_isOrderLinearization_46 (tgt := 53) (by decide) (fun _ => ?_) (fun _ => ?_)
          · refine ax_sub (lv' := [some (.inr 0), none, some (.inl x2)]) (ax_leS (ax_leN (ax_leS ax_le0))) ?_
            exact kX9_isOrderLinearization_b53 hC hrec17 _ _
          · refine ax_sub (lv' := [some (.inr 0), none, some (.inl x2)]) (ax_leS (ax_leN (ax_leS ax_le0))) ?_
            exact kX9_isOrderLinearization_b49 hC hrec17 _ _
set_option maxRecDepth 100000 in
theorem kX9_isOrderLinearization_b14 {C : ax_C} {X : ax_X} (hC : ax_ok C X LM cX9_isOrderLinearization RX9 3 (some .int) 3) (s0 : Int32) (st : ax_S) : AW C X LM 3 1 (fX9_isOrderLinearization_b14 s0 st) 14 [some (.inr 0), none, none] [.inl s0] st := by
  unfold fX9_isOrderLinearization_b14
  refine ax_istoren hC dX9_isOrderLinearization_14 rfl (by decide) (lv' := [some (.inr 0), some (.inl s0), none]) rfl ?_
  refine ax_iconst hC dX9_isOrderLinearization_15 (v := 0) (by decide) ?_
  refine ax_istoren hC dX9_isOrderLinearization_16 rfl (by decide) (lv' := [some (.inr 0), some (.inl s0), some (.inl (0 : Int32))]) rfl ?_
  exact kX9_isOrderLinearization_L17 hC 4000 _ _ _
set_option maxRecDepth 100000 in
theorem kX9_isOrderLinearization (st : ax_S) (r : Int32) (stz : ax_S) (h : fX9_isOrderLinearization st = some (r, stz)) : ax_M LM yX9_isOrderLinearization cX9_isOrderLinearization 3 (some .int) 3 [.inr 0] st 1 r stz := by
  refine ax_start (by decide) (Nat.le_of_ble_eq_true rfl) (lv0 := [some (.inr 0), none, none]) rfl (fun C X hC => ?_)
  rw [← h]
  unfold fX9_isOrderLinearization
  refine ax_aloadn hC dX9_isOrderLinearization_0 rfl rfl ?_
  refine ax_callV1 hC mlk_X9_226 hst_X9_226 LM_0 [] rfl rfl (by decide) (by decide) (Nat.le_of_ble_eq_true rfl) dX9_isOrderLinearization_1 (fun r9 s9 h9 => kX9_firstBadPosition  _ _ _ h9) (fun r1 st2 => ?_)
  refine ax_bipush hC dX9_isOrderLinearization_4 (v := -10) (by decide) ?_
  refine ax_icmp_ne hC dX9_isOrderLinearization_6 (tgt := 13) (by decide) (fun _ => ?_) (fun _ => ?_)
  · refine ax_iconst hC dX9_isOrderLinearization_9 (v := 1) (by decide) ?_
    refine ax_goto hC dX9_isOrderLinearization_10 (tgt := 14) (by decide) ?_
    exact kX9_isOrderLinearization_b14 hC _ _
  · refine ax_iconst hC dX9_isOrderLinearization_13 (v := 0) (by decide) ?_
    exact kX9_isOrderLinearization_b14 hC _ _
set_option maxRecDepth 100000 in
theorem kX9_appendCharacter (x1 : Int32) (st : ax_S) (r : Int32) (stz : ax_S) (h : fX9_appendCharacter x1 st = some (r, stz)) : ax_M LM yX9_appendCharacter cX9_appendCharacter 2 (some .int) 2 [.inr 0, .inl x1] st 1 r stz := by
  refine ax_start (by decide) (Nat.le_of_ble_eq_true rfl) (lv0 := [some (.inr 0), some (.inl x1)]) rfl (fun C X hC => ?_)
  rw [← h]
  unfold fX9_appendCharacter
  refine ax_iloadn hC dX9_appendCharacter_0 rfl rfl ?_
  refine ax_bipush hC dX9_appendCharacter_1 (v := 32) (by decide) ?_
  refine ax_bipush hC dX9_appendCharacter_3 (v := 126) (by decide) ?_
  refine ax_callS1 hC mlk_X9_93 hst_X9_93 [.inl x1, .inl (32 : Int32), .inl (126 : Int32)] rfl rfl (by decide) (by decide) (Nat.le_of_ble_eq_true rfl) dX9_appendCharacter_5 (fun r9 s9 h9 => kX9_isIn _ _ _ _ _ _ h9) (fun r1 st2 => ?_)
  refine ax_if_ne hC dX9_appendCharacter_8 (tgt := 14) (by decide) (fun _ => ?_) (fun _ => ?_)
  · refine ax_bipush hC dX9_appendCharacter_11 (v := -4) (by decide) ?_
    exact ax_iret hC dX9_appendCharacter_13
  · refine ax_aloadn hC dX9_appendCharacter_14 rfl rfl ?_
    refine ax_lkI hC lk_X9_230 LM_0 rfl dX9_appendCharacter_15 ?_
    refine ax_bipush hC dX9_appendCharacter_18 (v := 120) (by decide) ?_
    refine ax_icmp_ne hC dX9_appendCharacter_20 (tgt := 26) (by decide) (fun _ => ?_) (fun _ => ?_)
    · refine ax_bipush hC dX9_appendCharacter_23 (v := -8) (by decide) ?_
      exact ax_iret hC dX9_appendCharacter_25
    · refine ax_aloadn hC dX9_appendCharacter_26 rfl rfl ?_
      refine ax_lkR hC lk_X9_84 LM_0 rfl dX9_appendCharacter_27 ?_
      refine ax_aloadn hC dX9_appendCharacter_30 rfl rfl ?_
      refine ax_lkI hC lk_X9_230 LM_0 rfl dX9_appendCharacter_31 ?_
      refine ax_iloadn hC dX9_appendCharacter_34 rfl rfl ?_
      refine ax_iast hC LM_25 dX9_appendCharacter_35 (fun st3 => ?_)
      refine ax_aloadn hC dX9_appendCharacter_36 rfl rfl ?_
      refine ax_dup hC dX9_appendCharacter_37 ?_
      refine ax_lkI hC lk_X9_230 LM_0 rfl dX9_appendCharacter_38 ?_
      refine ax_iconst hC dX9_appendCharacter_41 (v := 1) (by decide) ?_
      refine ax_iadd hC dX9_appendCharacter_42 ?_
      refine ax_putI hC lp_X9_230 LM_0 rfl dX9_appendCharacter_43 (fun st4 => ?_)
      refine ax_aloadn hC dX9_appendCharacter_46 rfl rfl ?_
      refine ax_lkI hC lk_X9_230 LM_0 rfl dX9_appendCharacter_47 ?_
      exact ax_iret hC dX9_appendCharacter_50
set_option maxRecDepth 100000 in
theorem kX9_clearText (st : ax_S) (r : Int32) (stz : ax_S) (h : fX9_clearText st = some (r, stz)) : ax_M LM yX9_clearText cX9_clearText 2 (some .int) 1 [.inr 0] st 1 r stz := by
  refine ax_start (by decide) (Nat.le_of_ble_eq_true rfl) (lv0 := [some (.inr 0), none]) rfl (fun C X hC => ?_)
  rw [← h]
  unfold fX9_clearText
  refine ax_aloadn hC dX9_clearText_0 rfl rfl ?_
  refine ax_lkI hC lk_X9_230 LM_0 rfl dX9_clearText_1 ?_
  refine ax_istoren hC dX9_clearText_4 rfl (by decide) (lv' := [some (.inr 0), some (.inl (st.1 0 36))]) rfl ?_
  refine ax_aloadn hC dX9_clearText_5 rfl rfl ?_
  refine ax_iconst hC dX9_clearText_6 (v := 0) (by decide) ?_
  refine ax_putI hC lp_X9_230 LM_0 rfl dX9_clearText_7 (fun st1 => ?_)
  refine ax_iloadn hC dX9_clearText_10 rfl rfl ?_
  exact ax_iret hC dX9_clearText_11
set_option maxRecDepth 100000 in
theorem kX9_isAt_b33 {C : ax_C} {X : ax_X} (hC : ax_ok C X LM cX9_isAt RX9 3 (some .boolean) 2) (s0 : Int32) (st : ax_S) : AW C X LM 3 1 (fX9_isAt_b33 s0 st) 33 [none, none, none] [.inl s0] st := by
  unfold fX9_isAt_b33
  exact ax_zret hC dX9_isAt_33
set_option maxRecDepth 100000 in
theorem kX9_isAt_b32 {C : ax_C} {X : ax_X} (hC : ax_ok C X LM cX9_isAt RX9 3 (some .boolean) 2) (st : ax_S) : AW C X LM 3 1 (fX9_isAt_b32 st) 32 [none, none, none] [] st := by
  unfold fX9_isAt_b32
  refine ax_iconst hC dX9_isAt_32 (v := 0) (by decide) ?_
  exact kX9_isAt_b33 hC _ _
set_option maxRecDepth 100000 in
theorem kX9_isAt (x1 : Int32) (x2 : Int32) (st : ax_S) (r : Int32) (stz : ax_S) (h : fX9_isAt x1 x2 st = some (r, stz)) : ax_M LM yX9_isAt cX9_isAt 3 (some .boolean) 2 [.inr 0, .inl x1, .inl x2] st 1 r stz := by
  refine ax_start (by decide) (Nat.le_of_ble_eq_true rfl) (lv0 := [some (.inr 0), some (.inl x1), some (.inl x2)]) rfl (fun C X hC => ?_)
  rw [← h]
  unfold fX9_isAt
  refine ax_aloadn hC dX9_isAt_0 rfl rfl ?_
  refine ax_lkI hC lk_X9_233 LM_0 rfl dX9_isAt_1 ?_
  refine ax_aloadn hC dX9_isAt_4 rfl rfl ?_
  refine ax_lkI hC lk_X9_236 LM_0 rfl dX9_isAt_5 ?_
  refine ax_icmp_ge hC dX9_isAt_8 (tgt := 32) (by decide) (fun _ => ?_) (fun _ => ?_)
  · refine ax_sub (lv' := [none, none, none]) (ax_leN (ax_leN (ax_leN ax_le0))) ?_
    exact kX9_isAt_b32 hC _
  · refine ax_aloadn hC dX9_isAt_11 rfl rfl ?_
    refine ax_lkR hC lk_X9_84 LM_0 rfl dX9_isAt_12 ?_
    refine ax_aloadn hC dX9_isAt_15 rfl rfl ?_
    refine ax_lkI hC lk_X9_233 LM_0 rfl dX9_isAt_16 ?_
    refine ax_iald hC LM_25 dX9_isAt_19 (fun v1 => ?_)
    refine ax_iloadn hC dX9_isAt_20 rfl rfl ?_
    refine ax_iloadn hC dX9_isAt_21 rfl rfl ?_
    refine ax_callS1 hC mlk_X9_93 hst_X9_93 [.inl v1, .inl x1, .inl x2] rfl rfl (by decide) (by decide) (Nat.le_of_ble_eq_true rfl) dX9_isAt_22 (fun r9 s9 h9 => kX9_isIn _ _ _ _ _ _ h9) (fun r2 st3 => ?_)
    refine ax_if_eq hC dX9_isAt_25 (tgt := 32) (by decide) (fun _ => ?_) (fun _ => ?_)
    · refine ax_sub (lv' := [none, none, none]) (ax_leN (ax_leN (ax_leN ax_le0))) ?_
      exact kX9_isAt_b32 hC _
    · refine ax_iconst hC dX9_isAt_28 (v := 1) (by decide) ?_
      refine ax_goto hC dX9_isAt_29 (tgt := 33) (by decide) ?_
      refine ax_sub (lv' := [none, none, none]) (ax_leN (ax_leN (ax_leN ax_le0))) ?_
      exact kX9_isAt_b33 hC _ _
set_option maxRecDepth 100000 in
theorem kX9_takesDigit (x1 : Int32) (st : ax_S) (r : Int32) (stz : ax_S) (h : fX9_takesDigit x1 st = some (r, stz)) : ax_M LM yX9_takesDigit cX9_takesDigit 2 (some .boolean) 3 [.inr 0, .inl x1] st 1 r stz := by
  refine ax_start (by decide) (Nat.le_of_ble_eq_true rfl) (lv0 := [some (.inr 0), some (.inl x1)]) rfl (fun C X hC => ?_)
  rw [← h]
  unfold fX9_takesDigit
  refine ax_aloadn hC dX9_takesDigit_0 rfl rfl ?_
  refine ax_bipush hC dX9_takesDigit_1 (v := 48) (by decide) ?_
  refine ax_bipush hC dX9_takesDigit_3 (v := 57) (by decide) ?_
  refine ax_callV1 hC mlk_X9_239 hst_X9_239 LM_0 [.inl (48 : Int32), .inl (57 : Int32)] rfl rfl (by decide) (by decide) (Nat.le_of_ble_eq_true rfl) dX9_takesDigit_5 (fun r9 s9 h9 => kX9_isAt _ _ _ _ _ h9) (fun r1 st2 => ?_)
  refine ax_if_ne hC dX9_takesDigit_8 (tgt := 13) (by decide) (fun _ => ?_) (fun _ => ?_)
  · refine ax_iconst hC dX9_takesDigit_11 (v := 0) (by decide) ?_
    exact ax_zret hC dX9_takesDigit_12
  · refine ax_aloadn hC dX9_takesDigit_13 rfl rfl ?_
    refine ax_lkR hC lk_X9_87 LM_0 rfl dX9_takesDigit_14 ?_
    refine ax_iloadn hC dX9_takesDigit_17 rfl rfl ?_
    refine ax_aloadn hC dX9_takesDigit_18 rfl rfl ?_
    refine ax_lkR hC lk_X9_84 LM_0 rfl dX9_takesDigit_19 ?_
    refine ax_aloadn hC dX9_takesDigit_22 rfl rfl ?_
    refine ax_lkI hC lk_X9_233 LM_0 rfl dX9_takesDigit_23 ?_
    refine ax_iald hC LM_25 dX9_takesDigit_26 (fun v3 => ?_)
    refine ax_bipush hC dX9_takesDigit_27 (v := 48) (by decide) ?_
    refine ax_isub hC dX9_takesDigit_29 ?_
    refine ax_iast hC LM_26 dX9_takesDigit_30 (fun st4 => ?_)
    refine ax_aloadn hC dX9_takesDigit_31 rfl rfl ?_
    refine ax_dup hC dX9_takesDigit_32 ?_
    refine ax_lkI hC lk_X9_233 LM_0 rfl dX9_takesDigit_33 ?_
    refine ax_iconst hC dX9_takesDigit_36 (v := 1) (by decide) ?_
    refine ax_iadd hC dX9_takesDigit_37 ?_
    refine ax_putI hC lp_X9_233 LM_0 rfl dX9_takesDigit_38 (fun st5 => ?_)
    refine ax_iconst hC dX9_takesDigit_41 (v := 1) (by decide) ?_
    exact ax_zret hC dX9_takesDigit_42
set_option maxRecDepth 100000 in
theorem kX9_takes_b21 {C : ax_C} {X : ax_X} (hC : ax_ok C X LM cX9_takes RX9 3 (some .boolean) 3) (x2 : Int32) (s0 : Int32) (s1 : Int32) (st : ax_S) : AW C X LM 3 1 (fX9_takes_b21 x2 s0 s1 st) 21 [none, none, some (.inl x2)] [.inl s0, .inl s1, .inr 0] st := by
  unfold fX9_takes_b21
  refine ax_iadd hC dX9_takes_21 ?_
  refine ax_putI hC lp_X9_233 LM_0 rfl dX9_takes_22 (fun st3 => ?_)
  refine ax_iloadn hC dX9_takes_25 rfl rfl ?_
  exact ax_zret hC dX9_takes_26
set_option maxRecDepth 100000 in
theorem kX9_takes (x1 : Int32) (st : ax_S) (r : Int32) (stz : ax_S) (h : fX9_takes x1 st = some (r, stz)) : ax_M LM yX9_takes cX9_takes 3 (some .boolean) 3 [.inr 0, .inl x1] st 1 r stz := by
  refine ax_start (by decide) (Nat.le_of_ble_eq_true rfl) (lv0 := [some (.inr 0), some (.inl x1), none]) rfl (fun C X hC => ?_)
  rw [← h]
  unfold fX9_takes
  refine ax_aloadn hC dX9_takes_0 rfl rfl ?_
  refine ax_iloadn hC dX9_takes_1 rfl rfl ?_
  refine ax_iloadn hC dX9_takes_2 rfl rfl ?_
  refine ax_callV1 hC mlk_X9_239 hst_X9_239 LM_0 [.inl x1, .inl x1] rfl rfl (by decide) (by decide) (Nat.le_of_ble_eq_true rfl) dX9_takes_3 (fun r9 s9 h9 => kX9_isAt _ _ _ _ _ h9) (fun r1 st2 => ?_)
  refine ax_istoren hC dX9_takes_6 rfl (by decide) (lv' := [some (.inr 0), some (.inl x1), some (.inl r1)]) rfl ?_
  refine ax_aloadn hC dX9_takes_7 rfl rfl ?_
  refine ax_dup hC dX9_takes_8 ?_
  refine ax_lkI hC lk_X9_233 LM_0 rfl dX9_takes_9 ?_
  refine ax_iloadn hC dX9_takes_12 rfl rfl ?_
  refine ax_if_eq hC dX9_takes_13 (tgt := 20) (by decide) (fun _ => ?_) (fun _ => ?_)
  · refine ax_iconst hC dX9_takes_20 (v := 0) (by decide) ?_
    refine ax_sub (lv' := [none, none, some (.inl r1)]) (ax_leN (ax_leN (ax_leS ax_le0))) ?_
    exact kX9_takes_b21 hC _ _ _ _
  · refine ax_iconst hC dX9_takes_16 (v := 1) (by decide) ?_
    refine ax_goto hC dX9_takes_17 (tgt := 21) (by decide) ?_
    refine ax_sub (lv' := [none, none, some (.inl r1)]) (ax_leN (ax_leN (ax_leS ax_le0))) ?_
    exact kX9_takes_b21 hC _ _ _ _
set_option maxRecDepth 100000 in
theorem kX9_matched_b50 {C : ax_C} {X : ax_X} (hC : ax_ok C X LM cX9_matched RX9 4 (some .int) 1) (x3 : Int32) (st : ax_S) : AW C X LM 4 1 (fX9_matched_b50 x3 st) 50 [none, none, none, some (.inl x3)] [] st := by
  unfold fX9_matched_b50
  refine ax_iloadn hC dX9_matched_50 rfl rfl ?_
  exact ax_iret hC dX9_matched_51
set_option maxRecDepth 100000 in
theorem kX9_matched_L2 {C : ax_C} {X : ax_X} (hC : ax_ok C X LM cX9_matched RX9 4 (some .int) 1) : ∀ (n : Nat) (x1 : Int32) (x2 : Int32) (x3 : Int32) (st : ax_S), AW C X LM 4 1 (fX9_matched_L2 n x1 x2 x3 st) 2 [some (.inr 0), some (.inl x1), some (.inl x2), some (.inl x3)] [] st := by
  intro n
  induction n with
  | zero => intros; exact ax_none rfl
  | succ n hrec20 =>
    intro x1 x2 x3 st
    have hrec2 := hrec20
    rw [fX9_matched_L2.eq_2]
    refine ax_aloadn hC dX9_matched_2 rfl rfl ?_
    refine ax_lkR hC lk_X9_80 LM_0 rfl dX9_matched_3 ?_
    refine ax_iloadn hC dX9_matched_6 rfl rfl ?_
    refine ax_iloadn hC dX9_matched_7 rfl rfl ?_
    refine ax_iadd hC dX9_matched_8 ?_
    refine ax_cald hC LM_24 dX9_matched_9 (fun v1 => ?_)
    refine ax_bipush hC dX9_matched_10 (v := 32) (by decide) ?_
    refine ax_icmp_eq hC dX9_matched_12 (tgt := 50) (by decide) (fun _ => ?_) (fun _ => ?_)
    · refine ax_sub (lv' := [none, none, none, some (.inl x3)]) (ax_leN (ax_leN (ax_leN (ax_leS ax_le0)))) ?_
      exact kX9_matched_b50 hC _ _
    · refine ax_iloadn hC dX9_matched_15 rfl rfl ?_
      refine ax_iloadn hC dX9_matched_16 rfl rfl ?_
      refine ax_iadd hC dX9_matched_17 ?_
      refine ax_aloadn hC dX9_matched_18 rfl rfl ?_
      refine ax_lkI hC lk_X9_236 LM_0 rfl dX9_matched_19 ?_
      refine ax_icmp_ge hC dX9_matched_22 (tgt := 50) (by decide) (fun _ => ?_) (fun _ => ?_)
      · refine ax_sub (lv' := [none, none, none, some (.inl x3)]) (ax_leN (ax_leN (ax_leN (ax_leS ax_le0)))) ?_
        exact kX9_matched_b50 hC _ _
      · refine ax_aloadn hC dX9_matched_25 rfl rfl ?_
        refine ax_lkR hC lk_X9_84 LM_0 rfl dX9_matched_26 ?_
        refine ax_iloadn hC dX9_matched_29 rfl rfl ?_
        refine ax_iloadn hC dX9_matched_30 rfl rfl ?_
        refine ax_iadd hC dX9_matched_31 ?_
        refine ax_iald hC LM_25 dX9_matched_32 (fun v2 => ?_)
        refine ax_aloadn hC dX9_matched_33 rfl rfl ?_
        refine ax_lkR hC lk_X9_80 LM_0 rfl dX9_matched_34 ?_
        refine ax_iloadn hC dX9_matched_37 rfl rfl ?_
        refine ax_iloadn hC dX9_matched_38 rfl rfl ?_
        refine ax_iadd hC dX9_matched_39 ?_
        refine ax_cald hC LM_24 dX9_matched_40 (fun v3 => ?_)
        refine ax_icmp_ne hC dX9_matched_41 (tgt := 50) (by decide) (fun _ => ?_) (fun _ => ?_)
        · refine ax_iinc hC dX9_matched_44 rfl (v := (x3 + (1 : Int32))) rfl (by decide) (lv' := [some (.inr 0), some (.inl x1), some (.inl x2), some (.inl (x3 + (1 : Int32)))]) rfl ?_
          refine ax_goto hC dX9_matched_47 (tgt := 2) (by decide) ?_
          exact hrec2 _ _ _ _
        · refine ax_sub (lv' := [none, none, none, some (.inl x3)]) (ax_leN (ax_leN (ax_leN (ax_leS ax_le0)))) ?_
          exact kX9_matched_b50 hC _ _
set_option maxRecDepth 100000 in
theorem kX9_matched (x1 : Int32) (x2 : Int32) (st : ax_S) (r : Int32) (stz : ax_S) (h : fX9_matched x1 x2 st = some (r, stz)) : ax_M LM yX9_matched cX9_matched 4 (some .int) 1 [.inr 0, .inl x1, .inl x2] st 1 r stz := by
  refine ax_start (by decide) (Nat.le_of_ble_eq_true rfl) (lv0 := [some (.inr 0), some (.inl x1), some (.inl x2), none]) rfl (fun C X hC => ?_)
  rw [← h]
  unfold fX9_matched
  refine ax_iconst hC dX9_matched_0 (v := 0) (by decide) ?_
  refine ax_istoren hC dX9_matched_1 rfl (by decide) (lv' := [some (.inr 0), some (.inl x1), some (.inl x2), some (.inl (0 : Int32))]) rfl ?_
  exact kX9_matched_L2 hC 4000 _ _ _ _
set_option maxRecDepth 100000 in
theorem kX9_takesName_b70 {C : ax_C} {X : ax_X} (hC : ax_ok C X LM cX9_takesName RX9 8 (some .boolean) 2) {rec15 : Int32 → Int32 → Int32 → Int32 → Int32 → ax_S → ax_R} (hrec15 : ∀ (x1 : Int32) (x2 : Int32) (x3 : Int32) (x4 : Int32) (x5 : Int32) (st : ax_S), AW C X LM 8 1 (rec15 x1 x2 x3 x4 x5 st) 15 [some (.inr 0), some (.inl x1), some (.inl x2), some (.inl x3), some (.inl x4), some (.inl x5), none, none] [] st) (x1 : Int32) (x2 : Int32) (x3 : Int32) (x4 : Int32) (x5 : Int32) (x6 : Int32) (x7 : Int32) (st : ax_S) : AW C X LM 8 1 (fX9_takesName_b70 rec15 x1 x2 x3 x4 x5 x6 x7 st) 70 [some (.inr 0), some (.inl x1), some (.inl x2), some (.inl x3), some (.inl x4), some (.inl x5), some (.inl x6), some (.inl x7)] [] st := by
  unfold fX9_takesName_b70
  refine ax_iloadn hC dX9_takesName_70 rfl rfl ?_
  refine ax_iload hC dX9_takesName_71 rfl ?_
  refine ax_mmax hC mx_X9_161 (by decide) (Nat.le_of_ble_eq_true rfl) dX9_takesName_73 ?_
  refine ax_istoren hC dX9_takesName_76 rfl (by decide) (lv' := [some (.inr 0), some (.inl x1), some (.inl (ax_mx x2 x6)), some (.inl x3), some (.inl x4), some (.inl x5), some (.inl x6), some (.inl x7)]) rfl ?_
  refine ax_iload hC dX9_takesName_77 rfl ?_
  refine ax_iload hC dX9_takesName_79 rfl ?_
  refine ax_iconst hC dX9_takesName_81 (v := 1) (by decide) ?_
  refine ax_iadd hC dX9_takesName_82 ?_
  refine ax_iadd hC dX9_takesName_83 ?_
  refine ax_istore hC dX9_takesName_84 (by decide) (lv' := [some (.inr 0), some (.inl x1), some (.inl (ax_mx x2 x6)), some (.inl x3), some (.inl (x4 + (x7 + (1 : Int32)))), some (.inl x5), some (.inl x6), some (.inl x7)]) rfl ?_
  refine ax_iinc hC dX9_takesName_86 rfl (v := (x5 + (1 : Int32))) rfl (by decide) (lv' := [some (.inr 0), some (.inl x1), some (.inl (ax_mx x2 x6)), some (.inl x3), some (.inl (x4 + (x7 + (1 : Int32)))), some (.inl (x5 + (1 : Int32))), some (.inl x6), some (.inl x7)]) rfl ?_
  refine ax_goto hC dX9_takesName_89 (tgt := 15) (by decide) ?_
  refine ax_sub (lv' := [some (.inr 0), some (.inl x1), some (.inl (ax_mx x2 x6)), some (.inl x3), some (.inl (x4 + (x7 + (1 : Int32)))), some (.inl (x5 + (1 : Int32))), none, none]) (ax_leS (ax_leS (ax_leS (ax_leS (ax_leS (ax_leS (ax_leN (ax_leN ax_le0)))))))) ?_
  exact hrec15 _ _ _ _ _ _
set_option maxRecDepth 100000 in
theorem kX9_takesName_L34 {C : ax_C} {X : ax_X} (hC : ax_ok C X LM cX9_takesName RX9 8 (some .boolean) 2) {rec15 : Int32 → Int32 → Int32 → Int32 → Int32 → ax_S → ax_R} (hrec15 : ∀ (x1 : Int32) (x2 : Int32) (x3 : Int32) (x4 : Int32) (x5 : Int32) (st : ax_S), AW C X LM 8 1 (rec15 x1 x2 x3 x4 x5 st) 15 [some (.inr 0), some (.inl x1), some (.inl x2), some (.inl x3), some (.inl x4), some (.inl x5), none, none] [] st) : ∀ (n : Nat) (x1 : Int32) (x2 : Int32) (x3 : Int32) (x4 : Int32) (x5 : Int32) (x6 : Int32) (x7 : Int32) (st : ax_S), AW C X LM 8 1 (fX9_takesName_L34 rec15 n x1 x2 x3 x4 x5 x6 x7 st) 34 [some (.inr 0), some (.inl x1), some (.inl x2), some (.inl x3), some (.inl x4), some (.inl x5), some (.inl x6), some (.inl x7)] [] st := by
  intro n
  induction n with
  | zero => intros; exact ax_none rfl
  | succ n hrec340 =>
    intro x1 x2 x3 x4 x5 x6 x7 st
    have hrec34 := hrec340
    rw [fX9_takesName_L34.eq_2]
    refine ax_aloadn hC dX9_takesName_34 rfl rfl ?_
    refine ax_lkR hC lk_X9_80 LM_0 rfl dX9_takesName_35 ?_
    refine ax_iload hC dX9_takesName_38 rfl ?_
    refine ax_iload hC dX9_takesName_40 rfl ?_
    refine ax_iadd hC dX9_takesName_42 ?_
    refine ax_cald hC LM_24 dX9_takesName_43 (fun v4 => ?_)
    refine ax_bipush hC dX9_takesName_44 (v := 32) (by decide) ?_
    refine ax_icmp_eq hC dX9_takesName_46 (tgt := 55) (by decide) (fun _ => ?_) (fun _ => ?_)
    · refine ax_iload hC dX9_takesName_55 rfl ?_
      refine ax_iload hC dX9_takesName_57 rfl ?_
      refine ax_icmp_ne hC dX9_takesName_59 (tgt := 70) (by decide) (fun _ => ?_) (fun _ => ?_)
      · refine ax_aloadn hC dX9_takesName_62 rfl rfl ?_
        refine ax_iload hC dX9_takesName_63 rfl ?_
        refine ax_putI hC lp_X9_248 LM_0 rfl dX9_takesName_65 (fun st5 => ?_)
        refine ax_iconst hC dX9_takesName_68 (v := 1) (by decide) ?_
        refine ax_istoren hC dX9_takesName_69 rfl (by decide) (lv' := [some (.inr 0), some (.inl x1), some (.inl x2), some (.inl (1 : Int32)), some (.inl x4), some (.inl x5), some (.inl x6), some (.inl x7)]) rfl ?_
        exact kX9_takesName_b70 hC hrec15 _ _ _ _ _ _ _ _
      · exact kX9_takesName_b70 hC hrec15 _ _ _ _ _ _ _ _
    · refine ax_iinc hC dX9_takesName_49 rfl (v := (x7 + (1 : Int32))) rfl (by decide) (lv' := [some (.inr 0), some (.inl x1), some (.inl x2), some (.inl x3), some (.inl x4), some (.inl x5), some (.inl x6), some (.inl (x7 + (1 : Int32)))]) rfl ?_
      refine ax_goto hC dX9_takesName_52 (tgt := 34) (by decide) ?_
      exact hrec34 _ _ _ _ _ _ _ _
set_option maxRecDepth 100000 in
theorem kX9_takesName_L15 {C : ax_C} {X : ax_X} (hC : ax_ok C X LM cX9_takesName RX9 8 (some .boolean) 2) : ∀ (n : Nat) (x1 : Int32) (x2 : Int32) (x3 : Int32) (x4 : Int32) (x5 : Int32) (st : ax_S), AW C X LM 8 1 (fX9_takesName_L15 n x1 x2 x3 x4 x5 st) 15 [some (.inr 0), some (.inl x1), some (.inl x2), some (.inl x3), some (.inl x4), some (.inl x5), none, none] [] st := by
  intro n
  induction n with
  | zero => intros; exact ax_none rfl
  | succ n hrec150 =>
    intro x1 x2 x3 x4 x5 st
    have hrec15 := hrec150
    rw [fX9_takesName_L15.eq_2]
    refine ax_iload hC dX9_takesName_15 rfl ?_
    refine ax_bipush hC dX9_takesName_17 (v := 10) (by decide) ?_
    refine ax_icmp_ge hC dX9_takesName_19 (tgt := 92) (by decide) (fun _ => ?_) (fun _ => ?_)
    · refine ax_aloadn hC dX9_takesName_92 rfl rfl ?_
      refine ax_iloadn hC dX9_takesName_93 rfl rfl ?_
      refine ax_iloadn hC dX9_takesName_94 rfl rfl ?_
      refine ax_iadd hC dX9_takesName_95 ?_
      refine ax_putI hC lp_X9_233 LM_0 rfl dX9_takesName_96 (fun st1 => ?_)
      refine ax_iloadn hC dX9_takesName_99 rfl rfl ?_
      exact ax_zret hC dX9_takesName_100
    · refine ax_aloadn hC dX9_takesName_22 rfl rfl ?_
      refine ax_iloadn hC dX9_takesName_23 rfl rfl ?_
      refine ax_iload hC dX9_takesName_24 rfl ?_
      refine ax_callV1 hC mlk_X9_245 hst_X9_245 LM_0 [.inl x1, .inl x4] rfl rfl (by decide) (by decide) (Nat.le_of_ble_eq_true rfl) dX9_takesName_26 (fun r9 s9 h9 => kX9_matched _ _ _ _ _ h9) (fun r2 st3 => ?_)
      refine ax_istore hC dX9_takesName_29 (by decide) (lv' := [some (.inr 0), some (.inl x1), some (.inl x2), some (.inl x3), some (.inl x4), some (.inl x5), some (.inl r2), none]) rfl ?_
      refine ax_iconst hC dX9_takesName_31 (v := 0) (by decide) ?_
      refine ax_istore hC dX9_takesName_32 (by decide) (lv' := [some (.inr 0), some (.inl x1), some (.inl x2), some (.inl x3), some (.inl x4), some (.inl x5), some (.inl r2), some (.inl (0 : Int32))]) rfl ?_
      exact kX9_takesName_L34 hC hrec15 4000 _ _ _ _ _ _ _ _
set_option maxRecDepth 100000 in
theorem kX9_takesName (st : ax_S) (r : Int32) (stz : ax_S) (h : fX9_takesName st = some (r, stz)) : ax_M LM yX9_takesName cX9_takesName 8 (some .boolean) 2 [.inr 0] st 1 r stz := by
  refine ax_start (by decide) (Nat.le_of_ble_eq_true rfl) (lv0 := [some (.inr 0), none, none, none, none, none, none, none]) rfl (fun C X hC => ?_)
  rw [← h]
  unfold fX9_takesName
  refine ax_aloadn hC dX9_takesName_0 rfl rfl ?_
  refine ax_lkI hC lk_X9_233 LM_0 rfl dX9_takesName_1 ?_
  refine ax_istoren hC dX9_takesName_4 rfl (by decide) (lv' := [some (.inr 0), some (.inl (st.1 0 38)), none, none, none, none, none, none]) rfl ?_
  refine ax_iconst hC dX9_takesName_5 (v := 0) (by decide) ?_
  refine ax_istoren hC dX9_takesName_6 rfl (by decide) (lv' := [some (.inr 0), some (.inl (st.1 0 38)), some (.inl (0 : Int32)), none, none, none, none, none]) rfl ?_
  refine ax_iconst hC dX9_takesName_7 (v := 0) (by decide) ?_
  refine ax_istoren hC dX9_takesName_8 rfl (by decide) (lv' := [some (.inr 0), some (.inl (st.1 0 38)), some (.inl (0 : Int32)), some (.inl (0 : Int32)), none, none, none, none]) rfl ?_
  refine ax_iconst hC dX9_takesName_9 (v := 0) (by decide) ?_
  refine ax_istore hC dX9_takesName_10 (by decide) (lv' := [some (.inr 0), some (.inl (st.1 0 38)), some (.inl (0 : Int32)), some (.inl (0 : Int32)), some (.inl (0 : Int32)), none, none, none]) rfl ?_
  refine ax_iconst hC dX9_takesName_12 (v := 0) (by decide) ?_
  refine ax_istore hC dX9_takesName_13 (by decide) (lv' := [some (.inr 0), some (.inl (st.1 0 38)), some (.inl (0 : Int32)), some (.inl (0 : Int32)), some (.inl (0 : Int32)), some (.inl (0 : Int32)), none, none]) rfl ?_
  exact kX9_takesName_L15 hC 4000 _ _ _ _ _ _
