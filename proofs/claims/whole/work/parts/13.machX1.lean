set_option maxRecDepth 100000 in
theorem kX3_isNextDigit_b47 {C : ax_C} {X : ax_X} (hC : ax_ok C X LX cX3_isNextDigit RX3 1 (some .boolean) 2) (s0 : Int32) (st : ax_S) : AW C X LX 1 1 (fX3_isNextDigit_b47 s0 st) 47 [none] [.inl s0] st := by
  unfold fX3_isNextDigit_b47
  exact ax_zret hC dX3_isNextDigit_47
set_option maxRecDepth 100000 in
theorem kX3_isNextDigit_b46 {C : ax_C} {X : ax_X} (hC : ax_ok C X LX cX3_isNextDigit RX3 1 (some .boolean) 2) (st : ax_S) : AW C X LX 1 1 (fX3_isNextDigit_b46 st) 46 [none] [] st := by
  unfold fX3_isNextDigit_b46
  refine ax_iconst hC dX3_isNextDigit_46 (v := 0) (by decide) ?_
  exact kX3_isNextDigit_b47 hC _ _
set_option maxRecDepth 100000 in
theorem kX3_isNextDigit (st : ax_S) (r : Int32) (stz : ax_S) (h : fX3_isNextDigit st = some (r, stz)) : ax_M LX yX3_isNextDigit cX3_isNextDigit 1 (some .boolean) 2 [.inr 63] st 1 r stz := by
  refine ax_start (by decide) (Nat.le_of_ble_eq_true rfl) (lv0 := [some (.inr 63)]) rfl (fun C X hC => ?_)
  rw [← h]
  unfold fX3_isNextDigit
  refine ax_aloadn hC dX3_isNextDigit_0 rfl rfl ?_
  refine ax_lkI hC lk_X3_38 LX_63 rfl dX3_isNextDigit_1 ?_
  refine ax_iconst hC dX3_isNextDigit_4 (v := 0) (by decide) ?_
  refine ax_aloadn hC dX3_isNextDigit_5 rfl rfl ?_
  refine ax_lkR hC lk_X3_30 LX_63 rfl dX3_isNextDigit_6 ?_
  refine ax_lkI hC lk_X3_48 LX_61 rfl dX3_isNextDigit_9 ?_
  refine ax_iconst hC dX3_isNextDigit_12 (v := 1) (by decide) ?_
  refine ax_isub hC dX3_isNextDigit_13 ?_
  refine ax_callS1n hC mlk_X3_113 hst_X3_113 [.inl (st.1 63 8), .inl (0 : Int32), .inl ((st.1 61 0) - (1 : Int32))] rfl rfl (by decide) (by decide) (Nat.le_of_ble_eq_true rfl) dX3_isNextDigit_14 (fun r9 s9 h9 => kX8_isBetween _ _ _ _ _ _ h9) (fun r1 st2 => ?_)
  refine ax_if_eq hC dX3_isNextDigit_17 (tgt := 46) (by decide) (fun _ => ?_) (fun _ => ?_)
  · refine ax_sub (lv' := [none]) (ax_leN ax_le0) ?_
    exact kX3_isNextDigit_b46 hC _
  · refine ax_aloadn hC dX3_isNextDigit_20 rfl rfl ?_
    refine ax_lkR hC lk_X3_30 LX_63 rfl dX3_isNextDigit_21 ?_
    refine ax_lkR hC lk_X3_109 LX_61 rfl dX3_isNextDigit_24 ?_
    refine ax_aloadn hC dX3_isNextDigit_27 rfl rfl ?_
    refine ax_lkI hC lk_X3_38 LX_63 rfl dX3_isNextDigit_28 ?_
    refine ax_cald hC LX_62 dX3_isNextDigit_31 (fun v3 => ?_)
    refine ax_bipush hC dX3_isNextDigit_32 (v := 48) (by decide) ?_
    refine ax_bipush hC dX3_isNextDigit_34 (v := 57) (by decide) ?_
    refine ax_callS1n hC mlk_X3_113 hst_X3_113 [.inl v3, .inl (48 : Int32), .inl (57 : Int32)] rfl rfl (by decide) (by decide) (Nat.le_of_ble_eq_true rfl) dX3_isNextDigit_36 (fun r9 s9 h9 => kX8_isBetween _ _ _ _ _ _ h9) (fun r4 st5 => ?_)
    refine ax_if_eq hC dX3_isNextDigit_39 (tgt := 46) (by decide) (fun _ => ?_) (fun _ => ?_)
    · refine ax_sub (lv' := [none]) (ax_leN ax_le0) ?_
      exact kX3_isNextDigit_b46 hC _
    · refine ax_iconst hC dX3_isNextDigit_42 (v := 1) (by decide) ?_
      refine ax_goto hC dX3_isNextDigit_43 (tgt := 47) (by decide) ?_
      refine ax_sub (lv' := [none]) (ax_leN ax_le0) ?_
      exact kX3_isNextDigit_b47 hC _ _
set_option maxRecDepth 100000 in
theorem kX3_takeDigit_b14 {C : ax_C} {X : ax_X} (hC : ax_ok C X LX cX3_takeDigit RX3 1 (some .int) 3) (st : ax_S) : AW C X LX 1 1 (fX3_takeDigit_b14 st) 14 [some (.inr 63)] [] st := by
  unfold fX3_takeDigit_b14
  refine ax_aloadn hC dX3_takeDigit_14 rfl rfl ?_
  refine ax_iconst hC dX3_takeDigit_15 (v := 1) (by decide) ?_
  refine ax_putZ hC lp_X3_41 LX_63 rfl dX3_takeDigit_16 (fun st5 => ?_)
  refine ax_iconst hC dX3_takeDigit_19 (v := 0) (by decide) ?_
  exact ax_iret hC dX3_takeDigit_20
set_option maxRecDepth 100000 in
theorem kX3_takeDigit (st : ax_S) (r : Int32) (stz : ax_S) (h : fX3_takeDigit st = some (r, stz)) : ax_M LX yX3_takeDigit cX3_takeDigit 1 (some .int) 3 [.inr 63] st 1 r stz := by
  refine ax_start (by decide) (Nat.le_of_ble_eq_true rfl) (lv0 := [some (.inr 63)]) rfl (fun C X hC => ?_)
  rw [← h]
  unfold fX3_takeDigit
  refine ax_aloadn hC dX3_takeDigit_0 rfl rfl ?_
  refine ax_lkI hC lk_X3_41 LX_63 rfl dX3_takeDigit_1 ?_
  refine ax_if_ne hC dX3_takeDigit_4 (tgt := 14) (by decide) (fun _ => ?_) (fun _ => ?_)
  · refine ax_aloadn hC dX3_takeDigit_7 rfl rfl ?_
    refine ax_callV1 hC mlk_X3_105 hst_X3_105 LX_63 [] rfl rfl (by decide) (by decide) (Nat.le_of_ble_eq_true rfl) dX3_takeDigit_8 (fun r9 s9 h9 => kX3_isNextDigit  _ _ _ h9) (fun r1 st2 => ?_)
    refine ax_if_ne hC dX3_takeDigit_11 (tgt := 21) (by decide) (fun _ => ?_) (fun _ => ?_)
    · exact kX3_takeDigit_b14 hC _
    · refine ax_aloadn hC dX3_takeDigit_21 rfl rfl ?_
      refine ax_dup hC dX3_takeDigit_22 ?_
      refine ax_lkI hC lk_X3_38 LX_63 rfl dX3_takeDigit_23 ?_
      refine ax_iconst hC dX3_takeDigit_26 (v := 1) (by decide) ?_
      refine ax_iadd hC dX3_takeDigit_27 ?_
      refine ax_putI hC lp_X3_38 LX_63 rfl dX3_takeDigit_28 (fun st3 => ?_)
      refine ax_aloadn hC dX3_takeDigit_31 rfl rfl ?_
      refine ax_lkR hC lk_X3_30 LX_63 rfl dX3_takeDigit_32 ?_
      refine ax_lkR hC lk_X3_109 LX_61 rfl dX3_takeDigit_35 ?_
      refine ax_aloadn hC dX3_takeDigit_38 rfl rfl ?_
      refine ax_lkI hC lk_X3_38 LX_63 rfl dX3_takeDigit_39 ?_
      refine ax_iconst hC dX3_takeDigit_42 (v := 1) (by decide) ?_
      refine ax_isub hC dX3_takeDigit_43 ?_
      refine ax_cald hC LX_62 dX3_takeDigit_44 (fun v4 => ?_)
      refine ax_bipush hC dX3_takeDigit_45 (v := 48) (by decide) ?_
      refine ax_isub hC dX3_takeDigit_47 ?_
      exact ax_iret hC dX3_takeDigit_48
  · exact kX3_takeDigit_b14 hC _
set_option maxRecDepth 100000 in
theorem kX3_isAt_b35 {C : ax_C} {X : ax_X} (hC : ax_ok C X LX cX3_isAt RX3 3 (some .boolean) 2) (s0 : Int32) (st : ax_S) : AW C X LX 3 1 (fX3_isAt_b35 s0 st) 35 [none, none, none] [.inl s0] st := by
  unfold fX3_isAt_b35
  exact ax_zret hC dX3_isAt_35
set_option maxRecDepth 100000 in
theorem kX3_isAt_b34 {C : ax_C} {X : ax_X} (hC : ax_ok C X LX cX3_isAt RX3 3 (some .boolean) 2) (st : ax_S) : AW C X LX 3 1 (fX3_isAt_b34 st) 34 [none, none, none] [] st := by
  unfold fX3_isAt_b34
  refine ax_iconst hC dX3_isAt_34 (v := 0) (by decide) ?_
  exact kX3_isAt_b35 hC _ _
set_option maxRecDepth 100000 in
theorem kX3_isAt (x1 : Int32) (x2 : Int32) (st : ax_S) (r : Int32) (stz : ax_S) (h : fX3_isAt x1 x2 st = some (r, stz)) : ax_M LX yX3_isAt cX3_isAt 3 (some .boolean) 2 [.inr 63, .inl x1, .inl x2] st 1 r stz := by
  refine ax_start (by decide) (Nat.le_of_ble_eq_true rfl) (lv0 := [some (.inr 63), some (.inl x1), some (.inl x2)]) rfl (fun C X hC => ?_)
  rw [← h]
  unfold fX3_isAt
  refine ax_iloadn hC dX3_isAt_0 rfl rfl ?_
  refine ax_iconst hC dX3_isAt_1 (v := 0) (by decide) ?_
  refine ax_aloadn hC dX3_isAt_2 rfl rfl ?_
  refine ax_lkR hC lk_X3_30 LX_63 rfl dX3_isAt_3 ?_
  refine ax_lkI hC lk_X3_48 LX_61 rfl dX3_isAt_6 ?_
  refine ax_iconst hC dX3_isAt_9 (v := 1) (by decide) ?_
  refine ax_isub hC dX3_isAt_10 ?_
  refine ax_callS1n hC mlk_X3_113 hst_X3_113 [.inl x1, .inl (0 : Int32), .inl ((st.1 61 0) - (1 : Int32))] rfl rfl (by decide) (by decide) (Nat.le_of_ble_eq_true rfl) dX3_isAt_11 (fun r9 s9 h9 => kX8_isBetween _ _ _ _ _ _ h9) (fun r1 st2 => ?_)
  refine ax_if_eq hC dX3_isAt_14 (tgt := 34) (by decide) (fun _ => ?_) (fun _ => ?_)
  · refine ax_sub (lv' := [none, none, none]) (ax_leN (ax_leN (ax_leN ax_le0))) ?_
    exact kX3_isAt_b34 hC _
  · refine ax_aloadn hC dX3_isAt_17 rfl rfl ?_
    refine ax_lkR hC lk_X3_30 LX_63 rfl dX3_isAt_18 ?_
    refine ax_lkR hC lk_X3_109 LX_61 rfl dX3_isAt_21 ?_
    refine ax_iloadn hC dX3_isAt_24 rfl rfl ?_
    refine ax_cald hC LX_62 dX3_isAt_25 (fun v3 => ?_)
    refine ax_iloadn hC dX3_isAt_26 rfl rfl ?_
    refine ax_icmp_ne hC dX3_isAt_27 (tgt := 34) (by decide) (fun _ => ?_) (fun _ => ?_)
    · refine ax_iconst hC dX3_isAt_30 (v := 1) (by decide) ?_
      refine ax_goto hC dX3_isAt_31 (tgt := 35) (by decide) ?_
      refine ax_sub (lv' := [none, none, none]) (ax_leN (ax_leN (ax_leN ax_le0))) ?_
      exact kX3_isAt_b35 hC _ _
    · refine ax_sub (lv' := [none, none, none]) (ax_leN (ax_leN (ax_leN ax_le0))) ?_
      exact kX3_isAt_b34 hC _
set_option maxRecDepth 100000 in
theorem kX3_isNext (x1 : Int32) (st : ax_S) (r : Int32) (stz : ax_S) (h : fX3_isNext x1 st = some (r, stz)) : ax_M LX yX3_isNext cX3_isNext 2 (some .boolean) 3 [.inr 63, .inl x1] st 1 r stz := by
  refine ax_start (by decide) (Nat.le_of_ble_eq_true rfl) (lv0 := [some (.inr 63), some (.inl x1)]) rfl (fun C X hC => ?_)
  rw [← h]
  unfold fX3_isNext
  refine ax_aloadn hC dX3_isNext_0 rfl rfl ?_
  refine ax_aloadn hC dX3_isNext_1 rfl rfl ?_
  refine ax_lkI hC lk_X3_38 LX_63 rfl dX3_isNext_2 ?_
  refine ax_iloadn hC dX3_isNext_5 rfl rfl ?_
  refine ax_callV1 hC mlk_X3_101 hst_X3_101 LX_63 [.inl (st.1 63 8), .inl x1] rfl rfl (by decide) (by decide) (Nat.le_of_ble_eq_true rfl) dX3_isNext_6 (fun r9 s9 h9 => kX3_isAt _ _ _ _ _ h9) (fun r1 st2 => ?_)
  exact ax_zret hC dX3_isNext_9
set_option maxRecDepth 100000 in
theorem kX3_take_b19 {C : ax_C} {X : ax_X} (hC : ax_ok C X LX cX3_take RX3 2 none 3) (st : ax_S) : AW C X LX 2 0 (fX3_take_b19 st) 19 [some (.inr 63), none] [] st := by
  unfold fX3_take_b19
  refine ax_aloadn hC dX3_take_19 rfl rfl ?_
  refine ax_iconst hC dX3_take_20 (v := 1) (by decide) ?_
  refine ax_putZ hC lp_X3_41 LX_63 rfl dX3_take_21 (fun st4 => ?_)
  exact ax_vret hC dX3_take_24
set_option maxRecDepth 100000 in
theorem kX3_take (x1 : Int32) (st : ax_S) (r : Int32) (stz : ax_S) (h : fX3_take x1 st = some (r, stz)) : ax_M LX yX3_take cX3_take 2 none 3 [.inr 63, .inl x1] st 0 r stz := by
  refine ax_start (by decide) (Nat.le_of_ble_eq_true rfl) (lv0 := [some (.inr 63), some (.inl x1)]) rfl (fun C X hC => ?_)
  rw [← h]
  unfold fX3_take
  refine ax_aloadn hC dX3_take_0 rfl rfl ?_
  refine ax_lkI hC lk_X3_41 LX_63 rfl dX3_take_1 ?_
  refine ax_if_ne hC dX3_take_4 (tgt := 19) (by decide) (fun _ => ?_) (fun _ => ?_)
  · refine ax_aloadn hC dX3_take_7 rfl rfl ?_
    refine ax_aloadn hC dX3_take_8 rfl rfl ?_
    refine ax_lkI hC lk_X3_38 LX_63 rfl dX3_take_9 ?_
    refine ax_iloadn hC dX3_take_12 rfl rfl ?_
    refine ax_callV1 hC mlk_X3_101 hst_X3_101 LX_63 [.inl (st.1 63 8), .inl x1] rfl rfl (by decide) (by decide) (Nat.le_of_ble_eq_true rfl) dX3_take_13 (fun r9 s9 h9 => kX3_isAt _ _ _ _ _ h9) (fun r1 st2 => ?_)
    refine ax_if_ne hC dX3_take_16 (tgt := 25) (by decide) (fun _ => ?_) (fun _ => ?_)
    · refine ax_sub (lv' := [some (.inr 63), none]) (ax_leS (ax_leN ax_le0)) ?_
      exact kX3_take_b19 hC _
    · refine ax_aloadn hC dX3_take_25 rfl rfl ?_
      refine ax_dup hC dX3_take_26 ?_
      refine ax_lkI hC lk_X3_38 LX_63 rfl dX3_take_27 ?_
      refine ax_iconst hC dX3_take_30 (v := 1) (by decide) ?_
      refine ax_iadd hC dX3_take_31 ?_
      refine ax_putI hC lp_X3_38 LX_63 rfl dX3_take_32 (fun st3 => ?_)
      exact ax_vret hC dX3_take_35
  · refine ax_sub (lv' := [some (.inr 63), none]) (ax_leS (ax_leN ax_le0)) ?_
    exact kX3_take_b19 hC _
set_option maxRecDepth 100000 in
theorem kX8_nameOf (x0 : Int32) (st : ax_S) (r : Int32) (stz : ax_S) (h : fX8_nameOf x0 st = some (r, stz)) : ax_M LX yX8_nameOf cX8_nameOf 1 (some (.object "java/lang/String")) 1 [.inl x0] st 2 r stz := by
  refine ax_start (by decide) (Nat.le_of_ble_eq_true rfl) (lv0 := [some (.inl x0)]) rfl (fun C X hC => ?_)
  rw [← h]
  unfold fX8_nameOf
  refine ax_iloadn hC dX8_nameOf_0 rfl rfl ?_
  refine ax_tsIn hC dX8_nameOf_1 (v := 0) (by decide) (by decide) (off := 51) rfl (tgt := 52) (by decide) ?_ (fun e0 => ?_)
  · refine ax_ldcS hC (i := 0) (by decide) rfl dX8_nameOf_52 ?_
    exact ax_sret hC (i := 0) (by decide) dX8_nameOf_55
  · refine ax_tsIn hC dX8_nameOf_1 (v := 1) (by decide) (by decide) (off := 55) rfl (tgt := 56) (by decide) ?_ (fun e1 => ?_)
    · refine ax_ldcS hC (i := 1) (by decide) rfl dX8_nameOf_56 ?_
      exact ax_sret hC (i := 1) (by decide) dX8_nameOf_59
    · refine ax_tsIn hC dX8_nameOf_1 (v := 2) (by decide) (by decide) (off := 59) rfl (tgt := 60) (by decide) ?_ (fun e2 => ?_)
      · refine ax_ldcS hC (i := 2) (by decide) rfl dX8_nameOf_60 ?_
        exact ax_sret hC (i := 2) (by decide) dX8_nameOf_63
      · refine ax_tsIn hC dX8_nameOf_1 (v := 3) (by decide) (by decide) (off := 63) rfl (tgt := 64) (by decide) ?_ (fun e3 => ?_)
        · refine ax_ldcS hC (i := 3) (by decide) rfl dX8_nameOf_64 ?_
          exact ax_sret hC (i := 3) (by decide) dX8_nameOf_67
        · refine ax_tsIn hC dX8_nameOf_1 (v := 4) (by decide) (by decide) (off := 67) rfl (tgt := 68) (by decide) ?_ (fun e4 => ?_)
          · refine ax_ldcS hC (i := 4) (by decide) rfl dX8_nameOf_68 ?_
            exact ax_sret hC (i := 4) (by decide) dX8_nameOf_71
          · refine ax_tsIn hC dX8_nameOf_1 (v := 5) (by decide) (by decide) (off := 71) rfl (tgt := 72) (by decide) ?_ (fun e5 => ?_)
            · refine ax_ldcS hC (i := 5) (by decide) rfl dX8_nameOf_72 ?_
              exact ax_sret hC (i := 5) (by decide) dX8_nameOf_75
            · refine ax_tsIn hC dX8_nameOf_1 (v := 6) (by decide) (by decide) (off := 75) rfl (tgt := 76) (by decide) ?_ (fun e6 => ?_)
              · refine ax_ldcS hC (i := 6) (by decide) rfl dX8_nameOf_76 ?_
                exact ax_sret hC (i := 6) (by decide) dX8_nameOf_79
              · refine ax_tsIn hC dX8_nameOf_1 (v := 7) (by decide) (by decide) (off := 79) rfl (tgt := 80) (by decide) ?_ (fun e7 => ?_)
                · refine ax_ldcS hC (i := 7) (by decide) rfl dX8_nameOf_80 ?_
                  exact ax_sret hC (i := 7) (by decide) dX8_nameOf_83
                · refine ax_tsIn hC dX8_nameOf_1 (v := 8) (by decide) (by decide) (off := 83) rfl (tgt := 84) (by decide) ?_ (fun e8 => ?_)
                  · refine ax_ldcS hC (i := 8) (by decide) rfl dX8_nameOf_84 ?_
                    exact ax_sret hC (i := 8) (by decide) dX8_nameOf_87
                  · have g0 : ¬ x0.toInt = 0 := fun q => e0 (Int32.toInt_inj.mp (q.trans (by decide)))
                    have g1 : ¬ x0.toInt = 1 := fun q => e1 (Int32.toInt_inj.mp (q.trans (by decide)))
                    have g2 : ¬ x0.toInt = 2 := fun q => e2 (Int32.toInt_inj.mp (q.trans (by decide)))
                    have g3 : ¬ x0.toInt = 3 := fun q => e3 (Int32.toInt_inj.mp (q.trans (by decide)))
                    have g4 : ¬ x0.toInt = 4 := fun q => e4 (Int32.toInt_inj.mp (q.trans (by decide)))
                    have g5 : ¬ x0.toInt = 5 := fun q => e5 (Int32.toInt_inj.mp (q.trans (by decide)))
                    have g6 : ¬ x0.toInt = 6 := fun q => e6 (Int32.toInt_inj.mp (q.trans (by decide)))
                    have g7 : ¬ x0.toInt = 7 := fun q => e7 (Int32.toInt_inj.mp (q.trans (by decide)))
                    have g8 : ¬ x0.toInt = 8 := fun q => e8 (Int32.toInt_inj.mp (q.trans (by decide)))
                    refine ax_tsOut hC dX8_nameOf_1 (by omega) (tgt := 88) (by decide) ?_
                    refine ax_ldcS hC (i := 9) (by decide) rfl dX8_nameOf_88 ?_
                    exact ax_sret hC (i := 9) (by decide) dX8_nameOf_91
set_option maxRecDepth 100000 in
theorem kX3_agreeingCharacters_b34 {C : ax_C} {X : ax_X} {x1 : Int32} (hC : ax_ok C X LX cX3_agreeingCharacters RX3 3 (some .int) 6) (x2 : Int32) (st : ax_S) : AW C X LX 3 1 (fX3_agreeingCharacters_b34 x1 x2 st) 34 [none, none, some (.inl x2)] [] st := by
  unfold fX3_agreeingCharacters_b34
  refine ax_iloadn hC dX3_agreeingCharacters_34 rfl rfl ?_
  exact ax_iret hC dX3_agreeingCharacters_35
set_option maxRecDepth 100000 in
theorem kX3_agreeingCharacters_L2 {C : ax_C} {X : ax_X} {x1 : Int32} (hC : ax_ok C X LX cX3_agreeingCharacters RX3 3 (some .int) 6) : ∀ (n : Nat) (x2 : Int32) (st : ax_S), AW C X LX 3 1 (fX3_agreeingCharacters_L2 x1 n x2 st) 2 [some (.inr 63), some (.inr (1000 + x1.toNatClampNeg)), some (.inl x2)] [] st := by
  intro n
  induction n with
  | zero => intros; exact ax_none rfl
  | succ n hrec20 =>
    intro x2 st
    have hrec2 := hrec20
    rw [fX3_agreeingCharacters_L2.eq_2]
    refine ax_iloadn hC dX3_agreeingCharacters_2 rfl rfl ?_
    refine ax_aloadn hC dX3_agreeingCharacters_3 rfl rfl ?_
    refine ax_callJ hC mlk_X3_87 hst_X3_87 (j := x1) [] rfl rfl (by decide) (by decide) (Nat.le_of_ble_eq_true rfl) dX3_agreeingCharacters_4 (fun r9 s9 h9 => kJ_length x1 _ _ _ h9) (fun r1 st2 => ?_)
    refine ax_icmp_ge hC dX3_agreeingCharacters_7 (tgt := 34) (by decide) (fun _ => ?_) (fun _ => ?_)
    · refine ax_sub (lv' := [none, none, some (.inl x2)]) (ax_leN (ax_leN (ax_leS ax_le0))) ?_
      exact kX3_agreeingCharacters_b34 hC _ _
    · refine ax_aloadn hC dX3_agreeingCharacters_10 rfl rfl ?_
      refine ax_aloadn hC dX3_agreeingCharacters_11 rfl rfl ?_
      refine ax_lkI hC lk_X3_38 LX_63 rfl dX3_agreeingCharacters_12 ?_
      refine ax_iloadn hC dX3_agreeingCharacters_15 rfl rfl ?_
      refine ax_iadd hC dX3_agreeingCharacters_16 ?_
      refine ax_aloadn hC dX3_agreeingCharacters_17 rfl rfl ?_
      refine ax_iloadn hC dX3_agreeingCharacters_18 rfl rfl ?_
      refine ax_callJ hC mlk_X3_97 hst_X3_97 (j := x1) [.inl x2] rfl rfl (by decide) (by decide) (Nat.le_of_ble_eq_true rfl) dX3_agreeingCharacters_19 (fun r9 s9 h9 => kJ_charAt x1 x2 _ _ _ h9) (fun r3 st4 => ?_)
      refine ax_callV1 hC mlk_X3_101 hst_X3_101 LX_63 [.inl ((st2.1 63 8) + x2), .inl r3] rfl rfl (by decide) (by decide) (Nat.le_of_ble_eq_true rfl) dX3_agreeingCharacters_22 (fun r9 s9 h9 => kX3_isAt _ _ _ _ _ h9) (fun r5 st6 => ?_)
      refine ax_if_eq hC dX3_agreeingCharacters_25 (tgt := 34) (by decide) (fun _ => ?_) (fun _ => ?_)
      · refine ax_sub (lv' := [none, none, some (.inl x2)]) (ax_leN (ax_leN (ax_leS ax_le0))) ?_
        exact kX3_agreeingCharacters_b34 hC _ _
      · refine ax_iinc hC dX3_agreeingCharacters_28 rfl (v := (x2 + (1 : Int32))) rfl (by decide) (lv' := [some (.inr 63), some (.inr (1000 + x1.toNatClampNeg)), some (.inl (x2 + (1 : Int32)))]) rfl ?_
        refine ax_goto hC dX3_agreeingCharacters_31 (tgt := 2) (by decide) ?_
        exact hrec2 _ _
set_option maxRecDepth 100000 in
theorem kX3_agreeingCharacters (x1 : Int32) (st : ax_S) (r : Int32) (stz : ax_S) (h : fX3_agreeingCharacters x1 st = some (r, stz)) : ax_M LX yX3_agreeingCharacters cX3_agreeingCharacters 3 (some .int) 6 [.inr 63, .inr (1000 + x1.toNatClampNeg)] st 1 r stz := by
  refine ax_start (by decide) (Nat.le_of_ble_eq_true rfl) (lv0 := [some (.inr 63), some (.inr (1000 + x1.toNatClampNeg)), none]) rfl (fun C X hC => ?_)
  rw [← h]
  unfold fX3_agreeingCharacters
  refine ax_iconst hC dX3_agreeingCharacters_0 (v := 0) (by decide) ?_
  refine ax_istoren hC dX3_agreeingCharacters_1 rfl (by decide) (lv' := [some (.inr 63), some (.inr (1000 + x1.toNatClampNeg)), some (.inl (0 : Int32))]) rfl ?_
  exact kX3_agreeingCharacters_L2 hC 4000 _ _
set_option maxRecDepth 100000 in
theorem kX3_takeName_b86 {C : ax_C} {X : ax_X} (hC : ax_ok C X LX cX3_takeName RX3 5 (some .int) 7) (st : ax_S) : AW C X LX 5 1 (fX3_takeName_b86 st) 86 [none, none, none, none, none] [] st := by
  unfold fX3_takeName_b86
  refine ax_iconst hC dX3_takeName_86 (v := 0) (by decide) ?_
  exact ax_iret hC dX3_takeName_87
set_option maxRecDepth 100000 in
theorem kX3_takeName_b51 {C : ax_C} {X : ax_X} (hC : ax_ok C X LX cX3_takeName RX3 5 (some .int) 7) {rec4 : Int32 → Int32 → ax_S → ax_R} (hrec4 : ∀ (x1 : Int32) (x2 : Int32) (st : ax_S), AW C X LX 5 1 (rec4 x1 x2 st) 4 [some (.inr 63), some (.inl x1), some (.inl x2), none, none] [] st) (x1 : Int32) (x2 : Int32) (x4 : Int32) (st : ax_S) : AW C X LX 5 1 (fX3_takeName_b51 rec4 x1 x2 x4 st) 51 [some (.inr 63), some (.inl x1), some (.inl x2), none, some (.inl x4)] [] st := by
  unfold fX3_takeName_b51
  refine ax_iloadn hC dX3_takeName_51 rfl rfl ?_
  refine ax_iload hC dX3_takeName_52 rfl ?_
  refine ax_mmax hC mx_X3_91 (by decide) (Nat.le_of_ble_eq_true rfl) dX3_takeName_54 ?_
  refine ax_istoren hC dX3_takeName_57 rfl (by decide) (lv' := [some (.inr 63), some (.inl (ax_mx x1 x4)), some (.inl x2), none, some (.inl x4)]) rfl ?_
  refine ax_iinc hC dX3_takeName_58 rfl (v := (x2 + (1 : Int32))) rfl (by decide) (lv' := [some (.inr 63), some (.inl (ax_mx x1 x4)), some (.inl (x2 + (1 : Int32))), none, some (.inl x4)]) rfl ?_
  refine ax_goto hC dX3_takeName_61 (tgt := 4) (by decide) ?_
  refine ax_sub (lv' := [some (.inr 63), some (.inl (ax_mx x1 x4)), some (.inl (x2 + (1 : Int32))), none, none]) (ax_leS (ax_leS (ax_leS (ax_leN (ax_leN ax_le0))))) ?_
  exact hrec4 _ _ _
set_option maxRecDepth 100000 in
theorem kX3_takeName_L4 {C : ax_C} {X : ax_X} (hC : ax_ok C X LX cX3_takeName RX3 5 (some .int) 7) : ∀ (n : Nat) (x1 : Int32) (x2 : Int32) (st : ax_S), AW C X LX 5 1 (fX3_takeName_L4 n x1 x2 st) 4 [some (.inr 63), some (.inl x1), some (.inl x2), none, none] [] st := by
  intro n
  induction n with
  | zero => intros; exact ax_none rfl
  | succ n hrec40 =>
    intro x1 x2 st
    have hrec4 := hrec40
    rw [fX3_takeName_L4.eq_2]
    refine ax_iloadn hC dX3_takeName_4 rfl rfl ?_
    refine ax_bipush hC dX3_takeName_5 (v := 9) (by decide) ?_
    refine ax_icmp_gt hC dX3_takeName_7 (tgt := 64) (by decide) (fun _ => ?_) (fun _ => ?_)
    · refine ax_aloadn hC dX3_takeName_64 rfl rfl ?_
      refine ax_lkI hC lk_X3_41 LX_63 rfl dX3_takeName_65 ?_
      refine ax_if_ne hC dX3_takeName_68 (tgt := 86) (by decide) (fun _ => ?_) (fun _ => ?_)
      · refine ax_aloadn hC dX3_takeName_71 rfl rfl ?_
        refine ax_dup hC dX3_takeName_72 ?_
        refine ax_lkI hC lk_X3_38 LX_63 rfl dX3_takeName_73 ?_
        refine ax_iloadn hC dX3_takeName_76 rfl rfl ?_
        refine ax_iadd hC dX3_takeName_77 ?_
        refine ax_putI hC lp_X3_38 LX_63 rfl dX3_takeName_78 (fun st1 => ?_)
        refine ax_aloadn hC dX3_takeName_81 rfl rfl ?_
        refine ax_iconst hC dX3_takeName_82 (v := 1) (by decide) ?_
        refine ax_putZ hC lp_X3_41 LX_63 rfl dX3_takeName_83 (fun st2 => ?_)
        refine ax_sub (lv' := [none, none, none, none, none]) (ax_leN (ax_leN (ax_leN (ax_leN (ax_leN ax_le0))))) ?_
        exact kX3_takeName_b86 hC _
      · refine ax_sub (lv' := [none, none, none, none, none]) (ax_leN (ax_leN (ax_leN (ax_leN (ax_leN ax_le0))))) ?_
        exact kX3_takeName_b86 hC _
    · refine ax_iloadn hC dX3_takeName_10 rfl rfl ?_
      refine ax_callS2n hC mlk_X3_79 hst_X3_79 [.inl x2] rfl rfl (by decide) (by decide) (Nat.le_of_ble_eq_true rfl) dX3_takeName_11 (fun r9 s9 h9 => kX8_nameOf _ _ _ _ h9) (fun r3 st4 => ?_)
      refine ax_astoren hC dX3_takeName_14 rfl (by decide) (lv' := [some (.inr 63), some (.inl x1), some (.inl x2), some (.inr (1000 + r3.toNatClampNeg)), none]) rfl ?_
      refine ax_aloadn hC dX3_takeName_15 rfl rfl ?_
      refine ax_aloadn hC dX3_takeName_16 rfl rfl ?_
      refine ax_callV1 hC mlk_X3_83 hst_X3_83 LX_63 [.inr (1000 + r3.toNatClampNeg)] rfl rfl (by decide) (by decide) (Nat.le_of_ble_eq_true rfl) dX3_takeName_17 (fun r9 s9 h9 => kX3_agreeingCharacters _ _ _ _ h9) (fun r5 st6 => ?_)
      refine ax_istore hC dX3_takeName_20 (by decide) (lv' := [some (.inr 63), some (.inl x1), some (.inl x2), some (.inr (1000 + r3.toNatClampNeg)), some (.inl r5)]) rfl ?_
      refine ax_iload hC dX3_takeName_22 rfl ?_
      refine ax_aloadn hC dX3_takeName_24 rfl rfl ?_
      refine ax_callJ hC mlk_X3_87 hst_X3_87 (j := r3) [] rfl rfl (by decide) (by decide) (Nat.le_of_ble_eq_true rfl) dX3_takeName_25 (fun r9 s9 h9 => kJ_length r3 _ _ _ h9) (fun r7 st8 => ?_)
      refine ax_icmp_ne hC dX3_takeName_28 (tgt := 51) (by decide) (fun _ => ?_) (fun _ => ?_)
      · refine ax_aloadn hC dX3_takeName_31 rfl rfl ?_
        refine ax_lkI hC lk_X3_41 LX_63 rfl dX3_takeName_32 ?_
        refine ax_if_ne hC dX3_takeName_35 (tgt := 51) (by decide) (fun _ => ?_) (fun _ => ?_)
        · refine ax_aloadn hC dX3_takeName_38 rfl rfl ?_
          refine ax_dup hC dX3_takeName_39 ?_
          refine ax_lkI hC lk_X3_38 LX_63 rfl dX3_takeName_40 ?_
          refine ax_iload hC dX3_takeName_43 rfl ?_
          refine ax_iadd hC dX3_takeName_45 ?_
          refine ax_putI hC lp_X3_38 LX_63 rfl dX3_takeName_46 (fun st9 => ?_)
          refine ax_iloadn hC dX3_takeName_49 rfl rfl ?_
          exact ax_iret hC dX3_takeName_50
        · refine ax_sub (lv' := [some (.inr 63), some (.inl x1), some (.inl x2), none, some (.inl r5)]) (ax_leS (ax_leS (ax_leS (ax_leN (ax_leS ax_le0))))) ?_
          exact kX3_takeName_b51 hC hrec4 _ _ _ _
      · refine ax_sub (lv' := [some (.inr 63), some (.inl x1), some (.inl x2), none, some (.inl r5)]) (ax_leS (ax_leS (ax_leS (ax_leN (ax_leS ax_le0))))) ?_
        exact kX3_takeName_b51 hC hrec4 _ _ _ _
set_option maxRecDepth 100000 in
theorem kX3_takeName (st : ax_S) (r : Int32) (stz : ax_S) (h : fX3_takeName st = some (r, stz)) : ax_M LX yX3_takeName cX3_takeName 5 (some .int) 7 [.inr 63] st 1 r stz := by
  refine ax_start (by decide) (Nat.le_of_ble_eq_true rfl) (lv0 := [some (.inr 63), none, none, none, none]) rfl (fun C X hC => ?_)
  rw [← h]
  unfold fX3_takeName
  refine ax_iconst hC dX3_takeName_0 (v := 0) (by decide) ?_
  refine ax_istoren hC dX3_takeName_1 rfl (by decide) (lv' := [some (.inr 63), some (.inl (0 : Int32)), none, none, none]) rfl ?_
  refine ax_iconst hC dX3_takeName_2 (v := 0) (by decide) ?_
  refine ax_istoren hC dX3_takeName_3 rfl (by decide) (lv' := [some (.inr 63), some (.inl (0 : Int32)), some (.inl (0 : Int32)), none, none]) rfl ?_
  exact kX3_takeName_L4 hC 4000 _ _ _
set_option maxRecDepth 100000 in
theorem kX8_argumentCount (x0 : Int32) (st : ax_S) (r : Int32) (stz : ax_S) (h : fX8_argumentCount x0 st = some (r, stz)) : ax_M LX yX8_argumentCount cX8_argumentCount 1 (some .int) 1 [.inl x0] st 1 r stz := by
  refine ax_start (by decide) (Nat.le_of_ble_eq_true rfl) (lv0 := [some (.inl x0)]) rfl (fun C X hC => ?_)
  rw [← h]
  unfold fX8_argumentCount
  refine ax_iloadn hC dX8_argumentCount_0 rfl rfl ?_
  refine ax_tsIn hC dX8_argumentCount_1 (v := 0) (by decide) (by decide) (off := 43) rfl (tgt := 44) (by decide) ?_ (fun e0 => ?_)
  · refine ax_iconst hC dX8_argumentCount_44 (v := 0) (by decide) ?_
    exact ax_iret hC dX8_argumentCount_45
  · refine ax_tsIn hC dX8_argumentCount_1 (v := 1) (by decide) (by decide) (off := 47) rfl (tgt := 48) (by decide) ?_ (fun e1 => ?_)
    · refine ax_iconst hC dX8_argumentCount_48 (v := 1) (by decide) ?_
      exact ax_iret hC dX8_argumentCount_49
    · refine ax_tsIn hC dX8_argumentCount_1 (v := 2) (by decide) (by decide) (off := 45) rfl (tgt := 46) (by decide) ?_ (fun e2 => ?_)
      · refine ax_iconst hC dX8_argumentCount_46 (v := 2) (by decide) ?_
        exact ax_iret hC dX8_argumentCount_47
      · refine ax_tsIn hC dX8_argumentCount_1 (v := 3) (by decide) (by decide) (off := 43) rfl (tgt := 44) (by decide) ?_ (fun e3 => ?_)
        · refine ax_iconst hC dX8_argumentCount_44 (v := 0) (by decide) ?_
          exact ax_iret hC dX8_argumentCount_45
        · refine ax_tsIn hC dX8_argumentCount_1 (v := 4) (by decide) (by decide) (off := 47) rfl (tgt := 48) (by decide) ?_ (fun e4 => ?_)
          · refine ax_iconst hC dX8_argumentCount_48 (v := 1) (by decide) ?_
            exact ax_iret hC dX8_argumentCount_49
          · refine ax_tsIn hC dX8_argumentCount_1 (v := 5) (by decide) (by decide) (off := 47) rfl (tgt := 48) (by decide) ?_ (fun e5 => ?_)
            · refine ax_iconst hC dX8_argumentCount_48 (v := 1) (by decide) ?_
              exact ax_iret hC dX8_argumentCount_49
            · refine ax_tsIn hC dX8_argumentCount_1 (v := 6) (by decide) (by decide) (off := 43) rfl (tgt := 44) (by decide) ?_ (fun e6 => ?_)
              · refine ax_iconst hC dX8_argumentCount_44 (v := 0) (by decide) ?_
                exact ax_iret hC dX8_argumentCount_45
              · have g0 : ¬ x0.toInt = 0 := fun q => e0 (Int32.toInt_inj.mp (q.trans (by decide)))
                have g1 : ¬ x0.toInt = 1 := fun q => e1 (Int32.toInt_inj.mp (q.trans (by decide)))
                have g2 : ¬ x0.toInt = 2 := fun q => e2 (Int32.toInt_inj.mp (q.trans (by decide)))
                have g3 : ¬ x0.toInt = 3 := fun q => e3 (Int32.toInt_inj.mp (q.trans (by decide)))
                have g4 : ¬ x0.toInt = 4 := fun q => e4 (Int32.toInt_inj.mp (q.trans (by decide)))
                have g5 : ¬ x0.toInt = 5 := fun q => e5 (Int32.toInt_inj.mp (q.trans (by decide)))
                have g6 : ¬ x0.toInt = 6 := fun q => e6 (Int32.toInt_inj.mp (q.trans (by decide)))
                refine ax_tsOut hC dX8_argumentCount_1 (by omega) (tgt := 48) (by decide) ?_
                refine ax_iconst hC dX8_argumentCount_48 (v := 1) (by decide) ?_
                exact ax_iret hC dX8_argumentCount_49
set_option maxRecDepth 100000 in
theorem kX3_takeNumber_b62 {C : ax_C} {X : ax_X} (hC : ax_ok C X LX cX3_takeNumber RX3 4 (some .int) 4) (s0 : Int32) (st : ax_S) : AW C X LX 4 1 (fX3_takeNumber_b62 s0 st) 62 [none, none, none, none] [.inl s0] st := by
  unfold fX3_takeNumber_b62
  exact ax_iret hC dX3_takeNumber_62
set_option maxRecDepth 100000 in
theorem kX3_takeNumber_b52 {C : ax_C} {X : ax_X} (hC : ax_ok C X LX cX3_takeNumber RX3 4 (some .int) 4) (x1 : Int32) (x2 : Int32) (st : ax_S) : AW C X LX 4 1 (fX3_takeNumber_b52 x1 x2 st) 52 [none, some (.inl x1), some (.inl x2), none] [] st := by
  unfold fX3_takeNumber_b52
  refine ax_iloadn hC dX3_takeNumber_52 rfl rfl ?_
  refine ax_if_eq hC dX3_takeNumber_53 (tgt := 61) (by decide) (fun _ => ?_) (fun _ => ?_)
  · refine ax_iloadn hC dX3_takeNumber_61 rfl rfl ?_
    refine ax_sub (lv' := [none, none, none, none]) (ax_leN (ax_leN (ax_leN (ax_leN ax_le0)))) ?_
    exact kX3_takeNumber_b62 hC _ _
  · refine ax_iloadn hC dX3_takeNumber_56 rfl rfl ?_
    refine ax_ineg hC dX3_takeNumber_57 ?_
    refine ax_goto hC dX3_takeNumber_58 (tgt := 62) (by decide) ?_
    refine ax_sub (lv' := [none, none, none, none]) (ax_leN (ax_leN (ax_leN (ax_leN ax_le0)))) ?_
    exact kX3_takeNumber_b62 hC _ _
set_option maxRecDepth 100000 in
theorem kX3_takeNumber_L24 {C : ax_C} {X : ax_X} (hC : ax_ok C X LX cX3_takeNumber RX3 4 (some .int) 4) : ∀ (n : Nat) (x1 : Int32) (x2 : Int32) (x3 : Int32) (st : ax_S), AW C X LX 4 1 (fX3_takeNumber_L24 n x1 x2 x3 st) 24 [some (.inr 63), some (.inl x1), some (.inl x2), some (.inl x3)] [] st := by
  intro n
  induction n with
  | zero => intros; exact ax_none rfl
  | succ n hrec240 =>
    intro x1 x2 x3 st
    have hrec24 := hrec240
    rw [fX3_takeNumber_L24.eq_2]
    refine ax_iloadn hC dX3_takeNumber_24 rfl rfl ?_
    refine ax_iconst hC dX3_takeNumber_25 (v := 3) (by decide) ?_
    refine ax_icmp_ge hC dX3_takeNumber_26 (tgt := 52) (by decide) (fun _ => ?_) (fun _ => ?_)
    · refine ax_sub (lv' := [none, some (.inl x1), some (.inl x2), none]) (ax_leN (ax_leS (ax_leS (ax_leN ax_le0)))) ?_
      exact kX3_takeNumber_b52 hC _ _ _
    · refine ax_aloadn hC dX3_takeNumber_29 rfl rfl ?_
      refine ax_callV1 hC mlk_X3_105 hst_X3_105 LX_63 [] rfl rfl (by decide) (by decide) (Nat.le_of_ble_eq_true rfl) dX3_takeNumber_30 (fun r9 s9 h9 => kX3_isNextDigit  _ _ _ h9) (fun r7 st8 => ?_)
      refine ax_if_eq hC dX3_takeNumber_33 (tgt := 52) (by decide) (fun _ => ?_) (fun _ => ?_)
      · refine ax_sub (lv' := [none, some (.inl x1), some (.inl x2), none]) (ax_leN (ax_leS (ax_leS (ax_leN ax_le0)))) ?_
        exact kX3_takeNumber_b52 hC _ _ _
      · refine ax_iloadn hC dX3_takeNumber_36 rfl rfl ?_
        refine ax_bipush hC dX3_takeNumber_37 (v := 10) (by decide) ?_
        refine ax_imul hC dX3_takeNumber_39 ?_
        refine ax_aloadn hC dX3_takeNumber_40 rfl rfl ?_
        refine ax_callV1 hC mlk_X3_57 hst_X3_57 LX_63 [] rfl rfl (by decide) (by decide) (Nat.le_of_ble_eq_true rfl) dX3_takeNumber_41 (fun r9 s9 h9 => kX3_takeDigit  _ _ _ h9) (fun r9 st10 => ?_)
        refine ax_iadd hC dX3_takeNumber_44 ?_
        refine ax_istoren hC dX3_takeNumber_45 rfl (by decide) (lv' := [some (.inr 63), some (.inl x1), some (.inl ((x2 * (10 : Int32)) + r9)), some (.inl x3)]) rfl ?_
        refine ax_iinc hC dX3_takeNumber_46 rfl (v := (x3 + (1 : Int32))) rfl (by decide) (lv' := [some (.inr 63), some (.inl x1), some (.inl ((x2 * (10 : Int32)) + r9)), some (.inl (x3 + (1 : Int32)))]) rfl ?_
        refine ax_goto hC dX3_takeNumber_49 (tgt := 24) (by decide) ?_
        exact hrec24 _ _ _ _
set_option maxRecDepth 100000 in
theorem kX3_takeNumber_b17 {C : ax_C} {X : ax_X} (hC : ax_ok C X LX cX3_takeNumber RX3 4 (some .int) 4) (x1 : Int32) (st : ax_S) : AW C X LX 4 1 (fX3_takeNumber_b17 x1 st) 17 [some (.inr 63), some (.inl x1), none, none] [] st := by
  unfold fX3_takeNumber_b17
  refine ax_aloadn hC dX3_takeNumber_17 rfl rfl ?_
  refine ax_callV1 hC mlk_X3_57 hst_X3_57 LX_63 [] rfl rfl (by decide) (by decide) (Nat.le_of_ble_eq_true rfl) dX3_takeNumber_18 (fun r9 s9 h9 => kX3_takeDigit  _ _ _ h9) (fun r5 st6 => ?_)
  refine ax_istoren hC dX3_takeNumber_21 rfl (by decide) (lv' := [some (.inr 63), some (.inl x1), some (.inl r5), none]) rfl ?_
  refine ax_iconst hC dX3_takeNumber_22 (v := 1) (by decide) ?_
  refine ax_istoren hC dX3_takeNumber_23 rfl (by decide) (lv' := [some (.inr 63), some (.inl x1), some (.inl r5), some (.inl (1 : Int32))]) rfl ?_
  exact kX3_takeNumber_L24 hC 4000 _ _ _ _
set_option maxRecDepth 100000 in
theorem kX3_takeNumber (st : ax_S) (r : Int32) (stz : ax_S) (h : fX3_takeNumber st = some (r, stz)) : ax_M LX yX3_takeNumber cX3_takeNumber 4 (some .int) 4 [.inr 63] st 1 r stz := by
  refine ax_start (by decide) (Nat.le_of_ble_eq_true rfl) (lv0 := [some (.inr 63), none, none, none]) rfl (fun C X hC => ?_)
  rw [← h]
  unfold fX3_takeNumber
  refine ax_aloadn hC dX3_takeNumber_0 rfl rfl ?_
  refine ax_bipush hC dX3_takeNumber_1 (v := 45) (by decide) ?_
  refine ax_callV1 hC mlk_X3_61 hst_X3_61 LX_63 [.inl (45 : Int32)] rfl rfl (by decide) (by decide) (Nat.le_of_ble_eq_true rfl) dX3_takeNumber_3 (fun r9 s9 h9 => kX3_isNext _ _ _ _ h9) (fun r1 st2 => ?_)
  refine ax_istoren hC dX3_takeNumber_6 rfl (by decide) (lv' := [some (.inr 63), some (.inl r1), none, none]) rfl ?_
  refine ax_iloadn hC dX3_takeNumber_7 rfl rfl ?_
  refine ax_if_eq hC dX3_takeNumber_8 (tgt := 17) (by decide) (fun _ => ?_) (fun _ => ?_)
  · exact kX3_takeNumber_b17 hC _ _
  · refine ax_aloadn hC dX3_takeNumber_11 rfl rfl ?_
    refine ax_bipush hC dX3_takeNumber_12 (v := 45) (by decide) ?_
    refine ax_callV0 hC mlk_X3_53 hst_X3_53 LX_63 [.inl (45 : Int32)] rfl rfl (by decide) (by decide) (Nat.le_of_ble_eq_true rfl) dX3_takeNumber_14 (fun r9 s9 h9 => kX3_take _ _ _ _ h9) (fun r3 st4 => ?_)
    exact kX3_takeNumber_b17 hC _ _
set_option maxRecDepth 100000 in
theorem kX3_takeInvocation_b84 {C : ax_C} {X : ax_X} (hC : ax_ok C X LX cX3_takeInvocation RX3 3 none 8) (st : ax_S) : AW C X LX 3 0 (fX3_takeInvocation_b84 st) 84 [some (.inr 63), none, none] [] st := by
  unfold fX3_takeInvocation_b84
  refine ax_aloadn hC dX3_takeInvocation_84 rfl rfl ?_
  refine ax_bipush hC dX3_takeInvocation_85 (v := 41) (by decide) ?_
  refine ax_callV0 hC mlk_X3_53 hst_X3_53 LX_63 [.inl (41 : Int32)] rfl rfl (by decide) (by decide) (Nat.le_of_ble_eq_true rfl) dX3_takeInvocation_87 (fun r9 s9 h9 => kX3_take _ _ _ _ h9) (fun r24 st25 => ?_)
  exact ax_vret hC dX3_takeInvocation_90
set_option maxRecDepth 100000 in
theorem kX3_takeInvocation_b63 {C : ax_C} {X : ax_X} (hC : ax_ok C X LX cX3_takeInvocation RX3 3 none 8) (x1 : Int32) (x2 : Int32) (st : ax_S) : AW C X LX 3 0 (fX3_takeInvocation_b63 x1 x2 st) 63 [some (.inr 63), some (.inl x1), some (.inl x2)] [] st := by
  unfold fX3_takeInvocation_b63
  refine ax_iloadn hC dX3_takeInvocation_63 rfl rfl ?_
  refine ax_iconst hC dX3_takeInvocation_64 (v := 2) (by decide) ?_
  refine ax_icmp_lt hC dX3_takeInvocation_65 (tgt := 84) (by decide) (fun _ => ?_) (fun _ => ?_)
  · refine ax_sub (lv' := [some (.inr 63), none, none]) (ax_leS (ax_leN (ax_leN ax_le0))) ?_
    exact kX3_takeInvocation_b84 hC _
  · refine ax_aloadn hC dX3_takeInvocation_68 rfl rfl ?_
    refine ax_bipush hC dX3_takeInvocation_69 (v := 44) (by decide) ?_
    refine ax_callV0 hC mlk_X3_53 hst_X3_53 LX_63 [.inl (44 : Int32)] rfl rfl (by decide) (by decide) (Nat.le_of_ble_eq_true rfl) dX3_takeInvocation_71 (fun r9 s9 h9 => kX3_take _ _ _ _ h9) (fun r19 st20 => ?_)
    refine ax_aloadn hC dX3_takeInvocation_74 rfl rfl ?_
    refine ax_lkR hC lk_X3_27 LX_63 rfl dX3_takeInvocation_75 ?_
    refine ax_iloadn hC dX3_takeInvocation_78 rfl rfl ?_
    refine ax_aloadn hC dX3_takeInvocation_79 rfl rfl ?_
    refine ax_callV1 hC mlk_X3_65 hst_X3_65 LX_63 [] rfl rfl (by decide) (by decide) (Nat.le_of_ble_eq_true rfl) dX3_takeInvocation_80 (fun r9 s9 h9 => kX3_takeNumber  _ _ _ h9) (fun r21 st22 => ?_)
    refine ax_iast hC LX_69 dX3_takeInvocation_83 (fun st23 => ?_)
    refine ax_sub (lv' := [some (.inr 63), none, none]) (ax_leS (ax_leN (ax_leN ax_le0))) ?_
    exact kX3_takeInvocation_b84 hC _
set_option maxRecDepth 100000 in
theorem kX3_takeInvocation (x1 : Int32) (st : ax_S) (r : Int32) (stz : ax_S) (h : fX3_takeInvocation x1 st = some (r, stz)) : ax_M LX yX3_takeInvocation cX3_takeInvocation 3 none 8 [.inr 63, .inl x1] st 0 r stz := by
  refine ax_start (by decide) (Nat.le_of_ble_eq_true rfl) (lv0 := [some (.inr 63), some (.inl x1), none]) rfl (fun C X hC => ?_)
  rw [← h]
  unfold fX3_takeInvocation
  refine ax_aloadn hC dX3_takeInvocation_0 rfl rfl ?_
  refine ax_bipush hC dX3_takeInvocation_1 (v := 46) (by decide) ?_
  refine ax_callV0 hC mlk_X3_53 hst_X3_53 LX_63 [.inl (46 : Int32)] rfl rfl (by decide) (by decide) (Nat.le_of_ble_eq_true rfl) dX3_takeInvocation_3 (fun r9 s9 h9 => kX3_take _ _ _ _ h9) (fun r1 st2 => ?_)
  refine ax_aloadn hC dX3_takeInvocation_6 rfl rfl ?_
  refine ax_lkR hC lk_X3_18 LX_63 rfl dX3_takeInvocation_7 ?_
  refine ax_iloadn hC dX3_takeInvocation_10 rfl rfl ?_
  refine ax_aloadn hC dX3_takeInvocation_11 rfl rfl ?_
  refine ax_callV1 hC mlk_X3_57 hst_X3_57 LX_63 [] rfl rfl (by decide) (by decide) (Nat.le_of_ble_eq_true rfl) dX3_takeInvocation_12 (fun r9 s9 h9 => kX3_takeDigit  _ _ _ h9) (fun r3 st4 => ?_)
  refine ax_iast hC LX_66 dX3_takeInvocation_15 (fun st5 => ?_)
  refine ax_aloadn hC dX3_takeInvocation_16 rfl rfl ?_
  refine ax_bipush hC dX3_takeInvocation_17 (v := 46) (by decide) ?_
  refine ax_callV0 hC mlk_X3_53 hst_X3_53 LX_63 [.inl (46 : Int32)] rfl rfl (by decide) (by decide) (Nat.le_of_ble_eq_true rfl) dX3_takeInvocation_19 (fun r9 s9 h9 => kX3_take _ _ _ _ h9) (fun r6 st7 => ?_)
  refine ax_aloadn hC dX3_takeInvocation_22 rfl rfl ?_
  refine ax_lkR hC lk_X3_21 LX_63 rfl dX3_takeInvocation_23 ?_
  refine ax_iloadn hC dX3_takeInvocation_26 rfl rfl ?_
  refine ax_aloadn hC dX3_takeInvocation_27 rfl rfl ?_
  refine ax_callV1 hC mlk_X3_72 hst_X3_72 LX_63 [] rfl rfl (by decide) (by decide) (Nat.le_of_ble_eq_true rfl) dX3_takeInvocation_28 (fun r9 s9 h9 => kX3_takeName  _ _ _ h9) (fun r8 st9 => ?_)
  refine ax_iast hC LX_67 dX3_takeInvocation_31 (fun st10 => ?_)
  refine ax_aloadn hC dX3_takeInvocation_32 rfl rfl ?_
  refine ax_bipush hC dX3_takeInvocation_33 (v := 40) (by decide) ?_
  refine ax_callV0 hC mlk_X3_53 hst_X3_53 LX_63 [.inl (40 : Int32)] rfl rfl (by decide) (by decide) (Nat.le_of_ble_eq_true rfl) dX3_takeInvocation_35 (fun r9 s9 h9 => kX3_take _ _ _ _ h9) (fun r11 st12 => ?_)
  refine ax_aloadn hC dX3_takeInvocation_38 rfl rfl ?_
  refine ax_lkR hC lk_X3_21 LX_63 rfl dX3_takeInvocation_39 ?_
  refine ax_iloadn hC dX3_takeInvocation_42 rfl rfl ?_
  refine ax_iald hC LX_67 dX3_takeInvocation_43 (fun v13 => ?_)
  refine ax_callS1n hC mlk_X3_75 hst_X3_75 [.inl v13] rfl rfl (by decide) (by decide) (Nat.le_of_ble_eq_true rfl) dX3_takeInvocation_44 (fun r9 s9 h9 => kX8_argumentCount _ _ _ _ h9) (fun r14 st15 => ?_)
  refine ax_istoren hC dX3_takeInvocation_47 rfl (by decide) (lv' := [some (.inr 63), some (.inl x1), some (.inl r14)]) rfl ?_
  refine ax_iloadn hC dX3_takeInvocation_48 rfl rfl ?_
  refine ax_iconst hC dX3_takeInvocation_49 (v := 1) (by decide) ?_
  refine ax_icmp_lt hC dX3_takeInvocation_50 (tgt := 63) (by decide) (fun _ => ?_) (fun _ => ?_)
  · exact kX3_takeInvocation_b63 hC _ _ _
  · refine ax_aloadn hC dX3_takeInvocation_53 rfl rfl ?_
    refine ax_lkR hC lk_X3_24 LX_63 rfl dX3_takeInvocation_54 ?_
    refine ax_iloadn hC dX3_takeInvocation_57 rfl rfl ?_
    refine ax_aloadn hC dX3_takeInvocation_58 rfl rfl ?_
    refine ax_callV1 hC mlk_X3_65 hst_X3_65 LX_63 [] rfl rfl (by decide) (by decide) (Nat.le_of_ble_eq_true rfl) dX3_takeInvocation_59 (fun r9 s9 h9 => kX3_takeNumber  _ _ _ h9) (fun r16 st17 => ?_)
    refine ax_iast hC LX_68 dX3_takeInvocation_62 (fun st18 => ?_)
    exact kX3_takeInvocation_b63 hC _ _ _
set_option maxRecDepth 100000 in
theorem kX3_takeCommand_b127 {C : ax_C} {X : ax_X} (hC : ax_ok C X LX cX3_takeCommand RX3 2 none 9) (st : ax_S) : AW C X LX 2 0 (fX3_takeCommand_b127 st) 127 [some (.inr 63), none] [] st := by
  unfold fX3_takeCommand_b127
  refine ax_aloadn hC dX3_takeCommand_127 rfl rfl ?_
  refine ax_dup hC dX3_takeCommand_128 ?_
  refine ax_lkI hC lk_X3_34 LX_63 rfl dX3_takeCommand_129 ?_
  refine ax_iconst hC dX3_takeCommand_132 (v := 1) (by decide) ?_
  refine ax_iadd hC dX3_takeCommand_133 ?_
  refine ax_putI hC lp_X3_34 LX_63 rfl dX3_takeCommand_134 (fun st25 => ?_)
  exact ax_vret hC dX3_takeCommand_137
set_option maxRecDepth 100000 in
theorem kX3_takeCommand (st : ax_S) (r : Int32) (stz : ax_S) (h : fX3_takeCommand st = some (r, stz)) : ax_M LX yX3_takeCommand cX3_takeCommand 2 none 9 [.inr 63] st 0 r stz := by
  refine ax_start (by decide) (Nat.le_of_ble_eq_true rfl) (lv0 := [some (.inr 63), none]) rfl (fun C X hC => ?_)
  rw [← h]
  unfold fX3_takeCommand
  refine ax_aloadn hC dX3_takeCommand_0 rfl rfl ?_
  refine ax_lkI hC lk_X3_34 LX_63 rfl dX3_takeCommand_1 ?_
  refine ax_istoren hC dX3_takeCommand_4 rfl (by decide) (lv' := [some (.inr 63), some (.inl (st.1 63 0))]) rfl ?_
  refine ax_iloadn hC dX3_takeCommand_5 rfl rfl ?_
  refine ax_bipush hC dX3_takeCommand_6 (v := 60) (by decide) ?_
  refine ax_icmp_lt hC dX3_takeCommand_8 (tgt := 17) (by decide) (fun _ => ?_) (fun _ => ?_)
  · refine ax_aloadn hC dX3_takeCommand_17 rfl rfl ?_
    refine ax_lkR hC lk_X3_15 LX_63 rfl dX3_takeCommand_18 ?_
    refine ax_iloadn hC dX3_takeCommand_21 rfl rfl ?_
    refine ax_aloadn hC dX3_takeCommand_22 rfl rfl ?_
    refine ax_callV1 hC mlk_X3_57 hst_X3_57 LX_63 [] rfl rfl (by decide) (by decide) (Nat.le_of_ble_eq_true rfl) dX3_takeCommand_23 (fun r9 s9 h9 => kX3_takeDigit  _ _ _ h9) (fun r1 st2 => ?_)
    refine ax_iast hC LX_65 dX3_takeCommand_26 (fun st3 => ?_)
    refine ax_aloadn hC dX3_takeCommand_27 rfl rfl ?_
    refine ax_lkR hC lk_X3_18 LX_63 rfl dX3_takeCommand_28 ?_
    refine ax_iloadn hC dX3_takeCommand_31 rfl rfl ?_
    refine ax_iconst hC dX3_takeCommand_32 (v := 0) (by decide) ?_
    refine ax_iast hC LX_66 dX3_takeCommand_33 (fun st4 => ?_)
    refine ax_aloadn hC dX3_takeCommand_34 rfl rfl ?_
    refine ax_lkR hC lk_X3_21 LX_63 rfl dX3_takeCommand_35 ?_
    refine ax_iloadn hC dX3_takeCommand_38 rfl rfl ?_
    refine ax_iconst hC dX3_takeCommand_39 (v := 0) (by decide) ?_
    refine ax_iast hC LX_67 dX3_takeCommand_40 (fun st5 => ?_)
    refine ax_aloadn hC dX3_takeCommand_41 rfl rfl ?_
    refine ax_lkR hC lk_X3_24 LX_63 rfl dX3_takeCommand_42 ?_
    refine ax_iloadn hC dX3_takeCommand_45 rfl rfl ?_
    refine ax_iconst hC dX3_takeCommand_46 (v := 0) (by decide) ?_
    refine ax_iast hC LX_68 dX3_takeCommand_47 (fun st6 => ?_)
    refine ax_aloadn hC dX3_takeCommand_48 rfl rfl ?_
    refine ax_lkR hC lk_X3_27 LX_63 rfl dX3_takeCommand_49 ?_
    refine ax_iloadn hC dX3_takeCommand_52 rfl rfl ?_
    refine ax_iconst hC dX3_takeCommand_53 (v := 0) (by decide) ?_
    refine ax_iast hC LX_69 dX3_takeCommand_54 (fun st7 => ?_)
    refine ax_aloadn hC dX3_takeCommand_55 rfl rfl ?_
    refine ax_bipush hC dX3_takeCommand_56 (v := 33) (by decide) ?_
    refine ax_callV1 hC mlk_X3_61 hst_X3_61 LX_63 [.inl (33 : Int32)] rfl rfl (by decide) (by decide) (Nat.le_of_ble_eq_true rfl) dX3_takeCommand_58 (fun r9 s9 h9 => kX3_isNext _ _ _ _ h9) (fun r8 st9 => ?_)
    refine ax_if_eq hC dX3_takeCommand_61 (tgt := 80) (by decide) (fun _ => ?_) (fun _ => ?_)
    · refine ax_aloadn hC dX3_takeCommand_80 rfl rfl ?_
      refine ax_bipush hC dX3_takeCommand_81 (v := 61) (by decide) ?_
      refine ax_callV1 hC mlk_X3_61 hst_X3_61 LX_63 [.inl (61 : Int32)] rfl rfl (by decide) (by decide) (Nat.le_of_ble_eq_true rfl) dX3_takeCommand_83 (fun r9 s9 h9 => kX3_isNext _ _ _ _ h9) (fun r10 st11 => ?_)
      refine ax_if_eq hC dX3_takeCommand_86 (tgt := 115) (by decide) (fun _ => ?_) (fun _ => ?_)
      · refine ax_aloadn hC dX3_takeCommand_115 rfl rfl ?_
        refine ax_lkR hC lk_X3_9 LX_63 rfl dX3_takeCommand_116 ?_
        refine ax_iloadn hC dX3_takeCommand_119 rfl rfl ?_
        refine ax_iconst hC dX3_takeCommand_120 (v := 0) (by decide) ?_
        refine ax_iast hC LX_64 dX3_takeCommand_121 (fun st12 => ?_)
        refine ax_aloadn hC dX3_takeCommand_122 rfl rfl ?_
        refine ax_iloadn hC dX3_takeCommand_123 rfl rfl ?_
        refine ax_callV0 hC mlk_X3_68 hst_X3_68 LX_63 [.inl (st.1 63 0)] rfl rfl (by decide) (by decide) (Nat.le_of_ble_eq_true rfl) dX3_takeCommand_124 (fun r9 s9 h9 => kX3_takeInvocation _ _ _ _ h9) (fun r13 st14 => ?_)
        refine ax_sub (lv' := [some (.inr 63), none]) (ax_leS (ax_leN ax_le0)) ?_
        exact kX3_takeCommand_b127 hC _
      · refine ax_aloadn hC dX3_takeCommand_89 rfl rfl ?_
        refine ax_lkR hC lk_X3_9 LX_63 rfl dX3_takeCommand_90 ?_
        refine ax_iloadn hC dX3_takeCommand_93 rfl rfl ?_
        refine ax_iconst hC dX3_takeCommand_94 (v := 1) (by decide) ?_
        refine ax_iast hC LX_64 dX3_takeCommand_95 (fun st15 => ?_)
        refine ax_aloadn hC dX3_takeCommand_96 rfl rfl ?_
        refine ax_bipush hC dX3_takeCommand_97 (v := 61) (by decide) ?_
        refine ax_callV0 hC mlk_X3_53 hst_X3_53 LX_63 [.inl (61 : Int32)] rfl rfl (by decide) (by decide) (Nat.le_of_ble_eq_true rfl) dX3_takeCommand_99 (fun r9 s9 h9 => kX3_take _ _ _ _ h9) (fun r16 st17 => ?_)
        refine ax_aloadn hC dX3_takeCommand_102 rfl rfl ?_
        refine ax_lkR hC lk_X3_24 LX_63 rfl dX3_takeCommand_103 ?_
        refine ax_iloadn hC dX3_takeCommand_106 rfl rfl ?_
        refine ax_aloadn hC dX3_takeCommand_107 rfl rfl ?_
        refine ax_callV1 hC mlk_X3_65 hst_X3_65 LX_63 [] rfl rfl (by decide) (by decide) (Nat.le_of_ble_eq_true rfl) dX3_takeCommand_108 (fun r9 s9 h9 => kX3_takeNumber  _ _ _ h9) (fun r18 st19 => ?_)
        refine ax_iast hC LX_68 dX3_takeCommand_111 (fun st20 => ?_)
        refine ax_goto hC dX3_takeCommand_112 (tgt := 127) (by decide) ?_
        refine ax_sub (lv' := [some (.inr 63), none]) (ax_leS (ax_leN ax_le0)) ?_
        exact kX3_takeCommand_b127 hC _
    · refine ax_aloadn hC dX3_takeCommand_64 rfl rfl ?_
      refine ax_lkR hC lk_X3_9 LX_63 rfl dX3_takeCommand_65 ?_
      refine ax_iloadn hC dX3_takeCommand_68 rfl rfl ?_
      refine ax_iconst hC dX3_takeCommand_69 (v := 2) (by decide) ?_
      refine ax_iast hC LX_64 dX3_takeCommand_70 (fun st21 => ?_)
      refine ax_aloadn hC dX3_takeCommand_71 rfl rfl ?_
      refine ax_bipush hC dX3_takeCommand_72 (v := 33) (by decide) ?_
      refine ax_callV0 hC mlk_X3_53 hst_X3_53 LX_63 [.inl (33 : Int32)] rfl rfl (by decide) (by decide) (Nat.le_of_ble_eq_true rfl) dX3_takeCommand_74 (fun r9 s9 h9 => kX3_take _ _ _ _ h9) (fun r22 st23 => ?_)
      refine ax_goto hC dX3_takeCommand_77 (tgt := 127) (by decide) ?_
      refine ax_sub (lv' := [some (.inr 63), none]) (ax_leS (ax_leN ax_le0)) ?_
      exact kX3_takeCommand_b127 hC _
  · refine ax_aloadn hC dX3_takeCommand_11 rfl rfl ?_
    refine ax_iconst hC dX3_takeCommand_12 (v := 1) (by decide) ?_
    refine ax_putZ hC lp_X3_41 LX_63 rfl dX3_takeCommand_13 (fun st24 => ?_)
    exact ax_vret hC dX3_takeCommand_16
set_option maxRecDepth 100000 in
theorem kX3_readsAll_b76 {C : ax_C} {X : ax_X} (hC : ax_ok C X LX cX3_readsAll RX3 2 (some .boolean) 10) (s0 : Int32) (st : ax_S) : AW C X LX 2 1 (fX3_readsAll_b76 s0 st) 76 [none, none] [.inl s0] st := by
  unfold fX3_readsAll_b76
  exact ax_zret hC dX3_readsAll_76
set_option maxRecDepth 100000 in
theorem kX3_readsAll_b64 {C : ax_C} {X : ax_X} (hC : ax_ok C X LX cX3_readsAll RX3 2 (some .boolean) 10) (st : ax_S) : AW C X LX 2 1 (fX3_readsAll_b64 st) 64 [some (.inr 63), none] [] st := by
  unfold fX3_readsAll_b64
  refine ax_aloadn hC dX3_readsAll_64 rfl rfl ?_
  refine ax_lkI hC lk_X3_41 LX_63 rfl dX3_readsAll_65 ?_
  refine ax_if_ne hC dX3_readsAll_68 (tgt := 75) (by decide) (fun _ => ?_) (fun _ => ?_)
  · refine ax_iconst hC dX3_readsAll_71 (v := 1) (by decide) ?_
    refine ax_goto hC dX3_readsAll_72 (tgt := 76) (by decide) ?_
    refine ax_sub (lv' := [none, none]) (ax_leN (ax_leN ax_le0)) ?_
    exact kX3_readsAll_b76 hC _ _
  · refine ax_iconst hC dX3_readsAll_75 (v := 0) (by decide) ?_
    refine ax_sub (lv' := [none, none]) (ax_leN (ax_leN ax_le0)) ?_
    exact kX3_readsAll_b76 hC _ _
set_option maxRecDepth 100000 in
theorem kX3_readsAll_L21 {C : ax_C} {X : ax_X} (hC : ax_ok C X LX cX3_readsAll RX3 2 (some .boolean) 10) : ∀ (n : Nat) (x1 : Int32) (st : ax_S), AW C X LX 2 1 (fX3_readsAll_L21 n x1 st) 21 [some (.inr 63), some (.inl x1)] [] st := by
  intro n
  induction n with
  | zero => intros; exact ax_none rfl
  | succ n hrec210 =>
    intro x1 st
    have hrec21 := hrec210
    rw [fX3_readsAll_L21.eq_2]
    refine ax_iloadn hC dX3_readsAll_21 rfl rfl ?_
    refine ax_bipush hC dX3_readsAll_22 (v := 60) (by decide) ?_
    refine ax_icmp_ge hC dX3_readsAll_24 (tgt := 64) (by decide) (fun _ => ?_) (fun _ => ?_)
    · refine ax_sub (lv' := [some (.inr 63), none]) (ax_leS (ax_leN ax_le0)) ?_
      exact kX3_readsAll_b64 hC _
    · refine ax_aloadn hC dX3_readsAll_27 rfl rfl ?_
      refine ax_lkI hC lk_X3_41 LX_63 rfl dX3_readsAll_28 ?_
      refine ax_if_ne hC dX3_readsAll_31 (tgt := 64) (by decide) (fun _ => ?_) (fun _ => ?_)
      · refine ax_aloadn hC dX3_readsAll_34 rfl rfl ?_
        refine ax_lkI hC lk_X3_38 LX_63 rfl dX3_readsAll_35 ?_
        refine ax_aloadn hC dX3_readsAll_38 rfl rfl ?_
        refine ax_lkR hC lk_X3_30 LX_63 rfl dX3_readsAll_39 ?_
        refine ax_lkI hC lk_X3_48 LX_61 rfl dX3_readsAll_42 ?_
        refine ax_icmp_ge hC dX3_readsAll_45 (tgt := 64) (by decide) (fun _ => ?_) (fun _ => ?_)
        · refine ax_sub (lv' := [some (.inr 63), none]) (ax_leS (ax_leN ax_le0)) ?_
          exact kX3_readsAll_b64 hC _
        · refine ax_aloadn hC dX3_readsAll_48 rfl rfl ?_
          refine ax_bipush hC dX3_readsAll_49 (v := 59) (by decide) ?_
          refine ax_callV0 hC mlk_X3_53 hst_X3_53 LX_63 [.inl (59 : Int32)] rfl rfl (by decide) (by decide) (Nat.le_of_ble_eq_true rfl) dX3_readsAll_51 (fun r9 s9 h9 => kX3_take _ _ _ _ h9) (fun r6 st7 => ?_)
          refine ax_aloadn hC dX3_readsAll_54 rfl rfl ?_
          refine ax_callV0 hC mlk_X3_45 hst_X3_45 LX_63 [] rfl rfl (by decide) (by decide) (Nat.le_of_ble_eq_true rfl) dX3_readsAll_55 (fun r9 s9 h9 => kX3_takeCommand  _ _ _ h9) (fun r8 st9 => ?_)
          refine ax_iinc hC dX3_readsAll_58 rfl (v := (x1 + (1 : Int32))) rfl (by decide) (lv' := [some (.inr 63), some (.inl (x1 + (1 : Int32)))]) rfl ?_
          refine ax_goto hC dX3_readsAll_61 (tgt := 21) (by decide) ?_
          exact hrec21 _ _
      · refine ax_sub (lv' := [some (.inr 63), none]) (ax_leS (ax_leN ax_le0)) ?_
        exact kX3_readsAll_b64 hC _
set_option maxRecDepth 100000 in
theorem kX3_readsAll (st : ax_S) (r : Int32) (stz : ax_S) (h : fX3_readsAll st = some (r, stz)) : ax_M LX yX3_readsAll cX3_readsAll 2 (some .boolean) 10 [.inr 63] st 1 r stz := by
  refine ax_start (by decide) (Nat.le_of_ble_eq_true rfl) (lv0 := [some (.inr 63), none]) rfl (fun C X hC => ?_)
  rw [← h]
  unfold fX3_readsAll
  refine ax_aloadn hC dX3_readsAll_0 rfl rfl ?_
  refine ax_iconst hC dX3_readsAll_1 (v := 0) (by decide) ?_
  refine ax_putI hC lp_X3_34 LX_63 rfl dX3_readsAll_2 (fun st1 => ?_)
  refine ax_aloadn hC dX3_readsAll_5 rfl rfl ?_
  refine ax_iconst hC dX3_readsAll_6 (v := 0) (by decide) ?_
  refine ax_putI hC lp_X3_38 LX_63 rfl dX3_readsAll_7 (fun st2 => ?_)
  refine ax_aloadn hC dX3_readsAll_10 rfl rfl ?_
  refine ax_iconst hC dX3_readsAll_11 (v := 0) (by decide) ?_
  refine ax_putZ hC lp_X3_41 LX_63 rfl dX3_readsAll_12 (fun st3 => ?_)
  refine ax_aloadn hC dX3_readsAll_15 rfl rfl ?_
  refine ax_callV0 hC mlk_X3_45 hst_X3_45 LX_63 [] rfl rfl (by decide) (by decide) (Nat.le_of_ble_eq_true rfl) dX3_readsAll_16 (fun r9 s9 h9 => kX3_takeCommand  _ _ _ h9) (fun r4 st5 => ?_)
  refine ax_iconst hC dX3_readsAll_19 (v := 1) (by decide) ?_
  refine ax_istoren hC dX3_readsAll_20 rfl (by decide) (lv' := [some (.inr 63), some (.inl (1 : Int32))]) rfl ?_
  exact kX3_readsAll_L21 hC 4000 _ _
set_option maxRecDepth 100000 in
theorem kX8_execute (x1 : Int32) (st : ax_S) (r : Int32) (stz : ax_S) (h : fX8_execute x1 st = some (r, stz)) : ax_M LX yX8_execute cX8_execute 5 (some .int) 6 [.inr 0, .inl x1] st 1 r stz := by
  refine ax_start (by decide) (Nat.le_of_ble_eq_true rfl) (lv0 := [some (.inr 0), some (.inl x1), none, none, none]) rfl (fun C X hC => ?_)
  rw [← h]
  unfold fX8_execute
  refine ax_aloadn hC dX8_execute_0 rfl rfl ?_
  refine ax_lkR hC lk_X8_40 LX_0 rfl dX8_execute_1 ?_
  refine ax_lkR hC lk_X8_266 LX_63 rfl dX8_execute_4 ?_
  refine ax_iloadn hC dX8_execute_7 rfl rfl ?_
  refine ax_iald hC LX_65 dX8_execute_8 (fun v1 => ?_)
  refine ax_istoren hC dX8_execute_9 rfl (by decide) (lv' := [some (.inr 0), some (.inl x1), some (.inl v1), none, none]) rfl ?_
  refine ax_aloadn hC dX8_execute_10 rfl rfl ?_
  refine ax_lkR hC lk_X8_40 LX_0 rfl dX8_execute_11 ?_
  refine ax_lkR hC lk_X8_267 LX_63 rfl dX8_execute_14 ?_
  refine ax_iloadn hC dX8_execute_17 rfl rfl ?_
  refine ax_iald hC LX_68 dX8_execute_18 (fun v2 => ?_)
  refine ax_istoren hC dX8_execute_19 rfl (by decide) (lv' := [some (.inr 0), some (.inl x1), some (.inl v1), some (.inl v2), none]) rfl ?_
  refine ax_aloadn hC dX8_execute_20 rfl rfl ?_
  refine ax_lkR hC lk_X8_40 LX_0 rfl dX8_execute_21 ?_
  refine ax_lkR hC lk_X8_270 LX_63 rfl dX8_execute_24 ?_
  refine ax_iloadn hC dX8_execute_27 rfl rfl ?_
  refine ax_iald hC LX_69 dX8_execute_28 (fun v3 => ?_)
  refine ax_istore hC dX8_execute_29 (by decide) (lv' := [some (.inr 0), some (.inl x1), some (.inl v1), some (.inl v2), some (.inl v3)]) rfl ?_
  refine ax_aloadn hC dX8_execute_31 rfl rfl ?_
  refine ax_lkR hC lk_X8_40 LX_0 rfl dX8_execute_32 ?_
  refine ax_lkR hC lk_X8_273 LX_63 rfl dX8_execute_35 ?_
  refine ax_iloadn hC dX8_execute_38 rfl rfl ?_
  refine ax_iald hC LX_64 dX8_execute_39 (fun v4 => ?_)
  refine ax_lsIn hC dX8_execute_40 (v := 1) (by decide) (off := 28) (by decide) (tgt := 68) (by decide) ?_ (fun e0 => ?_)
  · refine ax_aloadn hC dX8_execute_68 rfl rfl ?_
    refine ax_iloadn hC dX8_execute_69 rfl rfl ?_
    refine ax_iloadn hC dX8_execute_70 rfl rfl ?_
    refine ax_callV1 hC mlk_X8_276 hst_X8_276 LX_0 [.inl v1, .inl v2] rfl rfl (by decide) (by decide) (Nat.le_of_ble_eq_true rfl) dX8_execute_71 (fun r9 s9 h9 => kX8_respond _ _ _ _ _ h9) (fun r11 st12 => ?_)
    exact ax_iret hC dX8_execute_74
  · refine ax_lsIn hC dX8_execute_40 (v := 2) (by decide) (off := 35) (by decide) (tgt := 75) (by decide) ?_ (fun e1 => ?_)
    · refine ax_aloadn hC dX8_execute_75 rfl rfl ?_
      refine ax_iloadn hC dX8_execute_76 rfl rfl ?_
      refine ax_callV1 hC mlk_X8_279 hst_X8_279 LX_0 [.inl v1] rfl rfl (by decide) (by decide) (Nat.le_of_ble_eq_true rfl) dX8_execute_77 (fun r9 s9 h9 => kX8_crash _ _ _ _ h9) (fun r9 st10 => ?_)
      exact ax_iret hC dX8_execute_80
    · refine ax_ls hC dX8_execute_40 (by decide) (off := 41) ((lv_osw e0 (by decide)).trans ((lv_osw e1 (by decide)).trans rfl)) (tgt := 81) (by decide) ?_
      refine ax_aloadn hC dX8_execute_81 rfl rfl ?_
      refine ax_aloadn hC dX8_execute_82 rfl rfl ?_
      refine ax_lkR hC lk_X8_40 LX_0 rfl dX8_execute_83 ?_
      refine ax_lkR hC lk_X8_282 LX_63 rfl dX8_execute_86 ?_
      refine ax_iloadn hC dX8_execute_89 rfl rfl ?_
      refine ax_iald hC LX_67 dX8_execute_90 (fun v5 => ?_)
      refine ax_iloadn hC dX8_execute_91 rfl rfl ?_
      refine ax_aloadn hC dX8_execute_92 rfl rfl ?_
      refine ax_lkR hC lk_X8_40 LX_0 rfl dX8_execute_93 ?_
      refine ax_lkR hC lk_X8_283 LX_63 rfl dX8_execute_96 ?_
      refine ax_iloadn hC dX8_execute_99 rfl rfl ?_
      refine ax_iald hC LX_66 dX8_execute_100 (fun v6 => ?_)
      refine ax_iloadn hC dX8_execute_101 rfl rfl ?_
      refine ax_iload hC dX8_execute_102 rfl ?_
      refine ax_callV1 hC mlk_X8_86 hst_X8_86 LX_0 [.inl v5, .inl v1, .inl v6, .inl v2, .inl v3] rfl rfl (by decide) (by decide) (Nat.le_of_ble_eq_true rfl) dX8_execute_104 (fun r9 s9 h9 => kX8_invoke _ _ _ _ _ _ _ _ h9) (fun r7 st8 => ?_)
      exact ax_iret hC dX8_execute_107
set_option maxRecDepth 100000 in
theorem kX8_parseText_L33 {C : ax_C} {X : ax_X} (hC : ax_ok C X LX cX8_parseText RX8 3 (some .int) 11) : ∀ (n : Nat) (x2 : Int32) (st : ax_S), AW C X LX 3 1 (fX8_parseText_L33 n x2 st) 33 [some (.inr 0), none, some (.inl x2)] [] st := by
  intro n
  induction n with
  | zero => intros; exact ax_none rfl
  | succ n hrec330 =>
    intro x2 st
    have hrec33 := hrec330
    rw [fX8_parseText_L33.eq_2]
    refine ax_iloadn hC dX8_parseText_33 rfl rfl ?_
    refine ax_aloadn hC dX8_parseText_34 rfl rfl ?_
    refine ax_lkR hC lk_X8_40 LX_0 rfl dX8_parseText_35 ?_
    refine ax_lkI hC lk_X8_245 LX_63 rfl dX8_parseText_38 ?_
    refine ax_icmp_ge hC dX8_parseText_41 (tgt := 64) (by decide) (fun _ => ?_) (fun _ => ?_)
    · refine ax_aloadn hC dX8_parseText_64 rfl rfl ?_
      refine ax_lkR hC lk_X8_40 LX_0 rfl dX8_parseText_65 ?_
      refine ax_lkI hC lk_X8_245 LX_63 rfl dX8_parseText_68 ?_
      exact ax_iret hC dX8_parseText_71
    · refine ax_aloadn hC dX8_parseText_44 rfl rfl ?_
      refine ax_iloadn hC dX8_parseText_45 rfl rfl ?_
      refine ax_callV1 hC mlk_X8_248 hst_X8_248 LX_0 [.inl x2] rfl rfl (by decide) (by decide) (Nat.le_of_ble_eq_true rfl) dX8_parseText_46 (fun r9 s9 h9 => kX8_execute _ _ _ _ h9) (fun r5 st6 => ?_)
      refine ax_if_ge hC dX8_parseText_49 (tgt := 58) (by decide) (fun _ => ?_) (fun _ => ?_)
      · refine ax_iinc hC dX8_parseText_58 rfl (v := (x2 + (1 : Int32))) rfl (by decide) (lv' := [some (.inr 0), none, some (.inl (x2 + (1 : Int32)))]) rfl ?_
        refine ax_goto hC dX8_parseText_61 (tgt := 33) (by decide) ?_
        exact hrec33 _ _
      · refine ax_sipush hC dX8_parseText_52 (v := -2000) (by decide) ?_
        refine ax_iloadn hC dX8_parseText_55 rfl rfl ?_
        refine ax_isub hC dX8_parseText_56 ?_
        exact ax_iret hC dX8_parseText_57
set_option maxRecDepth 100000 in
theorem kX8_parseText (st : ax_S) (r : Int32) (stz : ax_S) (h : fX8_parseText st = some (r, stz)) : ax_M LX yX8_parseText cX8_parseText 3 (some .int) 11 [.inr 0] st 1 r stz := by
  refine ax_start (by decide) (Nat.le_of_ble_eq_true rfl) (lv0 := [some (.inr 0), none, none]) rfl (fun C X hC => ?_)
  rw [← h]
  unfold fX8_parseText
  refine ax_aloadn hC dX8_parseText_0 rfl rfl ?_
  refine ax_lkR hC lk_X8_40 LX_0 rfl dX8_parseText_1 ?_
  refine ax_callV1 hC mlk_X8_239 hst_X8_239 LX_63 [] rfl rfl (by decide) (by decide) (Nat.le_of_ble_eq_true rfl) dX8_parseText_4 (fun r9 s9 h9 => kX3_readsAll  _ _ _ h9) (fun r1 st2 => ?_)
  refine ax_istoren hC dX8_parseText_7 rfl (by decide) (lv' := [some (.inr 0), some (.inl r1), none]) rfl ?_
  refine ax_aloadn hC dX8_parseText_8 rfl rfl ?_
  refine ax_lkR hC lk_X8_31 LX_0 rfl dX8_parseText_9 ?_
  refine ax_callV0 hC mlk_X8_238 hst_X8_238 LX_61 [] rfl rfl (by decide) (by decide) (Nat.le_of_ble_eq_true rfl) dX8_parseText_12 (fun r9 s9 h9 => kX7_empty  _ _ _ h9) (fun r3 st4 => ?_)
  refine ax_iloadn hC dX8_parseText_15 rfl rfl ?_
  refine ax_if_ne hC dX8_parseText_16 (tgt := 31) (by decide) (fun _ => ?_) (fun _ => ?_)
  · refine ax_sipush hC dX8_parseText_19 (v := -1000) (by decide) ?_
    refine ax_aloadn hC dX8_parseText_22 rfl rfl ?_
    refine ax_lkR hC lk_X8_40 LX_0 rfl dX8_parseText_23 ?_
    refine ax_lkI hC lk_X8_242 LX_63 rfl dX8_parseText_26 ?_
    refine ax_isub hC dX8_parseText_29 ?_
    exact ax_iret hC dX8_parseText_30
  · refine ax_iconst hC dX8_parseText_31 (v := 0) (by decide) ?_
    refine ax_istoren hC dX8_parseText_32 rfl (by decide) (lv' := [some (.inr 0), some (.inl r1), some (.inl (0 : Int32))]) rfl ?_
    refine ax_sub (lv' := [some (.inr 0), none, some (.inl (0 : Int32))]) (ax_leS (ax_leN (ax_leS ax_le0))) ?_
    exact kX8_parseText_L33 hC 4000 _ _
set_option maxRecDepth 100000 in
theorem kX1_copyObjects (st : ax_S) (r : Int32) (stz : ax_S) (h : fX1_copyObjects st = some (r, stz)) : ax_M LX yX1_copyObjects cX1_copyObjects 2 none 2 [.inr 23, .inr 2] st 0 r stz := by
  refine ax_start (by decide) (Nat.le_of_ble_eq_true rfl) (lv0 := [some (.inr 23), some (.inr 2)]) rfl (fun C X hC => ?_)
  rw [← h]
  unfold fX1_copyObjects
  refine ax_aloadn hC dX1_copyObjects_0 rfl rfl ?_
  refine ax_aloadn hC dX1_copyObjects_1 rfl rfl ?_
  refine ax_lkI hC lk_X1_18 LX_2 rfl dX1_copyObjects_2 ?_
  refine ax_putI hC lp_X1_18 LX_23 rfl dX1_copyObjects_5 (fun st1 => ?_)
  refine ax_aloadn hC dX1_copyObjects_8 rfl rfl ?_
  refine ax_lkR hC lk_X1_9 LX_2 rfl dX1_copyObjects_9 ?_
  refine ax_iconst hC dX1_copyObjects_12 (v := 0) (by decide) ?_
  refine ax_aloadn hC dX1_copyObjects_13 rfl rfl ?_
  refine ax_lkR hC lk_X1_9 LX_23 rfl dX1_copyObjects_14 ?_
  refine ax_iconst hC dX1_copyObjects_17 (v := 0) (by decide) ?_
  refine ax_iconst hC dX1_copyObjects_18 (v := 4) (by decide) ?_
  refine ax_copy hC cp_X1_26 LX_3 LX_24 (by decide) (Nat.le_of_ble_eq_true rfl) dX1_copyObjects_19 (fun st2 => ?_)
  refine ax_aloadn hC dX1_copyObjects_22 rfl rfl ?_
  refine ax_lkR hC lk_X1_15 LX_2 rfl dX1_copyObjects_23 ?_
  refine ax_iconst hC dX1_copyObjects_26 (v := 0) (by decide) ?_
  refine ax_aloadn hC dX1_copyObjects_27 rfl rfl ?_
  refine ax_lkR hC lk_X1_15 LX_23 rfl dX1_copyObjects_28 ?_
  refine ax_iconst hC dX1_copyObjects_31 (v := 0) (by decide) ?_
  refine ax_iconst hC dX1_copyObjects_32 (v := 4) (by decide) ?_
  refine ax_copy hC cp_X1_26 LX_4 LX_25 (by decide) (Nat.le_of_ble_eq_true rfl) dX1_copyObjects_33 (fun st3 => ?_)
  exact ax_vret hC dX1_copyObjects_36
set_option maxRecDepth 100000 in
theorem kX0_copyHistory_L197 {C : ax_C} {X : ax_X} (hC : ax_ok C X LX cX0_copyHistory RX0 3 none 2) : ∀ (n : Nat) (x2 : Int32) (st : ax_S), AW C X LX 3 0 (fX0_copyHistory_L197 n x2 st) 197 [some (.inr 26), some (.inr 5), some (.inl x2)] [] st := by
  intro n
  induction n with
  | zero => intros; exact ax_none rfl
  | succ n hrec1970 =>
    intro x2 st
    have hrec197 := hrec1970
    rw [fX0_copyHistory_L197.eq_2]
    refine ax_iloadn hC dX0_copyHistory_197 rfl rfl ?_
    refine ax_iconst hC dX0_copyHistory_198 (v := 4) (by decide) ?_
    refine ax_icmp_ge hC dX0_copyHistory_199 (tgt := 220) (by decide) (fun _ => ?_) (fun _ => ?_)
    · exact ax_vret hC dX0_copyHistory_220
    · refine ax_aloadn hC dX0_copyHistory_202 rfl rfl ?_
      refine ax_lkR hC lk_X0_48 LX_26 rfl dX0_copyHistory_203 ?_
      refine ax_iloadn hC dX0_copyHistory_206 rfl rfl ?_
      refine ax_aloadn hC dX0_copyHistory_207 rfl rfl ?_
      refine ax_lkR hC lk_X0_48 LX_5 rfl dX0_copyHistory_208 ?_
      refine ax_iloadn hC dX0_copyHistory_211 rfl rfl ?_
      refine ax_zald hC LX_18 dX0_copyHistory_212 (fun v15 => ?_)
      refine ax_zast hC LX_39 dX0_copyHistory_213 (fun st16 => ?_)
      refine ax_iinc hC dX0_copyHistory_214 rfl (v := (x2 + (1 : Int32))) rfl (by decide) (lv' := [some (.inr 26), some (.inr 5), some (.inl (x2 + (1 : Int32)))]) rfl ?_
      refine ax_goto hC dX0_copyHistory_217 (tgt := 197) (by decide) ?_
      exact hrec197 _ _
set_option maxRecDepth 100000 in
theorem kX0_copyHistory (st : ax_S) (r : Int32) (stz : ax_S) (h : fX0_copyHistory st = some (r, stz)) : ax_M LX yX0_copyHistory cX0_copyHistory 3 none 2 [.inr 26, .inr 5] st 0 r stz := by
  refine ax_start (by decide) (Nat.le_of_ble_eq_true rfl) (lv0 := [some (.inr 26), some (.inr 5), none]) rfl (fun C X hC => ?_)
  rw [← h]
  unfold fX0_copyHistory
  refine ax_aloadn hC dX0_copyHistory_0 rfl rfl ?_
  refine ax_aloadn hC dX0_copyHistory_1 rfl rfl ?_
  refine ax_lkI hC lk_X0_58 LX_5 rfl dX0_copyHistory_2 ?_
  refine ax_putI hC lp_X0_58 LX_26 rfl dX0_copyHistory_5 (fun st1 => ?_)
  refine ax_aloadn hC dX0_copyHistory_8 rfl rfl ?_
  refine ax_lkR hC lk_X0_9 LX_5 rfl dX0_copyHistory_9 ?_
  refine ax_iconst hC dX0_copyHistory_12 (v := 0) (by decide) ?_
  refine ax_aloadn hC dX0_copyHistory_13 rfl rfl ?_
  refine ax_lkR hC lk_X0_9 LX_26 rfl dX0_copyHistory_14 ?_
  refine ax_iconst hC dX0_copyHistory_17 (v := 0) (by decide) ?_
  refine ax_bipush hC dX0_copyHistory_18 (v := 24) (by decide) ?_
  refine ax_copy hC cp_X0_90 LX_6 LX_27 (by decide) (Nat.le_of_ble_eq_true rfl) dX0_copyHistory_20 (fun st2 => ?_)
  refine ax_aloadn hC dX0_copyHistory_23 rfl rfl ?_
  refine ax_lkR hC lk_X0_15 LX_5 rfl dX0_copyHistory_24 ?_
  refine ax_iconst hC dX0_copyHistory_27 (v := 0) (by decide) ?_
  refine ax_aloadn hC dX0_copyHistory_28 rfl rfl ?_
  refine ax_lkR hC lk_X0_15 LX_26 rfl dX0_copyHistory_29 ?_
  refine ax_iconst hC dX0_copyHistory_32 (v := 0) (by decide) ?_
  refine ax_bipush hC dX0_copyHistory_33 (v := 24) (by decide) ?_
  refine ax_copy hC cp_X0_90 LX_7 LX_28 (by decide) (Nat.le_of_ble_eq_true rfl) dX0_copyHistory_35 (fun st3 => ?_)
  refine ax_aloadn hC dX0_copyHistory_38 rfl rfl ?_
  refine ax_lkR hC lk_X0_18 LX_5 rfl dX0_copyHistory_39 ?_
  refine ax_iconst hC dX0_copyHistory_42 (v := 0) (by decide) ?_
  refine ax_aloadn hC dX0_copyHistory_43 rfl rfl ?_
  refine ax_lkR hC lk_X0_18 LX_26 rfl dX0_copyHistory_44 ?_
  refine ax_iconst hC dX0_copyHistory_47 (v := 0) (by decide) ?_
  refine ax_bipush hC dX0_copyHistory_48 (v := 24) (by decide) ?_
  refine ax_copy hC cp_X0_90 LX_8 LX_29 (by decide) (Nat.le_of_ble_eq_true rfl) dX0_copyHistory_50 (fun st4 => ?_)
  refine ax_aloadn hC dX0_copyHistory_53 rfl rfl ?_
  refine ax_aloadn hC dX0_copyHistory_54 rfl rfl ?_
  refine ax_lkI hC lk_X0_62 LX_5 rfl dX0_copyHistory_55 ?_
  refine ax_putI hC lp_X0_62 LX_26 rfl dX0_copyHistory_58 (fun st5 => ?_)
  refine ax_aloadn hC dX0_copyHistory_61 rfl rfl ?_
  refine ax_lkR hC lk_X0_21 LX_5 rfl dX0_copyHistory_62 ?_
  refine ax_iconst hC dX0_copyHistory_65 (v := 0) (by decide) ?_
  refine ax_aloadn hC dX0_copyHistory_66 rfl rfl ?_
  refine ax_lkR hC lk_X0_21 LX_26 rfl dX0_copyHistory_67 ?_
  refine ax_iconst hC dX0_copyHistory_70 (v := 0) (by decide) ?_
  refine ax_bipush hC dX0_copyHistory_71 (v := 10) (by decide) ?_
  refine ax_copy hC cp_X0_90 LX_9 LX_30 (by decide) (Nat.le_of_ble_eq_true rfl) dX0_copyHistory_73 (fun st6 => ?_)
  refine ax_aloadn hC dX0_copyHistory_76 rfl rfl ?_
  refine ax_lkR hC lk_X0_24 LX_5 rfl dX0_copyHistory_77 ?_
  refine ax_iconst hC dX0_copyHistory_80 (v := 0) (by decide) ?_
  refine ax_aloadn hC dX0_copyHistory_81 rfl rfl ?_
  refine ax_lkR hC lk_X0_24 LX_26 rfl dX0_copyHistory_82 ?_
  refine ax_iconst hC dX0_copyHistory_85 (v := 0) (by decide) ?_
  refine ax_bipush hC dX0_copyHistory_86 (v := 10) (by decide) ?_
  refine ax_copy hC cp_X0_90 LX_10 LX_31 (by decide) (Nat.le_of_ble_eq_true rfl) dX0_copyHistory_88 (fun st7 => ?_)
  refine ax_aloadn hC dX0_copyHistory_91 rfl rfl ?_
  refine ax_lkR hC lk_X0_27 LX_5 rfl dX0_copyHistory_92 ?_
  refine ax_iconst hC dX0_copyHistory_95 (v := 0) (by decide) ?_
  refine ax_aloadn hC dX0_copyHistory_96 rfl rfl ?_
  refine ax_lkR hC lk_X0_27 LX_26 rfl dX0_copyHistory_97 ?_
  refine ax_iconst hC dX0_copyHistory_100 (v := 0) (by decide) ?_
  refine ax_bipush hC dX0_copyHistory_101 (v := 10) (by decide) ?_
  refine ax_copy hC cp_X0_90 LX_11 LX_32 (by decide) (Nat.le_of_ble_eq_true rfl) dX0_copyHistory_103 (fun st8 => ?_)
  refine ax_aloadn hC dX0_copyHistory_106 rfl rfl ?_
  refine ax_lkR hC lk_X0_30 LX_5 rfl dX0_copyHistory_107 ?_
  refine ax_iconst hC dX0_copyHistory_110 (v := 0) (by decide) ?_
  refine ax_aloadn hC dX0_copyHistory_111 rfl rfl ?_
  refine ax_lkR hC lk_X0_30 LX_26 rfl dX0_copyHistory_112 ?_
  refine ax_iconst hC dX0_copyHistory_115 (v := 0) (by decide) ?_
  refine ax_bipush hC dX0_copyHistory_116 (v := 10) (by decide) ?_
  refine ax_copy hC cp_X0_90 LX_12 LX_33 (by decide) (Nat.le_of_ble_eq_true rfl) dX0_copyHistory_118 (fun st9 => ?_)
  refine ax_aloadn hC dX0_copyHistory_121 rfl rfl ?_
  refine ax_lkR hC lk_X0_33 LX_5 rfl dX0_copyHistory_122 ?_
  refine ax_iconst hC dX0_copyHistory_125 (v := 0) (by decide) ?_
  refine ax_aloadn hC dX0_copyHistory_126 rfl rfl ?_
  refine ax_lkR hC lk_X0_33 LX_26 rfl dX0_copyHistory_127 ?_
  refine ax_iconst hC dX0_copyHistory_130 (v := 0) (by decide) ?_
  refine ax_bipush hC dX0_copyHistory_131 (v := 10) (by decide) ?_
  refine ax_copy hC cp_X0_90 LX_13 LX_34 (by decide) (Nat.le_of_ble_eq_true rfl) dX0_copyHistory_133 (fun st10 => ?_)
  refine ax_aloadn hC dX0_copyHistory_136 rfl rfl ?_
  refine ax_lkR hC lk_X0_36 LX_5 rfl dX0_copyHistory_137 ?_
  refine ax_iconst hC dX0_copyHistory_140 (v := 0) (by decide) ?_
  refine ax_aloadn hC dX0_copyHistory_141 rfl rfl ?_
  refine ax_lkR hC lk_X0_36 LX_26 rfl dX0_copyHistory_142 ?_
  refine ax_iconst hC dX0_copyHistory_145 (v := 0) (by decide) ?_
  refine ax_bipush hC dX0_copyHistory_146 (v := 10) (by decide) ?_
  refine ax_copy hC cp_X0_90 LX_14 LX_35 (by decide) (Nat.le_of_ble_eq_true rfl) dX0_copyHistory_148 (fun st11 => ?_)
  refine ax_aloadn hC dX0_copyHistory_151 rfl rfl ?_
  refine ax_lkR hC lk_X0_39 LX_5 rfl dX0_copyHistory_152 ?_
  refine ax_iconst hC dX0_copyHistory_155 (v := 0) (by decide) ?_
  refine ax_aloadn hC dX0_copyHistory_156 rfl rfl ?_
  refine ax_lkR hC lk_X0_39 LX_26 rfl dX0_copyHistory_157 ?_
  refine ax_iconst hC dX0_copyHistory_160 (v := 0) (by decide) ?_
  refine ax_bipush hC dX0_copyHistory_161 (v := 10) (by decide) ?_
  refine ax_copy hC cp_X0_90 LX_15 LX_36 (by decide) (Nat.le_of_ble_eq_true rfl) dX0_copyHistory_163 (fun st12 => ?_)
  refine ax_aloadn hC dX0_copyHistory_166 rfl rfl ?_
  refine ax_lkR hC lk_X0_42 LX_5 rfl dX0_copyHistory_167 ?_
  refine ax_iconst hC dX0_copyHistory_170 (v := 0) (by decide) ?_
  refine ax_aloadn hC dX0_copyHistory_171 rfl rfl ?_
  refine ax_lkR hC lk_X0_42 LX_26 rfl dX0_copyHistory_172 ?_
  refine ax_iconst hC dX0_copyHistory_175 (v := 0) (by decide) ?_
  refine ax_bipush hC dX0_copyHistory_176 (v := 10) (by decide) ?_
  refine ax_copy hC cp_X0_90 LX_16 LX_37 (by decide) (Nat.le_of_ble_eq_true rfl) dX0_copyHistory_178 (fun st13 => ?_)
  refine ax_aloadn hC dX0_copyHistory_181 rfl rfl ?_
  refine ax_lkR hC lk_X0_45 LX_5 rfl dX0_copyHistory_182 ?_
  refine ax_iconst hC dX0_copyHistory_185 (v := 0) (by decide) ?_
  refine ax_aloadn hC dX0_copyHistory_186 rfl rfl ?_
  refine ax_lkR hC lk_X0_45 LX_26 rfl dX0_copyHistory_187 ?_
  refine ax_iconst hC dX0_copyHistory_190 (v := 0) (by decide) ?_
  refine ax_iconst hC dX0_copyHistory_191 (v := 4) (by decide) ?_
  refine ax_copy hC cp_X0_90 LX_17 LX_38 (by decide) (Nat.le_of_ble_eq_true rfl) dX0_copyHistory_192 (fun st14 => ?_)
  refine ax_iconst hC dX0_copyHistory_195 (v := 0) (by decide) ?_
  refine ax_istoren hC dX0_copyHistory_196 rfl (by decide) (lv' := [some (.inr 26), some (.inr 5), some (.inl (0 : Int32))]) rfl ?_
  exact kX0_copyHistory_L197 hC 4000 _ _
set_option maxRecDepth 100000 in
theorem kX2_copyOrder (st : ax_S) (r : Int32) (stz : ax_S) (h : fX2_copyOrder st = some (r, stz)) : ax_M LX yX2_copyOrder cX2_copyOrder 2 none 2 [.inr 41, .inr 20] st 0 r stz := by
  refine ax_start (by decide) (Nat.le_of_ble_eq_true rfl) (lv0 := [some (.inr 41), some (.inr 20)]) rfl (fun C X hC => ?_)
  rw [← h]
  unfold fX2_copyOrder
  refine ax_aloadn hC dX2_copyOrder_0 rfl rfl ?_
  refine ax_aloadn hC dX2_copyOrder_1 rfl rfl ?_
  refine ax_lkI hC lk_X2_15 LX_20 rfl dX2_copyOrder_2 ?_
  refine ax_putI hC lp_X2_15 LX_41 rfl dX2_copyOrder_5 (fun st1 => ?_)
  refine ax_aloadn hC dX2_copyOrder_8 rfl rfl ?_
  refine ax_lkR hC lk_X2_9 LX_20 rfl dX2_copyOrder_9 ?_
  refine ax_iconst hC dX2_copyOrder_12 (v := 0) (by decide) ?_
  refine ax_aloadn hC dX2_copyOrder_13 rfl rfl ?_
  refine ax_lkR hC lk_X2_9 LX_41 rfl dX2_copyOrder_14 ?_
  refine ax_iconst hC dX2_copyOrder_17 (v := 0) (by decide) ?_
  refine ax_bipush hC dX2_copyOrder_18 (v := 10) (by decide) ?_
  refine ax_copy hC cp_X2_23 LX_21 LX_42 (by decide) (Nat.le_of_ble_eq_true rfl) dX2_copyOrder_20 (fun st2 => ?_)
  exact ax_vret hC dX2_copyOrder_23
set_option maxRecDepth 100000 in
theorem kX4_copyFrom (st : ax_S) (r : Int32) (stz : ax_S) (h : fX4_copyFrom st = some (r, stz)) : ax_M LX yX4_copyFrom cX4_copyFrom 2 none 3 [.inr 22, .inr 1] st 0 r stz := by
  refine ax_start (by decide) (Nat.le_of_ble_eq_true rfl) (lv0 := [some (.inr 22), some (.inr 1)]) rfl (fun C X hC => ?_)
  rw [← h]
  unfold fX4_copyFrom
  refine ax_aloadn hC dX4_copyFrom_0 rfl rfl ?_
  refine ax_lkR hC lk_X4_10 LX_22 rfl dX4_copyFrom_1 ?_
  refine ax_aloadn hC dX4_copyFrom_4 rfl rfl ?_
  refine ax_lkR hC lk_X4_10 LX_1 rfl dX4_copyFrom_5 ?_
  refine ax_callV0 hC mlk_X4_40 hst_X4_40 LX_23 [.inr 2] rfl rfl (by decide) (by decide) (Nat.le_of_ble_eq_true rfl) dX4_copyFrom_8 (fun r9 s9 h9 => kX1_copyObjects  _ _ _ h9) (fun r1 st2 => ?_)
  refine ax_aloadn hC dX4_copyFrom_11 rfl rfl ?_
  refine ax_lkR hC lk_X4_19 LX_22 rfl dX4_copyFrom_12 ?_
  refine ax_aloadn hC dX4_copyFrom_15 rfl rfl ?_
  refine ax_lkR hC lk_X4_19 LX_1 rfl dX4_copyFrom_16 ?_
  refine ax_callV0 hC mlk_X4_44 hst_X4_44 LX_26 [.inr 5] rfl rfl (by decide) (by decide) (Nat.le_of_ble_eq_true rfl) dX4_copyFrom_19 (fun r9 s9 h9 => kX0_copyHistory  _ _ _ h9) (fun r3 st4 => ?_)
  refine ax_aloadn hC dX4_copyFrom_22 rfl rfl ?_
  refine ax_lkR hC lk_X4_26 LX_22 rfl dX4_copyFrom_23 ?_
  refine ax_aloadn hC dX4_copyFrom_26 rfl rfl ?_
  refine ax_lkR hC lk_X4_26 LX_1 rfl dX4_copyFrom_27 ?_
  refine ax_callV0 hC mlk_X4_48 hst_X4_48 LX_41 [.inr 20] rfl rfl (by decide) (by decide) (Nat.le_of_ble_eq_true rfl) dX4_copyFrom_30 (fun r9 s9 h9 => kX2_copyOrder  _ _ _ h9) (fun r5 st6 => ?_)
  exact ax_vret hC dX4_copyFrom_33
set_option maxRecDepth 100000 in
theorem kX8_saveSnapshot (st : ax_S) (r : Int32) (stz : ax_S) (h : fX8_saveSnapshot st = some (r, stz)) : ax_M LX yX8_saveSnapshot cX8_saveSnapshot 1 (some .int) 4 [.inr 0] st 1 r stz := by
  refine ax_start (by decide) (Nat.le_of_ble_eq_true rfl) (lv0 := [some (.inr 0)]) rfl (fun C X hC => ?_)
  rw [← h]
  unfold fX8_saveSnapshot
  refine ax_aloadn hC dX8_saveSnapshot_0 rfl rfl ?_
  refine ax_lkR hC lk_X8_16 LX_0 rfl dX8_saveSnapshot_1 ?_
  refine ax_aloadn hC dX8_saveSnapshot_4 rfl rfl ?_
  refine ax_lkR hC lk_X8_12 LX_0 rfl dX8_saveSnapshot_5 ?_
  refine ax_callV0 hC mlk_X8_251 hst_X8_251 LX_22 [.inr 1] rfl rfl (by decide) (by decide) (Nat.le_of_ble_eq_true rfl) dX8_saveSnapshot_8 (fun r9 s9 h9 => kX4_copyFrom  _ _ _ h9) (fun r1 st2 => ?_)
  refine ax_aloadn hC dX8_saveSnapshot_11 rfl rfl ?_
  refine ax_iconst hC dX8_saveSnapshot_12 (v := 1) (by decide) ?_
  refine ax_putZ hC lp_X8_44 LX_0 rfl dX8_saveSnapshot_13 (fun st3 => ?_)
  refine ax_aloadn hC dX8_saveSnapshot_16 rfl rfl ?_
  refine ax_lkR hC lk_X8_16 LX_0 rfl dX8_saveSnapshot_17 ?_
  refine ax_lkR hC lk_X8_74 LX_22 rfl dX8_saveSnapshot_20 ?_
  refine ax_lkI hC lk_X8_78 LX_26 rfl dX8_saveSnapshot_23 ?_
  exact ax_iret hC dX8_saveSnapshot_26
set_option maxRecDepth 100000 in
theorem kX1_copyObjects_2_23 (st : ax_S) (r : Int32) (stz : ax_S) (h : fX1_copyObjects_2_23 st = some (r, stz)) : ax_M LX yX1_copyObjects cX1_copyObjects 2 none 2 [.inr 2, .inr 23] st 0 r stz := by
  refine ax_start (by decide) (Nat.le_of_ble_eq_true rfl) (lv0 := [some (.inr 2), some (.inr 23)]) rfl (fun C X hC => ?_)
  rw [← h]
  unfold fX1_copyObjects_2_23
  refine ax_aloadn hC dX1_copyObjects_0 rfl rfl ?_
  refine ax_aloadn hC dX1_copyObjects_1 rfl rfl ?_
  refine ax_lkI hC lk_X1_18 LX_23 rfl dX1_copyObjects_2 ?_
  refine ax_putI hC lp_X1_18 LX_2 rfl dX1_copyObjects_5 (fun st1 => ?_)
  refine ax_aloadn hC dX1_copyObjects_8 rfl rfl ?_
  refine ax_lkR hC lk_X1_9 LX_23 rfl dX1_copyObjects_9 ?_
  refine ax_iconst hC dX1_copyObjects_12 (v := 0) (by decide) ?_
  refine ax_aloadn hC dX1_copyObjects_13 rfl rfl ?_
  refine ax_lkR hC lk_X1_9 LX_2 rfl dX1_copyObjects_14 ?_
  refine ax_iconst hC dX1_copyObjects_17 (v := 0) (by decide) ?_
  refine ax_iconst hC dX1_copyObjects_18 (v := 4) (by decide) ?_
  refine ax_copy hC cp_X1_26 LX_24 LX_3 (by decide) (Nat.le_of_ble_eq_true rfl) dX1_copyObjects_19 (fun st2 => ?_)
  refine ax_aloadn hC dX1_copyObjects_22 rfl rfl ?_
  refine ax_lkR hC lk_X1_15 LX_23 rfl dX1_copyObjects_23 ?_
  refine ax_iconst hC dX1_copyObjects_26 (v := 0) (by decide) ?_
  refine ax_aloadn hC dX1_copyObjects_27 rfl rfl ?_
  refine ax_lkR hC lk_X1_15 LX_2 rfl dX1_copyObjects_28 ?_
  refine ax_iconst hC dX1_copyObjects_31 (v := 0) (by decide) ?_
  refine ax_iconst hC dX1_copyObjects_32 (v := 4) (by decide) ?_
  refine ax_copy hC cp_X1_26 LX_25 LX_4 (by decide) (Nat.le_of_ble_eq_true rfl) dX1_copyObjects_33 (fun st3 => ?_)
  exact ax_vret hC dX1_copyObjects_36
set_option maxRecDepth 100000 in
theorem kX0_copyHistory_5_26_L197 {C : ax_C} {X : ax_X} (hC : ax_ok C X LX cX0_copyHistory RX0 3 none 2) : ∀ (n : Nat) (x2 : Int32) (st : ax_S), AW C X LX 3 0 (fX0_copyHistory_5_26_L197 n x2 st) 197 [some (.inr 5), some (.inr 26), some (.inl x2)] [] st := by
  intro n
  induction n with
  | zero => intros; exact ax_none rfl
  | succ n hrec1970 =>
    intro x2 st
    have hrec197 := hrec1970
    rw [fX0_copyHistory_5_26_L197.eq_2]
    refine ax_iloadn hC dX0_copyHistory_197 rfl rfl ?_
    refine ax_iconst hC dX0_copyHistory_198 (v := 4) (by decide) ?_
    refine ax_icmp_ge hC dX0_copyHistory_199 (tgt := 220) (by decide) (fun _ => ?_) (fun _ => ?_)
    · exact ax_vret hC dX0_copyHistory_220
    · refine ax_aloadn hC dX0_copyHistory_202 rfl rfl ?_
      refine ax_lkR hC lk_X0_48 LX_5 rfl dX0_copyHistory_203 ?_
      refine ax_iloadn hC dX0_copyHistory_206 rfl rfl ?_
      refine ax_aloadn hC dX0_copyHistory_207 rfl rfl ?_
      refine ax_lkR hC lk_X0_48 LX_26 rfl dX0_copyHistory_208 ?_
      refine ax_iloadn hC dX0_copyHistory_211 rfl rfl ?_
      refine ax_zald hC LX_39 dX0_copyHistory_212 (fun v15 => ?_)
      refine ax_zast hC LX_18 dX0_copyHistory_213 (fun st16 => ?_)
      refine ax_iinc hC dX0_copyHistory_214 rfl (v := (x2 + (1 : Int32))) rfl (by decide) (lv' := [some (.inr 5), some (.inr 26), some (.inl (x2 + (1 : Int32)))]) rfl ?_
      refine ax_goto hC dX0_copyHistory_217 (tgt := 197) (by decide) ?_
      exact hrec197 _ _
set_option maxRecDepth 100000 in
theorem kX0_copyHistory_5_26 (st : ax_S) (r : Int32) (stz : ax_S) (h : fX0_copyHistory_5_26 st = some (r, stz)) : ax_M LX yX0_copyHistory cX0_copyHistory 3 none 2 [.inr 5, .inr 26] st 0 r stz := by
  refine ax_start (by decide) (Nat.le_of_ble_eq_true rfl) (lv0 := [some (.inr 5), some (.inr 26), none]) rfl (fun C X hC => ?_)
  rw [← h]
  unfold fX0_copyHistory_5_26
  refine ax_aloadn hC dX0_copyHistory_0 rfl rfl ?_
  refine ax_aloadn hC dX0_copyHistory_1 rfl rfl ?_
  refine ax_lkI hC lk_X0_58 LX_26 rfl dX0_copyHistory_2 ?_
  refine ax_putI hC lp_X0_58 LX_5 rfl dX0_copyHistory_5 (fun st1 => ?_)
  refine ax_aloadn hC dX0_copyHistory_8 rfl rfl ?_
  refine ax_lkR hC lk_X0_9 LX_26 rfl dX0_copyHistory_9 ?_
  refine ax_iconst hC dX0_copyHistory_12 (v := 0) (by decide) ?_
  refine ax_aloadn hC dX0_copyHistory_13 rfl rfl ?_
  refine ax_lkR hC lk_X0_9 LX_5 rfl dX0_copyHistory_14 ?_
  refine ax_iconst hC dX0_copyHistory_17 (v := 0) (by decide) ?_
  refine ax_bipush hC dX0_copyHistory_18 (v := 24) (by decide) ?_
  refine ax_copy hC cp_X0_90 LX_27 LX_6 (by decide) (Nat.le_of_ble_eq_true rfl) dX0_copyHistory_20 (fun st2 => ?_)
  refine ax_aloadn hC dX0_copyHistory_23 rfl rfl ?_
  refine ax_lkR hC lk_X0_15 LX_26 rfl dX0_copyHistory_24 ?_
  refine ax_iconst hC dX0_copyHistory_27 (v := 0) (by decide) ?_
  refine ax_aloadn hC dX0_copyHistory_28 rfl rfl ?_
  refine ax_lkR hC lk_X0_15 LX_5 rfl dX0_copyHistory_29 ?_
  refine ax_iconst hC dX0_copyHistory_32 (v := 0) (by decide) ?_
  refine ax_bipush hC dX0_copyHistory_33 (v := 24) (by decide) ?_
  refine ax_copy hC cp_X0_90 LX_28 LX_7 (by decide) (Nat.le_of_ble_eq_true rfl) dX0_copyHistory_35 (fun st3 => ?_)
  refine ax_aloadn hC dX0_copyHistory_38 rfl rfl ?_
  refine ax_lkR hC lk_X0_18 LX_26 rfl dX0_copyHistory_39 ?_
  refine ax_iconst hC dX0_copyHistory_42 (v := 0) (by decide) ?_
  refine ax_aloadn hC dX0_copyHistory_43 rfl rfl ?_
  refine ax_lkR hC lk_X0_18 LX_5 rfl dX0_copyHistory_44 ?_
  refine ax_iconst hC dX0_copyHistory_47 (v := 0) (by decide) ?_
  refine ax_bipush hC dX0_copyHistory_48 (v := 24) (by decide) ?_
  refine ax_copy hC cp_X0_90 LX_29 LX_8 (by decide) (Nat.le_of_ble_eq_true rfl) dX0_copyHistory_50 (fun st4 => ?_)
  refine ax_aloadn hC dX0_copyHistory_53 rfl rfl ?_
  refine ax_aloadn hC dX0_copyHistory_54 rfl rfl ?_
  refine ax_lkI hC lk_X0_62 LX_26 rfl dX0_copyHistory_55 ?_
  refine ax_putI hC lp_X0_62 LX_5 rfl dX0_copyHistory_58 (fun st5 => ?_)
  refine ax_aloadn hC dX0_copyHistory_61 rfl rfl ?_
  refine ax_lkR hC lk_X0_21 LX_26 rfl dX0_copyHistory_62 ?_
  refine ax_iconst hC dX0_copyHistory_65 (v := 0) (by decide) ?_
  refine ax_aloadn hC dX0_copyHistory_66 rfl rfl ?_
  refine ax_lkR hC lk_X0_21 LX_5 rfl dX0_copyHistory_67 ?_
  refine ax_iconst hC dX0_copyHistory_70 (v := 0) (by decide) ?_
  refine ax_bipush hC dX0_copyHistory_71 (v := 10) (by decide) ?_
  refine ax_copy hC cp_X0_90 LX_30 LX_9 (by decide) (Nat.le_of_ble_eq_true rfl) dX0_copyHistory_73 (fun st6 => ?_)
  refine ax_aloadn hC dX0_copyHistory_76 rfl rfl ?_
  refine ax_lkR hC lk_X0_24 LX_26 rfl dX0_copyHistory_77 ?_
  refine ax_iconst hC dX0_copyHistory_80 (v := 0) (by decide) ?_
  refine ax_aloadn hC dX0_copyHistory_81 rfl rfl ?_
  refine ax_lkR hC lk_X0_24 LX_5 rfl dX0_copyHistory_82 ?_
  refine ax_iconst hC dX0_copyHistory_85 (v := 0) (by decide) ?_
  refine ax_bipush hC dX0_copyHistory_86 (v := 10) (by decide) ?_
  refine ax_copy hC cp_X0_90 LX_31 LX_10 (by decide) (Nat.le_of_ble_eq_true rfl) dX0_copyHistory_88 (fun st7 => ?_)
  refine ax_aloadn hC dX0_copyHistory_91 rfl rfl ?_
  refine ax_lkR hC lk_X0_27 LX_26 rfl dX0_copyHistory_92 ?_
  refine ax_iconst hC dX0_copyHistory_95 (v := 0) (by decide) ?_
  refine ax_aloadn hC dX0_copyHistory_96 rfl rfl ?_
  refine ax_lkR hC lk_X0_27 LX_5 rfl dX0_copyHistory_97 ?_
  refine ax_iconst hC dX0_copyHistory_100 (v := 0) (by decide) ?_
  refine ax_bipush hC dX0_copyHistory_101 (v := 10) (by decide) ?_
  refine ax_copy hC cp_X0_90 LX_32 LX_11 (by decide) (Nat.le_of_ble_eq_true rfl) dX0_copyHistory_103 (fun st8 => ?_)
  refine ax_aloadn hC dX0_copyHistory_106 rfl rfl ?_
  refine ax_lkR hC lk_X0_30 LX_26 rfl dX0_copyHistory_107 ?_
  refine ax_iconst hC dX0_copyHistory_110 (v := 0) (by decide) ?_
  refine ax_aloadn hC dX0_copyHistory_111 rfl rfl ?_
  refine ax_lkR hC lk_X0_30 LX_5 rfl dX0_copyHistory_112 ?_
  refine ax_iconst hC dX0_copyHistory_115 (v := 0) (by decide) ?_
  refine ax_bipush hC dX0_copyHistory_116 (v := 10) (by decide) ?_
  refine ax_copy hC cp_X0_90 LX_33 LX_12 (by decide) (Nat.le_of_ble_eq_true rfl) dX0_copyHistory_118 (fun st9 => ?_)
  refine ax_aloadn hC dX0_copyHistory_121 rfl rfl ?_
  refine ax_lkR hC lk_X0_33 LX_26 rfl dX0_copyHistory_122 ?_
  refine ax_iconst hC dX0_copyHistory_125 (v := 0) (by decide) ?_
  refine ax_aloadn hC dX0_copyHistory_126 rfl rfl ?_
  refine ax_lkR hC lk_X0_33 LX_5 rfl dX0_copyHistory_127 ?_
  refine ax_iconst hC dX0_copyHistory_130 (v := 0) (by decide) ?_
  refine ax_bipush hC dX0_copyHistory_131 (v := 10) (by decide) ?_
  refine ax_copy hC cp_X0_90 LX_34 LX_13 (by decide) (Nat.le_of_ble_eq_true rfl) dX0_copyHistory_133 (fun st10 => ?_)
  refine ax_aloadn hC dX0_copyHistory_136 rfl rfl ?_
  refine ax_lkR hC lk_X0_36 LX_26 rfl dX0_copyHistory_137 ?_
  refine ax_iconst hC dX0_copyHistory_140 (v := 0) (by decide) ?_
  refine ax_aloadn hC dX0_copyHistory_141 rfl rfl ?_
  refine ax_lkR hC lk_X0_36 LX_5 rfl dX0_copyHistory_142 ?_
  refine ax_iconst hC dX0_copyHistory_145 (v := 0) (by decide) ?_
  refine ax_bipush hC dX0_copyHistory_146 (v := 10) (by decide) ?_
  refine ax_copy hC cp_X0_90 LX_35 LX_14 (by decide) (Nat.le_of_ble_eq_true rfl) dX0_copyHistory_148 (fun st11 => ?_)
  refine ax_aloadn hC dX0_copyHistory_151 rfl rfl ?_
  refine ax_lkR hC lk_X0_39 LX_26 rfl dX0_copyHistory_152 ?_
  refine ax_iconst hC dX0_copyHistory_155 (v := 0) (by decide) ?_
  refine ax_aloadn hC dX0_copyHistory_156 rfl rfl ?_
  refine ax_lkR hC lk_X0_39 LX_5 rfl dX0_copyHistory_157 ?_
  refine ax_iconst hC dX0_copyHistory_160 (v := 0) (by decide) ?_
  refine ax_bipush hC dX0_copyHistory_161 (v := 10) (by decide) ?_
  refine ax_copy hC cp_X0_90 LX_36 LX_15 (by decide) (Nat.le_of_ble_eq_true rfl) dX0_copyHistory_163 (fun st12 => ?_)
  refine ax_aloadn hC dX0_copyHistory_166 rfl rfl ?_
  refine ax_lkR hC lk_X0_42 LX_26 rfl dX0_copyHistory_167 ?_
  refine ax_iconst hC dX0_copyHistory_170 (v := 0) (by decide) ?_
  refine ax_aloadn hC dX0_copyHistory_171 rfl rfl ?_
  refine ax_lkR hC lk_X0_42 LX_5 rfl dX0_copyHistory_172 ?_
  refine ax_iconst hC dX0_copyHistory_175 (v := 0) (by decide) ?_
  refine ax_bipush hC dX0_copyHistory_176 (v := 10) (by decide) ?_
  refine ax_copy hC cp_X0_90 LX_37 LX_16 (by decide) (Nat.le_of_ble_eq_true rfl) dX0_copyHistory_178 (fun st13 => ?_)
  refine ax_aloadn hC dX0_copyHistory_181 rfl rfl ?_
  refine ax_lkR hC lk_X0_45 LX_26 rfl dX0_copyHistory_182 ?_
  refine ax_iconst hC dX0_copyHistory_185 (v := 0) (by decide) ?_
  refine ax_aloadn hC dX0_copyHistory_186 rfl rfl ?_
  refine ax_lkR hC lk_X0_45 LX_5 rfl dX0_copyHistory_187 ?_
  refine ax_iconst hC dX0_copyHistory_190 (v := 0) (by decide) ?_
  refine ax_iconst hC dX0_copyHistory_191 (v := 4) (by decide) ?_
  refine ax_copy hC cp_X0_90 LX_38 LX_17 (by decide) (Nat.le_of_ble_eq_true rfl) dX0_copyHistory_192 (fun st14 => ?_)
  refine ax_iconst hC dX0_copyHistory_195 (v := 0) (by decide) ?_
  refine ax_istoren hC dX0_copyHistory_196 rfl (by decide) (lv' := [some (.inr 5), some (.inr 26), some (.inl (0 : Int32))]) rfl ?_
  exact kX0_copyHistory_5_26_L197 hC 4000 _ _
set_option maxRecDepth 100000 in
theorem kX2_copyOrder_20_41 (st : ax_S) (r : Int32) (stz : ax_S) (h : fX2_copyOrder_20_41 st = some (r, stz)) : ax_M LX yX2_copyOrder cX2_copyOrder 2 none 2 [.inr 20, .inr 41] st 0 r stz := by
  refine ax_start (by decide) (Nat.le_of_ble_eq_true rfl) (lv0 := [some (.inr 20), some (.inr 41)]) rfl (fun C X hC => ?_)
  rw [← h]
  unfold fX2_copyOrder_20_41
  refine ax_aloadn hC dX2_copyOrder_0 rfl rfl ?_
  refine ax_aloadn hC dX2_copyOrder_1 rfl rfl ?_
  refine ax_lkI hC lk_X2_15 LX_41 rfl dX2_copyOrder_2 ?_
  refine ax_putI hC lp_X2_15 LX_20 rfl dX2_copyOrder_5 (fun st1 => ?_)
  refine ax_aloadn hC dX2_copyOrder_8 rfl rfl ?_
  refine ax_lkR hC lk_X2_9 LX_41 rfl dX2_copyOrder_9 ?_
  refine ax_iconst hC dX2_copyOrder_12 (v := 0) (by decide) ?_
  refine ax_aloadn hC dX2_copyOrder_13 rfl rfl ?_
  refine ax_lkR hC lk_X2_9 LX_20 rfl dX2_copyOrder_14 ?_
  refine ax_iconst hC dX2_copyOrder_17 (v := 0) (by decide) ?_
  refine ax_bipush hC dX2_copyOrder_18 (v := 10) (by decide) ?_
  refine ax_copy hC cp_X2_23 LX_42 LX_21 (by decide) (Nat.le_of_ble_eq_true rfl) dX2_copyOrder_20 (fun st2 => ?_)
  exact ax_vret hC dX2_copyOrder_23
set_option maxRecDepth 100000 in
theorem kX4_copyFrom_1_22 (st : ax_S) (r : Int32) (stz : ax_S) (h : fX4_copyFrom_1_22 st = some (r, stz)) : ax_M LX yX4_copyFrom cX4_copyFrom 2 none 3 [.inr 1, .inr 22] st 0 r stz := by
  refine ax_start (by decide) (Nat.le_of_ble_eq_true rfl) (lv0 := [some (.inr 1), some (.inr 22)]) rfl (fun C X hC => ?_)
  rw [← h]
  unfold fX4_copyFrom_1_22
  refine ax_aloadn hC dX4_copyFrom_0 rfl rfl ?_
  refine ax_lkR hC lk_X4_10 LX_1 rfl dX4_copyFrom_1 ?_
  refine ax_aloadn hC dX4_copyFrom_4 rfl rfl ?_
  refine ax_lkR hC lk_X4_10 LX_22 rfl dX4_copyFrom_5 ?_
  refine ax_callV0 hC mlk_X4_40 hst_X4_40 LX_2 [.inr 23] rfl rfl (by decide) (by decide) (Nat.le_of_ble_eq_true rfl) dX4_copyFrom_8 (fun r9 s9 h9 => kX1_copyObjects_2_23  _ _ _ h9) (fun r1 st2 => ?_)
  refine ax_aloadn hC dX4_copyFrom_11 rfl rfl ?_
  refine ax_lkR hC lk_X4_19 LX_1 rfl dX4_copyFrom_12 ?_
  refine ax_aloadn hC dX4_copyFrom_15 rfl rfl ?_
  refine ax_lkR hC lk_X4_19 LX_22 rfl dX4_copyFrom_16 ?_
  refine ax_callV0 hC mlk_X4_44 hst_X4_44 LX_5 [.inr 26] rfl rfl (by decide) (by decide) (Nat.le_of_ble_eq_true rfl) dX4_copyFrom_19 (fun r9 s9 h9 => kX0_copyHistory_5_26  _ _ _ h9) (fun r3 st4 => ?_)
  refine ax_aloadn hC dX4_copyFrom_22 rfl rfl ?_
  refine ax_lkR hC lk_X4_26 LX_1 rfl dX4_copyFrom_23 ?_
  refine ax_aloadn hC dX4_copyFrom_26 rfl rfl ?_
  refine ax_lkR hC lk_X4_26 LX_22 rfl dX4_copyFrom_27 ?_
  refine ax_callV0 hC mlk_X4_48 hst_X4_48 LX_20 [.inr 41] rfl rfl (by decide) (by decide) (Nat.le_of_ble_eq_true rfl) dX4_copyFrom_30 (fun r9 s9 h9 => kX2_copyOrder_20_41  _ _ _ h9) (fun r5 st6 => ?_)
  exact ax_vret hC dX4_copyFrom_33
set_option maxRecDepth 100000 in
theorem kX8_restoreSnapshot (st : ax_S) (r : Int32) (stz : ax_S) (h : fX8_restoreSnapshot st = some (r, stz)) : ax_M LX yX8_restoreSnapshot cX8_restoreSnapshot 1 (some .int) 4 [.inr 0] st 1 r stz := by
  refine ax_start (by decide) (Nat.le_of_ble_eq_true rfl) (lv0 := [some (.inr 0)]) rfl (fun C X hC => ?_)
  rw [← h]
  unfold fX8_restoreSnapshot
  refine ax_aloadn hC dX8_restoreSnapshot_0 rfl rfl ?_
  refine ax_lkI hC lk_X8_44 LX_0 rfl dX8_restoreSnapshot_1 ?_
  refine ax_if_ne hC dX8_restoreSnapshot_4 (tgt := 10) (by decide) (fun _ => ?_) (fun _ => ?_)
  · refine ax_bipush hC dX8_restoreSnapshot_7 (v := -13) (by decide) ?_
    exact ax_iret hC dX8_restoreSnapshot_9
  · refine ax_aloadn hC dX8_restoreSnapshot_10 rfl rfl ?_
    refine ax_lkR hC lk_X8_12 LX_0 rfl dX8_restoreSnapshot_11 ?_
    refine ax_aloadn hC dX8_restoreSnapshot_14 rfl rfl ?_
    refine ax_lkR hC lk_X8_16 LX_0 rfl dX8_restoreSnapshot_15 ?_
    refine ax_callV0 hC mlk_X8_251 hst_X8_251 LX_1 [.inr 22] rfl rfl (by decide) (by decide) (Nat.le_of_ble_eq_true rfl) dX8_restoreSnapshot_18 (fun r9 s9 h9 => kX4_copyFrom_1_22  _ _ _ h9) (fun r1 st2 => ?_)
    refine ax_aloadn hC dX8_restoreSnapshot_21 rfl rfl ?_
    refine ax_lkR hC lk_X8_12 LX_0 rfl dX8_restoreSnapshot_22 ?_
    refine ax_lkR hC lk_X8_74 LX_1 rfl dX8_restoreSnapshot_25 ?_
    refine ax_lkI hC lk_X8_78 LX_5 rfl dX8_restoreSnapshot_28 ?_
    exact ax_iret hC dX8_restoreSnapshot_31
