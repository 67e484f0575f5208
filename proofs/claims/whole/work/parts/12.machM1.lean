set_option maxRecDepth 100000 in
theorem kX9_argumentsOf_b29 {C : ax_C} {X : ax_X} (hC : ax_ok C X LM cX9_argumentsOf RX9 1 (some .int) 1) (s0 : Int32) (st : ax_S) : AW C X LM 1 1 (fX9_argumentsOf_b29 s0 st) 29 [none] [.inl s0] st := by
  unfold fX9_argumentsOf_b29
  exact ax_iret hC dX9_argumentsOf_29
set_option maxRecDepth 100000 in
theorem kX9_argumentsOf_b24 {C : ax_C} {X : ax_X} (hC : ax_ok C X LM cX9_argumentsOf RX9 1 (some .int) 1) (st : ax_S) : AW C X LM 1 1 (fX9_argumentsOf_b24 st) 24 [none] [] st := by
  unfold fX9_argumentsOf_b24
  refine ax_iconst hC dX9_argumentsOf_24 (v := 0) (by decide) ?_
  refine ax_goto hC dX9_argumentsOf_25 (tgt := 29) (by decide) ?_
  exact kX9_argumentsOf_b29 hC _ _
set_option maxRecDepth 100000 in
theorem kX9_argumentsOf (x0 : Int32) (st : ax_S) (r : Int32) (stz : ax_S) (h : fX9_argumentsOf x0 st = some (r, stz)) : ax_M LM yX9_argumentsOf cX9_argumentsOf 1 (some .int) 1 [.inl x0] st 1 r stz := by
  refine ax_start (by decide) (Nat.le_of_ble_eq_true rfl) (lv0 := [some (.inl x0)]) rfl (fun C X hC => ?_)
  rw [← h]
  unfold fX9_argumentsOf
  refine ax_iloadn hC dX9_argumentsOf_0 rfl rfl ?_
  refine ax_iconst hC dX9_argumentsOf_1 (v := 2) (by decide) ?_
  refine ax_icmp_ne hC dX9_argumentsOf_2 (tgt := 9) (by decide) (fun _ => ?_) (fun _ => ?_)
  · refine ax_iconst hC dX9_argumentsOf_5 (v := 2) (by decide) ?_
    refine ax_goto hC dX9_argumentsOf_6 (tgt := 29) (by decide) ?_
    refine ax_sub (lv' := [none]) (ax_leN ax_le0) ?_
    exact kX9_argumentsOf_b29 hC _ _
  · refine ax_iloadn hC dX9_argumentsOf_9 rfl rfl ?_
    refine ax_if_eq hC dX9_argumentsOf_10 (tgt := 24) (by decide) (fun _ => ?_) (fun _ => ?_)
    · refine ax_sub (lv' := [none]) (ax_leN ax_le0) ?_
      exact kX9_argumentsOf_b24 hC _
    · refine ax_iloadn hC dX9_argumentsOf_13 rfl rfl ?_
      refine ax_iconst hC dX9_argumentsOf_14 (v := 3) (by decide) ?_
      refine ax_icmp_eq hC dX9_argumentsOf_15 (tgt := 24) (by decide) (fun _ => ?_) (fun _ => ?_)
      · refine ax_sub (lv' := [none]) (ax_leN ax_le0) ?_
        exact kX9_argumentsOf_b24 hC _
      · refine ax_iloadn hC dX9_argumentsOf_18 rfl rfl ?_
        refine ax_bipush hC dX9_argumentsOf_19 (v := 6) (by decide) ?_
        refine ax_icmp_ne hC dX9_argumentsOf_21 (tgt := 28) (by decide) (fun _ => ?_) (fun _ => ?_)
        · refine ax_sub (lv' := [none]) (ax_leN ax_le0) ?_
          exact kX9_argumentsOf_b24 hC _
        · refine ax_iconst hC dX9_argumentsOf_28 (v := 1) (by decide) ?_
          refine ax_sub (lv' := [none]) (ax_leN ax_le0) ?_
          exact kX9_argumentsOf_b29 hC _ _
set_option maxRecDepth 100000 in
theorem kX9_takesNumber_b91 {C : ax_C} {X : ax_X} (hC : ax_ok C X LM cX9_takesNumber RX9 5 (some .boolean) 4) (s0 : Int32) (s1 : Int32) (st : ax_S) : AW C X LM 5 1 (fX9_takesNumber_b91 s0 s1 st) 91 [none, none, none, none, none] [.inl s0, .inl s1, .inr 26] st := by
  unfold fX9_takesNumber_b91
  refine ax_iast hC LM_26 dX9_takesNumber_91 (fun st9 => ?_)
  refine ax_iconst hC dX9_takesNumber_92 (v := 1) (by decide) ?_
  exact ax_zret hC dX9_takesNumber_93
set_option maxRecDepth 100000 in
theorem kX9_takesNumber_b76 {C : ax_C} {X : ax_X} (hC : ax_ok C X LM cX9_takesNumber RX9 5 (some .boolean) 4) (x1 : Int32) (x2 : Int32) (x3 : Int32) (st : ax_S) : AW C X LM 5 1 (fX9_takesNumber_b76 x1 x2 x3 st) 76 [some (.inr 0), some (.inl x1), some (.inl x2), some (.inl x3), none] [] st := by
  unfold fX9_takesNumber_b76
  refine ax_aloadn hC dX9_takesNumber_76 rfl rfl ?_
  refine ax_lkR hC lk_X9_87 LM_0 rfl dX9_takesNumber_77 ?_
  refine ax_iloadn hC dX9_takesNumber_80 rfl rfl ?_
  refine ax_iloadn hC dX9_takesNumber_81 rfl rfl ?_
  refine ax_if_eq hC dX9_takesNumber_82 (tgt := 90) (by decide) (fun _ => ?_) (fun _ => ?_)
  · refine ax_iloadn hC dX9_takesNumber_90 rfl rfl ?_
    refine ax_sub (lv' := [none, none, none, none, none]) (ax_leN (ax_leN (ax_leN (ax_leN (ax_leN ax_le0))))) ?_
    exact kX9_takesNumber_b91 hC _ _ _
  · refine ax_iloadn hC dX9_takesNumber_85 rfl rfl ?_
    refine ax_ineg hC dX9_takesNumber_86 ?_
    refine ax_goto hC dX9_takesNumber_87 (tgt := 91) (by decide) ?_
    refine ax_sub (lv' := [none, none, none, none, none]) (ax_leN (ax_leN (ax_leN (ax_leN (ax_leN ax_le0))))) ?_
    exact kX9_takesNumber_b91 hC _ _ _
set_option maxRecDepth 100000 in
theorem kX9_takesNumber_L25 {C : ax_C} {X : ax_X} (hC : ax_ok C X LM cX9_takesNumber RX9 5 (some .boolean) 4) : ∀ (n : Nat) (x1 : Int32) (x2 : Int32) (x3 : Int32) (x4 : Int32) (st : ax_S), AW C X LM 5 1 (fX9_takesNumber_L25 n x1 x2 x3 x4 st) 25 [some (.inr 0), some (.inl x1), some (.inl x2), some (.inl x3), some (.inl x4)] [] st := by
  intro n
  induction n with
  | zero => intros; exact ax_none rfl
  | succ n hrec250 =>
    intro x1 x2 x3 x4 st
    have hrec25 := hrec250
    rw [fX9_takesNumber_L25.eq_2]
    refine ax_iload hC dX9_takesNumber_25 rfl ?_
    refine ax_iconst hC dX9_takesNumber_27 (v := 3) (by decide) ?_
    refine ax_icmp_ge hC dX9_takesNumber_28 (tgt := 76) (by decide) (fun _ => ?_) (fun _ => ?_)
    · refine ax_sub (lv' := [some (.inr 0), some (.inl x1), some (.inl x2), some (.inl x3), none]) (ax_leS (ax_leS (ax_leS (ax_leS (ax_leN ax_le0))))) ?_
      exact kX9_takesNumber_b76 hC _ _ _ _
    · refine ax_aloadn hC dX9_takesNumber_31 rfl rfl ?_
      refine ax_bipush hC dX9_takesNumber_32 (v := 48) (by decide) ?_
      refine ax_bipush hC dX9_takesNumber_34 (v := 57) (by decide) ?_
      refine ax_callV1 hC mlk_X9_239 hst_X9_239 LM_0 [.inl (48 : Int32), .inl (57 : Int32)] rfl rfl (by decide) (by decide) (Nat.le_of_ble_eq_true rfl) dX9_takesNumber_36 (fun r9 s9 h9 => kX9_isAt _ _ _ _ _ h9) (fun r5 st6 => ?_)
      refine ax_if_eq hC dX9_takesNumber_39 (tgt := 76) (by decide) (fun _ => ?_) (fun _ => ?_)
      · refine ax_sub (lv' := [some (.inr 0), some (.inl x1), some (.inl x2), some (.inl x3), none]) (ax_leS (ax_leS (ax_leS (ax_leS (ax_leN ax_le0))))) ?_
        exact kX9_takesNumber_b76 hC _ _ _ _
      · refine ax_bipush hC dX9_takesNumber_42 (v := 10) (by decide) ?_
        refine ax_iloadn hC dX9_takesNumber_44 rfl rfl ?_
        refine ax_imul hC dX9_takesNumber_45 ?_
        refine ax_aloadn hC dX9_takesNumber_46 rfl rfl ?_
        refine ax_lkR hC lk_X9_84 LM_0 rfl dX9_takesNumber_47 ?_
        refine ax_aloadn hC dX9_takesNumber_50 rfl rfl ?_
        refine ax_lkI hC lk_X9_233 LM_0 rfl dX9_takesNumber_51 ?_
        refine ax_iald hC LM_25 dX9_takesNumber_54 (fun v7 => ?_)
        refine ax_iadd hC dX9_takesNumber_55 ?_
        refine ax_bipush hC dX9_takesNumber_56 (v := 48) (by decide) ?_
        refine ax_isub hC dX9_takesNumber_58 ?_
        refine ax_istoren hC dX9_takesNumber_59 rfl (by decide) (lv' := [some (.inr 0), some (.inl x1), some (.inl x2), some (.inl ((((10 : Int32) * x3) + v7) - (48 : Int32))), some (.inl x4)]) rfl ?_
        refine ax_aloadn hC dX9_takesNumber_60 rfl rfl ?_
        refine ax_dup hC dX9_takesNumber_61 ?_
        refine ax_lkI hC lk_X9_233 LM_0 rfl dX9_takesNumber_62 ?_
        refine ax_iconst hC dX9_takesNumber_65 (v := 1) (by decide) ?_
        refine ax_iadd hC dX9_takesNumber_66 ?_
        refine ax_putI hC lp_X9_233 LM_0 rfl dX9_takesNumber_67 (fun st8 => ?_)
        refine ax_iinc hC dX9_takesNumber_70 rfl (v := (x4 + (1 : Int32))) rfl (by decide) (lv' := [some (.inr 0), some (.inl x1), some (.inl x2), some (.inl ((((10 : Int32) * x3) + v7) - (48 : Int32))), some (.inl (x4 + (1 : Int32)))]) rfl ?_
        refine ax_goto hC dX9_takesNumber_73 (tgt := 25) (by decide) ?_
        exact hrec25 _ _ _ _ _
set_option maxRecDepth 100000 in
theorem kX9_takesNumber (x1 : Int32) (st : ax_S) (r : Int32) (stz : ax_S) (h : fX9_takesNumber x1 st = some (r, stz)) : ax_M LM yX9_takesNumber cX9_takesNumber 5 (some .boolean) 4 [.inr 0, .inl x1] st 1 r stz := by
  refine ax_start (by decide) (Nat.le_of_ble_eq_true rfl) (lv0 := [some (.inr 0), some (.inl x1), none, none, none]) rfl (fun C X hC => ?_)
  rw [← h]
  unfold fX9_takesNumber
  refine ax_aloadn hC dX9_takesNumber_0 rfl rfl ?_
  refine ax_bipush hC dX9_takesNumber_1 (v := 45) (by decide) ?_
  refine ax_callV1 hC mlk_X9_242 hst_X9_242 LM_0 [.inl (45 : Int32)] rfl rfl (by decide) (by decide) (Nat.le_of_ble_eq_true rfl) dX9_takesNumber_3 (fun r9 s9 h9 => kX9_takes _ _ _ _ h9) (fun r1 st2 => ?_)
  refine ax_istoren hC dX9_takesNumber_6 rfl (by decide) (lv' := [some (.inr 0), some (.inl x1), some (.inl r1), none, none]) rfl ?_
  refine ax_aloadn hC dX9_takesNumber_7 rfl rfl ?_
  refine ax_bipush hC dX9_takesNumber_8 (v := 48) (by decide) ?_
  refine ax_bipush hC dX9_takesNumber_10 (v := 57) (by decide) ?_
  refine ax_callV1 hC mlk_X9_239 hst_X9_239 LM_0 [.inl (48 : Int32), .inl (57 : Int32)] rfl rfl (by decide) (by decide) (Nat.le_of_ble_eq_true rfl) dX9_takesNumber_12 (fun r9 s9 h9 => kX9_isAt _ _ _ _ _ h9) (fun r3 st4 => ?_)
  refine ax_if_ne hC dX9_takesNumber_15 (tgt := 20) (by decide) (fun _ => ?_) (fun _ => ?_)
  · refine ax_iconst hC dX9_takesNumber_18 (v := 0) (by decide) ?_
    exact ax_zret hC dX9_takesNumber_19
  · refine ax_iconst hC dX9_takesNumber_20 (v := 0) (by decide) ?_
    refine ax_istoren hC dX9_takesNumber_21 rfl (by decide) (lv' := [some (.inr 0), some (.inl x1), some (.inl r1), some (.inl (0 : Int32)), none]) rfl ?_
    refine ax_iconst hC dX9_takesNumber_22 (v := 0) (by decide) ?_
    refine ax_istore hC dX9_takesNumber_23 (by decide) (lv' := [some (.inr 0), some (.inl x1), some (.inl r1), some (.inl (0 : Int32)), some (.inl (0 : Int32))]) rfl ?_
    exact kX9_takesNumber_L25 hC 4000 _ _ _ _ _
set_option maxRecDepth 100000 in
theorem kX9_takesInvocation_b33 {C : ax_C} {X : ax_X} (hC : ax_ok C X LM cX9_takesInvocation RX9 3 (some .boolean) 5) (st : ax_S) : AW C X LM 3 1 (fX9_takesInvocation_b33 st) 33 [none, none, none] [] st := by
  unfold fX9_takesInvocation_b33
  refine ax_iconst hC dX9_takesInvocation_33 (v := 0) (by decide) ?_
  exact ax_zret hC dX9_takesInvocation_34
set_option maxRecDepth 100000 in
theorem kX9_takesInvocation_b121 {C : ax_C} {X : ax_X} (hC : ax_ok C X LM cX9_takesInvocation RX9 3 (some .boolean) 5) (s0 : Int32) (st : ax_S) : AW C X LM 3 1 (fX9_takesInvocation_b121 s0 st) 121 [none, none, none] [.inl s0] st := by
  unfold fX9_takesInvocation_b121
  exact ax_zret hC dX9_takesInvocation_121
set_option maxRecDepth 100000 in
theorem kX9_takesInvocation_b96 {C : ax_C} {X : ax_X} (hC : ax_ok C X LM cX9_takesInvocation RX9 3 (some .boolean) 5) {rec53 : Int32 → Int32 → ax_S → ax_R} (hrec53 : ∀ (x1 : Int32) (x2 : Int32) (st : ax_S), AW C X LM 3 1 (rec53 x1 x2 st) 53 [some (.inr 0), some (.inl x1), some (.inl x2)] [] st) (x2 : Int32) (s0 : Int32) (st : ax_S) : AW C X LM 3 1 (fX9_takesInvocation_b96 rec53 x2 s0 st) 96 [some (.inr 0), none, some (.inl x2)] [.inl s0] st := by
  unfold fX9_takesInvocation_b96
  refine ax_istoren hC dX9_takesInvocation_96 rfl (by decide) (lv' := [some (.inr 0), some (.inl s0), some (.inl x2)]) rfl ?_
  refine ax_iinc hC dX9_takesInvocation_97 rfl (v := (x2 + (1 : Int32))) rfl (by decide) (lv' := [some (.inr 0), some (.inl s0), some (.inl (x2 + (1 : Int32)))]) rfl ?_
  refine ax_goto hC dX9_takesInvocation_100 (tgt := 53) (by decide) ?_
  exact hrec53 _ _ _
set_option maxRecDepth 100000 in
theorem kX9_takesInvocation_b95 {C : ax_C} {X : ax_X} (hC : ax_ok C X LM cX9_takesInvocation RX9 3 (some .boolean) 5) {rec53 : Int32 → Int32 → ax_S → ax_R} (hrec53 : ∀ (x1 : Int32) (x2 : Int32) (st : ax_S), AW C X LM 3 1 (rec53 x1 x2 st) 53 [some (.inr 0), some (.inl x1), some (.inl x2)] [] st) (x2 : Int32) (st : ax_S) : AW C X LM 3 1 (fX9_takesInvocation_b95 rec53 x2 st) 95 [some (.inr 0), none, some (.inl x2)] [] st := by
  unfold fX9_takesInvocation_b95
  refine ax_iconst hC dX9_takesInvocation_95 (v := 0) (by decide) ?_
  exact kX9_takesInvocation_b96 hC hrec53 _ _ _
set_option maxRecDepth 100000 in
theorem kX9_takesInvocation_b120 {C : ax_C} {X : ax_X} (hC : ax_ok C X LM cX9_takesInvocation RX9 3 (some .boolean) 5) (st : ax_S) : AW C X LM 3 1 (fX9_takesInvocation_b120 st) 120 [none, none, none] [] st := by
  unfold fX9_takesInvocation_b120
  refine ax_iconst hC dX9_takesInvocation_120 (v := 0) (by decide) ?_
  exact kX9_takesInvocation_b121 hC _ _
set_option maxRecDepth 100000 in
theorem kX9_takesInvocation_b103 {C : ax_C} {X : ax_X} (hC : ax_ok C X LM cX9_takesInvocation RX9 3 (some .boolean) 5) (x1 : Int32) (st : ax_S) : AW C X LM 3 1 (fX9_takesInvocation_b103 x1 st) 103 [some (.inr 0), some (.inl x1), none] [] st := by
  unfold fX9_takesInvocation_b103
  refine ax_iloadn hC dX9_takesInvocation_103 rfl rfl ?_
  refine ax_if_eq hC dX9_takesInvocation_104 (tgt := 120) (by decide) (fun _ => ?_) (fun _ => ?_)
  · refine ax_sub (lv' := [none, none, none]) (ax_leN (ax_leN (ax_leN ax_le0))) ?_
    exact kX9_takesInvocation_b120 hC _
  · refine ax_aloadn hC dX9_takesInvocation_107 rfl rfl ?_
    refine ax_bipush hC dX9_takesInvocation_108 (v := 41) (by decide) ?_
    refine ax_callV1 hC mlk_X9_242 hst_X9_242 LM_0 [.inl (41 : Int32)] rfl rfl (by decide) (by decide) (Nat.le_of_ble_eq_true rfl) dX9_takesInvocation_110 (fun r9 s9 h9 => kX9_takes _ _ _ _ h9) (fun r15 st16 => ?_)
    refine ax_if_eq hC dX9_takesInvocation_113 (tgt := 120) (by decide) (fun _ => ?_) (fun _ => ?_)
    · refine ax_sub (lv' := [none, none, none]) (ax_leN (ax_leN (ax_leN ax_le0))) ?_
      exact kX9_takesInvocation_b120 hC _
    · refine ax_iconst hC dX9_takesInvocation_116 (v := 1) (by decide) ?_
      refine ax_goto hC dX9_takesInvocation_117 (tgt := 121) (by decide) ?_
      refine ax_sub (lv' := [none, none, none]) (ax_leN (ax_leN (ax_leN ax_le0))) ?_
      exact kX9_takesInvocation_b121 hC _ _
set_option maxRecDepth 100000 in
theorem kX9_takesInvocation_b81 {C : ax_C} {X : ax_X} (hC : ax_ok C X LM cX9_takesInvocation RX9 3 (some .boolean) 5) {rec53 : Int32 → Int32 → ax_S → ax_R} (hrec53 : ∀ (x1 : Int32) (x2 : Int32) (st : ax_S), AW C X LM 3 1 (rec53 x1 x2 st) 53 [some (.inr 0), some (.inl x1), some (.inl x2)] [] st) (x2 : Int32) (st : ax_S) : AW C X LM 3 1 (fX9_takesInvocation_b81 rec53 x2 st) 81 [some (.inr 0), none, some (.inl x2)] [] st := by
  unfold fX9_takesInvocation_b81
  refine ax_aloadn hC dX9_takesInvocation_81 rfl rfl ?_
  refine ax_iconst hC dX9_takesInvocation_82 (v := 2) (by decide) ?_
  refine ax_iloadn hC dX9_takesInvocation_83 rfl rfl ?_
  refine ax_iadd hC dX9_takesInvocation_84 ?_
  refine ax_callV1 hC mlk_X9_261 hst_X9_261 LM_0 [.inl ((2 : Int32) + x2)] rfl rfl (by decide) (by decide) (Nat.le_of_ble_eq_true rfl) dX9_takesInvocation_85 (fun r9 s9 h9 => kX9_takesNumber _ _ _ _ h9) (fun r17 st18 => ?_)
  refine ax_if_eq hC dX9_takesInvocation_88 (tgt := 95) (by decide) (fun _ => ?_) (fun _ => ?_)
  · exact kX9_takesInvocation_b95 hC hrec53 _ _
  · refine ax_iconst hC dX9_takesInvocation_91 (v := 1) (by decide) ?_
    refine ax_goto hC dX9_takesInvocation_92 (tgt := 96) (by decide) ?_
    exact kX9_takesInvocation_b96 hC hrec53 _ _ _
set_option maxRecDepth 100000 in
theorem kX9_takesInvocation_L53 {C : ax_C} {X : ax_X} (hC : ax_ok C X LM cX9_takesInvocation RX9 3 (some .boolean) 5) : ∀ (n : Nat) (x1 : Int32) (x2 : Int32) (st : ax_S), AW C X LM 3 1 (fX9_takesInvocation_L53 n x1 x2 st) 53 [some (.inr 0), some (.inl x1), some (.inl x2)] [] st := by
  intro n
  induction n with
  | zero => intros; exact ax_none rfl
  | succ n hrec530 =>
    intro x1 x2 st
    have hrec53 := hrec530
    rw [fX9_takesInvocation_L53.eq_2]
    refine ax_iloadn hC dX9_takesInvocation_53 rfl rfl ?_
    refine ax_aloadn hC dX9_takesInvocation_54 rfl rfl ?_
    refine ax_lkI hC lk_X9_248 LM_0 rfl dX9_takesInvocation_55 ?_
    refine ax_callS1 hC mlk_X9_258 hst_X9_258 [.inl (st.1 0 39)] rfl rfl (by decide) (by decide) (Nat.le_of_ble_eq_true rfl) dX9_takesInvocation_58 (fun r9 s9 h9 => kX9_argumentsOf _ _ _ _ h9) (fun r11 st12 => ?_)
    refine ax_icmp_ge hC dX9_takesInvocation_61 (tgt := 103) (by decide) (fun _ => ?_) (fun _ => ?_)
    · refine ax_sub (lv' := [some (.inr 0), some (.inl x1), none]) (ax_leS (ax_leS (ax_leN ax_le0))) ?_
      exact kX9_takesInvocation_b103 hC _ _
    · refine ax_iloadn hC dX9_takesInvocation_64 rfl rfl ?_
      refine ax_if_eq hC dX9_takesInvocation_65 (tgt := 103) (by decide) (fun _ => ?_) (fun _ => ?_)
      · refine ax_sub (lv' := [some (.inr 0), some (.inl x1), none]) (ax_leS (ax_leS (ax_leN ax_le0))) ?_
        exact kX9_takesInvocation_b103 hC _ _
      · refine ax_iloadn hC dX9_takesInvocation_68 rfl rfl ?_
        refine ax_if_eq hC dX9_takesInvocation_69 (tgt := 81) (by decide) (fun _ => ?_) (fun _ => ?_)
        · refine ax_sub (lv' := [some (.inr 0), none, some (.inl x2)]) (ax_leS (ax_leN (ax_leS ax_le0))) ?_
          exact kX9_takesInvocation_b81 hC hrec53 _ _
        · refine ax_aloadn hC dX9_takesInvocation_72 rfl rfl ?_
          refine ax_bipush hC dX9_takesInvocation_73 (v := 44) (by decide) ?_
          refine ax_callV1 hC mlk_X9_242 hst_X9_242 LM_0 [.inl (44 : Int32)] rfl rfl (by decide) (by decide) (Nat.le_of_ble_eq_true rfl) dX9_takesInvocation_75 (fun r9 s9 h9 => kX9_takes _ _ _ _ h9) (fun r13 st14 => ?_)
          refine ax_if_eq hC dX9_takesInvocation_78 (tgt := 95) (by decide) (fun _ => ?_) (fun _ => ?_)
          · refine ax_sub (lv' := [some (.inr 0), none, some (.inl x2)]) (ax_leS (ax_leN (ax_leS ax_le0))) ?_
            exact kX9_takesInvocation_b95 hC hrec53 _ _
          · refine ax_sub (lv' := [some (.inr 0), none, some (.inl x2)]) (ax_leS (ax_leN (ax_leS ax_le0))) ?_
            exact kX9_takesInvocation_b81 hC hrec53 _ _
set_option maxRecDepth 100000 in
theorem kX9_takesInvocation (st : ax_S) (r : Int32) (stz : ax_S) (h : fX9_takesInvocation st = some (r, stz)) : ax_M LM yX9_takesInvocation cX9_takesInvocation 3 (some .boolean) 5 [.inr 0] st 1 r stz := by
  refine ax_start (by decide) (Nat.le_of_ble_eq_true rfl) (lv0 := [some (.inr 0), none, none]) rfl (fun C X hC => ?_)
  rw [← h]
  unfold fX9_takesInvocation
  refine ax_aloadn hC dX9_takesInvocation_0 rfl rfl ?_
  refine ax_iconst hC dX9_takesInvocation_1 (v := 1) (by decide) ?_
  refine ax_callV1 hC mlk_X9_251 hst_X9_251 LM_0 [.inl (1 : Int32)] rfl rfl (by decide) (by decide) (Nat.le_of_ble_eq_true rfl) dX9_takesInvocation_2 (fun r9 s9 h9 => kX9_takesDigit _ _ _ _ h9) (fun r1 st2 => ?_)
  refine ax_if_eq hC dX9_takesInvocation_5 (tgt := 33) (by decide) (fun _ => ?_) (fun _ => ?_)
  · refine ax_sub (lv' := [none, none, none]) (ax_leN (ax_leN (ax_leN ax_le0))) ?_
    exact kX9_takesInvocation_b33 hC _
  · refine ax_aloadn hC dX9_takesInvocation_8 rfl rfl ?_
    refine ax_bipush hC dX9_takesInvocation_9 (v := 46) (by decide) ?_
    refine ax_callV1 hC mlk_X9_242 hst_X9_242 LM_0 [.inl (46 : Int32)] rfl rfl (by decide) (by decide) (Nat.le_of_ble_eq_true rfl) dX9_takesInvocation_11 (fun r9 s9 h9 => kX9_takes _ _ _ _ h9) (fun r3 st4 => ?_)
    refine ax_if_eq hC dX9_takesInvocation_14 (tgt := 33) (by decide) (fun _ => ?_) (fun _ => ?_)
    · refine ax_sub (lv' := [none, none, none]) (ax_leN (ax_leN (ax_leN ax_le0))) ?_
      exact kX9_takesInvocation_b33 hC _
    · refine ax_aloadn hC dX9_takesInvocation_17 rfl rfl ?_
      refine ax_callV1 hC mlk_X9_254 hst_X9_254 LM_0 [] rfl rfl (by decide) (by decide) (Nat.le_of_ble_eq_true rfl) dX9_takesInvocation_18 (fun r9 s9 h9 => kX9_takesName  _ _ _ h9) (fun r5 st6 => ?_)
      refine ax_if_eq hC dX9_takesInvocation_21 (tgt := 33) (by decide) (fun _ => ?_) (fun _ => ?_)
      · refine ax_sub (lv' := [none, none, none]) (ax_leN (ax_leN (ax_leN ax_le0))) ?_
        exact kX9_takesInvocation_b33 hC _
      · refine ax_aloadn hC dX9_takesInvocation_24 rfl rfl ?_
        refine ax_bipush hC dX9_takesInvocation_25 (v := 40) (by decide) ?_
        refine ax_callV1 hC mlk_X9_242 hst_X9_242 LM_0 [.inl (40 : Int32)] rfl rfl (by decide) (by decide) (Nat.le_of_ble_eq_true rfl) dX9_takesInvocation_27 (fun r9 s9 h9 => kX9_takes _ _ _ _ h9) (fun r7 st8 => ?_)
        refine ax_if_ne hC dX9_takesInvocation_30 (tgt := 35) (by decide) (fun _ => ?_) (fun _ => ?_)
        · refine ax_sub (lv' := [none, none, none]) (ax_leN (ax_leN (ax_leN ax_le0))) ?_
          exact kX9_takesInvocation_b33 hC _
        · refine ax_aloadn hC dX9_takesInvocation_35 rfl rfl ?_
          refine ax_lkR hC lk_X9_87 LM_0 rfl dX9_takesInvocation_36 ?_
          refine ax_iconst hC dX9_takesInvocation_39 (v := 2) (by decide) ?_
          refine ax_iconst hC dX9_takesInvocation_40 (v := 0) (by decide) ?_
          refine ax_iast hC LM_26 dX9_takesInvocation_41 (fun st9 => ?_)
          refine ax_aloadn hC dX9_takesInvocation_42 rfl rfl ?_
          refine ax_lkR hC lk_X9_87 LM_0 rfl dX9_takesInvocation_43 ?_
          refine ax_iconst hC dX9_takesInvocation_46 (v := 3) (by decide) ?_
          refine ax_iconst hC dX9_takesInvocation_47 (v := 0) (by decide) ?_
          refine ax_iast hC LM_26 dX9_takesInvocation_48 (fun st10 => ?_)
          refine ax_iconst hC dX9_takesInvocation_49 (v := 1) (by decide) ?_
          refine ax_istoren hC dX9_takesInvocation_50 rfl (by decide) (lv' := [some (.inr 0), some (.inl (1 : Int32)), none]) rfl ?_
          refine ax_iconst hC dX9_takesInvocation_51 (v := 0) (by decide) ?_
          refine ax_istoren hC dX9_takesInvocation_52 rfl (by decide) (lv' := [some (.inr 0), some (.inl (1 : Int32)), some (.inl (0 : Int32))]) rfl ?_
          exact kX9_takesInvocation_L53 hC 4000 _ _ _
set_option maxRecDepth 100000 in
theorem kX9_takesCommand_b69 {C : ax_C} {X : ax_X} (hC : ax_ok C X LM cX9_takesCommand RX9 1 (some .boolean) 6) (s0 : Int32) (st : ax_S) : AW C X LM 1 1 (fX9_takesCommand_b69 s0 st) 69 [none] [.inl s0] st := by
  unfold fX9_takesCommand_b69
  exact ax_zret hC dX9_takesCommand_69
set_option maxRecDepth 100000 in
theorem kX9_takesCommand_b68 {C : ax_C} {X : ax_X} (hC : ax_ok C X LM cX9_takesCommand RX9 1 (some .boolean) 6) (st : ax_S) : AW C X LM 1 1 (fX9_takesCommand_b68 st) 68 [none] [] st := by
  unfold fX9_takesCommand_b68
  refine ax_iconst hC dX9_takesCommand_68 (v := 0) (by decide) ?_
  exact kX9_takesCommand_b69 hC _ _
set_option maxRecDepth 100000 in
theorem kX9_takesCommand (st : ax_S) (r : Int32) (stz : ax_S) (h : fX9_takesCommand st = some (r, stz)) : ax_M LM yX9_takesCommand cX9_takesCommand 1 (some .boolean) 6 [.inr 0] st 1 r stz := by
  refine ax_start (by decide) (Nat.le_of_ble_eq_true rfl) (lv0 := [some (.inr 0)]) rfl (fun C X hC => ?_)
  rw [← h]
  unfold fX9_takesCommand
  refine ax_aloadn hC dX9_takesCommand_0 rfl rfl ?_
  refine ax_iconst hC dX9_takesCommand_1 (v := 0) (by decide) ?_
  refine ax_callV1 hC mlk_X9_251 hst_X9_251 LM_0 [.inl (0 : Int32)] rfl rfl (by decide) (by decide) (Nat.le_of_ble_eq_true rfl) dX9_takesCommand_2 (fun r9 s9 h9 => kX9_takesDigit _ _ _ _ h9) (fun r1 st2 => ?_)
  refine ax_if_ne hC dX9_takesCommand_5 (tgt := 10) (by decide) (fun _ => ?_) (fun _ => ?_)
  · refine ax_iconst hC dX9_takesCommand_8 (v := 0) (by decide) ?_
    exact ax_zret hC dX9_takesCommand_9
  · refine ax_aloadn hC dX9_takesCommand_10 rfl rfl ?_
    refine ax_bipush hC dX9_takesCommand_11 (v := 33) (by decide) ?_
    refine ax_callV1 hC mlk_X9_242 hst_X9_242 LM_0 [.inl (33 : Int32)] rfl rfl (by decide) (by decide) (Nat.le_of_ble_eq_true rfl) dX9_takesCommand_13 (fun r9 s9 h9 => kX9_takes _ _ _ _ h9) (fun r3 st4 => ?_)
    refine ax_if_eq hC dX9_takesCommand_16 (tgt := 27) (by decide) (fun _ => ?_) (fun _ => ?_)
    · refine ax_aloadn hC dX9_takesCommand_27 rfl rfl ?_
      refine ax_bipush hC dX9_takesCommand_28 (v := 61) (by decide) ?_
      refine ax_callV1 hC mlk_X9_242 hst_X9_242 LM_0 [.inl (61 : Int32)] rfl rfl (by decide) (by decide) (Nat.le_of_ble_eq_true rfl) dX9_takesCommand_30 (fun r9 s9 h9 => kX9_takes _ _ _ _ h9) (fun r5 st6 => ?_)
      refine ax_if_eq hC dX9_takesCommand_33 (tgt := 48) (by decide) (fun _ => ?_) (fun _ => ?_)
      · refine ax_aloadn hC dX9_takesCommand_48 rfl rfl ?_
        refine ax_bipush hC dX9_takesCommand_49 (v := 46) (by decide) ?_
        refine ax_callV1 hC mlk_X9_242 hst_X9_242 LM_0 [.inl (46 : Int32)] rfl rfl (by decide) (by decide) (Nat.le_of_ble_eq_true rfl) dX9_takesCommand_51 (fun r9 s9 h9 => kX9_takes _ _ _ _ h9) (fun r7 st8 => ?_)
        refine ax_if_eq hC dX9_takesCommand_54 (tgt := 68) (by decide) (fun _ => ?_) (fun _ => ?_)
        · refine ax_sub (lv' := [none]) (ax_leN ax_le0) ?_
          exact kX9_takesCommand_b68 hC _
        · refine ax_aloadn hC dX9_takesCommand_57 rfl rfl ?_
          refine ax_callV1 hC mlk_X9_264 hst_X9_264 LM_0 [] rfl rfl (by decide) (by decide) (Nat.le_of_ble_eq_true rfl) dX9_takesCommand_58 (fun r9 s9 h9 => kX9_takesInvocation  _ _ _ h9) (fun r9 st10 => ?_)
          refine ax_if_eq hC dX9_takesCommand_61 (tgt := 68) (by decide) (fun _ => ?_) (fun _ => ?_)
          · refine ax_sub (lv' := [none]) (ax_leN ax_le0) ?_
            exact kX9_takesCommand_b68 hC _
          · refine ax_iconst hC dX9_takesCommand_64 (v := 1) (by decide) ?_
            refine ax_goto hC dX9_takesCommand_65 (tgt := 69) (by decide) ?_
            refine ax_sub (lv' := [none]) (ax_leN ax_le0) ?_
            exact kX9_takesCommand_b69 hC _ _
      · refine ax_aloadn hC dX9_takesCommand_36 rfl rfl ?_
        refine ax_bipush hC dX9_takesCommand_37 (v := 10) (by decide) ?_
        refine ax_putI hC lp_X9_248 LM_0 rfl dX9_takesCommand_39 (fun st11 => ?_)
        refine ax_aloadn hC dX9_takesCommand_42 rfl rfl ?_
        refine ax_iconst hC dX9_takesCommand_43 (v := 1) (by decide) ?_
        refine ax_callV1 hC mlk_X9_261 hst_X9_261 LM_0 [.inl (1 : Int32)] rfl rfl (by decide) (by decide) (Nat.le_of_ble_eq_true rfl) dX9_takesCommand_44 (fun r9 s9 h9 => kX9_takesNumber _ _ _ _ h9) (fun r12 st13 => ?_)
        exact ax_zret hC dX9_takesCommand_47
    · refine ax_aloadn hC dX9_takesCommand_19 rfl rfl ?_
      refine ax_bipush hC dX9_takesCommand_20 (v := 11) (by decide) ?_
      refine ax_putI hC lp_X9_248 LM_0 rfl dX9_takesCommand_22 (fun st14 => ?_)
      refine ax_iconst hC dX9_takesCommand_25 (v := 1) (by decide) ?_
      exact ax_zret hC dX9_takesCommand_26
set_option maxRecDepth 100000 in
theorem kX9_done_b74 {C : ax_C} {X : ax_X} (hC : ax_ok C X LM cX9_done RX9 2 (some .int) 6) (s0 : Int32) (st : ax_S) : AW C X LM 2 1 (fX9_done_b74 s0 st) 74 [none, none] [.inl s0] st := by
  unfold fX9_done_b74
  exact ax_iret hC dX9_done_74
set_option maxRecDepth 100000 in
theorem kX9_done (st : ax_S) (r : Int32) (stz : ax_S) (h : fX9_done st = some (r, stz)) : ax_M LM yX9_done cX9_done 2 (some .int) 6 [.inr 0] st 1 r stz := by
  refine ax_start (by decide) (Nat.le_of_ble_eq_true rfl) (lv0 := [some (.inr 0), none]) rfl (fun C X hC => ?_)
  rw [← h]
  unfold fX9_done
  refine ax_aloadn hC dX9_done_0 rfl rfl ?_
  refine ax_lkR hC lk_X9_87 LM_0 rfl dX9_done_1 ?_
  refine ax_iconst hC dX9_done_4 (v := 0) (by decide) ?_
  refine ax_iald hC LM_26 dX9_done_5 (fun v1 => ?_)
  refine ax_istoren hC dX9_done_6 rfl (by decide) (lv' := [some (.inr 0), some (.inl v1)]) rfl ?_
  refine ax_aloadn hC dX9_done_7 rfl rfl ?_
  refine ax_lkI hC lk_X9_248 LM_0 rfl dX9_done_8 ?_
  refine ax_bipush hC dX9_done_11 (v := 11) (by decide) ?_
  refine ax_icmp_ne hC dX9_done_13 (tgt := 24) (by decide) (fun _ => ?_) (fun _ => ?_)
  · refine ax_aloadn hC dX9_done_16 rfl rfl ?_
    refine ax_iloadn hC dX9_done_17 rfl rfl ?_
    refine ax_callV1 hC mlk_X9_267 hst_X9_267 LM_0 [.inl v1] rfl rfl (by decide) (by decide) (Nat.le_of_ble_eq_true rfl) dX9_done_18 (fun r9 s9 h9 => kX9_crash _ _ _ _ h9) (fun r2 st3 => ?_)
    refine ax_goto hC dX9_done_21 (tgt := 74) (by decide) ?_
    refine ax_sub (lv' := [none, none]) (ax_leN (ax_leN ax_le0)) ?_
    exact kX9_done_b74 hC _ _
  · refine ax_aloadn hC dX9_done_24 rfl rfl ?_
    refine ax_lkI hC lk_X9_248 LM_0 rfl dX9_done_25 ?_
    refine ax_bipush hC dX9_done_28 (v := 10) (by decide) ?_
    refine ax_icmp_ne hC dX9_done_30 (tgt := 47) (by decide) (fun _ => ?_) (fun _ => ?_)
    · refine ax_aloadn hC dX9_done_33 rfl rfl ?_
      refine ax_iloadn hC dX9_done_34 rfl rfl ?_
      refine ax_aloadn hC dX9_done_35 rfl rfl ?_
      refine ax_lkR hC lk_X9_87 LM_0 rfl dX9_done_36 ?_
      refine ax_iconst hC dX9_done_39 (v := 1) (by decide) ?_
      refine ax_iald hC LM_26 dX9_done_40 (fun v4 => ?_)
      refine ax_callV1 hC mlk_X9_270 hst_X9_270 LM_0 [.inl v1, .inl v4] rfl rfl (by decide) (by decide) (Nat.le_of_ble_eq_true rfl) dX9_done_41 (fun r9 s9 h9 => kX9_respond _ _ _ _ _ h9) (fun r5 st6 => ?_)
      refine ax_goto hC dX9_done_44 (tgt := 74) (by decide) ?_
      refine ax_sub (lv' := [none, none]) (ax_leN (ax_leN ax_le0)) ?_
      exact kX9_done_b74 hC _ _
    · refine ax_aloadn hC dX9_done_47 rfl rfl ?_
      refine ax_aloadn hC dX9_done_48 rfl rfl ?_
      refine ax_lkI hC lk_X9_248 LM_0 rfl dX9_done_49 ?_
      refine ax_iloadn hC dX9_done_52 rfl rfl ?_
      refine ax_aloadn hC dX9_done_53 rfl rfl ?_
      refine ax_lkR hC lk_X9_87 LM_0 rfl dX9_done_54 ?_
      refine ax_iconst hC dX9_done_57 (v := 1) (by decide) ?_
      refine ax_iald hC LM_26 dX9_done_58 (fun v7 => ?_)
      refine ax_aloadn hC dX9_done_59 rfl rfl ?_
      refine ax_lkR hC lk_X9_87 LM_0 rfl dX9_done_60 ?_
      refine ax_iconst hC dX9_done_63 (v := 2) (by decide) ?_
      refine ax_iald hC LM_26 dX9_done_64 (fun v8 => ?_)
      refine ax_aloadn hC dX9_done_65 rfl rfl ?_
      refine ax_lkR hC lk_X9_87 LM_0 rfl dX9_done_66 ?_
      refine ax_iconst hC dX9_done_69 (v := 3) (by decide) ?_
      refine ax_iald hC LM_26 dX9_done_70 (fun v9 => ?_)
      refine ax_callV1 hC mlk_X9_139 hst_X9_139 LM_0 [.inl (st.1 0 39), .inl v1, .inl v7, .inl v8, .inl v9] rfl rfl (by decide) (by decide) (Nat.le_of_ble_eq_true rfl) dX9_done_71 (fun r9 s9 h9 => kX9_invoke _ _ _ _ _ _ _ _ h9) (fun r10 st11 => ?_)
      refine ax_sub (lv' := [none, none]) (ax_leN (ax_leN ax_le0)) ?_
      exact kX9_done_b74 hC _ _
set_option maxRecDepth 100000 in
theorem kX9_parseText_L82 {C : ax_C} {X : ax_X} (hC : ax_ok C X LM cX9_parseText RX9 4 (some .int) 7) : ∀ (n : Nat) (x1 : Int32) (x3 : Int32) (st : ax_S), AW C X LM 4 1 (fX9_parseText_L82 n x1 x3 st) 82 [some (.inr 0), some (.inl x1), none, some (.inl x3)] [] st := by
  intro n
  induction n with
  | zero => intros; exact ax_none rfl
  | succ n hrec820 =>
    intro x1 x3 st
    have hrec82 := hrec820
    rw [fX9_parseText_L82.eq_2]
    refine ax_iloadn hC dX9_parseText_82 rfl rfl ?_
    refine ax_iloadn hC dX9_parseText_83 rfl rfl ?_
    refine ax_icmp_ge hC dX9_parseText_84 (tgt := 118) (by decide) (fun _ => ?_) (fun _ => ?_)
    · refine ax_iloadn hC dX9_parseText_118 rfl rfl ?_
      exact ax_iret hC dX9_parseText_119
    · refine ax_aloadn hC dX9_parseText_87 rfl rfl ?_
      refine ax_callV1 hC mlk_X9_273 hst_X9_273 LM_0 [] rfl rfl (by decide) (by decide) (Nat.le_of_ble_eq_true rfl) dX9_parseText_88 (fun r9 s9 h9 => kX9_takesCommand  _ _ _ h9) (fun r9 st10 => ?_)
      refine ax_pop hC dX9_parseText_91 ?_
      refine ax_aloadn hC dX9_parseText_92 rfl rfl ?_
      refine ax_bipush hC dX9_parseText_93 (v := 59) (by decide) ?_
      refine ax_callV1 hC mlk_X9_242 hst_X9_242 LM_0 [.inl (59 : Int32)] rfl rfl (by decide) (by decide) (Nat.le_of_ble_eq_true rfl) dX9_parseText_95 (fun r9 s9 h9 => kX9_takes _ _ _ _ h9) (fun r11 st12 => ?_)
      refine ax_pop hC dX9_parseText_98 ?_
      refine ax_aloadn hC dX9_parseText_99 rfl rfl ?_
      refine ax_callV1 hC mlk_X9_276 hst_X9_276 LM_0 [] rfl rfl (by decide) (by decide) (Nat.le_of_ble_eq_true rfl) dX9_parseText_100 (fun r9 s9 h9 => kX9_done  _ _ _ h9) (fun r13 st14 => ?_)
      refine ax_if_ge hC dX9_parseText_103 (tgt := 112) (by decide) (fun _ => ?_) (fun _ => ?_)
      · refine ax_iinc hC dX9_parseText_112 rfl (v := (x3 + (1 : Int32))) rfl (by decide) (lv' := [some (.inr 0), some (.inl x1), none, some (.inl (x3 + (1 : Int32)))]) rfl ?_
        refine ax_goto hC dX9_parseText_115 (tgt := 82) (by decide) ?_
        exact hrec82 _ _ _
      · refine ax_sipush hC dX9_parseText_106 (v := -2000) (by decide) ?_
        refine ax_iloadn hC dX9_parseText_109 rfl rfl ?_
        refine ax_isub hC dX9_parseText_110 ?_
        exact ax_iret hC dX9_parseText_111
set_option maxRecDepth 100000 in
theorem kX9_parseText_L22 {C : ax_C} {X : ax_X} (hC : ax_ok C X LM cX9_parseText RX9 4 (some .int) 7) : ∀ (n : Nat) (x1 : Int32) (x2 : Int32) (st : ax_S), AW C X LM 4 1 (fX9_parseText_L22 n x1 x2 st) 22 [some (.inr 0), some (.inl x1), some (.inl x2), none] [] st := by
  intro n
  induction n with
  | zero => intros; exact ax_none rfl
  | succ n hrec220 =>
    intro x1 x2 st
    have hrec22 := hrec220
    rw [fX9_parseText_L22.eq_2]
    refine ax_iloadn hC dX9_parseText_22 rfl rfl ?_
    refine ax_if_eq hC dX9_parseText_23 (tgt := 55) (by decide) (fun _ => ?_) (fun _ => ?_)
    · refine ax_aloadn hC dX9_parseText_55 rfl rfl ?_
      refine ax_lkI hC lk_X9_233 LM_0 rfl dX9_parseText_56 ?_
      refine ax_aloadn hC dX9_parseText_59 rfl rfl ?_
      refine ax_lkI hC lk_X9_236 LM_0 rfl dX9_parseText_60 ?_
      refine ax_icmp_ge hC dX9_parseText_63 (tgt := 75) (by decide) (fun _ => ?_) (fun _ => ?_)
      · refine ax_aloadn hC dX9_parseText_75 rfl rfl ?_
        refine ax_iconst hC dX9_parseText_76 (v := 0) (by decide) ?_
        refine ax_putI hC lp_X9_233 LM_0 rfl dX9_parseText_77 (fun st4 => ?_)
        refine ax_iconst hC dX9_parseText_80 (v := 0) (by decide) ?_
        refine ax_istoren hC dX9_parseText_81 rfl (by decide) (lv' := [some (.inr 0), some (.inl x1), some (.inl x2), some (.inl (0 : Int32))]) rfl ?_
        refine ax_sub (lv' := [some (.inr 0), some (.inl x1), none, some (.inl (0 : Int32))]) (ax_leS (ax_leS (ax_leN (ax_leS ax_le0)))) ?_
        exact kX9_parseText_L82 hC 4000 _ _ _
      · refine ax_sipush hC dX9_parseText_66 (v := -1000) (by decide) ?_
        refine ax_aloadn hC dX9_parseText_69 rfl rfl ?_
        refine ax_lkI hC lk_X9_233 LM_0 rfl dX9_parseText_70 ?_
        refine ax_isub hC dX9_parseText_73 ?_
        exact ax_iret hC dX9_parseText_74
    · refine ax_aloadn hC dX9_parseText_26 rfl rfl ?_
      refine ax_callV1 hC mlk_X9_273 hst_X9_273 LM_0 [] rfl rfl (by decide) (by decide) (Nat.le_of_ble_eq_true rfl) dX9_parseText_27 (fun r9 s9 h9 => kX9_takesCommand  _ _ _ h9) (fun r5 st6 => ?_)
      refine ax_if_ne hC dX9_parseText_30 (tgt := 42) (by decide) (fun _ => ?_) (fun _ => ?_)
      · refine ax_sipush hC dX9_parseText_33 (v := -1000) (by decide) ?_
        refine ax_aloadn hC dX9_parseText_36 rfl rfl ?_
        refine ax_lkI hC lk_X9_233 LM_0 rfl dX9_parseText_37 ?_
        refine ax_isub hC dX9_parseText_40 ?_
        exact ax_iret hC dX9_parseText_41
      · refine ax_iinc hC dX9_parseText_42 rfl (v := (x1 + (1 : Int32))) rfl (by decide) (lv' := [some (.inr 0), some (.inl (x1 + (1 : Int32))), some (.inl x2), none]) rfl ?_
        refine ax_aloadn hC dX9_parseText_45 rfl rfl ?_
        refine ax_bipush hC dX9_parseText_46 (v := 59) (by decide) ?_
        refine ax_callV1 hC mlk_X9_242 hst_X9_242 LM_0 [.inl (59 : Int32)] rfl rfl (by decide) (by decide) (Nat.le_of_ble_eq_true rfl) dX9_parseText_48 (fun r9 s9 h9 => kX9_takes _ _ _ _ h9) (fun r7 st8 => ?_)
        refine ax_istoren hC dX9_parseText_51 rfl (by decide) (lv' := [some (.inr 0), some (.inl (x1 + (1 : Int32))), some (.inl r7), none]) rfl ?_
        refine ax_goto hC dX9_parseText_52 (tgt := 22) (by decide) ?_
        exact hrec22 _ _ _
set_option maxRecDepth 100000 in
theorem kX9_parseText (st : ax_S) (r : Int32) (stz : ax_S) (h : fX9_parseText st = some (r, stz)) : ax_M LM yX9_parseText cX9_parseText 4 (some .int) 7 [.inr 0] st 1 r stz := by
  refine ax_start (by decide) (Nat.le_of_ble_eq_true rfl) (lv0 := [some (.inr 0), none, none, none]) rfl (fun C X hC => ?_)
  rw [← h]
  unfold fX9_parseText
  refine ax_aloadn hC dX9_parseText_0 rfl rfl ?_
  refine ax_aloadn hC dX9_parseText_1 rfl rfl ?_
  refine ax_lkI hC lk_X9_230 LM_0 rfl dX9_parseText_2 ?_
  refine ax_putI hC lp_X9_236 LM_0 rfl dX9_parseText_5 (fun st1 => ?_)
  refine ax_aloadn hC dX9_parseText_8 rfl rfl ?_
  refine ax_iconst hC dX9_parseText_9 (v := 0) (by decide) ?_
  refine ax_putI hC lp_X9_230 LM_0 rfl dX9_parseText_10 (fun st2 => ?_)
  refine ax_aloadn hC dX9_parseText_13 rfl rfl ?_
  refine ax_iconst hC dX9_parseText_14 (v := 0) (by decide) ?_
  refine ax_putI hC lp_X9_233 LM_0 rfl dX9_parseText_15 (fun st3 => ?_)
  refine ax_iconst hC dX9_parseText_18 (v := 0) (by decide) ?_
  refine ax_istoren hC dX9_parseText_19 rfl (by decide) (lv' := [some (.inr 0), some (.inl (0 : Int32)), none, none]) rfl ?_
  refine ax_iconst hC dX9_parseText_20 (v := 1) (by decide) ?_
  refine ax_istoren hC dX9_parseText_21 rfl (by decide) (lv' := [some (.inr 0), some (.inl (0 : Int32)), some (.inl (1 : Int32)), none]) rfl ?_
  exact kX9_parseText_L22 hC 4000 _ _ _
set_option maxRecDepth 100000 in
theorem kX9_copy_b39 {C : ax_C} {X : ax_X} {q1 : Nat} {n1 : Nat} (hq1 : LM[q1]? = some (.inl (.int, n1))) (hC : ax_ok C X LM cX9_copy RX9 4 none 1) {rec2 : Int32 → Int32 → ax_S → ax_R} (hrec2 : ∀ (x2 : Int32) (x3 : Int32) (st : ax_S), AW C X LM 4 0 (rec2 x2 x3 st) 2 [some (.inr 0), some (.inr q1), some (.inl x2), some (.inl x3)] [] st) (x2 : Int32) (x3 : Int32) (st : ax_S) : AW C X LM 4 0 (fX9_copy_b39 q1 n1 rec2 x2 x3 st) 39 [some (.inr 0), some (.inr q1), some (.inl x2), some (.inl x3)] [] st := by
  unfold fX9_copy_b39
  refine ax_aloadn hC dX9_copy_39 rfl rfl ?_
  refine ax_dup hC dX9_copy_40 ?_
  refine ax_lkI hC lk_X9_279 LM_0 rfl dX9_copy_41 ?_
  refine ax_iconst hC dX9_copy_44 (v := 1) (by decide) ?_
  refine ax_iadd hC dX9_copy_45 ?_
  refine ax_putI hC lp_X9_279 LM_0 rfl dX9_copy_46 (fun st5 => ?_)
  refine ax_iinc hC dX9_copy_49 rfl (v := (x3 + (1 : Int32))) rfl (by decide) (lv' := [some (.inr 0), some (.inr q1), some (.inl x2), some (.inl (x3 + (1 : Int32)))]) rfl ?_
  refine ax_goto hC dX9_copy_52 (tgt := 2) (by decide) ?_
  exact hrec2 _ _ _
set_option maxRecDepth 100000 in
theorem kX9_copy_L2 {C : ax_C} {X : ax_X} {q1 : Nat} {n1 : Nat} (hq1 : LM[q1]? = some (.inl (.int, n1))) (hC : ax_ok C X LM cX9_copy RX9 4 none 1) : ∀ (n : Nat) (x2 : Int32) (x3 : Int32) (st : ax_S), AW C X LM 4 0 (fX9_copy_L2 q1 n1 n x2 x3 st) 2 [some (.inr 0), some (.inr q1), some (.inl x2), some (.inl x3)] [] st := by
  intro n
  induction n with
  | zero => intros; exact ax_none rfl
  | succ n hrec20 =>
    intro x2 x3 st
    have hrec2 := hrec20
    rw [fX9_copy_L2.eq_2]
    refine ax_iloadn hC dX9_copy_2 rfl rfl ?_
    refine ax_aloadn hC dX9_copy_3 rfl rfl ?_
    refine ax_alen hC hq1 rfl dX9_copy_4 ?_
    refine ax_icmp_ge hC dX9_copy_5 (tgt := 55) (by decide) (fun _ => ?_) (fun _ => ?_)
    · exact ax_vret hC dX9_copy_55
    · refine ax_iloadn hC dX9_copy_8 rfl rfl ?_
      refine ax_if_eq hC dX9_copy_9 (tgt := 27) (by decide) (fun _ => ?_) (fun _ => ?_)
      · refine ax_aloadn hC dX9_copy_27 rfl rfl ?_
        refine ax_lkR hC lk_X9_90 LM_0 rfl dX9_copy_28 ?_
        refine ax_aloadn hC dX9_copy_31 rfl rfl ?_
        refine ax_lkI hC lk_X9_279 LM_0 rfl dX9_copy_32 ?_
        refine ax_aloadn hC dX9_copy_35 rfl rfl ?_
        refine ax_iloadn hC dX9_copy_36 rfl rfl ?_
        refine ax_iald hC hq1 dX9_copy_37 (fun v1 => ?_)
        refine ax_iast hC LM_27 dX9_copy_38 (fun st2 => ?_)
        exact kX9_copy_b39 hq1 hC hrec2 _ _ _
      · refine ax_aloadn hC dX9_copy_12 rfl rfl ?_
        refine ax_iloadn hC dX9_copy_13 rfl rfl ?_
        refine ax_aloadn hC dX9_copy_14 rfl rfl ?_
        refine ax_lkR hC lk_X9_90 LM_0 rfl dX9_copy_15 ?_
        refine ax_aloadn hC dX9_copy_18 rfl rfl ?_
        refine ax_lkI hC lk_X9_279 LM_0 rfl dX9_copy_19 ?_
        refine ax_iald hC LM_27 dX9_copy_22 (fun v3 => ?_)
        refine ax_iast hC hq1 dX9_copy_23 (fun st4 => ?_)
        refine ax_goto hC dX9_copy_24 (tgt := 39) (by decide) ?_
        exact kX9_copy_b39 hq1 hC hrec2 _ _ _
set_option maxRecDepth 100000 in
theorem kX9_copy (q1 : Nat) (n1 : Nat) (hq1 : LM[q1]? = some (.inl (.int, n1))) (x2 : Int32) (st : ax_S) (r : Int32) (stz : ax_S) (h : fX9_copy q1 n1 x2 st = some (r, stz)) : ax_M LM yX9_copy cX9_copy 4 none 1 [.inr 0, .inr q1, .inl x2] st 0 r stz := by
  refine ax_start (by decide) (Nat.le_of_ble_eq_true rfl) (lv0 := [some (.inr 0), some (.inr q1), some (.inl x2), none]) rfl (fun C X hC => ?_)
  rw [← h]
  unfold fX9_copy
  refine ax_iconst hC dX9_copy_0 (v := 0) (by decide) ?_
  refine ax_istoren hC dX9_copy_1 rfl (by decide) (lv' := [some (.inr 0), some (.inr q1), some (.inl x2), some (.inl (0 : Int32))]) rfl ?_
  exact kX9_copy_L2 hq1 hC 4000 _ _ _
set_option maxRecDepth 100000 in
theorem kX9_copyAll (x1 : Int32) (st : ax_S) (r : Int32) (stz : ax_S) (h : fX9_copyAll x1 st = some (r, stz)) : ax_M LM yX9_copyAll cX9_copyAll 2 none 2 [.inr 0, .inl x1] st 0 r stz := by
  refine ax_start (by decide) (Nat.le_of_ble_eq_true rfl) (lv0 := [some (.inr 0), some (.inl x1)]) rfl (fun C X hC => ?_)
  rw [← h]
  unfold fX9_copyAll
  refine ax_aloadn hC dX9_copyAll_0 rfl rfl ?_
  refine ax_iconst hC dX9_copyAll_1 (v := 4) (by decide) ?_
  refine ax_putI hC lp_X9_279 LM_0 rfl dX9_copyAll_2 (fun st1 => ?_)
  refine ax_aloadn hC dX9_copyAll_5 rfl rfl ?_
  refine ax_aloadn hC dX9_copyAll_6 rfl rfl ?_
  refine ax_lkR hC lk_X9_9 LM_0 rfl dX9_copyAll_7 ?_
  refine ax_iloadn hC dX9_copyAll_10 rfl rfl ?_
  refine ax_callV0 hC mlk_X9_282 hst_X9_282 LM_0 [.inr 1, .inl x1] rfl rfl (by decide) (by decide) (Nat.le_of_ble_eq_true rfl) dX9_copyAll_11 (fun r9 s9 h9 => kX9_copy _ _ LM_1 _ _ _ _ h9) (fun r2 st3 => ?_)
  refine ax_aloadn hC dX9_copyAll_14 rfl rfl ?_
  refine ax_aloadn hC dX9_copyAll_15 rfl rfl ?_
  refine ax_lkR hC lk_X9_13 LM_0 rfl dX9_copyAll_16 ?_
  refine ax_iloadn hC dX9_copyAll_19 rfl rfl ?_
  refine ax_callV0 hC mlk_X9_282 hst_X9_282 LM_0 [.inr 2, .inl x1] rfl rfl (by decide) (by decide) (Nat.le_of_ble_eq_true rfl) dX9_copyAll_20 (fun r9 s9 h9 => kX9_copy _ _ LM_2 _ _ _ _ h9) (fun r4 st5 => ?_)
  refine ax_aloadn hC dX9_copyAll_23 rfl rfl ?_
  refine ax_aloadn hC dX9_copyAll_24 rfl rfl ?_
  refine ax_lkR hC lk_X9_16 LM_0 rfl dX9_copyAll_25 ?_
  refine ax_iloadn hC dX9_copyAll_28 rfl rfl ?_
  refine ax_callV0 hC mlk_X9_282 hst_X9_282 LM_0 [.inr 3, .inl x1] rfl rfl (by decide) (by decide) (Nat.le_of_ble_eq_true rfl) dX9_copyAll_29 (fun r9 s9 h9 => kX9_copy _ _ LM_3 _ _ _ _ h9) (fun r6 st7 => ?_)
  refine ax_aloadn hC dX9_copyAll_32 rfl rfl ?_
  refine ax_aloadn hC dX9_copyAll_33 rfl rfl ?_
  refine ax_lkR hC lk_X9_19 LM_0 rfl dX9_copyAll_34 ?_
  refine ax_iloadn hC dX9_copyAll_37 rfl rfl ?_
  refine ax_callV0 hC mlk_X9_282 hst_X9_282 LM_0 [.inr 4, .inl x1] rfl rfl (by decide) (by decide) (Nat.le_of_ble_eq_true rfl) dX9_copyAll_38 (fun r9 s9 h9 => kX9_copy _ _ LM_4 _ _ _ _ h9) (fun r8 st9 => ?_)
  refine ax_aloadn hC dX9_copyAll_41 rfl rfl ?_
  refine ax_aloadn hC dX9_copyAll_42 rfl rfl ?_
  refine ax_lkR hC lk_X9_22 LM_0 rfl dX9_copyAll_43 ?_
  refine ax_iloadn hC dX9_copyAll_46 rfl rfl ?_
  refine ax_callV0 hC mlk_X9_282 hst_X9_282 LM_0 [.inr 5, .inl x1] rfl rfl (by decide) (by decide) (Nat.le_of_ble_eq_true rfl) dX9_copyAll_47 (fun r9 s9 h9 => kX9_copy _ _ LM_5 _ _ _ _ h9) (fun r10 st11 => ?_)
  refine ax_aloadn hC dX9_copyAll_50 rfl rfl ?_
  refine ax_aloadn hC dX9_copyAll_51 rfl rfl ?_
  refine ax_lkR hC lk_X9_25 LM_0 rfl dX9_copyAll_52 ?_
  refine ax_iloadn hC dX9_copyAll_55 rfl rfl ?_
  refine ax_callV0 hC mlk_X9_282 hst_X9_282 LM_0 [.inr 6, .inl x1] rfl rfl (by decide) (by decide) (Nat.le_of_ble_eq_true rfl) dX9_copyAll_56 (fun r9 s9 h9 => kX9_copy _ _ LM_6 _ _ _ _ h9) (fun r12 st13 => ?_)
  refine ax_aloadn hC dX9_copyAll_59 rfl rfl ?_
  refine ax_aloadn hC dX9_copyAll_60 rfl rfl ?_
  refine ax_lkR hC lk_X9_28 LM_0 rfl dX9_copyAll_61 ?_
  refine ax_iloadn hC dX9_copyAll_64 rfl rfl ?_
  refine ax_callV0 hC mlk_X9_282 hst_X9_282 LM_0 [.inr 7, .inl x1] rfl rfl (by decide) (by decide) (Nat.le_of_ble_eq_true rfl) dX9_copyAll_65 (fun r9 s9 h9 => kX9_copy _ _ LM_7 _ _ _ _ h9) (fun r14 st15 => ?_)
  refine ax_aloadn hC dX9_copyAll_68 rfl rfl ?_
  refine ax_aloadn hC dX9_copyAll_69 rfl rfl ?_
  refine ax_lkR hC lk_X9_31 LM_0 rfl dX9_copyAll_70 ?_
  refine ax_iloadn hC dX9_copyAll_73 rfl rfl ?_
  refine ax_callV0 hC mlk_X9_282 hst_X9_282 LM_0 [.inr 8, .inl x1] rfl rfl (by decide) (by decide) (Nat.le_of_ble_eq_true rfl) dX9_copyAll_74 (fun r9 s9 h9 => kX9_copy _ _ LM_8 _ _ _ _ h9) (fun r16 st17 => ?_)
  refine ax_aloadn hC dX9_copyAll_77 rfl rfl ?_
  refine ax_aloadn hC dX9_copyAll_78 rfl rfl ?_
  refine ax_lkR hC lk_X9_34 LM_0 rfl dX9_copyAll_79 ?_
  refine ax_iloadn hC dX9_copyAll_82 rfl rfl ?_
  refine ax_callV0 hC mlk_X9_282 hst_X9_282 LM_0 [.inr 9, .inl x1] rfl rfl (by decide) (by decide) (Nat.le_of_ble_eq_true rfl) dX9_copyAll_83 (fun r9 s9 h9 => kX9_copy _ _ LM_9 _ _ _ _ h9) (fun r18 st19 => ?_)
  refine ax_aloadn hC dX9_copyAll_86 rfl rfl ?_
  refine ax_aloadn hC dX9_copyAll_87 rfl rfl ?_
  refine ax_lkR hC lk_X9_37 LM_0 rfl dX9_copyAll_88 ?_
  refine ax_iloadn hC dX9_copyAll_91 rfl rfl ?_
  refine ax_callV0 hC mlk_X9_282 hst_X9_282 LM_0 [.inr 10, .inl x1] rfl rfl (by decide) (by decide) (Nat.le_of_ble_eq_true rfl) dX9_copyAll_92 (fun r9 s9 h9 => kX9_copy _ _ LM_10 _ _ _ _ h9) (fun r20 st21 => ?_)
  refine ax_aloadn hC dX9_copyAll_95 rfl rfl ?_
  refine ax_aloadn hC dX9_copyAll_96 rfl rfl ?_
  refine ax_lkR hC lk_X9_40 LM_0 rfl dX9_copyAll_97 ?_
  refine ax_iloadn hC dX9_copyAll_100 rfl rfl ?_
  refine ax_callV0 hC mlk_X9_282 hst_X9_282 LM_0 [.inr 11, .inl x1] rfl rfl (by decide) (by decide) (Nat.le_of_ble_eq_true rfl) dX9_copyAll_101 (fun r9 s9 h9 => kX9_copy _ _ LM_11 _ _ _ _ h9) (fun r22 st23 => ?_)
  refine ax_aloadn hC dX9_copyAll_104 rfl rfl ?_
  refine ax_aloadn hC dX9_copyAll_105 rfl rfl ?_
  refine ax_lkR hC lk_X9_43 LM_0 rfl dX9_copyAll_106 ?_
  refine ax_iloadn hC dX9_copyAll_109 rfl rfl ?_
  refine ax_callV0 hC mlk_X9_282 hst_X9_282 LM_0 [.inr 12, .inl x1] rfl rfl (by decide) (by decide) (Nat.le_of_ble_eq_true rfl) dX9_copyAll_110 (fun r9 s9 h9 => kX9_copy _ _ LM_12 _ _ _ _ h9) (fun r24 st25 => ?_)
  refine ax_aloadn hC dX9_copyAll_113 rfl rfl ?_
  refine ax_aloadn hC dX9_copyAll_114 rfl rfl ?_
  refine ax_lkR hC lk_X9_46 LM_0 rfl dX9_copyAll_115 ?_
  refine ax_iloadn hC dX9_copyAll_118 rfl rfl ?_
  refine ax_callV0 hC mlk_X9_282 hst_X9_282 LM_0 [.inr 13, .inl x1] rfl rfl (by decide) (by decide) (Nat.le_of_ble_eq_true rfl) dX9_copyAll_119 (fun r9 s9 h9 => kX9_copy _ _ LM_13 _ _ _ _ h9) (fun r26 st27 => ?_)
  refine ax_aloadn hC dX9_copyAll_122 rfl rfl ?_
  refine ax_aloadn hC dX9_copyAll_123 rfl rfl ?_
  refine ax_lkR hC lk_X9_49 LM_0 rfl dX9_copyAll_124 ?_
  refine ax_iloadn hC dX9_copyAll_127 rfl rfl ?_
  refine ax_callV0 hC mlk_X9_282 hst_X9_282 LM_0 [.inr 14, .inl x1] rfl rfl (by decide) (by decide) (Nat.le_of_ble_eq_true rfl) dX9_copyAll_128 (fun r9 s9 h9 => kX9_copy _ _ LM_14 _ _ _ _ h9) (fun r28 st29 => ?_)
  exact ax_vret hC dX9_copyAll_131
set_option maxRecDepth 100000 in
theorem kX9_saveSnapshot (st : ax_S) (r : Int32) (stz : ax_S) (h : fX9_saveSnapshot st = some (r, stz)) : ax_M LM yX9_saveSnapshot cX9_saveSnapshot 1 (some .int) 3 [.inr 0] st 1 r stz := by
  refine ax_start (by decide) (Nat.le_of_ble_eq_true rfl) (lv0 := [some (.inr 0)]) rfl (fun C X hC => ?_)
  rw [← h]
  unfold fX9_saveSnapshot
  refine ax_aloadn hC dX9_saveSnapshot_0 rfl rfl ?_
  refine ax_iconst hC dX9_saveSnapshot_1 (v := 1) (by decide) ?_
  refine ax_putZ hC lp_X9_286 LM_0 rfl dX9_saveSnapshot_2 (fun st1 => ?_)
  refine ax_aloadn hC dX9_saveSnapshot_5 rfl rfl ?_
  refine ax_lkR hC lk_X9_90 LM_0 rfl dX9_saveSnapshot_6 ?_
  refine ax_iconst hC dX9_saveSnapshot_9 (v := 0) (by decide) ?_
  refine ax_aloadn hC dX9_saveSnapshot_10 rfl rfl ?_
  refine ax_lkI hC lk_X9_97 LM_0 rfl dX9_saveSnapshot_11 ?_
  refine ax_iast hC LM_27 dX9_saveSnapshot_14 (fun st2 => ?_)
  refine ax_aloadn hC dX9_saveSnapshot_15 rfl rfl ?_
  refine ax_lkR hC lk_X9_90 LM_0 rfl dX9_saveSnapshot_16 ?_
  refine ax_iconst hC dX9_saveSnapshot_19 (v := 1) (by decide) ?_
  refine ax_aloadn hC dX9_saveSnapshot_20 rfl rfl ?_
  refine ax_lkI hC lk_X9_101 LM_0 rfl dX9_saveSnapshot_21 ?_
  refine ax_iast hC LM_27 dX9_saveSnapshot_24 (fun st3 => ?_)
  refine ax_aloadn hC dX9_saveSnapshot_25 rfl rfl ?_
  refine ax_lkR hC lk_X9_90 LM_0 rfl dX9_saveSnapshot_26 ?_
  refine ax_iconst hC dX9_saveSnapshot_29 (v := 2) (by decide) ?_
  refine ax_aloadn hC dX9_saveSnapshot_30 rfl rfl ?_
  refine ax_lkI hC lk_X9_104 LM_0 rfl dX9_saveSnapshot_31 ?_
  refine ax_iast hC LM_27 dX9_saveSnapshot_34 (fun st4 => ?_)
  refine ax_aloadn hC dX9_saveSnapshot_35 rfl rfl ?_
  refine ax_lkR hC lk_X9_90 LM_0 rfl dX9_saveSnapshot_36 ?_
  refine ax_iconst hC dX9_saveSnapshot_39 (v := 3) (by decide) ?_
  refine ax_aloadn hC dX9_saveSnapshot_40 rfl rfl ?_
  refine ax_lkI hC lk_X9_107 LM_0 rfl dX9_saveSnapshot_41 ?_
  refine ax_iast hC LM_27 dX9_saveSnapshot_44 (fun st5 => ?_)
  refine ax_aloadn hC dX9_saveSnapshot_45 rfl rfl ?_
  refine ax_iconst hC dX9_saveSnapshot_46 (v := 0) (by decide) ?_
  refine ax_callV0 hC mlk_X9_289 hst_X9_289 LM_0 [.inl (0 : Int32)] rfl rfl (by decide) (by decide) (Nat.le_of_ble_eq_true rfl) dX9_saveSnapshot_47 (fun r9 s9 h9 => kX9_copyAll _ _ _ _ h9) (fun r6 st7 => ?_)
  refine ax_aloadn hC dX9_saveSnapshot_50 rfl rfl ?_
  refine ax_lkI hC lk_X9_104 LM_0 rfl dX9_saveSnapshot_51 ?_
  exact ax_iret hC dX9_saveSnapshot_54
set_option maxRecDepth 100000 in
theorem kX9_restoreSnapshot (st : ax_S) (r : Int32) (stz : ax_S) (h : fX9_restoreSnapshot st = some (r, stz)) : ax_M LM yX9_restoreSnapshot cX9_restoreSnapshot 1 (some .int) 3 [.inr 0] st 1 r stz := by
  refine ax_start (by decide) (Nat.le_of_ble_eq_true rfl) (lv0 := [some (.inr 0)]) rfl (fun C X hC => ?_)
  rw [← h]
  unfold fX9_restoreSnapshot
  refine ax_aloadn hC dX9_restoreSnapshot_0 rfl rfl ?_
  refine ax_lkI hC lk_X9_286 LM_0 rfl dX9_restoreSnapshot_1 ?_
  refine ax_if_ne hC dX9_restoreSnapshot_4 (tgt := 10) (by decide) (fun _ => ?_) (fun _ => ?_)
  · refine ax_bipush hC dX9_restoreSnapshot_7 (v := -13) (by decide) ?_
    exact ax_iret hC dX9_restoreSnapshot_9
  · refine ax_aloadn hC dX9_restoreSnapshot_10 rfl rfl ?_
    refine ax_aloadn hC dX9_restoreSnapshot_11 rfl rfl ?_
    refine ax_lkR hC lk_X9_90 LM_0 rfl dX9_restoreSnapshot_12 ?_
    refine ax_iconst hC dX9_restoreSnapshot_15 (v := 0) (by decide) ?_
    refine ax_iald hC LM_27 dX9_restoreSnapshot_16 (fun v1 => ?_)
    refine ax_putI hC lp_X9_97 LM_0 rfl dX9_restoreSnapshot_17 (fun st2 => ?_)
    refine ax_aloadn hC dX9_restoreSnapshot_20 rfl rfl ?_
    refine ax_aloadn hC dX9_restoreSnapshot_21 rfl rfl ?_
    refine ax_lkR hC lk_X9_90 LM_0 rfl dX9_restoreSnapshot_22 ?_
    refine ax_iconst hC dX9_restoreSnapshot_25 (v := 1) (by decide) ?_
    refine ax_iald hC LM_27 dX9_restoreSnapshot_26 (fun v3 => ?_)
    refine ax_putI hC lp_X9_101 LM_0 rfl dX9_restoreSnapshot_27 (fun st4 => ?_)
    refine ax_aloadn hC dX9_restoreSnapshot_30 rfl rfl ?_
    refine ax_aloadn hC dX9_restoreSnapshot_31 rfl rfl ?_
    refine ax_lkR hC lk_X9_90 LM_0 rfl dX9_restoreSnapshot_32 ?_
    refine ax_iconst hC dX9_restoreSnapshot_35 (v := 2) (by decide) ?_
    refine ax_iald hC LM_27 dX9_restoreSnapshot_36 (fun v5 => ?_)
    refine ax_putI hC lp_X9_104 LM_0 rfl dX9_restoreSnapshot_37 (fun st6 => ?_)
    refine ax_aloadn hC dX9_restoreSnapshot_40 rfl rfl ?_
    refine ax_aloadn hC dX9_restoreSnapshot_41 rfl rfl ?_
    refine ax_lkR hC lk_X9_90 LM_0 rfl dX9_restoreSnapshot_42 ?_
    refine ax_iconst hC dX9_restoreSnapshot_45 (v := 3) (by decide) ?_
    refine ax_iald hC LM_27 dX9_restoreSnapshot_46 (fun v7 => ?_)
    refine ax_putI hC lp_X9_107 LM_0 rfl dX9_restoreSnapshot_47 (fun st8 => ?_)
    refine ax_aloadn hC dX9_restoreSnapshot_50 rfl rfl ?_
    refine ax_iconst hC dX9_restoreSnapshot_51 (v := 1) (by decide) ?_
    refine ax_callV0 hC mlk_X9_289 hst_X9_289 LM_0 [.inl (1 : Int32)] rfl rfl (by decide) (by decide) (Nat.le_of_ble_eq_true rfl) dX9_restoreSnapshot_52 (fun r9 s9 h9 => kX9_copyAll _ _ _ _ h9) (fun r9 st10 => ?_)
    refine ax_aloadn hC dX9_restoreSnapshot_55 rfl rfl ?_
    refine ax_lkI hC lk_X9_104 LM_0 rfl dX9_restoreSnapshot_56 ?_
    exact ax_iret hC dX9_restoreSnapshot_59
