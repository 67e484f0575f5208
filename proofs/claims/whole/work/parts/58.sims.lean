/-! THE PURE PART: the start, and all of it. -/
theorem Rl_start : Rl st0X st0M := by
  have hz : ∀ o, o ≠ 17 → o ≠ 38 → o ≠ 18 → o ≠ 39 → st0X.2 o = fun _ => 0 := fun o h1 h2 h3 h4 => by
    show (if o = 17 ∨ o = 38 then _ else if o = 18 ∨ o = 39 then _ else fun _ => (0 : Int32)) = _
    rw [if_neg (by omega), if_neg (by omega)]
  have hm : ∀ o, o ≠ 24 → st0M.2 o = fun _ => 0 := fun o h1 => by
    show (if o = 24 then _ else fun _ => (0 : Int32)) = _
    rw [if_neg h1]
  have h17 : ∀ j, j < 4 → st0X.2 17 j = nI 0 - 1 := by decide +kernel
  have h18 : ∀ j, j < 4 → st0X.2 18 j = nI 0 := by decide +kernel
  have hx1 : ∀ o k, st0X.1 o k = 0 := fun _ _ => rfl
  have hm1 : ∀ o k, st0M.1 o k = 0 := fun _ _ => rfl
  have e0 : (0 : Int32) = nI 0 := rfl
  refine ⟨⟨fun _ => 0, fun o _ => if o = 9 then 1 else 0, fun _ _ => 0, ?_, ?_, ?_⟩, Or.inl ⟨rfl, rfl⟩, ⟨0, by omega, rfl, rfl, fun j hj => by omega⟩, ?_⟩
  · have nz : ∀ {i : Nat} {P : Prop}, i < (fun _ => 0 : vN) 0 → P := fun h => absurd h (Nat.not_lt_zero _)
    refine ⟨⟨Nat.zero_le _, Nat.zero_le _, by simp [vcnt], Nat.le_refl _⟩, fun j => by simp, fun j => by simp [t0], fun i hi => nz hi, fun i j _ hj => nz hj, fun e he => nz he, fun e f _ he => nz he, fun t _ => by simp, fun i hi => nz hi, fun i hi => nz hi, fun i j _ hj => nz hj⟩
  · refine ⟨⟨rfl, rfl, rfl, rfl⟩, fun j hj => ⟨?_, ?_, ?_, ?_⟩, fun j hj => ⟨?_, ?_, ?_, ?_, ?_, ?_, ?_, ?_, ?_⟩, fun j hj => ⟨?_, ?_, fun h => absurd h (Nat.not_lt_zero _)⟩⟩
    all_goals first
      | exact h17 j hj
      | exact h18 j hj
      | (refine (congrFun (hz _ (by decide) (by decide) (by decide) (by decide)) j).trans ?_; rfl)
      | (refine (congrFun (hz _ (by decide) (by decide) (by decide) (by decide)) j).trans ?_; show (0 : Int32) = nI 1 - 1; decide)
  · refine ⟨⟨rfl, rfl, rfl, rfl⟩, fun j hj => ⟨?_, ?_⟩, fun j hj => ⟨?_, ?_, ?_, ?_, ?_, ?_, ?_, ?_, ?_⟩, fun j hj => ⟨?_, ?_, fun h => absurd h (Nat.not_lt_zero _)⟩⟩
    all_goals first
      | (refine (congrFun (hm _ (by decide)) j).trans ?_; rfl)
      | (refine (congrFun (hm _ (by decide)) j).trans ?_; show (0 : Int32) = nI 1 - 1; decide)
  · have : ∀ j, j < 72 → st0M.2 24 j = nI (nmL.getD j 0) := by decide +kernel
    exact this
theorem all_sims : ax_Sims Rl := ⟨fun a0 sx sm h => s_createRegister a0 sx sm h,
  fun a0 sx sm h => s_createCounter a0 sx sm h,
  fun sx sm h => s_createQueue sx sm h,
  fun sx sm h => s_createSet sx sm h,
  fun sx sm h => s_objectCount sx sm h,
  fun a0 sx sm h => s_typeOf a0 sx sm h,
  fun sx sm h => s_reset sx sm h,
  fun a0 a1 sx sm h => s_invokeRead a0 a1 sx sm h,
  fun a0 a1 a2 sx sm h => s_invokeWrite a0 a1 a2 sx sm h,
  fun a0 a1 a2 a3 sx sm h => s_invokeCompareAndSet a0 a1 a2 a3 sx sm h,
  fun a0 a1 sx sm h => s_invokeGet a0 a1 sx sm h,
  fun a0 a1 a2 sx sm h => s_invokeAdd a0 a1 a2 sx sm h,
  fun a0 a1 a2 sx sm h => s_invokeEnqueue a0 a1 a2 sx sm h,
  fun a0 a1 sx sm h => s_invokeDequeue a0 a1 sx sm h,
  fun a0 a1 a2 sx sm h => s_invokeInsert a0 a1 a2 sx sm h,
  fun a0 a1 a2 sx sm h => s_invokeRemove a0 a1 a2 sx sm h,
  fun a0 a1 a2 sx sm h => s_invokeContains a0 a1 a2 sx sm h,
  fun a0 a1 sx sm h => s_respond a0 a1 sx sm h,
  fun a0 sx sm h => s_crash a0 sx sm h,
  fun sx sm h => s_undo sx sm h,
  fun sx sm h => s_eventCount sx sm h,
  fun sx sm h => s_operationCount sx sm h,
  fun a0 sx sm h => s_kindOf a0 sx sm h,
  fun a0 sx sm h => s_threadOf a0 sx sm h,
  fun a0 sx sm h => s_objectOf a0 sx sm h,
  fun a0 sx sm h => s_invocationTime a0 sx sm h,
  fun a0 sx sm h => s_responseTime a0 sx sm h,
  fun a0 sx sm h => s_resultOf a0 sx sm h,
  fun a0 a1 sx sm h => s_precedes a0 a1 sx sm h,
  fun sx sm h => s_maxPending sx sm h,
  fun sx sm h => s_longestChain sx sm h,
  fun sx sm h => s_isLinearizable sx sm h,
  fun a0 sx sm h => s_isObjectLinearizable a0 sx sm h,
  fun sx sm h => s_isSequentiallyConsistent sx sm h,
  fun sx sm h => s_countLinearizations sx sm h,
  fun sx sm h => s_firstLinearizationLength sx sm h,
  fun a0 sx sm h => s_firstLinearizationAt a0 sx sm h,
  fun sx sm h => s_firstViolation sx sm h,
  fun a0 a1 sx sm h => s_canRespond a0 a1 sx sm h,
  fun a0 sx sm h => s_countResponses a0 sx sm h,
  fun a0 sx sm h => s_appendToOrder a0 sx sm h,
  fun a0 sx sm h => s_removeFromOrder a0 sx sm h,
  fun sx sm h => s_orderSize sx sm h,
  fun a0 sx sm h => s_orderAt a0 sx sm h,
  fun sx sm h => s_isOrderLinearization sx sm h,
  fun sx sm h => s_firstBadPosition sx sm h,
  fun a0 sx sm h => s_appendCharacter a0 sx sm h,
  fun sx sm h => s_clearText sx sm h,
  fun sx sm h => s_parseText sx sm h,
  fun sx sm h => s_saveSnapshot sx sm h,
  fun sx sm h => s_restoreSnapshot sx sm h⟩
