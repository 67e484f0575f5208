def fX8_isBetween_b15 (s0 : Int32) (st : ax_S) : ax_R := ax_rz s0 st
def fX8_isBetween_b14 (st : ax_S) : ax_R := fX8_isBetween_b15 (0 : Int32) st
def fX8_isBetween (x0 : Int32) (x1 : Int32) (x2 : Int32) (st : ax_S) : ax_R := if x0 < x1 then (fX8_isBetween_b14 st) else (if x2 < x0 then (fX8_isBetween_b14 st) else (fX8_isBetween_b15 (1 : Int32) st))
def fX1_append_b38 (st : ax_S) : ax_R := some (0, st)
def fX1_append (x1 : Int32) (x2 : Int32) (st : ax_S) : ax_R := if (4 : Int32) ≤ (st.1 2 0) then (fX1_append_b38 st) else (ax_sto st 3 4 (st.1 2 0) x1 fun st1 => ax_sto st1 4 4 (st1.1 2 0) x2 fun st2 => ax_then (ax_sI st2 2 0 ((st2.1 2 0) + (1 : Int32))) fun st3 => fX1_append_b38 st3)
def fX2_empty (st : ax_S) : ax_R := ax_then (ax_sI st 20 0 (0 : Int32)) fun st1 => some (0, st1)
def fX8_createObject (x1 : Int32) (x2 : Int32) (st : ax_S) : ax_R := if (st.1 2 0) < (4 : Int32) then (ax_bind (fX1_append x1 x2 st) fun r1 st2 => ax_bind (fX2_empty  st2) fun r3 st4 => some ((st.1 2 0), st4)) else (some ((-8 : Int32), st))
def fX8_createRegister (x1 : Int32) (st : ax_S) : ax_R := ax_bind (fX8_isBetween x1 (0 : Int32) (99 : Int32) st) fun r1 st2 => if r1 = 0 then (some ((-4 : Int32), st2)) else (ax_bind (fX8_createObject (0 : Int32) x1 st2) fun r3 st4 => some (r3, st4))
def fX8_createCounter (x1 : Int32) (st : ax_S) : ax_R := ax_bind (fX8_isBetween x1 (-99 : Int32) (99 : Int32) st) fun r1 st2 => if r1 = 0 then (some ((-4 : Int32), st2)) else (ax_bind (fX8_createObject (1 : Int32) x1 st2) fun r3 st4 => some (r3, st4))
def fX8_createQueue (st : ax_S) : ax_R := ax_bind (fX8_createObject (2 : Int32) (0 : Int32) st) fun r1 st2 => some (r1, st2)
def fX8_createSet (st : ax_S) : ax_R := ax_bind (fX8_createObject (3 : Int32) (0 : Int32) st) fun r1 st2 => some (r1, st2)
def fX8_objectCount (st : ax_S) : ax_R := some ((st.1 2 0), st)
def fX1_has (x1 : Int32) (st : ax_S) : ax_R := ax_bind (fX8_isBetween x1 (0 : Int32) ((st.1 2 0) - (1 : Int32)) st) fun r1 st2 => ax_rz r1 st2
def fX8_typeOf (x1 : Int32) (st : ax_S) : ax_R := ax_bind (fX1_has x1 st) fun r1 st2 => if r1 = 0 then (some ((-2 : Int32), st2)) else (ax_ld st2 3 4 x1 fun v3 => some (v3, st2))
def fX0_clearHistory_L12 : Nat → Int32 → ax_S → ax_R
  | 0, _, _ => none
  | n + 1, x1, st => if (4 : Int32) ≤ x1 then (some (0, st)) else (ax_sto st 17 4 x1 (-1 : Int32) fun st3 => ax_sto st3 18 4 x1 (vp_nar .boolean (0 : Int32)) fun st4 => (fX0_clearHistory_L12 n) (x1 + (1 : Int32)) st4)
def fX0_clearHistory (st : ax_S) : ax_R := ax_then (ax_sI st 5 0 (0 : Int32)) fun st1 => ax_then (ax_sI st1 5 4 (0 : Int32)) fun st2 => fX0_clearHistory_L12 4000 (0 : Int32) st2
def fX4_clearAll (st : ax_S) : ax_R := ax_then (ax_sI st 2 0 (0 : Int32)) fun st1 => ax_bind (fX0_clearHistory  st1) fun r2 st3 => ax_bind (fX2_empty  st3) fun r4 st5 => some (0, st5)
def fX8_reset (st : ax_S) : ax_R := ax_bind (fX4_clearAll  st) fun r1 st2 => some ((st.1 5 0), st2)
def fX8_isThread (x0 : Int32) (st : ax_S) : ax_R := ax_bind (fX8_isBetween x0 (0 : Int32) (3 : Int32) st) fun r1 st2 => ax_rz r1 st2
def fX8_requiredType (x0 : Int32) (st : ax_S) : ax_R := (if x0 = (0 : Int32) then (some ((0 : Int32), st)) else (if x0 = (1 : Int32) then (some ((0 : Int32), st)) else (if x0 = (2 : Int32) then (some ((0 : Int32), st)) else (if x0 = (3 : Int32) then (some ((1 : Int32), st)) else (if x0 = (4 : Int32) then (some ((1 : Int32), st)) else (if x0 = (5 : Int32) then (some ((2 : Int32), st)) else (if x0 = (6 : Int32) then (some ((2 : Int32), st)) else (some ((3 : Int32), st)))))))))
def fX8_invocationError_b84 (st : ax_S) : ax_R := some ((-4 : Int32), st)
def fX8_invocationError_b59 (x2 : Int32) (x4 : Int32) (x5 : Int32) (s0 : Int32) (st : ax_S) : ax_R := ax_bind (fX8_isBetween x4 s0 (99 : Int32) st) fun r8 st9 => if r8 = 0 then (fX8_invocationError_b84 st9) else (ax_bind (fX8_isBetween x5 (0 : Int32) (99 : Int32) st9) fun r10 st11 => if r10 = 0 then (fX8_invocationError_b84 st11) else (ax_ld st11 18 4 x2 fun v12 => if v12 = 0 then (ax_ld st11 17 4 x2 fun v13 => if v13 = (-1 : Int32) then (if (st11.1 5 4) < (10 : Int32) then (some ((0 : Int32), st11)) else (some ((-8 : Int32), st11))) else (some ((-6 : Int32), st11))) else (some ((-5 : Int32), st11))))
def fX8_invocationError (x1 : Int32) (x2 : Int32) (x3 : Int32) (x4 : Int32) (x5 : Int32) (st : ax_S) : ax_R := ax_bind (fX8_isThread x2 st) fun r1 st2 => if r1 = 0 then (some ((-1 : Int32), st2)) else (ax_bind (fX1_has x3 st2) fun r3 st4 => if r3 = 0 then (some ((-2 : Int32), st4)) else (ax_ld st4 3 4 x3 fun v5 => ax_bind (fX8_requiredType x1 st4) fun r6 st7 => if v5 = r6 then (if x1 = (4 : Int32) then (fX8_invocationError_b59 x2 x4 x5 (-99 : Int32) st7) else (fX8_invocationError_b59 x2 x4 x5 (0 : Int32) st7)) else (some ((-3 : Int32), st7))))
def fX0_addEvent_b49 (st : ax_S) : ax_R := some (0, st)
def fX0_addEvent (x1 : Int32) (x2 : Int32) (x3 : Int32) (st : ax_S) : ax_R := if (24 : Int32) ≤ (st.1 5 0) then (fX0_addEvent_b49 st) else (ax_sto st 6 24 (st.1 5 0) x1 fun st1 => ax_sto st1 7 24 (st1.1 5 0) x2 fun st2 => ax_sto st2 8 24 (st2.1 5 0) x3 fun st3 => ax_then (ax_sI st3 5 0 ((st3.1 5 0) + (1 : Int32))) fun st4 => fX0_addEvent_b49 st4)
def fX0_addInvocation (x1 : Int32) (x2 : Int32) (x3 : Int32) (x4 : Int32) (x5 : Int32) (st : ax_S) : ax_R := if (st.1 5 4) < (10 : Int32) then (ax_sto st 9 10 (st.1 5 4) x1 fun st1 => ax_sto st1 10 10 (st1.1 5 4) x2 fun st2 => ax_sto st2 11 10 (st2.1 5 4) x3 fun st3 => ax_sto st3 12 10 (st3.1 5 4) x4 fun st4 => ax_sto st4 13 10 (st4.1 5 4) x5 fun st5 => ax_sto st5 14 10 (st5.1 5 4) (st5.1 5 0) fun st6 => ax_sto st6 15 10 (st6.1 5 4) (-1 : Int32) fun st7 => ax_sto st7 17 4 x2 (st7.1 5 4) fun st8 => ax_bind (fX0_addEvent (0 : Int32) x2 (st8.1 5 4) st8) fun r9 st10 => ax_then (ax_sI st10 5 4 ((st10.1 5 4) + (1 : Int32))) fun st11 => some (0, st11)) else (some (0, st))
def fX8_invoke (x1 : Int32) (x2 : Int32) (x3 : Int32) (x4 : Int32) (x5 : Int32) (st : ax_S) : ax_R := ax_bind (fX8_invocationError x1 x2 x3 x4 x5 st) fun r1 st2 => if r1 = 0 then (ax_bind (fX0_addInvocation x1 x2 x3 x4 x5 st2) fun r3 st4 => ax_bind (fX2_empty  st4) fun r5 st6 => some ((st2.1 5 4), st6)) else (some (r1, st2))
def fX8_invokeRead (x1 : Int32) (x2 : Int32) (st : ax_S) : ax_R := ax_bind (fX8_invoke (0 : Int32) x1 x2 (0 : Int32) (0 : Int32) st) fun r1 st2 => some (r1, st2)
def fX8_invokeWrite (x1 : Int32) (x2 : Int32) (x3 : Int32) (st : ax_S) : ax_R := ax_bind (fX8_invoke (1 : Int32) x1 x2 x3 (0 : Int32) st) fun r1 st2 => some (r1, st2)
def fX8_invokeCompareAndSet (x1 : Int32) (x2 : Int32) (x3 : Int32) (x4 : Int32) (st : ax_S) : ax_R := ax_bind (fX8_invoke (2 : Int32) x1 x2 x3 x4 st) fun r1 st2 => some (r1, st2)
def fX8_invokeGet (x1 : Int32) (x2 : Int32) (st : ax_S) : ax_R := ax_bind (fX8_invoke (3 : Int32) x1 x2 (0 : Int32) (0 : Int32) st) fun r1 st2 => some (r1, st2)
def fX8_invokeAdd (x1 : Int32) (x2 : Int32) (x3 : Int32) (st : ax_S) : ax_R := ax_bind (fX8_invoke (4 : Int32) x1 x2 x3 (0 : Int32) st) fun r1 st2 => some (r1, st2)
def fX8_invokeEnqueue (x1 : Int32) (x2 : Int32) (x3 : Int32) (st : ax_S) : ax_R := ax_bind (fX8_invoke (5 : Int32) x1 x2 x3 (0 : Int32) st) fun r1 st2 => some (r1, st2)
def fX8_invokeDequeue (x1 : Int32) (x2 : Int32) (st : ax_S) : ax_R := ax_bind (fX8_invoke (6 : Int32) x1 x2 (0 : Int32) (0 : Int32) st) fun r1 st2 => some (r1, st2)
def fX8_invokeInsert (x1 : Int32) (x2 : Int32) (x3 : Int32) (st : ax_S) : ax_R := ax_bind (fX8_invoke (7 : Int32) x1 x2 x3 (0 : Int32) st) fun r1 st2 => some (r1, st2)
def fX8_invokeRemove (x1 : Int32) (x2 : Int32) (x3 : Int32) (st : ax_S) : ax_R := ax_bind (fX8_invoke (8 : Int32) x1 x2 x3 (0 : Int32) st) fun r1 st2 => some (r1, st2)
def fX8_invokeContains (x1 : Int32) (x2 : Int32) (x3 : Int32) (st : ax_S) : ax_R := ax_bind (fX8_invoke (9 : Int32) x1 x2 x3 (0 : Int32) st) fun r1 st2 => some (r1, st2)
def fX0_has (x1 : Int32) (st : ax_S) : ax_R := ax_bind (fX8_isBetween x1 (0 : Int32) ((st.1 5 4) - (1 : Int32)) st) fun r1 st2 => ax_rz r1 st2
def fX8_waitingError (x1 : Int32) (st : ax_S) : ax_R := ax_bind (fX8_isThread x1 st) fun r1 st2 => if r1 = 0 then (some ((-1 : Int32), st2)) else (ax_ld st2 18 4 x1 fun v3 => if v3 = 0 then (ax_ld st2 17 4 x1 fun v4 => ax_bind (fX0_has v4 st2) fun r5 st6 => if r5 = 0 then (some ((-7 : Int32), st6)) else (some ((0 : Int32), st6))) else (some ((-5 : Int32), st2)))
def fX8_lowestResult (x0 : Int32) (st : ax_S) : ax_R := (if x0 = (3 : Int32) then (some ((-999 : Int32), st)) else (if x0 = (4 : Int32) then (some ((-999 : Int32), st)) else (if x0 = (5 : Int32) then (some ((0 : Int32), st)) else (if x0 = (6 : Int32) then (some ((-1 : Int32), st)) else (some ((0 : Int32), st))))))
def fX8_highestResult (x0 : Int32) (st : ax_S) : ax_R := (if x0 = (0 : Int32) then (some ((99 : Int32), st)) else (if x0 = (1 : Int32) then (some ((0 : Int32), st)) else (if x0 = (2 : Int32) then (some ((1 : Int32), st)) else (if x0 = (3 : Int32) then (some ((999 : Int32), st)) else (if x0 = (4 : Int32) then (some ((999 : Int32), st)) else (if x0 = (5 : Int32) then (some ((0 : Int32), st)) else (if x0 = (6 : Int32) then (some ((99 : Int32), st)) else (some ((1 : Int32), st)))))))))
def fX8_responseError (x1 : Int32) (x2 : Int32) (st : ax_S) : ax_R := ax_bind (fX8_waitingError x1 st) fun r1 st2 => if r1 = 0 then (ax_ld st2 17 4 x1 fun v3 => ax_ld st2 9 10 v3 fun v4 => ax_bind (fX8_lowestResult v4 st2) fun r5 st6 => ax_bind (fX8_highestResult v4 st6) fun r7 st8 => ax_bind (fX8_isBetween x2 r5 r7 st8) fun r9 st10 => if r9 = 0 then (some ((-4 : Int32), st10)) else (some ((0 : Int32), st10))) else (some (r1, st2))
def fX0_addResponse (x1 : Int32) (x2 : Int32) (st : ax_S) : ax_R := ax_ld st 17 4 x1 fun v1 => ax_bind (fX0_has v1 st) fun r2 st3 => if r2 = 0 then (some (0, st3)) else (ax_sto st3 15 10 v1 (st3.1 5 0) fun st4 => ax_sto st4 16 10 v1 x2 fun st5 => ax_sto st5 17 4 x1 (-1 : Int32) fun st6 => ax_bind (fX0_addEvent (1 : Int32) x1 v1 st6) fun r7 st8 => some (0, st8))
def fX8_respond (x1 : Int32) (x2 : Int32) (st : ax_S) : ax_R := ax_bind (fX8_responseError x1 x2 st) fun r1 st2 => if r1 = 0 then (ax_ld st2 17 4 x1 fun v3 => ax_bind (fX0_addResponse x1 x2 st2) fun r4 st5 => ax_bind (fX2_empty  st5) fun r6 st7 => some (v3, st7)) else (some (r1, st2))
def fX0_addCrash (x1 : Int32) (st : ax_S) : ax_R := ax_sto st 18 4 x1 (vp_nar .boolean (1 : Int32)) fun st1 => ax_bind (fX0_addEvent (2 : Int32) x1 (-1 : Int32) st1) fun r2 st3 => some (0, st3)
def fX8_crash (x1 : Int32) (st : ax_S) : ax_R := ax_bind (fX8_isThread x1 st) fun r1 st2 => if r1 = 0 then (some ((-1 : Int32), st2)) else (ax_ld st2 18 4 x1 fun v3 => if v3 = 0 then (ax_bind (fX0_addCrash x1 st2) fun r4 st5 => ax_bind (fX2_empty  st5) fun r6 st7 => some ((st2.1 5 0), st7)) else (some ((-5 : Int32), st2)))
def fX0_removeLastEvent_b124 (st : ax_S) : ax_R := some (0, st)
def fX0_removeLastEvent (st : ax_S) : ax_R := if (st.1 5 0) = 0 then (some (0, st)) else (ax_then (ax_sI st 5 0 ((st.1 5 0) - (1 : Int32))) fun st1 => ax_ld st1 7 24 (st1.1 5 0) fun v2 => ax_ld st1 6 24 (st1.1 5 0) fun v3 => (if v3 = (0 : Int32) then (ax_then (ax_sI st1 5 4 ((st1.1 5 4) - (1 : Int32))) fun st9 => ax_sto st9 17 4 v2 (-1 : Int32) fun st10 => fX0_removeLastEvent_b124 st10) else (if v3 = (1 : Int32) then (ax_ld st1 8 24 (st1.1 5 0) fun v5 => ax_sto st1 17 4 v2 v5 fun st6 => ax_ld st6 8 24 (st6.1 5 0) fun v7 => ax_sto st6 15 10 v7 (-1 : Int32) fun st8 => fX0_removeLastEvent_b124 st8) else (ax_sto st1 18 4 v2 (vp_nar .boolean (0 : Int32)) fun st4 => fX0_removeLastEvent_b124 st4))))
def fX8_undo (st : ax_S) : ax_R := if (st.1 5 0) = 0 then (some ((-11 : Int32), st)) else (ax_bind (fX0_removeLastEvent  st) fun r1 st2 => ax_bind (fX2_empty  st2) fun r3 st4 => some ((st4.1 5 0), st4))
def fX8_eventCount (st : ax_S) : ax_R := some ((st.1 5 0), st)
def fX8_operationCount (st : ax_S) : ax_R := some ((st.1 5 4), st)
def fX8_kindOf (x1 : Int32) (st : ax_S) : ax_R := ax_bind (fX0_has x1 st) fun r1 st2 => if r1 = 0 then (some ((-9 : Int32), st2)) else (ax_ld st2 9 10 x1 fun v3 => some (v3, st2))
def fX8_threadOf (x1 : Int32) (st : ax_S) : ax_R := ax_bind (fX0_has x1 st) fun r1 st2 => if r1 = 0 then (some ((-9 : Int32), st2)) else (ax_ld st2 10 10 x1 fun v3 => some (v3, st2))
def fX8_objectOf (x1 : Int32) (st : ax_S) : ax_R := ax_bind (fX0_has x1 st) fun r1 st2 => if r1 = 0 then (some ((-9 : Int32), st2)) else (ax_ld st2 11 10 x1 fun v3 => some (v3, st2))
def fX8_invocationTime (x1 : Int32) (st : ax_S) : ax_R := ax_bind (fX0_has x1 st) fun r1 st2 => if r1 = 0 then (some ((-9 : Int32), st2)) else (ax_ld st2 14 10 x1 fun v3 => some (v3, st2))
def fX0_isPending_b15 (s0 : Int32) (st : ax_S) : ax_R := ax_rz s0 st
def fX0_isPending (x1 : Int32) (st : ax_S) : ax_R := ax_ld st 15 10 x1 fun v1 => if v1 = (-1 : Int32) then (fX0_isPending_b15 (1 : Int32) st) else (fX0_isPending_b15 (0 : Int32) st)
def fX8_responseTime (x1 : Int32) (st : ax_S) : ax_R := ax_bind (fX0_has x1 st) fun r1 st2 => if r1 = 0 then (some ((-9 : Int32), st2)) else (ax_bind (fX0_isPending x1 st2) fun r3 st4 => if r3 = 0 then (ax_ld st4 15 10 x1 fun v5 => some (v5, st4)) else (some ((-10 : Int32), st4)))
def fX8_resultOf (x1 : Int32) (st : ax_S) : ax_R := ax_bind (fX0_has x1 st) fun r1 st2 => if r1 = 0 then (some ((-9 : Int32), st2)) else (ax_bind (fX0_isPending x1 st2) fun r3 st4 => if r3 = 0 then (ax_ld st4 16 10 x1 fun v5 => some ((v5 + (1000 : Int32)), st4)) else (some ((-10 : Int32), st4)))
def fX0_isBefore_b28 (s0 : Int32) (st : ax_S) : ax_R := ax_rz s0 st
def fX0_isBefore_b27 (st : ax_S) : ax_R := fX0_isBefore_b28 (0 : Int32) st
def fX0_isBefore (x1 : Int32) (x2 : Int32) (st : ax_S) : ax_R := ax_bind (fX0_isPending x1 st) fun r1 st2 => if r1 = 0 then (ax_ld st2 15 10 x1 fun v3 => ax_ld st2 14 10 x2 fun v4 => if v4 ≤ v3 then (fX0_isBefore_b27 st2) else (fX0_isBefore_b28 (1 : Int32) st2)) else (fX0_isBefore_b27 st2)
def fX8_truth_b9 (s0 : Int32) (st : ax_S) : ax_R := some (s0, st)
def fX8_truth (x0 : Int32) (st : ax_S) : ax_R := if x0 = 0 then (fX8_truth_b9 (0 : Int32) st) else (fX8_truth_b9 (1 : Int32) st)
def fX8_precedes_b28 (st : ax_S) : ax_R := some ((-9 : Int32), st)
def fX8_precedes (x1 : Int32) (x2 : Int32) (st : ax_S) : ax_R := ax_bind (fX0_has x1 st) fun r1 st2 => if r1 = 0 then (fX8_precedes_b28 st2) else (ax_bind (fX0_has x2 st2) fun r3 st4 => if r3 = 0 then (fX8_precedes_b28 st4) else (ax_bind (fX0_isBefore x1 x2 st4) fun r5 st6 => ax_bind (fX8_truth r5 st6) fun r7 st8 => some (r7, st8)))
def fX0_mostPending_b42 (rec6 : Int32 → Int32 → Int32 → ax_S → ax_R) (x1 : Int32) (x2 : Int32) (x3 : Int32) (st : ax_S) : ax_R := rec6 x1 (ax_mx x2 x1) (x3 + (1 : Int32)) st
def fX0_mostPending_L6 : Nat → Int32 → Int32 → Int32 → ax_S → ax_R
  | 0, _, _, _, _ => none
  | n + 1, x1, x2, x3, st => if (st.1 5 0) ≤ x3 then (some (x2, st)) else (ax_ld st 6 24 x3 fun v1 => if v1 = 0 then (fX0_mostPending_b42 (fX0_mostPending_L6 n) (x1 + (1 : Int32)) x2 x3 st) else (ax_ld st 6 24 x3 fun v2 => if v2 = (1 : Int32) then (fX0_mostPending_b42 (fX0_mostPending_L6 n) (x1 + (-1 : Int32)) x2 x3 st) else (fX0_mostPending_b42 (fX0_mostPending_L6 n) x1 x2 x3 st)))
def fX0_mostPending (st : ax_S) : ax_R := fX0_mostPending_L6 4000 (0 : Int32) (0 : Int32) (0 : Int32) st
def fX8_maxPending (st : ax_S) : ax_R := ax_bind (fX0_mostPending  st) fun r1 st2 => some (r1, st2)
def fX0_chainLength_b58 (rec4 : Int32 → Int32 → ax_S → ax_R) (rec21 : Int32 → Int32 → Int32 → ax_S → ax_R) (x1 : Int32) (x2 : Int32) (x3 : Int32) (st : ax_S) : ax_R := rec21 x1 x2 (x3 + (1 : Int32)) st
def fX0_chainLength_L21 (rec4 : Int32 → Int32 → ax_S → ax_R) : Nat → Int32 → Int32 → Int32 → ax_S → ax_R
  | 0, _, _, _, _ => none
  | n + 1, x1, x2, x3, st => if x2 ≤ x3 then (ax_ld st 19 10 x2 fun v2 => rec4 (ax_mx x1 v2) (x2 + (1 : Int32)) st) else (ax_bind (fX0_isBefore x3 x2 st) fun r3 st4 => if r3 = 0 then (fX0_chainLength_b58 rec4 (fX0_chainLength_L21 rec4 n) x1 x2 x3 st4) else (ax_ld st4 19 10 x2 fun v5 => ax_ld st4 19 10 x3 fun v6 => ax_sto st4 19 10 x2 (ax_mx v5 (v6 + (1 : Int32))) fun st7 => fX0_chainLength_b58 rec4 (fX0_chainLength_L21 rec4 n) x1 x2 x3 st7))
def fX0_chainLength_L4 : Nat → Int32 → Int32 → ax_S → ax_R
  | 0, _, _, _ => none
  | n + 1, x1, x2, st => if (st.1 5 4) ≤ x2 then (some (x1, st)) else (ax_sto st 19 10 x2 (1 : Int32) fun st1 => fX0_chainLength_L21 (fX0_chainLength_L4 n) 4000 x1 x2 (0 : Int32) st1)
def fX0_chainLength (st : ax_S) : ax_R := fX0_chainLength_L4 4000 (0 : Int32) (0 : Int32) st
def fX8_longestChain (st : ax_S) : ax_R := ax_bind (fX0_chainLength  st) fun r1 st2 => some (r1, st2)
def fX6_start_L17 (q0 : Nat) : Nat → Int32 → ax_S → ax_R
  | 0, _, _ => none
  | n + 1, x2, st => if (99 : Int32) < x2 then (some (0, st)) else (ax_sto st (q0 + 2) 100 x2 (vp_nar .boolean (0 : Int32)) fun st4 => (fX6_start_L17 q0 n) (x2 + (1 : Int32)) st4)
def fX6_start (q0 : Nat) (x1 : Int32) (st : ax_S) : ax_R := ax_then (ax_sI st q0 0 x1) fun st1 => ax_then (ax_sI st1 q0 2 (0 : Int32)) fun st2 => ax_then (ax_sI st2 q0 3 (0 : Int32)) fun st3 => fX6_start_L17 q0 4000 (0 : Int32) st3
def fX5_prepare_L150 : Nat → Int32 → ax_S → ax_R
  | 0, _, _ => none
  | n + 1, x3, st => if (st.1 2 0) ≤ x3 then (some (0, st)) else (ax_ldq [49, 52, 55, 58] x3 fun q6 => ax_ld st 4 4 x3 fun v7 => ax_bind (fX6_start q6 v7 st) fun r8 st9 => (fX5_prepare_L150 n) (x3 + (1 : Int32)) st9)
def fX5_prepare_b134 (rec17 : Int32 → Int32 → Int32 → ax_S → ax_R) (x1 : Int32) (x2 : Int32) (x3 : Int32) (st : ax_S) : ax_R := rec17 x1 x2 (x3 + (1 : Int32)) st
def fX5_prepare_b51 (rec17 : Int32 → Int32 → Int32 → ax_S → ax_R) (x1 : Int32) (x2 : Int32) (x3 : Int32) (s0 : Int32) (st : ax_S) : ax_R := if s0 = 0 then (fX5_prepare_b134 rec17 x1 x2 x3 st) else (ax_ld st 14 10 x3 fun v10 => if x1 ≤ v10 then (fX5_prepare_b134 rec17 x1 x2 x3 st) else (ax_then (ax_sI st 43 3 ((st.1 43 3) ||| ((1 : Int32) <<< (x3 &&& 31)))) fun st11 => ax_bind (fX0_isPending x3 st11) fun r12 st13 => if r12 = 0 then (ax_ld st13 15 10 x3 fun v14 => if x1 ≤ v14 then (fX5_prepare_b134 rec17 x1 x2 x3 st13) else (ax_then (ax_sI st13 43 4 ((st13.1 43 4) ||| ((1 : Int32) <<< (x3 &&& 31)))) fun st15 => ax_ld st15 16 10 x3 fun v16 => ax_sto st15 45 10 x3 v16 fun st17 => fX5_prepare_b134 rec17 x1 x2 x3 st17)) else (fX5_prepare_b134 rec17 x1 x2 x3 st13)))
def fX5_prepare_b46 (rec17 : Int32 → Int32 → Int32 → ax_S → ax_R) (x1 : Int32) (x2 : Int32) (x3 : Int32) (st : ax_S) : ax_R := fX5_prepare_b51 rec17 x1 x2 x3 (1 : Int32) st
def fX5_prepare_L17 : Nat → Int32 → Int32 → Int32 → ax_S → ax_R
  | 0, _, _, _, _ => none
  | n + 1, x1, x2, x3, st => if (st.1 5 4) ≤ x3 then (ax_then (ax_sI st 43 5 (st.1 43 4)) fun st4 => fX5_prepare_L150 4000 (0 : Int32) st4) else (if x2 = (-1 : Int32) then (fX5_prepare_b46 (fX5_prepare_L17 n) x1 x2 x3 st) else (ax_ld st 11 10 x3 fun v5 => if v5 = x2 then (fX5_prepare_b46 (fX5_prepare_L17 n) x1 x2 x3 st) else (fX5_prepare_b51 (fX5_prepare_L17 n) x1 x2 x3 (0 : Int32) st)))
def fX5_prepare (x1 : Int32) (x2 : Int32) (st : ax_S) : ax_R := ax_then (ax_sI st 43 3 (0 : Int32)) fun st1 => ax_then (ax_sI st1 43 4 (0 : Int32)) fun st2 => ax_then (ax_sI st2 43 12 (-1 : Int32)) fun st3 => fX5_prepare_L17 4000 x1 x2 (0 : Int32) st3
def fX5_keepRealTimeOrder_b56 (rec2 : Int32 → ax_S → ax_R) (rec22 : Int32 → Int32 → ax_S → ax_R) (x1 : Int32) (x2 : Int32) (st : ax_S) : ax_R := rec22 x1 (x2 + (1 : Int32)) st
def fX5_keepRealTimeOrder_L22 (rec2 : Int32 → ax_S → ax_R) : Nat → Int32 → Int32 → ax_S → ax_R
  | 0, _, _, _ => none
  | n + 1, x1, x2, st => if x1 ≤ x2 then (rec2 (x1 + (1 : Int32)) st) else (ax_bind (fX0_isBefore x2 x1 st) fun r2 st3 => if r2 = 0 then (fX5_keepRealTimeOrder_b56 rec2 (fX5_keepRealTimeOrder_L22 rec2 n) x1 x2 st3) else (ax_ld st3 46 10 x1 fun v4 => ax_sto st3 46 10 x1 (v4 ||| ((st3.1 43 3) &&& ((1 : Int32) <<< (x2 &&& 31)))) fun st5 => fX5_keepRealTimeOrder_b56 rec2 (fX5_keepRealTimeOrder_L22 rec2 n) x1 x2 st5))
def fX5_keepRealTimeOrder_L2 : Nat → Int32 → ax_S → ax_R
  | 0, _, _ => none
  | n + 1, x1, st => if (st.1 5 4) ≤ x1 then (some (0, st)) else (ax_sto st 46 10 x1 (0 : Int32) fun st1 => fX5_keepRealTimeOrder_L22 (fX5_keepRealTimeOrder_L2 n) 4000 x1 (0 : Int32) st1)
def fX5_keepRealTimeOrder (st : ax_S) : ax_R := fX5_keepRealTimeOrder_L2 4000 (0 : Int32) st
def fX5_noteFound_b53 (st : ax_S) : ax_R := some (0, st)
def fX5_noteFound (x1 : Int32) (st : ax_S) : ax_R := ax_then (ax_sI st 43 10 ((st.1 43 10) + (1 : Int32))) fun st1 => ax_then (ax_sI st1 43 9 x1) fun st2 => if (st2.1 43 12) = (-1 : Int32) then (fX5_noteFound_b53 st2) else (ax_bind (fX8_isBetween (st2.1 43 13) (-999 : Int32) (999 : Int32) st2) fun r3 st4 => if r3 = 0 then (fX5_noteFound_b53 st4) else (ax_sto st4 48 1999 ((st4.1 43 13) + (999 : Int32)) (vp_nar .boolean (1 : Int32)) fun st5 => fX5_noteFound_b53 st5))
def fX5_isOver_b19 (s0 : Int32) (st : ax_S) : ax_R := ax_rz s0 st
def fX5_isOver_b18 (st : ax_S) : ax_R := fX5_isOver_b19 (0 : Int32) st
def fX5_isOver (st : ax_S) : ax_R := if (st.1 43 11) = 0 then (fX5_isOver_b18 st) else (if (st.1 43 10) ≤ 0 then (fX5_isOver_b18 st) else (fX5_isOver_b19 (1 : Int32) st))
def fX5_mayFollow_b35 (s0 : Int32) (st : ax_S) : ax_R := ax_rz s0 st
def fX5_mayFollow_b34 (st : ax_S) : ax_R := fX5_mayFollow_b35 (0 : Int32) st
def fX5_mayFollow (x1 : Int32) (x2 : Int32) (st : ax_S) : ax_R := if (((st.1 43 3) &&& (x2 ^^^ (-1 : Int32))) &&& ((1 : Int32) <<< (x1 &&& 31))) = 0 then (fX5_mayFollow_b34 st) else (ax_ld st 46 10 x1 fun v1 => if (v1 &&& (x2 ^^^ (-1 : Int32))) = 0 then (fX5_mayFollow_b35 (1 : Int32) st) else (fX5_mayFollow_b34 st))
def fX6_changesElement (q0 : Nat) (x1 : Int32) (x2 : Int32) (st : ax_S) : ax_R := ax_ld st (q0 + 2) 100 x1 fun v1 => if v1 = x2 then (ax_rz (0 : Int32) st) else (ax_sto st (q0 + 2) 100 x1 (vp_nar .boolean x2) fun st2 => ax_rz (1 : Int32) st2)
def fX6_dequeue_b24 (q0 : Nat) (st : ax_S) : ax_R := some ((-1 : Int32), st)
def fX6_dequeue (q0 : Nat) (st : ax_S) : ax_R := if (st.1 q0 3) ≤ (st.1 q0 2) then (fX6_dequeue_b24 q0 st) else (ax_bind (fX8_isBetween (st.1 q0 2) (0 : Int32) (9 : Int32) st) fun r1 st2 => if r1 = 0 then (fX6_dequeue_b24 q0 st2) else (ax_then (ax_sI st2 q0 2 ((st2.1 q0 2) + (1 : Int32))) fun st3 => ax_ld st3 (q0 + 1) 10 ((st3.1 q0 2) - (1 : Int32)) fun v4 => some (v4, st3)))
def fX6_enqueue_b23 (q0 : Nat) (st : ax_S) : ax_R := ax_then (ax_sI st q0 3 ((st.1 q0 3) + (1 : Int32))) fun st4 => some ((0 : Int32), st4)
def fX6_enqueue (q0 : Nat) (x1 : Int32) (st : ax_S) : ax_R := ax_bind (fX8_isBetween (st.1 q0 3) (0 : Int32) (9 : Int32) st) fun r1 st2 => if r1 = 0 then (fX6_enqueue_b23 q0 st2) else (ax_sto st2 (q0 + 1) 10 (st2.1 q0 3) x1 fun st3 => fX6_enqueue_b23 q0 st3)
def fX6_compareAndSet (q0 : Nat) (x1 : Int32) (x2 : Int32) (st : ax_S) : ax_R := if (st.1 q0 0) = x1 then (ax_then (ax_sI st q0 0 x2) fun st1 => some ((1 : Int32), st1)) else (some ((0 : Int32), st))
def fX6_perform (q0 : Nat) (x1 : Int32) (x2 : Int32) (x3 : Int32) (st : ax_S) : ax_R := (if x1 = (1 : Int32) then (ax_then (ax_sI st q0 0 x2) fun st19 => some ((0 : Int32), st19)) else (if x1 = (2 : Int32) then (ax_bind (fX6_compareAndSet q0 x2 x3 st) fun r17 st18 => some (r17, st18)) else (if x1 = (3 : Int32) then (some ((st.1 q0 0), st)) else (if x1 = (4 : Int32) then (ax_then (ax_sI st q0 0 ((st.1 q0 0) + x2)) fun st16 => some (((st16.1 q0 0) - x2), st16)) else (if x1 = (5 : Int32) then (ax_bind (fX6_enqueue q0 x2 st) fun r14 st15 => some (r14, st15)) else (if x1 = (6 : Int32) then (ax_bind (fX6_dequeue q0 st) fun r12 st13 => some (r12, st13)) else (if x1 = (7 : Int32) then (ax_bind (fX6_changesElement q0 x2 (1 : Int32) st) fun r8 st9 => ax_bind (fX8_truth r8 st9) fun r10 st11 => some (r10, st11)) else (if x1 = (8 : Int32) then (ax_bind (fX6_changesElement q0 x2 (0 : Int32) st) fun r4 st5 => ax_bind (fX8_truth r4 st5) fun r6 st7 => some (r6, st7)) else (if x1 = (9 : Int32) then (ax_ld st (q0 + 2) 100 x2 fun v1 => ax_bind (fX8_truth v1 st) fun r2 st3 => some (r2, st3)) else (some ((st.1 q0 0), st)))))))))))
def fX5_agrees_b26 (s0 : Int32) (st : ax_S) : ax_R := ax_rz s0 st
def fX5_agrees_b21 (st : ax_S) : ax_R := fX5_agrees_b26 (1 : Int32) st
def fX5_agrees (x1 : Int32) (x2 : Int32) (st : ax_S) : ax_R := if ((st.1 43 5) &&& ((1 : Int32) <<< (x1 &&& 31))) = 0 then (fX5_agrees_b21 st) else (ax_ld st 45 10 x1 fun v1 => if v1 = x2 then (fX5_agrees_b21 st) else (fX5_agrees_b26 (0 : Int32) st))
def fX6_takeBack_b87 (q0 : Nat) (st : ax_S) : ax_R := some (0, st)
def fX6_takeBack_b69 (q0 : Nat) (x1 : Int32) (x2 : Int32) (x3 : Int32) (st : ax_S) : ax_R := if x1 = (8 : Int32) then (if x3 = (1 : Int32) then (ax_bind (fX6_changesElement q0 x2 (1 : Int32) st) fun r6 st7 => fX6_takeBack_b87 q0 st7) else (fX6_takeBack_b87 q0 st)) else (fX6_takeBack_b87 q0 st)
def fX6_takeBack_b48 (q0 : Nat) (x1 : Int32) (x2 : Int32) (x3 : Int32) (st : ax_S) : ax_R := if x1 = (7 : Int32) then (if x3 = (1 : Int32) then (ax_bind (fX6_changesElement q0 x2 (0 : Int32) st) fun r4 st5 => fX6_takeBack_b87 q0 st5) else (fX6_takeBack_b69 q0 x1 x2 x3 st)) else (fX6_takeBack_b69 q0 x1 x2 x3 st)
def fX6_takeBack (q0 : Nat) (x1 : Int32) (x2 : Int32) (x3 : Int32) (x4 : Int32) (st : ax_S) : ax_R := ax_then (ax_sI st q0 0 x4) fun st1 => if x1 = (5 : Int32) then (ax_then (ax_sI st1 q0 3 ((st1.1 q0 3) - (1 : Int32))) fun st2 => fX6_takeBack_b87 q0 st2) else (if x1 = (6 : Int32) then (if x3 = (-1 : Int32) then (fX6_takeBack_b48 q0 x1 x2 x3 st1) else (ax_then (ax_sI st1 q0 2 ((st1.1 q0 2) - (1 : Int32))) fun st3 => fX6_takeBack_b87 q0 st3)) else (fX6_takeBack_b48 q0 x1 x2 x3 st1))
def fX5_tryNext_b108 (rc : Int32 → Int32 → ax_S → ax_R) (q94 : Nat) (x5 : Int32) (x6 : Int32) (x7 : Int32) (x8 : Int32) (st : ax_S) : ax_R := ax_bind (fX6_takeBack q94 x5 x6 x8 x7 st) fun r14 st15 => some (0, st15)
def fX5_tryNext_b79 (rc : Int32 → Int32 → ax_S → ax_R) (x1 : Int32) (x2 : Int32) (x3 : Int32) (q94 : Nat) (x5 : Int32) (x6 : Int32) (x7 : Int32) (x8 : Int32) (st : ax_S) : ax_R := ax_bind (fX5_agrees x1 x8 st) fun r9 st10 => if r9 = 0 then (fX5_tryNext_b108 rc q94 x5 x6 x7 x8 st10) else (ax_sto st10 47 10 x3 x1 fun st11 => ax_bind (rc (x2 ||| ((1 : Int32) <<< (x1 &&& 31))) (x3 + (1 : Int32)) st11) fun r12 st13 => fX5_tryNext_b108 rc q94 x5 x6 x7 x8 st13)
def fX5_tryNext (rc : Int32 → Int32 → ax_S → ax_R) (x1 : Int32) (x2 : Int32) (x3 : Int32) (st : ax_S) : ax_R := ax_ld st 11 10 x1 fun v1 => ax_ldq [49, 52, 55, 58] v1 fun q2 => ax_ld st 9 10 x1 fun v3 => ax_ld st 12 10 x1 fun v4 => ax_ld st 13 10 x1 fun v5 => ax_bind (fX6_perform q2 v3 v4 v5 st) fun r6 st7 => if x1 = (st7.1 43 12) then (ax_then (ax_sI st7 43 13 r6) fun st8 => fX5_tryNext_b79 rc x1 x2 x3 q2 v3 v4 (st.1 q2 0) r6 st8) else (fX5_tryNext_b79 rc x1 x2 x3 q2 v3 v4 (st.1 q2 0) r6 st7)
def fX5_extend_b65 (rc : Int32 → Int32 → ax_S → ax_R) (st : ax_S) : ax_R := some (0, st)
def fX5_extend_b59 (rc : Int32 → Int32 → ax_S → ax_R) (rec25 : Int32 → Int32 → Int32 → ax_S → ax_R) (x1 : Int32) (x2 : Int32) (x3 : Int32) (st : ax_S) : ax_R := rec25 x1 x2 (x3 + (1 : Int32)) st
def fX5_extend_L25 (rc : Int32 → Int32 → ax_S → ax_R) : Nat → Int32 → Int32 → Int32 → ax_S → ax_R
  | 0, _, _, _, _ => none
  | n + 1, x1, x2, x3, st => if (st.1 5 4) ≤ x3 then (fX5_extend_b65 rc st) else (ax_bind (fX5_isOver  st) fun r3 st4 => if r3 = 0 then (ax_bind (fX5_mayFollow x3 x1 st4) fun r5 st6 => if r5 = 0 then (fX5_extend_b59 rc (fX5_extend_L25 rc n) x1 x2 x3 st6) else (ax_bind (fX5_tryNext rc x3 x1 x2 st6) fun r7 st8 => fX5_extend_b59 rc (fX5_extend_L25 rc n) x1 x2 x3 st8)) else (fX5_extend_b65 rc st4))
def fX5_extend_b16 (rc : Int32 → Int32 → ax_S → ax_R) (x1 : Int32) (x2 : Int32) (st : ax_S) : ax_R := if x2 < (10 : Int32) then (fX5_extend_L25 rc 4000 x1 x2 (0 : Int32) st) else (some (0, st))
def fX5_extend_o (rc : Int32 → Int32 → ax_S → ax_R) (x1 : Int32) (x2 : Int32) (st : ax_S) : ax_R := if ((st.1 43 4) &&& (x1 ^^^ (-1 : Int32))) = 0 then (ax_bind (fX5_noteFound x2 st) fun r1 st2 => fX5_extend_b16 rc x1 x2 st2) else (fX5_extend_b16 rc x1 x2 st)
def fX5_extend : Nat → Int32 → Int32 → ax_S → ax_R
  | 0, _, _, _ => none
  | n + 1, x1, x2, st => fX5_extend_o (fX5_extend n) x1 x2 st
def fX5_findsOne_b28 (s0 : Int32) (st : ax_S) : ax_R := ax_rz s0 st
def fX5_findsOne (st : ax_S) : ax_R := ax_putz st 43 11 (1 : Int32) fun st1 => ax_then (ax_sI st1 43 10 (0 : Int32)) fun st2 => ax_bind (fX5_extend 12 (0 : Int32) (0 : Int32) st2) fun r3 st4 => if (st4.1 43 10) ≤ 0 then (fX5_findsOne_b28 (0 : Int32) st4) else (fX5_findsOne_b28 (1 : Int32) st4)
def fX8_isPrefixLinearizable (x1 : Int32) (st : ax_S) : ax_R := ax_bind (fX5_prepare x1 (-1 : Int32) st) fun r1 st2 => ax_bind (fX5_keepRealTimeOrder  st2) fun r3 st4 => ax_bind (fX5_findsOne  st4) fun r5 st6 => ax_rz r5 st6
def fX8_isLinearizable (st : ax_S) : ax_R := ax_bind (fX8_isPrefixLinearizable (st.1 5 0) st) fun r1 st2 => ax_bind (fX8_truth r1 st2) fun r3 st4 => some (r3, st4)
def fX8_isObjectLinearizable (x1 : Int32) (st : ax_S) : ax_R := ax_bind (fX1_has x1 st) fun r1 st2 => if r1 = 0 then (some ((-2 : Int32), st2)) else (ax_bind (fX5_prepare (st2.1 5 0) x1 st2) fun r3 st4 => ax_bind (fX5_keepRealTimeOrder  st4) fun r5 st6 => ax_bind (fX5_findsOne  st6) fun r7 st8 => ax_bind (fX8_truth r7 st8) fun r9 st10 => some (r9, st10))
def fX5_keepThreadOrder_b65 (rec2 : Int32 → ax_S → ax_R) (rec22 : Int32 → Int32 → ax_S → ax_R) (x1 : Int32) (x2 : Int32) (st : ax_S) : ax_R := rec22 x1 (x2 + (1 : Int32)) st
def fX5_keepThreadOrder_L22 (rec2 : Int32 → ax_S → ax_R) : Nat → Int32 → Int32 → ax_S → ax_R
  | 0, _, _, _ => none
  | n + 1, x1, x2, st => if x1 ≤ x2 then (rec2 (x1 + (1 : Int32)) st) else (ax_ld st 10 10 x2 fun v2 => ax_ld st 10 10 x1 fun v3 => if v2 = v3 then (ax_ld st 46 10 x1 fun v4 => ax_sto st 46 10 x1 (v4 ||| ((st.1 43 3) &&& ((1 : Int32) <<< (x2 &&& 31)))) fun st5 => fX5_keepThreadOrder_b65 rec2 (fX5_keepThreadOrder_L22 rec2 n) x1 x2 st5) else (fX5_keepThreadOrder_b65 rec2 (fX5_keepThreadOrder_L22 rec2 n) x1 x2 st))
def fX5_keepThreadOrder_L2 : Nat → Int32 → ax_S → ax_R
  | 0, _, _ => none
  | n + 1, x1, st => if (st.1 5 4) ≤ x1 then (some (0, st)) else (ax_sto st 46 10 x1 (0 : Int32) fun st1 => fX5_keepThreadOrder_L22 (fX5_keepThreadOrder_L2 n) 4000 x1 (0 : Int32) st1)
def fX5_keepThreadOrder (st : ax_S) : ax_R := fX5_keepThreadOrder_L2 4000 (0 : Int32) st
def fX8_isSequentiallyConsistent (st : ax_S) : ax_R := ax_bind (fX5_prepare (st.1 5 0) (-1 : Int32) st) fun r1 st2 => ax_bind (fX5_keepThreadOrder  st2) fun r3 st4 => ax_bind (fX5_findsOne  st4) fun r5 st6 => ax_bind (fX8_truth r5 st6) fun r7 st8 => some (r7, st8)
def fX8_prepareWholeHistory (st : ax_S) : ax_R := ax_bind (fX5_prepare (st.1 5 0) (-1 : Int32) st) fun r1 st2 => ax_bind (fX5_keepRealTimeOrder  st2) fun r3 st4 => some (0, st4)
def fX5_countAll (st : ax_S) : ax_R := ax_putz st 43 11 (0 : Int32) fun st1 => ax_then (ax_sI st1 43 10 (0 : Int32)) fun st2 => ax_bind (fX5_extend 12 (0 : Int32) (0 : Int32) st2) fun r3 st4 => some ((st4.1 43 10), st4)
def fX8_countLinearizations (st : ax_S) : ax_R := ax_bind (fX8_prepareWholeHistory  st) fun r1 st2 => ax_bind (fX5_countAll  st2) fun r3 st4 => some (r3, st4)
def fX8_firstLinearizationLength (st : ax_S) : ax_R := ax_bind (fX8_prepareWholeHistory  st) fun r1 st2 => ax_bind (fX5_findsOne  st2) fun r3 st4 => if r3 = 0 then (some ((-10 : Int32), st4)) else (some ((st4.1 43 9), st4))
def fX8_firstLinearizationAt_b31 (st : ax_S) : ax_R := some ((-10 : Int32), st)
def fX8_firstLinearizationAt (x1 : Int32) (st : ax_S) : ax_R := ax_bind (fX8_prepareWholeHistory  st) fun r1 st2 => ax_bind (fX5_findsOne  st2) fun r3 st4 => if r3 = 0 then (fX8_firstLinearizationAt_b31 st4) else (ax_bind (fX8_isBetween x1 (0 : Int32) ((st4.1 43 9) - (1 : Int32)) st4) fun r5 st6 => if r5 = 0 then (fX8_firstLinearizationAt_b31 st6) else (ax_ld st6 47 10 x1 fun v7 => some (v7, st6)))
def fX0_endsWithResponse_b29 (s0 : Int32) (st : ax_S) : ax_R := ax_rz s0 st
def fX0_endsWithResponse_b28 (st : ax_S) : ax_R := fX0_endsWithResponse_b29 (0 : Int32) st
def fX0_endsWithResponse (x1 : Int32) (st : ax_S) : ax_R := ax_bind (fX8_isBetween x1 (1 : Int32) (st.1 5 0) st) fun r1 st2 => if r1 = 0 then (fX0_endsWithResponse_b28 st2) else (ax_ld st2 6 24 (x1 - (1 : Int32)) fun v3 => if v3 = (1 : Int32) then (fX0_endsWithResponse_b29 (1 : Int32) st2) else (fX0_endsWithResponse_b28 st2))
def fX8_firstViolation_b40 (rec2 : Int32 → ax_S → ax_R) (x1 : Int32) (st : ax_S) : ax_R := rec2 (x1 + (1 : Int32)) st
def fX8_firstViolation_L2 : Nat → Int32 → ax_S → ax_R
  | 0, _, _ => none
  | n + 1, x1, st => if (st.1 5 0) < x1 then (some ((-10 : Int32), st)) else (ax_bind (fX0_endsWithResponse x1 st) fun r1 st2 => if r1 = 0 then (fX8_firstViolation_b40 (fX8_firstViolation_L2 n) x1 st2) else (ax_bind (fX8_isPrefixLinearizable x1 st2) fun r3 st4 => if r3 = 0 then (some (x1, st4)) else (fX8_firstViolation_b40 (fX8_firstViolation_L2 n) x1 st4)))
def fX8_firstViolation (st : ax_S) : ax_R := fX8_firstViolation_L2 4000 (1 : Int32) st
def fX5_requireResult (x1 : Int32) (x2 : Int32) (st : ax_S) : ax_R := ax_then (ax_sI st 43 4 ((st.1 43 4) ||| ((1 : Int32) <<< (x1 &&& 31)))) fun st1 => ax_then (ax_sI st1 43 5 ((st1.1 43 5) ||| ((1 : Int32) <<< (x1 &&& 31)))) fun st2 => ax_sto st2 45 10 x1 x2 fun st3 => some (0, st3)
def fX8_canRespond (x1 : Int32) (x2 : Int32) (st : ax_S) : ax_R := ax_bind (fX8_responseError x1 x2 st) fun r1 st2 => if r1 = 0 then (ax_bind (fX8_prepareWholeHistory  st2) fun r3 st4 => ax_ld st4 17 4 x1 fun v5 => ax_bind (fX5_requireResult v5 x2 st4) fun r6 st7 => ax_bind (fX5_findsOne  st7) fun r8 st9 => ax_bind (fX8_truth r8 st9) fun r10 st11 => some (r10, st11)) else (some (r1, st2))
def fX5_countResults_b78 (rec55 : Int32 → Int32 → Int32 → ax_S → ax_R) (x3 : Int32) (x4 : Int32) (x5 : Int32) (st : ax_S) : ax_R := rec55 x3 x4 (x5 + (1 : Int32)) st
def fX5_countResults_L55 : Nat → Int32 → Int32 → Int32 → ax_S → ax_R
  | 0, _, _, _, _ => none
  | n + 1, x3, x4, x5, st => if x3 < x5 then (some (x4, st)) else (ax_ld st 48 1999 (x5 + (999 : Int32)) fun v6 => if v6 = 0 then (fX5_countResults_b78 (fX5_countResults_L55 n) x3 x4 x5 st) else (fX5_countResults_b78 (fX5_countResults_L55 n) x3 (x4 + (1 : Int32)) x5 st))
def fX5_countResults_L3 : Nat → Int32 → Int32 → Int32 → Int32 → ax_S → ax_R
  | 0, _, _, _, _, _ => none
  | n + 1, x1, x2, x3, x4, st => if (1999 : Int32) ≤ x4 then (ax_then (ax_sI st 43 4 ((st.1 43 4) ||| ((1 : Int32) <<< (x1 &&& 31)))) fun st1 => ax_then (ax_sI st1 43 12 x1) fun st2 => ax_bind (fX5_countAll  st2) fun r3 st4 => fX5_countResults_L55 4000 x3 (0 : Int32) x2 st4) else (ax_sto st 48 1999 x4 (vp_nar .boolean (0 : Int32)) fun st5 => (fX5_countResults_L3 n) x1 x2 x3 (x4 + (1 : Int32)) st5)
def fX5_countResults (x1 : Int32) (x2 : Int32) (x3 : Int32) (st : ax_S) : ax_R := fX5_countResults_L3 4000 x1 x2 x3 (0 : Int32) st
def fX8_countResponses (x1 : Int32) (st : ax_S) : ax_R := ax_bind (fX8_waitingError x1 st) fun r1 st2 => if r1 = 0 then (ax_ld st2 17 4 x1 fun v3 => ax_ld st2 9 10 v3 fun v4 => ax_bind (fX8_prepareWholeHistory  st2) fun r5 st6 => ax_bind (fX8_lowestResult v4 st6) fun r7 st8 => ax_bind (fX8_highestResult v4 st8) fun r9 st10 => ax_bind (fX5_countResults v3 r7 r9 st10) fun r11 st12 => some (r11, st12)) else (some (r1, st2))
def fX2_positionOf_L2 : Nat → Int32 → Int32 → ax_S → ax_R
  | 0, _, _, _ => none
  | n + 1, x1, x2, st => if (st.1 20 0) ≤ x2 then (some ((-1 : Int32), st)) else (ax_ld st 21 10 x2 fun v1 => if v1 = x1 then (some (x2, st)) else ((fX2_positionOf_L2 n) x1 (x2 + (1 : Int32)) st))
def fX2_positionOf (x1 : Int32) (st : ax_S) : ax_R := fX2_positionOf_L2 4000 x1 (0 : Int32) st
def fX2_append_b29 (st : ax_S) : ax_R := some (0, st)
def fX2_append (x1 : Int32) (st : ax_S) : ax_R := if (10 : Int32) ≤ (st.1 20 0) then (fX2_append_b29 st) else (ax_sto st 21 10 (st.1 20 0) x1 fun st1 => ax_then (ax_sI st1 20 0 ((st1.1 20 0) + (1 : Int32))) fun st2 => fX2_append_b29 st2)
def fX8_appendToOrder (x1 : Int32) (st : ax_S) : ax_R := ax_bind (fX0_has x1 st) fun r1 st2 => if r1 = 0 then (some ((-9 : Int32), st2)) else (ax_bind (fX2_positionOf x1 st2) fun r3 st4 => if r3 = (-1 : Int32) then (ax_bind (fX2_append x1 st4) fun r5 st6 => some ((st6.1 20 0), st6)) else (some ((-12 : Int32), st4)))
def fX2_removeAt_L27 : Nat → Int32 → ax_S → ax_R
  | 0, _, _ => none
  | n + 1, x2, st => if (st.1 20 0) ≤ x2 then (some (0, st)) else (ax_ld st 21 10 (x2 + (1 : Int32)) fun v4 => ax_sto st 21 10 x2 v4 fun st5 => (fX2_removeAt_L27 n) (x2 + (1 : Int32)) st5)
def fX2_removeAt (x1 : Int32) (st : ax_S) : ax_R := ax_bind (fX8_isBetween x1 (0 : Int32) ((st.1 20 0) - (1 : Int32)) st) fun r1 st2 => if r1 = 0 then (some (0, st2)) else (ax_then (ax_sI st2 20 0 ((st2.1 20 0) - (1 : Int32))) fun st3 => fX2_removeAt_L27 4000 x1 st3)
def fX8_removeFromOrder (x1 : Int32) (st : ax_S) : ax_R := ax_bind (fX0_has x1 st) fun r1 st2 => if r1 = 0 then (some ((-9 : Int32), st2)) else (ax_bind (fX2_positionOf x1 st2) fun r3 st4 => if r3 = (-1 : Int32) then (some ((-10 : Int32), st4)) else (ax_bind (fX2_removeAt r3 st4) fun r5 st6 => some (r3, st6)))
def fX8_orderSize (st : ax_S) : ax_R := some ((st.1 20 0), st)
def fX8_orderAt (x1 : Int32) (st : ax_S) : ax_R := ax_bind (fX8_isBetween x1 (0 : Int32) ((st.1 20 0) - (1 : Int32)) st) fun r1 st2 => if r1 = 0 then (some ((-10 : Int32), st2)) else (ax_ld st2 21 10 x1 fun v3 => some (v3, st2))
def fX5_coversRequired_b43 (s0 : Int32) (st : ax_S) : ax_R := ax_rz s0 st
def fX5_coversRequired_L7 : Nat → Int32 → Int32 → ax_S → ax_R
  | 0, _, _, _ => none
  | n + 1, x2, x3, st => if (st.1 20 0) ≤ x3 then (if x2 = 0 then (fX5_coversRequired_b43 (1 : Int32) st) else (fX5_coversRequired_b43 (0 : Int32) st)) else (ax_ld st 21 10 x3 fun v1 => (fX5_coversRequired_L7 n) (x2 &&& (((1 : Int32) <<< (v1 &&& 31)) ^^^ (-1 : Int32))) (x3 + (1 : Int32)) st)
def fX5_coversRequired (st : ax_S) : ax_R := fX5_coversRequired_L7 4000 (st.1 43 4) (0 : Int32) st
def fX5_resultOfNext (x1 : Int32) (st : ax_S) : ax_R := ax_ld st 11 10 x1 fun v1 => ax_ldq [49, 52, 55, 58] v1 fun q2 => ax_ld st 9 10 x1 fun v3 => ax_ld st 12 10 x1 fun v4 => ax_ld st 13 10 x1 fun v5 => ax_bind (fX6_perform q2 v3 v4 v5 st) fun r6 st7 => some (r6, st7)
def fX5_badPosition_b45 (x3 : Int32) (st : ax_S) : ax_R := some (x3, st)
def fX5_badPosition_L4 : Nat → Int32 → Int32 → ax_S → ax_R
  | 0, _, _, _ => none
  | n + 1, x2, x3, st => if (st.1 20 0) ≤ x3 then (some ((-1 : Int32), st)) else (ax_ld st 21 10 x3 fun v1 => ax_bind (fX5_mayFollow v1 x2 st) fun r2 st3 => if r2 = 0 then (fX5_badPosition_b45 x3 st3) else (ax_bind (fX5_resultOfNext v1 st3) fun r4 st5 => ax_bind (fX5_agrees v1 r4 st5) fun r6 st7 => if r6 = 0 then (fX5_badPosition_b45 x3 st7) else ((fX5_badPosition_L4 n) (x2 ||| ((1 : Int32) <<< (v1 &&& 31))) (x3 + (1 : Int32)) st7)))
def fX5_badPosition (st : ax_S) : ax_R := fX5_badPosition_L4 4000 (0 : Int32) (0 : Int32) st
def fX8_isOrderLinearization_b44 (s0 : Int32) (st : ax_S) : ax_R := ax_bind (fX8_truth s0 st) fun r7 st8 => some (r7, st8)
def fX8_isOrderLinearization_b43 (st : ax_S) : ax_R := fX8_isOrderLinearization_b44 (0 : Int32) st
def fX8_isOrderLinearization (st : ax_S) : ax_R := ax_bind (fX8_prepareWholeHistory  st) fun r1 st2 => ax_bind (fX5_coversRequired  st2) fun r3 st4 => if r3 = 0 then (fX8_isOrderLinearization_b43 st4) else (ax_bind (fX5_badPosition  st4) fun r5 st6 => if r5 = (-1 : Int32) then (fX8_isOrderLinearization_b44 (1 : Int32) st6) else (fX8_isOrderLinearization_b43 st6))
def fX8_firstBadPosition_b30 (s0 : Int32) (st : ax_S) : ax_R := some (s0, st)
def fX8_firstBadPosition (st : ax_S) : ax_R := ax_bind (fX8_prepareWholeHistory  st) fun r1 st2 => ax_bind (fX5_badPosition  st2) fun r3 st4 => if r3 = (-1 : Int32) then (fX8_firstBadPosition_b30 (-10 : Int32) st4) else (fX8_firstBadPosition_b30 r3 st4)
def fX7_append_b29 (st : ax_S) : ax_R := some (0, st)
def fX7_append (x1 : Int32) (st : ax_S) : ax_R := if (120 : Int32) ≤ (st.1 61 0) then (fX7_append_b29 st) else (ax_sto st 62 120 (st.1 61 0) (vp_nar .char x1) fun st1 => ax_then (ax_sI st1 61 0 ((st1.1 61 0) + (1 : Int32))) fun st2 => fX7_append_b29 st2)
def fX8_appendCharacter (x1 : Int32) (st : ax_S) : ax_R := ax_bind (fX8_isBetween x1 (32 : Int32) (126 : Int32) st) fun r1 st2 => if r1 = 0 then (some ((-4 : Int32), st2)) else (if (st2.1 61 0) < (120 : Int32) then (ax_bind (fX7_append (ax_c16 x1) st2) fun r3 st4 => some ((st4.1 61 0), st4)) else (some ((-8 : Int32), st2)))
def fX7_empty (st : ax_S) : ax_R := ax_then (ax_sI st 61 0 (0 : Int32)) fun st1 => some (0, st1)
def fX8_clearText (st : ax_S) : ax_R := ax_bind (fX7_empty  st) fun r1 st2 => some ((st.1 61 0), st2)
def fX3_isNextDigit_b47 (s0 : Int32) (st : ax_S) : ax_R := ax_rz s0 st
def fX3_isNextDigit_b46 (st : ax_S) : ax_R := fX3_isNextDigit_b47 (0 : Int32) st
def fX3_isNextDigit (st : ax_S) : ax_R := ax_bind (fX8_isBetween (st.1 63 8) (0 : Int32) ((st.1 61 0) - (1 : Int32)) st) fun r1 st2 => if r1 = 0 then (fX3_isNextDigit_b46 st2) else (ax_ld st2 62 120 (st2.1 63 8) fun v3 => ax_bind (fX8_isBetween v3 (48 : Int32) (57 : Int32) st2) fun r4 st5 => if r4 = 0 then (fX3_isNextDigit_b46 st5) else (fX3_isNextDigit_b47 (1 : Int32) st5))
def fX3_takeDigit_b14 (st : ax_S) : ax_R := ax_putz st 63 9 (1 : Int32) fun st5 => some ((0 : Int32), st5)
def fX3_takeDigit (st : ax_S) : ax_R := if (st.1 63 9) = 0 then (ax_bind (fX3_isNextDigit  st) fun r1 st2 => if r1 = 0 then (fX3_takeDigit_b14 st2) else (ax_then (ax_sI st2 63 8 ((st2.1 63 8) + (1 : Int32))) fun st3 => ax_ld st3 62 120 ((st3.1 63 8) - (1 : Int32)) fun v4 => some ((v4 - (48 : Int32)), st3))) else (fX3_takeDigit_b14 st)
def fX3_isAt_b35 (s0 : Int32) (st : ax_S) : ax_R := ax_rz s0 st
def fX3_isAt_b34 (st : ax_S) : ax_R := fX3_isAt_b35 (0 : Int32) st
def fX3_isAt (x1 : Int32) (x2 : Int32) (st : ax_S) : ax_R := ax_bind (fX8_isBetween x1 (0 : Int32) ((st.1 61 0) - (1 : Int32)) st) fun r1 st2 => if r1 = 0 then (fX3_isAt_b34 st2) else (ax_ld st2 62 120 x1 fun v3 => if v3 = x2 then (fX3_isAt_b35 (1 : Int32) st2) else (fX3_isAt_b34 st2))
def fX3_isNext (x1 : Int32) (st : ax_S) : ax_R := ax_bind (fX3_isAt (st.1 63 8) x1 st) fun r1 st2 => ax_rz r1 st2
def fX3_take_b19 (st : ax_S) : ax_R := ax_putz st 63 9 (1 : Int32) fun st4 => some (0, st4)
def fX3_take (x1 : Int32) (st : ax_S) : ax_R := if (st.1 63 9) = 0 then (ax_bind (fX3_isAt (st.1 63 8) x1 st) fun r1 st2 => if r1 = 0 then (fX3_take_b19 st2) else (ax_then (ax_sI st2 63 8 ((st2.1 63 8) + (1 : Int32))) fun st3 => some (0, st3))) else (fX3_take_b19 st)
def fX8_nameOf (x0 : Int32) (st : ax_S) : ax_R := (if x0 = (0 : Int32) then (some (0, st)) else (if x0 = (1 : Int32) then (some (1, st)) else (if x0 = (2 : Int32) then (some (2, st)) else (if x0 = (3 : Int32) then (some (3, st)) else (if x0 = (4 : Int32) then (some (4, st)) else (if x0 = (5 : Int32) then (some (5, st)) else (if x0 = (6 : Int32) then (some (6, st)) else (if x0 = (7 : Int32) then (some (7, st)) else (if x0 = (8 : Int32) then (some (8, st)) else (some (9, st)))))))))))
def fX3_agreeingCharacters_b34 (x1 : Int32) (x2 : Int32) (st : ax_S) : ax_R := some (x2, st)
def fX3_agreeingCharacters_L2 (x1 : Int32) : Nat → Int32 → ax_S → ax_R
  | 0, _, _ => none
  | n + 1, x2, st => ax_bind (fJ_length x1 st) fun r1 st2 => if r1 ≤ x2 then (fX3_agreeingCharacters_b34 x1 x2 st2) else (ax_bind (fJ_charAt x1 x2 st2) fun r3 st4 => ax_bind (fX3_isAt ((st2.1 63 8) + x2) r3 st4) fun r5 st6 => if r5 = 0 then (fX3_agreeingCharacters_b34 x1 x2 st6) else ((fX3_agreeingCharacters_L2 x1 n) (x2 + (1 : Int32)) st6))
def fX3_agreeingCharacters (x1 : Int32) (st : ax_S) : ax_R := fX3_agreeingCharacters_L2 x1 4000 (0 : Int32) st
def fX3_takeName_b86 (st : ax_S) : ax_R := some ((0 : Int32), st)
def fX3_takeName_b51 (rec4 : Int32 → Int32 → ax_S → ax_R) (x1 : Int32) (x2 : Int32) (x4 : Int32) (st : ax_S) : ax_R := rec4 (ax_mx x1 x4) (x2 + (1 : Int32)) st
def fX3_takeName_L4 : Nat → Int32 → Int32 → ax_S → ax_R
  | 0, _, _, _ => none
  | n + 1, x1, x2, st => if (9 : Int32) < x2 then (if (st.1 63 9) = 0 then (ax_then (ax_sI st 63 8 ((st.1 63 8) + x1)) fun st1 => ax_putz st1 63 9 (1 : Int32) fun st2 => fX3_takeName_b86 st2) else (fX3_takeName_b86 st)) else (ax_bind (fX8_nameOf x2 st) fun r3 st4 => ax_bind (fX3_agreeingCharacters r3 st4) fun r5 st6 => ax_bind (fJ_length r3 st6) fun r7 st8 => if r5 = r7 then (if (st8.1 63 9) = 0 then (ax_then (ax_sI st8 63 8 ((st8.1 63 8) + r5)) fun st9 => some (x2, st9)) else (fX3_takeName_b51 (fX3_takeName_L4 n) x1 x2 r5 st8)) else (fX3_takeName_b51 (fX3_takeName_L4 n) x1 x2 r5 st8))
def fX3_takeName (st : ax_S) : ax_R := fX3_takeName_L4 4000 (0 : Int32) (0 : Int32) st
def fX8_argumentCount (x0 : Int32) (st : ax_S) : ax_R := (if x0 = (0 : Int32) then (some ((0 : Int32), st)) else (if x0 = (1 : Int32) then (some ((1 : Int32), st)) else (if x0 = (2 : Int32) then (some ((2 : Int32), st)) else (if x0 = (3 : Int32) then (some ((0 : Int32), st)) else (if x0 = (4 : Int32) then (some ((1 : Int32), st)) else (if x0 = (5 : Int32) then (some ((1 : Int32), st)) else (if x0 = (6 : Int32) then (some ((0 : Int32), st)) else (some ((1 : Int32), st)))))))))
def fX3_takeNumber_b62 (s0 : Int32) (st : ax_S) : ax_R := some (s0, st)
def fX3_takeNumber_b52 (x1 : Int32) (x2 : Int32) (st : ax_S) : ax_R := if x1 = 0 then (fX3_takeNumber_b62 x2 st) else (fX3_takeNumber_b62 (-x2) st)
def fX3_takeNumber_L24 : Nat → Int32 → Int32 → Int32 → ax_S → ax_R
  | 0, _, _, _, _ => none
  | n + 1, x1, x2, x3, st => if (3 : Int32) ≤ x3 then (fX3_takeNumber_b52 x1 x2 st) else (ax_bind (fX3_isNextDigit  st) fun r7 st8 => if r7 = 0 then (fX3_takeNumber_b52 x1 x2 st8) else (ax_bind (fX3_takeDigit  st8) fun r9 st10 => (fX3_takeNumber_L24 n) x1 ((x2 * (10 : Int32)) + r9) (x3 + (1 : Int32)) st10))
def fX3_takeNumber_b17 (x1 : Int32) (st : ax_S) : ax_R := ax_bind (fX3_takeDigit  st) fun r5 st6 => fX3_takeNumber_L24 4000 x1 r5 (1 : Int32) st6
def fX3_takeNumber (st : ax_S) : ax_R := ax_bind (fX3_isNext (45 : Int32) st) fun r1 st2 => if r1 = 0 then (fX3_takeNumber_b17 r1 st2) else (ax_bind (fX3_take (45 : Int32) st2) fun r3 st4 => fX3_takeNumber_b17 r1 st4)
def fX3_takeInvocation_b84 (st : ax_S) : ax_R := ax_bind (fX3_take (41 : Int32) st) fun r24 st25 => some (0, st25)
def fX3_takeInvocation_b63 (x1 : Int32) (x2 : Int32) (st : ax_S) : ax_R := if x2 < (2 : Int32) then (fX3_takeInvocation_b84 st) else (ax_bind (fX3_take (44 : Int32) st) fun r19 st20 => ax_bind (fX3_takeNumber  st20) fun r21 st22 => ax_sto st22 69 60 x1 r21 fun st23 => fX3_takeInvocation_b84 st23)
def fX3_takeInvocation (x1 : Int32) (st : ax_S) : ax_R := ax_bind (fX3_take (46 : Int32) st) fun r1 st2 => ax_bind (fX3_takeDigit  st2) fun r3 st4 => ax_sto st4 66 60 x1 r3 fun st5 => ax_bind (fX3_take (46 : Int32) st5) fun r6 st7 => ax_bind (fX3_takeName  st7) fun r8 st9 => ax_sto st9 67 60 x1 r8 fun st10 => ax_bind (fX3_take (40 : Int32) st10) fun r11 st12 => ax_ld st12 67 60 x1 fun v13 => ax_bind (fX8_argumentCount v13 st12) fun r14 st15 => if r14 < (1 : Int32) then (fX3_takeInvocation_b63 x1 r14 st15) else (ax_bind (fX3_takeNumber  st15) fun r16 st17 => ax_sto st17 68 60 x1 r16 fun st18 => fX3_takeInvocation_b63 x1 r14 st18)
def fX3_takeCommand_b127 (st : ax_S) : ax_R := ax_then (ax_sI st 63 0 ((st.1 63 0) + (1 : Int32))) fun st25 => some (0, st25)
def fX3_takeCommand (st : ax_S) : ax_R := if (st.1 63 0) < (60 : Int32) then (ax_bind (fX3_takeDigit  st) fun r1 st2 => ax_sto st2 65 60 (st.1 63 0) r1 fun st3 => ax_sto st3 66 60 (st.1 63 0) (0 : Int32) fun st4 => ax_sto st4 67 60 (st.1 63 0) (0 : Int32) fun st5 => ax_sto st5 68 60 (st.1 63 0) (0 : Int32) fun st6 => ax_sto st6 69 60 (st.1 63 0) (0 : Int32) fun st7 => ax_bind (fX3_isNext (33 : Int32) st7) fun r8 st9 => if r8 = 0 then (ax_bind (fX3_isNext (61 : Int32) st9) fun r10 st11 => if r10 = 0 then (ax_sto st11 64 60 (st.1 63 0) (0 : Int32) fun st12 => ax_bind (fX3_takeInvocation (st.1 63 0) st12) fun r13 st14 => fX3_takeCommand_b127 st14) else (ax_sto st11 64 60 (st.1 63 0) (1 : Int32) fun st15 => ax_bind (fX3_take (61 : Int32) st15) fun r16 st17 => ax_bind (fX3_takeNumber  st17) fun r18 st19 => ax_sto st19 68 60 (st.1 63 0) r18 fun st20 => fX3_takeCommand_b127 st20)) else (ax_sto st9 64 60 (st.1 63 0) (2 : Int32) fun st21 => ax_bind (fX3_take (33 : Int32) st21) fun r22 st23 => fX3_takeCommand_b127 st23)) else (ax_putz st 63 9 (1 : Int32) fun st24 => some (0, st24))
def fX3_readsAll_b76 (s0 : Int32) (st : ax_S) : ax_R := ax_rz s0 st
def fX3_readsAll_b64 (st : ax_S) : ax_R := if (st.1 63 9) = 0 then (fX3_readsAll_b76 (1 : Int32) st) else (fX3_readsAll_b76 (0 : Int32) st)
def fX3_readsAll_L21 : Nat → Int32 → ax_S → ax_R
  | 0, _, _ => none
  | n + 1, x1, st => if (60 : Int32) ≤ x1 then (fX3_readsAll_b64 st) else (if (st.1 63 9) = 0 then (if (st.1 61 0) ≤ (st.1 63 8) then (fX3_readsAll_b64 st) else (ax_bind (fX3_take (59 : Int32) st) fun r6 st7 => ax_bind (fX3_takeCommand  st7) fun r8 st9 => (fX3_readsAll_L21 n) (x1 + (1 : Int32)) st9)) else (fX3_readsAll_b64 st))
def fX3_readsAll (st : ax_S) : ax_R := ax_then (ax_sI st 63 0 (0 : Int32)) fun st1 => ax_then (ax_sI st1 63 8 (0 : Int32)) fun st2 => ax_putz st2 63 9 (0 : Int32) fun st3 => ax_bind (fX3_takeCommand  st3) fun r4 st5 => fX3_readsAll_L21 4000 (1 : Int32) st5
def fX8_execute (x1 : Int32) (st : ax_S) : ax_R := ax_ld st 65 60 x1 fun v1 => ax_ld st 68 60 x1 fun v2 => ax_ld st 69 60 x1 fun v3 => ax_ld st 64 60 x1 fun v4 => (if v4 = (1 : Int32) then (ax_bind (fX8_respond v1 v2 st) fun r11 st12 => some (r11, st12)) else (if v4 = (2 : Int32) then (ax_bind (fX8_crash v1 st) fun r9 st10 => some (r9, st10)) else (ax_ld st 67 60 x1 fun v5 => ax_ld st 66 60 x1 fun v6 => ax_bind (fX8_invoke v5 v1 v6 v2 v3 st) fun r7 st8 => some (r7, st8))))
def fX8_parseText_L33 : Nat → Int32 → ax_S → ax_R
  | 0, _, _ => none
  | n + 1, x2, st => if (st.1 63 0) ≤ x2 then (some ((st.1 63 0), st)) else (ax_bind (fX8_execute x2 st) fun r5 st6 => if 0 ≤ r5 then ((fX8_parseText_L33 n) (x2 + (1 : Int32)) st6) else (some (((-2000 : Int32) - x2), st6)))
def fX8_parseText (st : ax_S) : ax_R := ax_bind (fX3_readsAll  st) fun r1 st2 => ax_bind (fX7_empty  st2) fun r3 st4 => if r1 = 0 then (some (((-1000 : Int32) - (st4.1 63 8)), st4)) else (fX8_parseText_L33 4000 (0 : Int32) st4)
def fX1_copyObjects (st : ax_S) : ax_R := ax_then (ax_sI st 23 0 (st.1 2 0)) fun st1 => ax_cpy st1 3 4 24 4 (0 : Int32) (0 : Int32) (4 : Int32) fun st2 => ax_cpy st2 4 4 25 4 (0 : Int32) (0 : Int32) (4 : Int32) fun st3 => some (0, st3)
def fX0_copyHistory_L197 : Nat → Int32 → ax_S → ax_R
  | 0, _, _ => none
  | n + 1, x2, st => if (4 : Int32) ≤ x2 then (some (0, st)) else (ax_ld st 18 4 x2 fun v15 => ax_sto st 39 4 x2 (vp_nar .boolean v15) fun st16 => (fX0_copyHistory_L197 n) (x2 + (1 : Int32)) st16)
def fX0_copyHistory (st : ax_S) : ax_R := ax_then (ax_sI st 26 0 (st.1 5 0)) fun st1 => ax_cpy st1 6 24 27 24 (0 : Int32) (0 : Int32) (24 : Int32) fun st2 => ax_cpy st2 7 24 28 24 (0 : Int32) (0 : Int32) (24 : Int32) fun st3 => ax_cpy st3 8 24 29 24 (0 : Int32) (0 : Int32) (24 : Int32) fun st4 => ax_then (ax_sI st4 26 4 (st4.1 5 4)) fun st5 => ax_cpy st5 9 10 30 10 (0 : Int32) (0 : Int32) (10 : Int32) fun st6 => ax_cpy st6 10 10 31 10 (0 : Int32) (0 : Int32) (10 : Int32) fun st7 => ax_cpy st7 11 10 32 10 (0 : Int32) (0 : Int32) (10 : Int32) fun st8 => ax_cpy st8 12 10 33 10 (0 : Int32) (0 : Int32) (10 : Int32) fun st9 => ax_cpy st9 13 10 34 10 (0 : Int32) (0 : Int32) (10 : Int32) fun st10 => ax_cpy st10 14 10 35 10 (0 : Int32) (0 : Int32) (10 : Int32) fun st11 => ax_cpy st11 15 10 36 10 (0 : Int32) (0 : Int32) (10 : Int32) fun st12 => ax_cpy st12 16 10 37 10 (0 : Int32) (0 : Int32) (10 : Int32) fun st13 => ax_cpy st13 17 4 38 4 (0 : Int32) (0 : Int32) (4 : Int32) fun st14 => fX0_copyHistory_L197 4000 (0 : Int32) st14
def fX2_copyOrder (st : ax_S) : ax_R := ax_then (ax_sI st 41 0 (st.1 20 0)) fun st1 => ax_cpy st1 21 10 42 10 (0 : Int32) (0 : Int32) (10 : Int32) fun st2 => some (0, st2)
def fX4_copyFrom (st : ax_S) : ax_R := ax_bind (fX1_copyObjects  st) fun r1 st2 => ax_bind (fX0_copyHistory  st2) fun r3 st4 => ax_bind (fX2_copyOrder  st4) fun r5 st6 => some (0, st6)
def fX8_saveSnapshot (st : ax_S) : ax_R := ax_bind (fX4_copyFrom  st) fun r1 st2 => ax_putz st2 0 5 (1 : Int32) fun st3 => some ((st3.1 26 0), st3)
def fX1_copyObjects_2_23 (st : ax_S) : ax_R := ax_then (ax_sI st 2 0 (st.1 23 0)) fun st1 => ax_cpy st1 24 4 3 4 (0 : Int32) (0 : Int32) (4 : Int32) fun st2 => ax_cpy st2 25 4 4 4 (0 : Int32) (0 : Int32) (4 : Int32) fun st3 => some (0, st3)
def fX0_copyHistory_5_26_L197 : Nat → Int32 → ax_S → ax_R
  | 0, _, _ => none
  | n + 1, x2, st => if (4 : Int32) ≤ x2 then (some (0, st)) else (ax_ld st 39 4 x2 fun v15 => ax_sto st 18 4 x2 (vp_nar .boolean v15) fun st16 => (fX0_copyHistory_5_26_L197 n) (x2 + (1 : Int32)) st16)
def fX0_copyHistory_5_26 (st : ax_S) : ax_R := ax_then (ax_sI st 5 0 (st.1 26 0)) fun st1 => ax_cpy st1 27 24 6 24 (0 : Int32) (0 : Int32) (24 : Int32) fun st2 => ax_cpy st2 28 24 7 24 (0 : Int32) (0 : Int32) (24 : Int32) fun st3 => ax_cpy st3 29 24 8 24 (0 : Int32) (0 : Int32) (24 : Int32) fun st4 => ax_then (ax_sI st4 5 4 (st4.1 26 4)) fun st5 => ax_cpy st5 30 10 9 10 (0 : Int32) (0 : Int32) (10 : Int32) fun st6 => ax_cpy st6 31 10 10 10 (0 : Int32) (0 : Int32) (10 : Int32) fun st7 => ax_cpy st7 32 10 11 10 (0 : Int32) (0 : Int32) (10 : Int32) fun st8 => ax_cpy st8 33 10 12 10 (0 : Int32) (0 : Int32) (10 : Int32) fun st9 => ax_cpy st9 34 10 13 10 (0 : Int32) (0 : Int32) (10 : Int32) fun st10 => ax_cpy st10 35 10 14 10 (0 : Int32) (0 : Int32) (10 : Int32) fun st11 => ax_cpy st11 36 10 15 10 (0 : Int32) (0 : Int32) (10 : Int32) fun st12 => ax_cpy st12 37 10 16 10 (0 : Int32) (0 : Int32) (10 : Int32) fun st13 => ax_cpy st13 38 4 17 4 (0 : Int32) (0 : Int32) (4 : Int32) fun st14 => fX0_copyHistory_5_26_L197 4000 (0 : Int32) st14
def fX2_copyOrder_20_41 (st : ax_S) : ax_R := ax_then (ax_sI st 20 0 (st.1 41 0)) fun st1 => ax_cpy st1 42 10 21 10 (0 : Int32) (0 : Int32) (10 : Int32) fun st2 => some (0, st2)
def fX4_copyFrom_1_22 (st : ax_S) : ax_R := ax_bind (fX1_copyObjects_2_23  st) fun r1 st2 => ax_bind (fX0_copyHistory_5_26  st2) fun r3 st4 => ax_bind (fX2_copyOrder_20_41  st4) fun r5 st6 => some (0, st6)
def fX8_restoreSnapshot (st : ax_S) : ax_R := if (st.1 0 5) = 0 then (some ((-13 : Int32), st)) else (ax_bind (fX4_copyFrom_1_22  st) fun r1 st2 => some ((st2.1 5 0), st2))
