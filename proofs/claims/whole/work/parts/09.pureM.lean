def fX9_isIn_b15 (s0 : Int32) (st : ax_S) : ax_R := ax_rz s0 st
def fX9_isIn_b14 (st : ax_S) : ax_R := fX9_isIn_b15 (0 : Int32) st
def fX9_isIn (x0 : Int32) (x1 : Int32) (x2 : Int32) (st : ax_S) : ax_R := if x0 < x1 then (fX9_isIn_b14 st) else (if x2 < x0 then (fX9_isIn_b14 st) else (fX9_isIn_b15 (1 : Int32) st))
def fX9_create (x1 : Int32) (x2 : Int32) (st : ax_S) : ax_R := if (st.1 0 0) = (4 : Int32) then (some ((-8 : Int32), st)) else (ax_sto st 1 4 (st.1 0 0) x1 fun st1 => ax_sto st1 2 4 (st1.1 0 0) x2 fun st2 => ax_then (ax_sI st2 0 0 ((st2.1 0 0) + (1 : Int32))) fun st3 => ax_then (ax_sI st3 0 16 (0 : Int32)) fun st4 => some (((st4.1 0 0) - (1 : Int32)), st4))
def fX9_createRegister_b21 (s0 : Int32) (st : ax_S) : ax_R := some (s0, st)
def fX9_createRegister (x1 : Int32) (st : ax_S) : ax_R := ax_bind (fX9_isIn x1 (0 : Int32) (99 : Int32) st) fun r1 st2 => if r1 = 0 then (fX9_createRegister_b21 (-4 : Int32) st2) else (ax_bind (fX9_create (0 : Int32) x1 st2) fun r3 st4 => fX9_createRegister_b21 r3 st4)
def fX9_createCounter_b22 (s0 : Int32) (st : ax_S) : ax_R := some (s0, st)
def fX9_createCounter (x1 : Int32) (st : ax_S) : ax_R := ax_bind (fX9_isIn x1 (-99 : Int32) (99 : Int32) st) fun r1 st2 => if r1 = 0 then (fX9_createCounter_b22 (-4 : Int32) st2) else (ax_bind (fX9_create (1 : Int32) x1 st2) fun r3 st4 => fX9_createCounter_b22 r3 st4)
def fX9_createQueue (st : ax_S) : ax_R := ax_bind (fX9_create (2 : Int32) (0 : Int32) st) fun r1 st2 => some (r1, st2)
def fX9_createSet (st : ax_S) : ax_R := ax_bind (fX9_create (3 : Int32) (0 : Int32) st) fun r1 st2 => some (r1, st2)
def fX9_objectCount (st : ax_S) : ax_R := some ((st.1 0 0), st)
def fX9_isObject (x1 : Int32) (st : ax_S) : ax_R := ax_bind (fX9_isIn x1 (0 : Int32) ((st.1 0 0) - (1 : Int32)) st) fun r1 st2 => ax_rz r1 st2
def fX9_typeOf_b19 (s0 : Int32) (st : ax_S) : ax_R := some (s0, st)
def fX9_typeOf (x1 : Int32) (st : ax_S) : ax_R := ax_bind (fX9_isObject x1 st) fun r1 st2 => if r1 = 0 then (fX9_typeOf_b19 (-2 : Int32) st2) else (ax_ld st2 1 4 x1 fun v3 => fX9_typeOf_b19 v3 st2)
def fX9_reset (st : ax_S) : ax_R := ax_then (ax_sI st 0 0 (0 : Int32)) fun st1 => ax_then (ax_sI st1 0 3 (0 : Int32)) fun st2 => ax_then (ax_sI st2 0 12 (0 : Int32)) fun st3 => ax_then (ax_sI st3 0 16 (0 : Int32)) fun st4 => some ((st.1 0 12), st4)
def fX9_isThread (x0 : Int32) (st : ax_S) : ax_R := ax_bind (fX9_isIn x0 (0 : Int32) (3 : Int32) st) fun r1 st2 => ax_rz r1 st2
def fX9_typeFor_b29 (s0 : Int32) (st : ax_S) : ax_R := some (s0, st)
def fX9_typeFor (x0 : Int32) (st : ax_S) : ax_R := if (2 : Int32) < x0 then (if (4 : Int32) < x0 then (if (6 : Int32) < x0 then (fX9_typeFor_b29 (3 : Int32) st) else (fX9_typeFor_b29 (2 : Int32) st)) else (fX9_typeFor_b29 (1 : Int32) st)) else (fX9_typeFor_b29 (0 : Int32) st)
def fX9_isArgument_b23 (s0 : Int32) (st : ax_S) : ax_R := ax_rz s0 st
def fX9_isArgument (x0 : Int32) (x1 : Int32) (st : ax_S) : ax_R := if x0 = (4 : Int32) then (ax_bind (fX9_isIn x1 (-99 : Int32) (99 : Int32) st) fun r1 st2 => fX9_isArgument_b23 r1 st2) else (ax_bind (fX9_isIn x1 (0 : Int32) (99 : Int32) st) fun r3 st4 => fX9_isArgument_b23 r3 st4)
def fX9_isCrashed_b41 (rec4 : Int32 → Int32 → Int32 → ax_S → ax_R) (x1 : Int32) (x3 : Int32) (s0 : Int32) (st : ax_S) : ax_R := rec4 x1 s0 (x3 + (1 : Int32)) st
def fX9_isCrashed_b36 (rec4 : Int32 → Int32 → Int32 → ax_S → ax_R) (x1 : Int32) (x3 : Int32) (st : ax_S) : ax_R := fX9_isCrashed_b41 rec4 x1 x3 (1 : Int32) st
def fX9_isCrashed_b40 (rec4 : Int32 → Int32 → Int32 → ax_S → ax_R) (x1 : Int32) (x3 : Int32) (st : ax_S) : ax_R := fX9_isCrashed_b41 rec4 x1 x3 (0 : Int32) st
def fX9_isCrashed_L4 : Nat → Int32 → Int32 → Int32 → ax_S → ax_R
  | 0, _, _, _, _ => none
  | n + 1, x1, x2, x3, st => if (st.1 0 12) ≤ x3 then (ax_rz x2 st) else (if x2 = 0 then (ax_ld st 11 24 x3 fun v1 => if v1 = (2 : Int32) then (ax_ld st 12 24 x3 fun v2 => if v2 = x1 then (fX9_isCrashed_b36 (fX9_isCrashed_L4 n) x1 x3 st) else (fX9_isCrashed_b40 (fX9_isCrashed_L4 n) x1 x3 st)) else (fX9_isCrashed_b40 (fX9_isCrashed_L4 n) x1 x3 st)) else (fX9_isCrashed_b36 (fX9_isCrashed_L4 n) x1 x3 st))
def fX9_isCrashed (x1 : Int32) (st : ax_S) : ax_R := fX9_isCrashed_L4 4000 x1 (0 : Int32) (0 : Int32) st
def fX9_pendingOf_b32 (rec2 : Int32 → Int32 → ax_S → ax_R) (x1 : Int32) (x2 : Int32) (st : ax_S) : ax_R := rec2 x1 (x2 + (1 : Int32)) st
def fX9_pendingOf_L2 : Nat → Int32 → Int32 → ax_S → ax_R
  | 0, _, _, _ => none
  | n + 1, x1, x2, st => if (st.1 0 3) ≤ x2 then (some ((-10 : Int32), st)) else (ax_ld st 4 10 x2 fun v1 => if v1 = x1 then (ax_ld st 9 10 x2 fun v2 => if v2 = (-1 : Int32) then (some (x2, st)) else (fX9_pendingOf_b32 (fX9_pendingOf_L2 n) x1 x2 st)) else (fX9_pendingOf_b32 (fX9_pendingOf_L2 n) x1 x2 st))
def fX9_pendingOf (x1 : Int32) (st : ax_S) : ax_R := fX9_pendingOf_L2 4000 x1 (0 : Int32) st
def fX9_append (x1 : Int32) (x2 : Int32) (x3 : Int32) (st : ax_S) : ax_R := ax_sto st 11 24 (st.1 0 12) x1 fun st1 => ax_sto st1 12 24 (st1.1 0 12) x2 fun st2 => ax_sto st2 13 24 (st2.1 0 12) x3 fun st3 => ax_then (ax_sI st3 0 12 ((st3.1 0 12) + (1 : Int32))) fun st4 => ax_then (ax_sI st4 0 16 (0 : Int32)) fun st5 => some (((st5.1 0 12) - (1 : Int32)), st5)
def fX9_invoke_b54 (st : ax_S) : ax_R := some ((-4 : Int32), st)
def fX9_invoke (x1 : Int32) (x2 : Int32) (x3 : Int32) (x4 : Int32) (x5 : Int32) (st : ax_S) : ax_R := ax_bind (fX9_isThread x2 st) fun r1 st2 => if r1 = 0 then (some ((-1 : Int32), st2)) else (ax_bind (fX9_isObject x3 st2) fun r3 st4 => if r3 = 0 then (some ((-2 : Int32), st4)) else (ax_ld st4 1 4 x3 fun v5 => ax_bind (fX9_typeFor x1 st4) fun r6 st7 => if v5 = r6 then (ax_bind (fX9_isArgument x1 x4 st7) fun r8 st9 => if r8 = 0 then (fX9_invoke_b54 st9) else (ax_bind (fX9_isArgument x1 x5 st9) fun r10 st11 => if r10 = 0 then (fX9_invoke_b54 st11) else (ax_bind (fX9_isCrashed x2 st11) fun r12 st13 => if r12 = 0 then (ax_bind (fX9_pendingOf x2 st13) fun r14 st15 => if r14 = (-10 : Int32) then (if (st15.1 0 3) = (10 : Int32) then (some ((-8 : Int32), st15)) else (ax_sto st15 3 10 (st15.1 0 3) x1 fun st16 => ax_sto st16 4 10 (st16.1 0 3) x2 fun st17 => ax_sto st17 5 10 (st17.1 0 3) x3 fun st18 => ax_sto st18 6 10 (st18.1 0 3) x4 fun st19 => ax_sto st19 7 10 (st19.1 0 3) x5 fun st20 => ax_sto st20 9 10 (st20.1 0 3) (-1 : Int32) fun st21 => ax_bind (fX9_append (0 : Int32) x2 (st21.1 0 3) st21) fun r22 st23 => ax_sto st23 8 10 (st21.1 0 3) r22 fun st24 => ax_then (ax_sI st24 0 3 ((st24.1 0 3) + (1 : Int32))) fun st25 => some (((st25.1 0 3) - (1 : Int32)), st25))) else (some ((-6 : Int32), st15))) else (some ((-5 : Int32), st13))))) else (some ((-3 : Int32), st7))))
def fX9_invokeRead (x1 : Int32) (x2 : Int32) (st : ax_S) : ax_R := ax_bind (fX9_invoke (0 : Int32) x1 x2 (0 : Int32) (0 : Int32) st) fun r1 st2 => some (r1, st2)
def fX9_invokeWrite (x1 : Int32) (x2 : Int32) (x3 : Int32) (st : ax_S) : ax_R := ax_bind (fX9_invoke (1 : Int32) x1 x2 x3 (0 : Int32) st) fun r1 st2 => some (r1, st2)
def fX9_invokeCompareAndSet (x1 : Int32) (x2 : Int32) (x3 : Int32) (x4 : Int32) (st : ax_S) : ax_R := ax_bind (fX9_invoke (2 : Int32) x1 x2 x3 x4 st) fun r1 st2 => some (r1, st2)
def fX9_invokeGet (x1 : Int32) (x2 : Int32) (st : ax_S) : ax_R := ax_bind (fX9_invoke (3 : Int32) x1 x2 (0 : Int32) (0 : Int32) st) fun r1 st2 => some (r1, st2)
def fX9_invokeAdd (x1 : Int32) (x2 : Int32) (x3 : Int32) (st : ax_S) : ax_R := ax_bind (fX9_invoke (4 : Int32) x1 x2 x3 (0 : Int32) st) fun r1 st2 => some (r1, st2)
def fX9_invokeEnqueue (x1 : Int32) (x2 : Int32) (x3 : Int32) (st : ax_S) : ax_R := ax_bind (fX9_invoke (5 : Int32) x1 x2 x3 (0 : Int32) st) fun r1 st2 => some (r1, st2)
def fX9_invokeDequeue (x1 : Int32) (x2 : Int32) (st : ax_S) : ax_R := ax_bind (fX9_invoke (6 : Int32) x1 x2 (0 : Int32) (0 : Int32) st) fun r1 st2 => some (r1, st2)
def fX9_invokeInsert (x1 : Int32) (x2 : Int32) (x3 : Int32) (st : ax_S) : ax_R := ax_bind (fX9_invoke (7 : Int32) x1 x2 x3 (0 : Int32) st) fun r1 st2 => some (r1, st2)
def fX9_invokeRemove (x1 : Int32) (x2 : Int32) (x3 : Int32) (st : ax_S) : ax_R := ax_bind (fX9_invoke (8 : Int32) x1 x2 x3 (0 : Int32) st) fun r1 st2 => some (r1, st2)
def fX9_invokeContains (x1 : Int32) (x2 : Int32) (x3 : Int32) (st : ax_S) : ax_R := ax_bind (fX9_invoke (9 : Int32) x1 x2 x3 (0 : Int32) st) fun r1 st2 => some (r1, st2)
def fX9_mayRespond_b38 (s0 : Int32) (st : ax_S) : ax_R := some (s0, st)
def fX9_mayRespond (x1 : Int32) (st : ax_S) : ax_R := ax_bind (fX9_isThread x1 st) fun r1 st2 => if r1 = 0 then (some ((-1 : Int32), st2)) else (ax_bind (fX9_isCrashed x1 st2) fun r3 st4 => if r3 = 0 then (ax_bind (fX9_pendingOf x1 st4) fun r5 st6 => if r5 = (-10 : Int32) then (fX9_mayRespond_b38 (-7 : Int32) st6) else (fX9_mayRespond_b38 r5 st6)) else (some ((-5 : Int32), st4)))
def fX9_minResult_b27 (s0 : Int32) (st : ax_S) : ax_R := some (s0, st)
def fX9_minResult_b10 (st : ax_S) : ax_R := fX9_minResult_b27 (-999 : Int32) st
def fX9_minResult (x0 : Int32) (st : ax_S) : ax_R := if x0 = (3 : Int32) then (fX9_minResult_b10 st) else (if x0 = (4 : Int32) then (fX9_minResult_b10 st) else (if x0 = (6 : Int32) then (fX9_minResult_b27 (-1 : Int32) st) else (fX9_minResult_b27 (0 : Int32) st)))
def fX9_maxResult (x0 : Int32) (st : ax_S) : ax_R := (if x0 = (0 : Int32) then (some ((99 : Int32), st)) else (if x0 = (1 : Int32) then (some ((0 : Int32), st)) else (if x0 = (2 : Int32) then (some ((1 : Int32), st)) else (if x0 = (3 : Int32) then (some ((999 : Int32), st)) else (if x0 = (4 : Int32) then (some ((999 : Int32), st)) else (if x0 = (5 : Int32) then (some ((0 : Int32), st)) else (if x0 = (6 : Int32) then (some ((99 : Int32), st)) else (some ((1 : Int32), st)))))))))
def fX9_mayRespondWith_b41 (s0 : Int32) (st : ax_S) : ax_R := some (s0, st)
def fX9_mayRespondWith_b35 (x3 : Int32) (st : ax_S) : ax_R := fX9_mayRespondWith_b41 x3 st
def fX9_mayRespondWith (x1 : Int32) (x2 : Int32) (st : ax_S) : ax_R := ax_bind (fX9_mayRespond x1 st) fun r1 st2 => if r1 < 0 then (fX9_mayRespondWith_b35 r1 st2) else (ax_ld st2 3 10 r1 fun v3 => ax_bind (fX9_minResult v3 st2) fun r4 st5 => ax_ld st5 3 10 r1 fun v6 => ax_bind (fX9_maxResult v6 st5) fun r7 st8 => ax_bind (fX9_isIn x2 r4 r7 st8) fun r9 st10 => if r9 = 0 then (fX9_mayRespondWith_b41 (-4 : Int32) st10) else (fX9_mayRespondWith_b35 r1 st10))
def fX9_respond_b31 (x3 : Int32) (st : ax_S) : ax_R := some (x3, st)
def fX9_respond (x1 : Int32) (x2 : Int32) (st : ax_S) : ax_R := ax_bind (fX9_mayRespondWith x1 x2 st) fun r1 st2 => if r1 < 0 then (fX9_respond_b31 r1 st2) else (ax_sto st2 10 10 r1 x2 fun st3 => ax_bind (fX9_append (1 : Int32) x1 r1 st3) fun r4 st5 => ax_sto st5 9 10 r1 r4 fun st6 => fX9_respond_b31 r1 st6)
def fX9_crash_b30 (s0 : Int32) (st : ax_S) : ax_R := some (s0, st)
def fX9_crash (x1 : Int32) (st : ax_S) : ax_R := ax_bind (fX9_isThread x1 st) fun r1 st2 => if r1 = 0 then (some ((-1 : Int32), st2)) else (ax_bind (fX9_isCrashed x1 st2) fun r3 st4 => if r3 = 0 then (ax_bind (fX9_append (2 : Int32) x1 (-10 : Int32) st4) fun r5 st6 => fX9_crash_b30 r5 st6) else (fX9_crash_b30 (-5 : Int32) st4))
def fX9_undo_b78 (st : ax_S) : ax_R := some ((st.1 0 12), st)
def fX9_undo (st : ax_S) : ax_R := if (st.1 0 12) = 0 then (some ((-11 : Int32), st)) else (ax_then (ax_sI st 0 12 ((st.1 0 12) - (1 : Int32))) fun st1 => ax_then (ax_sI st1 0 16 (0 : Int32)) fun st2 => ax_ld st2 11 24 (st2.1 0 12) fun v3 => if v3 = 0 then (ax_then (ax_sI st2 0 3 ((st2.1 0 3) - (1 : Int32))) fun st4 => fX9_undo_b78 st4) else (ax_ld st2 11 24 (st2.1 0 12) fun v5 => if v5 = (1 : Int32) then (ax_ld st2 13 24 (st2.1 0 12) fun v6 => ax_sto st2 9 10 v6 (-1 : Int32) fun st7 => fX9_undo_b78 st7) else (fX9_undo_b78 st2)))
def fX9_eventCount (st : ax_S) : ax_R := some ((st.1 0 12), st)
def fX9_operationCount (st : ax_S) : ax_R := some ((st.1 0 3), st)
def fX9_isOperation (x1 : Int32) (st : ax_S) : ax_R := ax_bind (fX9_isIn x1 (0 : Int32) ((st.1 0 3) - (1 : Int32)) st) fun r1 st2 => ax_rz r1 st2
def fX9_kindOf_b19 (s0 : Int32) (st : ax_S) : ax_R := some (s0, st)
def fX9_kindOf (x1 : Int32) (st : ax_S) : ax_R := ax_bind (fX9_isOperation x1 st) fun r1 st2 => if r1 = 0 then (fX9_kindOf_b19 (-9 : Int32) st2) else (ax_ld st2 3 10 x1 fun v3 => fX9_kindOf_b19 v3 st2)
def fX9_threadOf_b19 (s0 : Int32) (st : ax_S) : ax_R := some (s0, st)
def fX9_threadOf (x1 : Int32) (st : ax_S) : ax_R := ax_bind (fX9_isOperation x1 st) fun r1 st2 => if r1 = 0 then (fX9_threadOf_b19 (-9 : Int32) st2) else (ax_ld st2 4 10 x1 fun v3 => fX9_threadOf_b19 v3 st2)
def fX9_objectOf_b19 (s0 : Int32) (st : ax_S) : ax_R := some (s0, st)
def fX9_objectOf (x1 : Int32) (st : ax_S) : ax_R := ax_bind (fX9_isOperation x1 st) fun r1 st2 => if r1 = 0 then (fX9_objectOf_b19 (-9 : Int32) st2) else (ax_ld st2 5 10 x1 fun v3 => fX9_objectOf_b19 v3 st2)
def fX9_invocationTime_b19 (s0 : Int32) (st : ax_S) : ax_R := some (s0, st)
def fX9_invocationTime (x1 : Int32) (st : ax_S) : ax_R := ax_bind (fX9_isOperation x1 st) fun r1 st2 => if r1 = 0 then (fX9_invocationTime_b19 (-9 : Int32) st2) else (ax_ld st2 8 10 x1 fun v3 => fX9_invocationTime_b19 v3 st2)
def fX9_responseTime_b32 (s0 : Int32) (st : ax_S) : ax_R := some (s0, st)
def fX9_responseTime (x1 : Int32) (st : ax_S) : ax_R := ax_bind (fX9_isOperation x1 st) fun r1 st2 => if r1 = 0 then (some ((-9 : Int32), st2)) else (ax_ld st2 9 10 x1 fun v3 => if v3 = (-1 : Int32) then (fX9_responseTime_b32 (-10 : Int32) st2) else (ax_ld st2 9 10 x1 fun v4 => fX9_responseTime_b32 v4 st2))
def fX9_resultOf_b36 (s0 : Int32) (st : ax_S) : ax_R := some (s0, st)
def fX9_resultOf (x1 : Int32) (st : ax_S) : ax_R := ax_bind (fX9_isOperation x1 st) fun r1 st2 => if r1 = 0 then (some ((-9 : Int32), st2)) else (ax_ld st2 9 10 x1 fun v3 => if v3 = (-1 : Int32) then (fX9_resultOf_b36 (-10 : Int32) st2) else (ax_ld st2 10 10 x1 fun v4 => fX9_resultOf_b36 (v4 + (1000 : Int32)) st2))
def fX9_isBefore_b30 (s0 : Int32) (st : ax_S) : ax_R := ax_rz s0 st
def fX9_isBefore_b29 (st : ax_S) : ax_R := fX9_isBefore_b30 (0 : Int32) st
def fX9_isBefore (x1 : Int32) (x2 : Int32) (st : ax_S) : ax_R := ax_ld st 9 10 x1 fun v1 => if v1 = (-1 : Int32) then (fX9_isBefore_b29 st) else (ax_ld st 9 10 x1 fun v2 => ax_ld st 8 10 x2 fun v3 => if v3 ≤ v2 then (fX9_isBefore_b29 st) else (fX9_isBefore_b30 (1 : Int32) st))
def fX9_precedes_b16 (st : ax_S) : ax_R := some ((-9 : Int32), st)
def fX9_precedes_b33 (s0 : Int32) (st : ax_S) : ax_R := some (s0, st)
def fX9_precedes (x1 : Int32) (x2 : Int32) (st : ax_S) : ax_R := ax_bind (fX9_isOperation x1 st) fun r1 st2 => if r1 = 0 then (fX9_precedes_b16 st2) else (ax_bind (fX9_isOperation x2 st2) fun r3 st4 => if r3 = 0 then (fX9_precedes_b16 st4) else (ax_bind (fX9_isBefore x1 x2 st4) fun r5 st6 => if r5 = 0 then (fX9_precedes_b33 (0 : Int32) st6) else (fX9_precedes_b33 (1 : Int32) st6)))
def fX9_maxPending_b43 (rec6 : Int32 → Int32 → Int32 → ax_S → ax_R) (x2 : Int32) (x3 : Int32) (s0 : Int32) (s1 : Int32) (st : ax_S) : ax_R := rec6 (s1 + s0) (ax_mx x2 (s1 + s0)) (x3 + (1 : Int32)) st
def fX9_maxPending_L6 : Nat → Int32 → Int32 → Int32 → ax_S → ax_R
  | 0, _, _, _, _ => none
  | n + 1, x1, x2, x3, st => if (st.1 0 12) ≤ x3 then (some (x2, st)) else (ax_ld st 11 24 x3 fun v1 => if v1 = 0 then (fX9_maxPending_b43 (fX9_maxPending_L6 n) x2 x3 (1 : Int32) x1 st) else (ax_ld st 11 24 x3 fun v2 => if v2 = (1 : Int32) then (fX9_maxPending_b43 (fX9_maxPending_L6 n) x2 x3 (-1 : Int32) x1 st) else (fX9_maxPending_b43 (fX9_maxPending_L6 n) x2 x3 (0 : Int32) x1 st)))
def fX9_maxPending (st : ax_S) : ax_R := fX9_maxPending_L6 4000 (0 : Int32) (0 : Int32) (0 : Int32) st
def fX9_longestChain_b58 (rec4 : Int32 → Int32 → ax_S → ax_R) (rec21 : Int32 → Int32 → Int32 → ax_S → ax_R) (x1 : Int32) (x2 : Int32) (x3 : Int32) (st : ax_S) : ax_R := rec21 x1 x2 (x3 + (1 : Int32)) st
def fX9_longestChain_L21 (rec4 : Int32 → Int32 → ax_S → ax_R) : Nat → Int32 → Int32 → Int32 → ax_S → ax_R
  | 0, _, _, _, _ => none
  | n + 1, x1, x2, x3, st => if x2 ≤ x3 then (ax_ld st 15 10 x2 fun v2 => rec4 (ax_mx x1 v2) (x2 + (1 : Int32)) st) else (ax_bind (fX9_isBefore x3 x2 st) fun r3 st4 => if r3 = 0 then (fX9_longestChain_b58 rec4 (fX9_longestChain_L21 rec4 n) x1 x2 x3 st4) else (ax_ld st4 15 10 x2 fun v5 => ax_ld st4 15 10 x3 fun v6 => ax_sto st4 15 10 x2 (ax_mx v5 (v6 + (1 : Int32))) fun st7 => fX9_longestChain_b58 rec4 (fX9_longestChain_L21 rec4 n) x1 x2 x3 st7))
def fX9_longestChain_L4 : Nat → Int32 → Int32 → ax_S → ax_R
  | 0, _, _, _ => none
  | n + 1, x1, x2, st => if (st.1 0 3) ≤ x2 then (some (x1, st)) else (ax_sto st 15 10 x2 (1 : Int32) fun st1 => fX9_longestChain_L21 (fX9_longestChain_L4 n) 4000 x1 x2 (0 : Int32) st1)
def fX9_longestChain (st : ax_S) : ax_R := fX9_longestChain_L4 4000 (0 : Int32) (0 : Int32) st
def fX9_start_L41 : Nat → Int32 → ax_S → ax_R
  | 0, _, _ => none
  | n + 1, x1, st => if (400 : Int32) ≤ x1 then (some (0, st)) else (ax_sto st 20 400 x1 (vp_nar .boolean (0 : Int32)) fun st5 => (fX9_start_L41 n) (x1 + (1 : Int32)) st5)
def fX9_start_L2 : Nat → Int32 → ax_S → ax_R
  | 0, _, _ => none
  | n + 1, x1, st => if (4 : Int32) ≤ x1 then (fX9_start_L41 4000 (0 : Int32) st) else (ax_ld st 2 4 x1 fun v1 => ax_sto st 16 4 x1 v1 fun st2 => ax_sto st2 18 4 x1 (0 : Int32) fun st3 => ax_sto st3 19 4 x1 (0 : Int32) fun st4 => (fX9_start_L2 n) (x1 + (1 : Int32)) st4)
def fX9_start (st : ax_S) : ax_R := fX9_start_L2 4000 (0 : Int32) st
def fX9_isThere_b40 (s0 : Int32) (st : ax_S) : ax_R := ax_rz s0 st
def fX9_isThere_b39 (st : ax_S) : ax_R := fX9_isThere_b40 (0 : Int32) st
def fX9_isThere_b35 (st : ax_S) : ax_R := fX9_isThere_b40 (1 : Int32) st
def fX9_isThere (x1 : Int32) (st : ax_S) : ax_R := ax_ld st 8 10 x1 fun v1 => if (st.1 0 24) ≤ v1 then (fX9_isThere_b39 st) else (if (st.1 0 25) = (-10 : Int32) then (fX9_isThere_b35 st) else (ax_ld st 5 10 x1 fun v2 => if v2 = (st.1 0 25) then (fX9_isThere_b35 st) else (fX9_isThere_b39 st)))
def fX9_isComplete_b28 (s0 : Int32) (st : ax_S) : ax_R := ax_rz s0 st
def fX9_isComplete_b27 (st : ax_S) : ax_R := fX9_isComplete_b28 (0 : Int32) st
def fX9_isComplete (x1 : Int32) (st : ax_S) : ax_R := ax_ld st 9 10 x1 fun v1 => if v1 = (-1 : Int32) then (fX9_isComplete_b27 st) else (ax_ld st 9 10 x1 fun v2 => if (st.1 0 24) ≤ v2 then (fX9_isComplete_b27 st) else (fX9_isComplete_b28 (1 : Int32) st))
def fX9_hasAll_b46 (rec4 : Int32 → Int32 → Int32 → ax_S → ax_R) (x1 : Int32) (x3 : Int32) (s0 : Int32) (st : ax_S) : ax_R := rec4 x1 s0 (x3 + (1 : Int32)) st
def fX9_hasAll_b45 (rec4 : Int32 → Int32 → Int32 → ax_S → ax_R) (x1 : Int32) (x3 : Int32) (st : ax_S) : ax_R := fX9_hasAll_b46 rec4 x1 x3 (0 : Int32) st
def fX9_hasAll_b41 (rec4 : Int32 → Int32 → Int32 → ax_S → ax_R) (x1 : Int32) (x3 : Int32) (st : ax_S) : ax_R := fX9_hasAll_b46 rec4 x1 x3 (1 : Int32) st
def fX9_hasAll_L4 : Nat → Int32 → Int32 → Int32 → ax_S → ax_R
  | 0, _, _, _, _ => none
  | n + 1, x1, x2, x3, st => if (st.1 0 3) ≤ x3 then (ax_rz x2 st) else (if x2 = 0 then (fX9_hasAll_b45 (fX9_hasAll_L4 n) x1 x3 st) else (ax_bind (fX9_isThere x3 st) fun r1 st2 => if r1 = 0 then (fX9_hasAll_b41 (fX9_hasAll_L4 n) x1 x3 st2) else (ax_bind (fX9_isComplete x3 st2) fun r3 st4 => if r3 = 0 then (fX9_hasAll_b41 (fX9_hasAll_L4 n) x1 x3 st4) else (if ((x1 >>> (x3 &&& 31)) &&& (1 : Int32)) = (1 : Int32) then (fX9_hasAll_b41 (fX9_hasAll_L4 n) x1 x3 st4) else (fX9_hasAll_b45 (fX9_hasAll_L4 n) x1 x3 st4)))))
def fX9_hasAll (x1 : Int32) (st : ax_S) : ax_R := fX9_hasAll_L4 4000 x1 (1 : Int32) (0 : Int32) st
def fX9_finds_b83 (st : ax_S) : ax_R := some (0, st)
def fX9_finds_b41 (x1 : Int32) (x3 : Int32) (st : ax_S) : ax_R := ax_then (ax_sI st 0 29 ((st.1 0 29) + (1 : Int32))) fun st4 => if (st4.1 0 28) = (-10 : Int32) then (fX9_finds_b83 st4) else (if ((x1 >>> ((st4.1 0 28) &&& 31)) &&& (1 : Int32)) = (1 : Int32) then (ax_sto st4 23 2200 (x3 + (1100 : Int32)) (vp_nar .boolean (1 : Int32)) fun st5 => fX9_finds_b83 st5) else (fX9_finds_b83 st4))
def fX9_finds_L15 : Nat → Int32 → Int32 → Int32 → Int32 → ax_S → ax_R
  | 0, _, _, _, _, _ => none
  | n + 1, x1, x2, x3, x4, st => if x2 ≤ x4 then (fX9_finds_b41 x1 x3 st) else (ax_ld st 21 10 x4 fun v2 => ax_sto st 22 10 x4 v2 fun st3 => (fX9_finds_L15 n) x1 x2 x3 (x4 + (1 : Int32)) st3)
def fX9_finds (x1 : Int32) (x2 : Int32) (x3 : Int32) (st : ax_S) : ax_R := if (st.1 0 29) = 0 then (ax_then (ax_sI st 0 30 x2) fun st1 => fX9_finds_L15 4000 x1 x2 x3 (0 : Int32) st1) else (fX9_finds_b41 x1 x3 st)
def fX9_isReady_b93 (rec5 : Int32 → Int32 → Int32 → Int32 → ax_S → ax_R) (x1 : Int32) (x2 : Int32) (x4 : Int32) (s0 : Int32) (st : ax_S) : ax_R := rec5 x1 x2 s0 (x4 + (1 : Int32)) st
def fX9_isReady_b92 (rec5 : Int32 → Int32 → Int32 → Int32 → ax_S → ax_R) (x1 : Int32) (x2 : Int32) (x4 : Int32) (st : ax_S) : ax_R := fX9_isReady_b93 rec5 x1 x2 x4 (0 : Int32) st
def fX9_isReady_b88 (rec5 : Int32 → Int32 → Int32 → Int32 → ax_S → ax_R) (x1 : Int32) (x2 : Int32) (x4 : Int32) (st : ax_S) : ax_R := fX9_isReady_b93 rec5 x1 x2 x4 (1 : Int32) st
def fX9_isReady_b58 (rec5 : Int32 → Int32 → Int32 → Int32 → ax_S → ax_R) (x1 : Int32) (x2 : Int32) (x3 : Int32) (x4 : Int32) (s0 : Int32) (st : ax_S) : ax_R := if x3 = 0 then (fX9_isReady_b92 rec5 x1 x2 x4 st) else (if s0 = 0 then (fX9_isReady_b88 rec5 x1 x2 x4 st) else (ax_bind (fX9_isThere x4 st) fun r5 st6 => if r5 = 0 then (fX9_isReady_b88 rec5 x1 x2 x4 st6) else (if ((x2 >>> (x4 &&& 31)) &&& (1 : Int32)) = (1 : Int32) then (fX9_isReady_b88 rec5 x1 x2 x4 st6) else (fX9_isReady_b92 rec5 x1 x2 x4 st6))))
def fX9_isReady_b47 (rec5 : Int32 → Int32 → Int32 → Int32 → ax_S → ax_R) (x1 : Int32) (x2 : Int32) (x3 : Int32) (x4 : Int32) (st : ax_S) : ax_R := fX9_isReady_b58 rec5 x1 x2 x3 x4 (0 : Int32) st
def fX9_isReady_L5 : Nat → Int32 → Int32 → Int32 → Int32 → ax_S → ax_R
  | 0, _, _, _, _, _ => none
  | n + 1, x1, x2, x3, x4, st => if (st.1 0 3) ≤ x4 then (ax_rz x3 st) else (if (st.1 0 26) = 0 then (ax_bind (fX9_isBefore x4 x1 st) fun r1 st2 => fX9_isReady_b58 (fX9_isReady_L5 n) x1 x2 x3 x4 r1 st2) else (ax_ld st 4 10 x4 fun v3 => ax_ld st 4 10 x1 fun v4 => if v3 = v4 then (if x1 ≤ x4 then (fX9_isReady_b47 (fX9_isReady_L5 n) x1 x2 x3 x4 st) else (fX9_isReady_b58 (fX9_isReady_L5 n) x1 x2 x3 x4 (1 : Int32) st)) else (fX9_isReady_b47 (fX9_isReady_L5 n) x1 x2 x3 x4 st)))
def fX9_isReady (x1 : Int32) (x2 : Int32) (st : ax_S) : ax_R := fX9_isReady_L5 4000 x1 x2 (1 : Int32) (0 : Int32) st
def fX9_execute_b284 (s0 : Int32) (st : ax_S) : ax_R := some (s0, st)
def fX9_execute_b273 (s0 : Int32) (st : ax_S) : ax_R := some (s0, st)
def fX9_execute_b254 (s0 : Int32) (st : ax_S) : ax_R := some (s0, st)
def fX9_execute_b147 (s0 : Int32) (st : ax_S) : ax_R := some (s0, st)
def fX9_execute_b135 (x3 : Int32) (x5 : Int32) (s0 : Int32) (s1 : Int32) (st : ax_S) : ax_R := ax_sto st 16 4 s1 s0 fun st21 => if x5 = x3 then (fX9_execute_b147 (1 : Int32) st21) else (fX9_execute_b147 (0 : Int32) st21)
def fX9_execute_b27 (x1 : Int32) (x2 : Int32) (x3 : Int32) (s0 : Int32) (s1 : Int32) (st : ax_S) : ax_R := ax_ld st 16 4 x2 fun v3 => ax_ld st 20 400 (s1 + s0) fun v4 => ax_ld st 3 10 x1 fun v5 => (if v5 = (1 : Int32) then (ax_sto st 16 4 x2 x3 fun st20 => some ((0 : Int32), st20)) else (if v5 = (2 : Int32) then (if v3 = x3 then (ax_ld st 7 10 x1 fun v19 => fX9_execute_b135 x3 v3 v19 x2 st) else (fX9_execute_b135 x3 v3 v3 x2 st)) else (if v5 = (3 : Int32) then (some (v3, st)) else (if v5 = (4 : Int32) then (ax_sto st 16 4 x2 (v3 + x3) fun st18 => some (v3, st18)) else (if v5 = (5 : Int32) then (ax_ld st 19 4 x2 fun v14 => ax_sto st 17 40 (((10 : Int32) * x2) + v14) x3 fun st15 => ax_ld st15 19 4 x2 fun v16 => ax_sto st15 19 4 x2 (v16 + (1 : Int32)) fun st17 => some ((0 : Int32), st17)) else (if v5 = (6 : Int32) then (ax_ld st 18 4 x2 fun v8 => ax_ld st 19 4 x2 fun v9 => if v8 = v9 then (some ((-1 : Int32), st)) else (ax_ld st 18 4 x2 fun v10 => ax_sto st 18 4 x2 (v10 + (1 : Int32)) fun st11 => ax_ld st11 18 4 x2 fun v12 => ax_ld st11 17 40 ((((10 : Int32) * x2) + v12) - (1 : Int32)) fun v13 => some (v13, st11))) else (if v5 = (7 : Int32) then (ax_sto st 20 400 (s1 + s0) (vp_nar .boolean (1 : Int32)) fun st7 => if v4 = 0 then (fX9_execute_b254 (1 : Int32) st7) else (fX9_execute_b254 (0 : Int32) st7)) else (if v5 = (8 : Int32) then (ax_sto st 20 400 (s1 + s0) (vp_nar .boolean (0 : Int32)) fun st6 => if v4 = 0 then (fX9_execute_b273 (0 : Int32) st6) else (fX9_execute_b273 (1 : Int32) st6)) else (if v5 = (9 : Int32) then (if v4 = 0 then (fX9_execute_b284 (0 : Int32) st) else (fX9_execute_b284 (1 : Int32) st)) else (some (v3, st)))))))))))
def fX9_execute (x1 : Int32) (st : ax_S) : ax_R := ax_ld st 5 10 x1 fun v1 => ax_ld st 6 10 x1 fun v2 => if 0 ≤ v2 then (fX9_execute_b27 x1 v1 v2 v2 ((100 : Int32) * v1) st) else (fX9_execute_b27 x1 v1 v2 (0 : Int32) ((100 : Int32) * v1) st)
def fX9_takeBack_b148 (st : ax_S) : ax_R := some (0, st)
def fX9_takeBack_b144 (s0 : Int32) (s1 : Int32) (st : ax_S) : ax_R := ax_sto st 20 400 s1 (vp_nar .boolean s0) fun st9 => fX9_takeBack_b148 st9
def fX9_takeBack_b114 (s0 : Int32) (s1 : Int32) (st : ax_S) : ax_R := ax_sto st 20 400 s1 (vp_nar .boolean s0) fun st10 => fX9_takeBack_b148 st10
def fX9_takeBack_b84 (s0 : Int32) (s1 : Int32) (s2 : Int32) (st : ax_S) : ax_R := ax_sto st 18 4 s2 (s1 - s0) fun st11 => fX9_takeBack_b148 st11
def fX9_takeBack (x1 : Int32) (x2 : Int32) (x3 : Int32) (st : ax_S) : ax_R := ax_ld st 5 10 x1 fun v1 => ax_sto st 16 4 v1 x2 fun st2 => ax_ld st2 3 10 x1 fun v3 => (if v3 = (5 : Int32) then (ax_ld st2 19 4 v1 fun v7 => ax_sto st2 19 4 v1 (v7 - (1 : Int32)) fun st8 => fX9_takeBack_b148 st8) else (if v3 = (6 : Int32) then (ax_ld st2 18 4 v1 fun v6 => if x3 = (-1 : Int32) then (fX9_takeBack_b84 (0 : Int32) v6 v1 st2) else (fX9_takeBack_b84 (1 : Int32) v6 v1 st2)) else (if v3 = (7 : Int32) then (ax_ld st2 6 10 x1 fun v5 => if x3 = 0 then (fX9_takeBack_b114 (1 : Int32) (((100 : Int32) * v1) + v5) st2) else (fX9_takeBack_b114 (0 : Int32) (((100 : Int32) * v1) + v5) st2)) else (if v3 = (8 : Int32) then (ax_ld st2 6 10 x1 fun v4 => if x3 = (1 : Int32) then (fX9_takeBack_b144 (1 : Int32) (((100 : Int32) * v1) + v4) st2) else (fX9_takeBack_b144 (0 : Int32) (((100 : Int32) * v1) + v4) st2)) else (fX9_takeBack_b148 st2)))))
def fX9_search_b164 (rc : Int32 → Int32 → Int32 → ax_S → ax_R) (st : ax_S) : ax_R := some (0, st)
def fX9_search_b158 (rc : Int32 → Int32 → Int32 → ax_S → ax_R) (rec18 : Int32 → Int32 → Int32 → Int32 → ax_S → ax_R) (x1 : Int32) (x2 : Int32) (x3 : Int32) (x4 : Int32) (st : ax_S) : ax_R := rec18 x1 x2 x3 (x4 + (1 : Int32)) st
def fX9_search_b148 (rc : Int32 → Int32 → Int32 → ax_S → ax_R) (rec18 : Int32 → Int32 → Int32 → Int32 → ax_S → ax_R) (x1 : Int32) (x2 : Int32) (x3 : Int32) (x4 : Int32) (x5 : Int32) (x6 : Int32) (st : ax_S) : ax_R := ax_bind (fX9_takeBack x4 x5 x6 st) fun r17 st18 => fX9_search_b158 rc rec18 x1 x2 x3 x4 st18
def fX9_search_b145 (rc : Int32 → Int32 → Int32 → ax_S → ax_R) (rec18 : Int32 → Int32 → Int32 → Int32 → ax_S → ax_R) (x1 : Int32) (x2 : Int32) (x3 : Int32) (x4 : Int32) (x5 : Int32) (x6 : Int32) (s0 : Int32) (s1 : Int32) (s2 : Int32) (st : ax_S) : ax_R := ax_bind (rc s2 s1 s0 st) fun r19 st20 => fX9_search_b148 rc rec18 x1 x2 x3 x4 x5 x6 st20
def fX9_search_b112 (rc : Int32 → Int32 → Int32 → ax_S → ax_R) (rec18 : Int32 → Int32 → Int32 → Int32 → ax_S → ax_R) (x1 : Int32) (x2 : Int32) (x3 : Int32) (x4 : Int32) (x5 : Int32) (x6 : Int32) (st : ax_S) : ax_R := ax_sto st 21 10 x2 x4 fun st16 => if x4 = (st16.1 0 28) then (fX9_search_b145 rc rec18 x1 x2 x3 x4 x5 x6 x6 (x2 + (1 : Int32)) (x1 ||| ((1 : Int32) <<< (x4 &&& 31))) st16) else (fX9_search_b145 rc rec18 x1 x2 x3 x4 x5 x6 x3 (x2 + (1 : Int32)) (x1 ||| ((1 : Int32) <<< (x4 &&& 31))) st16)
def fX9_search_b41 (rc : Int32 → Int32 → Int32 → ax_S → ax_R) (rec18 : Int32 → Int32 → Int32 → Int32 → ax_S → ax_R) (x1 : Int32) (x2 : Int32) (x3 : Int32) (x4 : Int32) (st : ax_S) : ax_R := if ((x1 >>> (x4 &&& 31)) &&& (1 : Int32)) = 0 then (ax_bind (fX9_isThere x4 st) fun r5 st6 => if r5 = 0 then (fX9_search_b158 rc rec18 x1 x2 x3 x4 st6) else (ax_bind (fX9_isReady x4 x1 st6) fun r7 st8 => if r7 = 0 then (fX9_search_b158 rc rec18 x1 x2 x3 x4 st8) else (ax_ld st8 5 10 x4 fun v9 => ax_ld st8 16 4 v9 fun v10 => ax_bind (fX9_execute x4 st8) fun r11 st12 => ax_bind (fX9_isComplete x4 st12) fun r13 st14 => if r13 = 0 then (fX9_search_b112 rc rec18 x1 x2 x3 x4 v10 r11 st14) else (ax_ld st14 10 10 x4 fun v15 => if r11 = v15 then (fX9_search_b112 rc rec18 x1 x2 x3 x4 v10 r11 st14) else (fX9_search_b148 rc rec18 x1 x2 x3 x4 v10 r11 st14))))) else (fX9_search_b158 rc rec18 x1 x2 x3 x4 st)
def fX9_search_L18 (rc : Int32 → Int32 → Int32 → ax_S → ax_R) : Nat → Int32 → Int32 → Int32 → Int32 → ax_S → ax_R
  | 0, _, _, _, _, _ => none
  | n + 1, x1, x2, x3, x4, st => if (st.1 0 3) ≤ x4 then (fX9_search_b164 rc st) else (if (st.1 0 27) = 0 then (if (st.1 0 29) = 0 then (fX9_search_b41 rc (fX9_search_L18 rc n) x1 x2 x3 x4 st) else (fX9_search_b164 rc st)) else (fX9_search_b41 rc (fX9_search_L18 rc n) x1 x2 x3 x4 st))
def fX9_search_b15 (rc : Int32 → Int32 → Int32 → ax_S → ax_R) (x1 : Int32) (x2 : Int32) (x3 : Int32) (st : ax_S) : ax_R := fX9_search_L18 rc 4000 x1 x2 x3 (0 : Int32) st
def fX9_search_o (rc : Int32 → Int32 → Int32 → ax_S → ax_R) (x1 : Int32) (x2 : Int32) (x3 : Int32) (st : ax_S) : ax_R := ax_bind (fX9_hasAll x1 st) fun r1 st2 => if r1 = 0 then (fX9_search_b15 rc x1 x2 x3 st2) else (ax_bind (fX9_finds x1 x2 x3 st2) fun r3 st4 => fX9_search_b15 rc x1 x2 x3 st4)
def fX9_search : Nat → Int32 → Int32 → Int32 → ax_S → ax_R
  | 0, _, _, _, _ => none
  | n + 1, x1, x2, x3, st => fX9_search_o (fX9_search n) x1 x2 x3 st
def fX9_searches_L40 : Nat → Int32 → ax_S → ax_R
  | 0, _, _ => none
  | n + 1, x6, st => if (2200 : Int32) ≤ x6 then (ax_bind (fX9_start  st) fun r8 st9 => ax_bind (fX9_search 12 (0 : Int32) (0 : Int32) (0 : Int32) st9) fun r10 st11 => some ((st11.1 0 29), st11)) else (ax_sto st 23 2200 x6 (vp_nar .boolean (0 : Int32)) fun st12 => (fX9_searches_L40 n) (x6 + (1 : Int32)) st12)
def fX9_searches (x1 : Int32) (x2 : Int32) (x3 : Int32) (x4 : Int32) (x5 : Int32) (st : ax_S) : ax_R := ax_then (ax_sI st 0 24 x1) fun st1 => ax_then (ax_sI st1 0 25 x2) fun st2 => ax_putz st2 0 26 x3 fun st3 => ax_putz st3 0 27 x4 fun st4 => ax_then (ax_sI st4 0 28 x5) fun st5 => ax_then (ax_sI st5 0 29 (0 : Int32)) fun st6 => ax_then (ax_sI st6 0 30 (0 : Int32)) fun st7 => fX9_searches_L40 4000 (0 : Int32) st7
def fX9_isLinear_b19 (s0 : Int32) (st : ax_S) : ax_R := ax_rz s0 st
def fX9_isLinear (x1 : Int32) (st : ax_S) : ax_R := ax_bind (fX9_searches x1 (-10 : Int32) (0 : Int32) (0 : Int32) (-10 : Int32) st) fun r1 st2 => if r1 ≤ 0 then (fX9_isLinear_b19 (0 : Int32) st2) else (fX9_isLinear_b19 (1 : Int32) st2)
def fX9_isLinearizable_b16 (s0 : Int32) (st : ax_S) : ax_R := some (s0, st)
def fX9_isLinearizable (st : ax_S) : ax_R := ax_bind (fX9_isLinear (st.1 0 12) st) fun r1 st2 => if r1 = 0 then (fX9_isLinearizable_b16 (0 : Int32) st2) else (fX9_isLinearizable_b16 (1 : Int32) st2)
def fX9_isObjectLinearizable_b32 (s0 : Int32) (st : ax_S) : ax_R := some (s0, st)
def fX9_isObjectLinearizable (x1 : Int32) (st : ax_S) : ax_R := ax_bind (fX9_isObject x1 st) fun r1 st2 => if r1 = 0 then (some ((-2 : Int32), st2)) else (ax_bind (fX9_searches (st2.1 0 12) x1 (0 : Int32) (0 : Int32) (-10 : Int32) st2) fun r3 st4 => if r3 ≤ 0 then (fX9_isObjectLinearizable_b32 (0 : Int32) st4) else (fX9_isObjectLinearizable_b32 (1 : Int32) st4))
def fX9_isSequentiallyConsistent_b22 (s0 : Int32) (st : ax_S) : ax_R := some (s0, st)
def fX9_isSequentiallyConsistent (st : ax_S) : ax_R := ax_bind (fX9_searches (st.1 0 12) (-10 : Int32) (1 : Int32) (0 : Int32) (-10 : Int32) st) fun r1 st2 => if r1 ≤ 0 then (fX9_isSequentiallyConsistent_b22 (0 : Int32) st2) else (fX9_isSequentiallyConsistent_b22 (1 : Int32) st2)
def fX9_countLinearizations (st : ax_S) : ax_R := ax_bind (fX9_searches (st.1 0 12) (-10 : Int32) (0 : Int32) (1 : Int32) (-10 : Int32) st) fun r1 st2 => some (r1, st2)
def fX9_firstLinearizationLength_b20 (s0 : Int32) (st : ax_S) : ax_R := some (s0, st)
def fX9_firstLinearizationLength (st : ax_S) : ax_R := ax_bind (fX9_isLinear (st.1 0 12) st) fun r1 st2 => if r1 = 0 then (fX9_firstLinearizationLength_b20 (-10 : Int32) st2) else (fX9_firstLinearizationLength_b20 (st2.1 0 30) st2)
def fX9_firstLinearizationAt_b36 (s0 : Int32) (st : ax_S) : ax_R := some (s0, st)
def fX9_firstLinearizationAt_b34 (st : ax_S) : ax_R := fX9_firstLinearizationAt_b36 (-10 : Int32) st
def fX9_firstLinearizationAt (x1 : Int32) (st : ax_S) : ax_R := ax_bind (fX9_isLinear (st.1 0 12) st) fun r1 st2 => if r1 = 0 then (fX9_firstLinearizationAt_b34 st2) else (ax_bind (fX9_isIn x1 (0 : Int32) ((st2.1 0 30) - (1 : Int32)) st2) fun r3 st4 => if r3 = 0 then (fX9_firstLinearizationAt_b34 st4) else (ax_ld st4 22 10 x1 fun v5 => fX9_firstLinearizationAt_b36 v5 st4))
def fX9_firstViolation_L2 : Nat → Int32 → ax_S → ax_R
  | 0, _, _ => none
  | n + 1, x1, st => if (st.1 0 12) < x1 then (some ((-10 : Int32), st)) else (ax_bind (fX9_isLinear x1 st) fun r1 st2 => if r1 = 0 then (some (x1, st2)) else ((fX9_firstViolation_L2 n) (x1 + (1 : Int32)) st2))
def fX9_firstViolation (st : ax_S) : ax_R := fX9_firstViolation_L2 4000 (1 : Int32) st
def fX9_canRespond_b45 (s0 : Int32) (st : ax_S) : ax_R := some (s0, st)
def fX9_canRespond (x1 : Int32) (x2 : Int32) (st : ax_S) : ax_R := ax_bind (fX9_mayRespondWith x1 x2 st) fun r1 st2 => if 0 ≤ r1 then (ax_bind (fX9_searches (st2.1 0 12) (-10 : Int32) (0 : Int32) (1 : Int32) r1 st2) fun r3 st4 => ax_ld st4 23 2200 (x2 + (1100 : Int32)) fun v5 => if v5 = 0 then (fX9_canRespond_b45 (0 : Int32) st4) else (fX9_canRespond_b45 (1 : Int32) st4)) else (some (r1, st2))
def fX9_countResponses_b73 (rec39 : Int32 → Int32 → Int32 → ax_S → ax_R) (x2 : Int32) (x4 : Int32) (s0 : Int32) (s1 : Int32) (st : ax_S) : ax_R := rec39 x2 (s1 + s0) (x4 + (1 : Int32)) st
def fX9_countResponses_L39 : Nat → Int32 → Int32 → Int32 → ax_S → ax_R
  | 0, _, _, _, _ => none
  | n + 1, x2, x3, x4, st => ax_ld st 3 10 x2 fun v8 => ax_bind (fX9_maxResult v8 st) fun r9 st10 => if r9 < x4 then (some (x3, st10)) else (ax_ld st10 23 2200 (x4 + (1100 : Int32)) fun v11 => if v11 = 0 then (fX9_countResponses_b73 (fX9_countResponses_L39 n) x2 x4 (0 : Int32) x3 st10) else (fX9_countResponses_b73 (fX9_countResponses_L39 n) x2 x4 (1 : Int32) x3 st10))
def fX9_countResponses (x1 : Int32) (st : ax_S) : ax_R := ax_bind (fX9_mayRespond x1 st) fun r1 st2 => if 0 ≤ r1 then (ax_bind (fX9_searches (st2.1 0 12) (-10 : Int32) (0 : Int32) (1 : Int32) r1 st2) fun r3 st4 => ax_ld st4 3 10 r1 fun v5 => ax_bind (fX9_minResult v5 st4) fun r6 st7 => fX9_countResponses_L39 4000 r1 (0 : Int32) r6 st7) else (some (r1, st2))
def fX9_positionOf_L2 : Nat → Int32 → Int32 → ax_S → ax_R
  | 0, _, _, _ => none
  | n + 1, x1, x2, st => if (st.1 0 16) ≤ x2 then (some ((-10 : Int32), st)) else (ax_ld st 14 10 x2 fun v1 => if v1 = x1 then (some (x2, st)) else ((fX9_positionOf_L2 n) x1 (x2 + (1 : Int32)) st))
def fX9_positionOf (x1 : Int32) (st : ax_S) : ax_R := fX9_positionOf_L2 4000 x1 (0 : Int32) st
def fX9_appendToOrder (x1 : Int32) (st : ax_S) : ax_R := ax_bind (fX9_isOperation x1 st) fun r1 st2 => if r1 = 0 then (some ((-9 : Int32), st2)) else (ax_bind (fX9_positionOf x1 st2) fun r3 st4 => if r3 = (-10 : Int32) then (ax_sto st4 14 10 (st4.1 0 16) x1 fun st5 => ax_then (ax_sI st5 0 16 ((st5.1 0 16) + (1 : Int32))) fun st6 => some ((st6.1 0 16), st6)) else (some ((-12 : Int32), st4)))
def fX9_removeFromOrder_b63 (x2 : Int32) (st : ax_S) : ax_R := some (x2, st)
def fX9_removeFromOrder_L35 : Nat → Int32 → Int32 → ax_S → ax_R
  | 0, _, _, _ => none
  | n + 1, x2, x3, st => if (st.1 0 16) ≤ x3 then (fX9_removeFromOrder_b63 x2 st) else (ax_ld st 14 10 (x3 + (1 : Int32)) fun v6 => ax_sto st 14 10 x3 v6 fun st7 => (fX9_removeFromOrder_L35 n) x2 (x3 + (1 : Int32)) st7)
def fX9_removeFromOrder (x1 : Int32) (st : ax_S) : ax_R := ax_bind (fX9_isOperation x1 st) fun r1 st2 => if r1 = 0 then (some ((-9 : Int32), st2)) else (ax_bind (fX9_positionOf x1 st2) fun r3 st4 => if r3 = (-10 : Int32) then (fX9_removeFromOrder_b63 r3 st4) else (ax_then (ax_sI st4 0 16 ((st4.1 0 16) - (1 : Int32))) fun st5 => fX9_removeFromOrder_L35 4000 r3 r3 st5))
def fX9_orderSize (st : ax_S) : ax_R := some ((st.1 0 16), st)
def fX9_orderAt_b25 (s0 : Int32) (st : ax_S) : ax_R := some (s0, st)
def fX9_orderAt (x1 : Int32) (st : ax_S) : ax_R := ax_bind (fX9_isIn x1 (0 : Int32) ((st.1 0 16) - (1 : Int32)) st) fun r1 st2 => if r1 = 0 then (fX9_orderAt_b25 (-10 : Int32) st2) else (ax_ld st2 14 10 x1 fun v3 => fX9_orderAt_b25 v3 st2)
def fX9_firstBadPosition_b110 (rec8 : Int32 → Int32 → ax_S → ax_R) (x1 : Int32) (x2 : Int32) (x3 : Int32) (st : ax_S) : ax_R := rec8 (x1 ||| ((1 : Int32) <<< (x3 &&& 31))) (x2 + (1 : Int32)) st
def fX9_firstBadPosition_b108 (x2 : Int32) (st : ax_S) : ax_R := some (x2, st)
def fX9_firstBadPosition_b67 (rec8 : Int32 → Int32 → ax_S → ax_R) (rec29 : Int32 → Int32 → Int32 → Int32 → Int32 → ax_S → ax_R) (x1 : Int32) (x2 : Int32) (x3 : Int32) (x5 : Int32) (s0 : Int32) (st : ax_S) : ax_R := rec29 x1 x2 x3 s0 (x5 + (1 : Int32)) st
def fX9_firstBadPosition_b66 (rec8 : Int32 → Int32 → ax_S → ax_R) (rec29 : Int32 → Int32 → Int32 → Int32 → Int32 → ax_S → ax_R) (x1 : Int32) (x2 : Int32) (x3 : Int32) (x5 : Int32) (st : ax_S) : ax_R := fX9_firstBadPosition_b67 rec8 rec29 x1 x2 x3 x5 (0 : Int32) st
def fX9_firstBadPosition_b62 (rec8 : Int32 → Int32 → ax_S → ax_R) (rec29 : Int32 → Int32 → Int32 → Int32 → Int32 → ax_S → ax_R) (x1 : Int32) (x2 : Int32) (x3 : Int32) (x5 : Int32) (st : ax_S) : ax_R := fX9_firstBadPosition_b67 rec8 rec29 x1 x2 x3 x5 (1 : Int32) st
def fX9_firstBadPosition_L29 (rec8 : Int32 → Int32 → ax_S → ax_R) : Nat → Int32 → Int32 → Int32 → Int32 → Int32 → ax_S → ax_R
  | 0, _, _, _, _, _, _ => none
  | n + 1, x1, x2, x3, x4, x5, st => if (st.1 0 3) ≤ x5 then (ax_bind (fX9_execute x3 st) fun r4 st5 => if x4 = 0 then (ax_ld st5 9 10 x3 fun v6 => if v6 = (-1 : Int32) then (fX9_firstBadPosition_b110 rec8 x1 x2 x3 st5) else (ax_ld st5 10 10 x3 fun v7 => if r4 = v7 then (fX9_firstBadPosition_b110 rec8 x1 x2 x3 st5) else (fX9_firstBadPosition_b108 x2 st5))) else (fX9_firstBadPosition_b108 x2 st5)) else (if x4 = 0 then (ax_bind (fX9_isBefore x5 x3 st) fun r8 st9 => if r8 = 0 then (fX9_firstBadPosition_b66 rec8 (fX9_firstBadPosition_L29 rec8 n) x1 x2 x3 x5 st9) else (if ((x1 >>> (x5 &&& 31)) &&& (1 : Int32)) = 0 then (fX9_firstBadPosition_b62 rec8 (fX9_firstBadPosition_L29 rec8 n) x1 x2 x3 x5 st9) else (fX9_firstBadPosition_b66 rec8 (fX9_firstBadPosition_L29 rec8 n) x1 x2 x3 x5 st9))) else (fX9_firstBadPosition_b62 rec8 (fX9_firstBadPosition_L29 rec8 n) x1 x2 x3 x5 st))
def fX9_firstBadPosition_L8 : Nat → Int32 → Int32 → ax_S → ax_R
  | 0, _, _, _ => none
  | n + 1, x1, x2, st => if (st.1 0 16) ≤ x2 then (some ((-10 : Int32), st)) else (ax_ld st 14 10 x2 fun v3 => fX9_firstBadPosition_L29 (fX9_firstBadPosition_L8 n) 4000 x1 x2 v3 (0 : Int32) (0 : Int32) st)
def fX9_firstBadPosition (st : ax_S) : ax_R := ax_bind (fX9_start  st) fun r1 st2 => fX9_firstBadPosition_L8 4000 (0 : Int32) (0 : Int32) st2
def fX9_isOrderLinearization_b70 (s0 : Int32) (st : ax_S) : ax_R := some (s0, st)
def fX9_isOrderLinearization_b54 (rec17 : Int32 → Int32 → ax_S → ax_R) (x2 : Int32) (s0 : Int32) (st : ax_S) : ax_R := rec17 s0 (x2 + (1 : Int32)) st
def fX9_isOrderLinearization_b53 (rec17 : Int32 → Int32 → ax_S → ax_R) (x2 : Int32) (st : ax_S) : ax_R := fX9_isOrderLinearization_b54 rec17 x2 (0 : Int32) st
def fX9_isOrderLinearization_b49 (rec17 : Int32 → Int32 → ax_S → ax_R) (x2 : Int32) (st : ax_S) : ax_R := fX9_isOrderLinearization_b54 rec17 x2 (1 : Int32) st
def fX9_isOrderLinearization_L17 : Nat → Int32 → Int32 → ax_S → ax_R
  | 0, _, _, _ => none
  | n + 1, x1, x2, st => if (st.1 0 3) ≤ x2 then (if x1 = 0 then (fX9_isOrderLinearization_b70 (0 : Int32) st) else (fX9_isOrderLinearization_b70 (1 : Int32) st)) else (if x1 = 0 then (fX9_isOrderLinearization_b53 (fX9_isOrderLinearization_L17 n) x2 st) else (ax_ld st 9 10 x2 fun v3 => if v3 = (-1 : Int32) then (fX9_isOrderLinearization_b49 (fX9_isOrderLinearization_L17 n) x2 st) else (ax_bind (fX9_positionOf x2 st) fun r4 st5 => if r4 = (-10 : Int32) then (fX9_isOrderLinearization_b53 (fX9_isOrderLinearization_L17 n) x2 st5) else (fX9_isOrderLinearization_b49 (fX9_isOrderLinearization_L17 n) x2 st5))))
def fX9_isOrderLinearization_b14 (s0 : Int32) (st : ax_S) : ax_R := fX9_isOrderLinearization_L17 4000 s0 (0 : Int32) st
def fX9_isOrderLinearization (st : ax_S) : ax_R := ax_bind (fX9_firstBadPosition  st) fun r1 st2 => if r1 = (-10 : Int32) then (fX9_isOrderLinearization_b14 (1 : Int32) st2) else (fX9_isOrderLinearization_b14 (0 : Int32) st2)
def fX9_appendCharacter (x1 : Int32) (st : ax_S) : ax_R := ax_bind (fX9_isIn x1 (32 : Int32) (126 : Int32) st) fun r1 st2 => if r1 = 0 then (some ((-4 : Int32), st2)) else (if (st2.1 0 36) = (120 : Int32) then (some ((-8 : Int32), st2)) else (ax_sto st2 25 120 (st2.1 0 36) x1 fun st3 => ax_then (ax_sI st3 0 36 ((st3.1 0 36) + (1 : Int32))) fun st4 => some ((st4.1 0 36), st4)))
def fX9_clearText (st : ax_S) : ax_R := ax_then (ax_sI st 0 36 (0 : Int32)) fun st1 => some ((st.1 0 36), st1)
def fX9_isAt_b33 (s0 : Int32) (st : ax_S) : ax_R := ax_rz s0 st
def fX9_isAt_b32 (st : ax_S) : ax_R := fX9_isAt_b33 (0 : Int32) st
def fX9_isAt (x1 : Int32) (x2 : Int32) (st : ax_S) : ax_R := if (st.1 0 37) ≤ (st.1 0 38) then (fX9_isAt_b32 st) else (ax_ld st 25 120 (st.1 0 38) fun v1 => ax_bind (fX9_isIn v1 x1 x2 st) fun r2 st3 => if r2 = 0 then (fX9_isAt_b32 st3) else (fX9_isAt_b33 (1 : Int32) st3))
def fX9_takesDigit (x1 : Int32) (st : ax_S) : ax_R := ax_bind (fX9_isAt (48 : Int32) (57 : Int32) st) fun r1 st2 => if r1 = 0 then (ax_rz (0 : Int32) st2) else (ax_ld st2 25 120 (st2.1 0 38) fun v3 => ax_sto st2 26 4 x1 (v3 - (48 : Int32)) fun st4 => ax_then (ax_sI st4 0 38 ((st4.1 0 38) + (1 : Int32))) fun st5 => ax_rz (1 : Int32) st5)
def fX9_takes_b21 (x2 : Int32) (s0 : Int32) (s1 : Int32) (st : ax_S) : ax_R := ax_then (ax_sI st 0 38 (s1 + s0)) fun st3 => ax_rz x2 st3
def fX9_takes (x1 : Int32) (st : ax_S) : ax_R := ax_bind (fX9_isAt x1 x1 st) fun r1 st2 => if r1 = 0 then (fX9_takes_b21 r1 (0 : Int32) (st2.1 0 38) st2) else (fX9_takes_b21 r1 (1 : Int32) (st2.1 0 38) st2)
def fX9_matched_b50 (x3 : Int32) (st : ax_S) : ax_R := some (x3, st)
def fX9_matched_L2 : Nat → Int32 → Int32 → Int32 → ax_S → ax_R
  | 0, _, _, _, _ => none
  | n + 1, x1, x2, x3, st => ax_ld st 24 72 (x2 + x3) fun v1 => if v1 = (32 : Int32) then (fX9_matched_b50 x3 st) else (if (st.1 0 37) ≤ (x1 + x3) then (fX9_matched_b50 x3 st) else (ax_ld st 25 120 (x1 + x3) fun v2 => ax_ld st 24 72 (x2 + x3) fun v3 => if v2 = v3 then ((fX9_matched_L2 n) x1 x2 (x3 + (1 : Int32)) st) else (fX9_matched_b50 x3 st)))
def fX9_matched (x1 : Int32) (x2 : Int32) (st : ax_S) : ax_R := fX9_matched_L2 4000 x1 x2 (0 : Int32) st
def fX9_takesName_b70 (rec15 : Int32 → Int32 → Int32 → Int32 → Int32 → ax_S → ax_R) (x1 : Int32) (x2 : Int32) (x3 : Int32) (x4 : Int32) (x5 : Int32) (x6 : Int32) (x7 : Int32) (st : ax_S) : ax_R := rec15 x1 (ax_mx x2 x6) x3 (x4 + (x7 + (1 : Int32))) (x5 + (1 : Int32)) st
def fX9_takesName_L34 (rec15 : Int32 → Int32 → Int32 → Int32 → Int32 → ax_S → ax_R) : Nat → Int32 → Int32 → Int32 → Int32 → Int32 → Int32 → Int32 → ax_S → ax_R
  | 0, _, _, _, _, _, _, _, _ => none
  | n + 1, x1, x2, x3, x4, x5, x6, x7, st => ax_ld st 24 72 (x4 + x7) fun v4 => if v4 = (32 : Int32) then (if x6 = x7 then (ax_then (ax_sI st 0 39 x5) fun st5 => fX9_takesName_b70 rec15 x1 x2 (1 : Int32) x4 x5 x6 x7 st5) else (fX9_takesName_b70 rec15 x1 x2 x3 x4 x5 x6 x7 st)) else ((fX9_takesName_L34 rec15 n) x1 x2 x3 x4 x5 x6 (x7 + (1 : Int32)) st)
def fX9_takesName_L15 : Nat → Int32 → Int32 → Int32 → Int32 → Int32 → ax_S → ax_R
  | 0, _, _, _, _, _, _ => none
  | n + 1, x1, x2, x3, x4, x5, st => if (10 : Int32) ≤ x5 then (ax_then (ax_sI st 0 38 (x1 + x2)) fun st1 => ax_rz x3 st1) else (ax_bind (fX9_matched x1 x4 st) fun r2 st3 => fX9_takesName_L34 (fX9_takesName_L15 n) 4000 x1 x2 x3 x4 x5 r2 (0 : Int32) st3)
def fX9_takesName (st : ax_S) : ax_R := fX9_takesName_L15 4000 (st.1 0 38) (0 : Int32) (0 : Int32) (0 : Int32) (0 : Int32) st
def fX9_argumentsOf_b29 (s0 : Int32) (st : ax_S) : ax_R := some (s0, st)
def fX9_argumentsOf_b24 (st : ax_S) : ax_R := fX9_argumentsOf_b29 (0 : Int32) st
def fX9_argumentsOf (x0 : Int32) (st : ax_S) : ax_R := if x0 = (2 : Int32) then (fX9_argumentsOf_b29 (2 : Int32) st) else (if x0 = 0 then (fX9_argumentsOf_b24 st) else (if x0 = (3 : Int32) then (fX9_argumentsOf_b24 st) else (if x0 = (6 : Int32) then (fX9_argumentsOf_b24 st) else (fX9_argumentsOf_b29 (1 : Int32) st))))
def fX9_takesNumber_b91 (s0 : Int32) (s1 : Int32) (st : ax_S) : ax_R := ax_sto st 26 4 s1 s0 fun st9 => ax_rz (1 : Int32) st9
def fX9_takesNumber_b76 (x1 : Int32) (x2 : Int32) (x3 : Int32) (st : ax_S) : ax_R := if x2 = 0 then (fX9_takesNumber_b91 x3 x1 st) else (fX9_takesNumber_b91 (-x3) x1 st)
def fX9_takesNumber_L25 : Nat → Int32 → Int32 → Int32 → Int32 → ax_S → ax_R
  | 0, _, _, _, _, _ => none
  | n + 1, x1, x2, x3, x4, st => if (3 : Int32) ≤ x4 then (fX9_takesNumber_b76 x1 x2 x3 st) else (ax_bind (fX9_isAt (48 : Int32) (57 : Int32) st) fun r5 st6 => if r5 = 0 then (fX9_takesNumber_b76 x1 x2 x3 st6) else (ax_ld st6 25 120 (st6.1 0 38) fun v7 => ax_then (ax_sI st6 0 38 ((st6.1 0 38) + (1 : Int32))) fun st8 => (fX9_takesNumber_L25 n) x1 x2 ((((10 : Int32) * x3) + v7) - (48 : Int32)) (x4 + (1 : Int32)) st8))
def fX9_takesNumber (x1 : Int32) (st : ax_S) : ax_R := ax_bind (fX9_takes (45 : Int32) st) fun r1 st2 => ax_bind (fX9_isAt (48 : Int32) (57 : Int32) st2) fun r3 st4 => if r3 = 0 then (ax_rz (0 : Int32) st4) else (fX9_takesNumber_L25 4000 x1 r1 (0 : Int32) (0 : Int32) st4)
def fX9_takesInvocation_b33 (st : ax_S) : ax_R := ax_rz (0 : Int32) st
def fX9_takesInvocation_b121 (s0 : Int32) (st : ax_S) : ax_R := ax_rz s0 st
def fX9_takesInvocation_b96 (rec53 : Int32 → Int32 → ax_S → ax_R) (x2 : Int32) (s0 : Int32) (st : ax_S) : ax_R := rec53 s0 (x2 + (1 : Int32)) st
def fX9_takesInvocation_b95 (rec53 : Int32 → Int32 → ax_S → ax_R) (x2 : Int32) (st : ax_S) : ax_R := fX9_takesInvocation_b96 rec53 x2 (0 : Int32) st
def fX9_takesInvocation_b120 (st : ax_S) : ax_R := fX9_takesInvocation_b121 (0 : Int32) st
def fX9_takesInvocation_b103 (x1 : Int32) (st : ax_S) : ax_R := if x1 = 0 then (fX9_takesInvocation_b120 st) else (ax_bind (fX9_takes (41 : Int32) st) fun r15 st16 => if r15 = 0 then (fX9_takesInvocation_b120 st16) else (fX9_takesInvocation_b121 (1 : Int32) st16))
def fX9_takesInvocation_b81 (rec53 : Int32 → Int32 → ax_S → ax_R) (x2 : Int32) (st : ax_S) : ax_R := ax_bind (fX9_takesNumber ((2 : Int32) + x2) st) fun r17 st18 => if r17 = 0 then (fX9_takesInvocation_b95 rec53 x2 st18) else (fX9_takesInvocation_b96 rec53 x2 (1 : Int32) st18)
def fX9_takesInvocation_L53 : Nat → Int32 → Int32 → ax_S → ax_R
  | 0, _, _, _ => none
  | n + 1, x1, x2, st => ax_bind (fX9_argumentsOf (st.1 0 39) st) fun r11 st12 => if r11 ≤ x2 then (fX9_takesInvocation_b103 x1 st12) else (if x1 = 0 then (fX9_takesInvocation_b103 x1 st12) else (if x2 = 0 then (fX9_takesInvocation_b81 (fX9_takesInvocation_L53 n) x2 st12) else (ax_bind (fX9_takes (44 : Int32) st12) fun r13 st14 => if r13 = 0 then (fX9_takesInvocation_b95 (fX9_takesInvocation_L53 n) x2 st14) else (fX9_takesInvocation_b81 (fX9_takesInvocation_L53 n) x2 st14))))
def fX9_takesInvocation (st : ax_S) : ax_R := ax_bind (fX9_takesDigit (1 : Int32) st) fun r1 st2 => if r1 = 0 then (fX9_takesInvocation_b33 st2) else (ax_bind (fX9_takes (46 : Int32) st2) fun r3 st4 => if r3 = 0 then (fX9_takesInvocation_b33 st4) else (ax_bind (fX9_takesName  st4) fun r5 st6 => if r5 = 0 then (fX9_takesInvocation_b33 st6) else (ax_bind (fX9_takes (40 : Int32) st6) fun r7 st8 => if r7 = 0 then (fX9_takesInvocation_b33 st8) else (ax_sto st8 26 4 (2 : Int32) (0 : Int32) fun st9 => ax_sto st9 26 4 (3 : Int32) (0 : Int32) fun st10 => fX9_takesInvocation_L53 4000 (1 : Int32) (0 : Int32) st10))))
def fX9_takesCommand_b69 (s0 : Int32) (st : ax_S) : ax_R := ax_rz s0 st
def fX9_takesCommand_b68 (st : ax_S) : ax_R := fX9_takesCommand_b69 (0 : Int32) st
def fX9_takesCommand (st : ax_S) : ax_R := ax_bind (fX9_takesDigit (0 : Int32) st) fun r1 st2 => if r1 = 0 then (ax_rz (0 : Int32) st2) else (ax_bind (fX9_takes (33 : Int32) st2) fun r3 st4 => if r3 = 0 then (ax_bind (fX9_takes (61 : Int32) st4) fun r5 st6 => if r5 = 0 then (ax_bind (fX9_takes (46 : Int32) st6) fun r7 st8 => if r7 = 0 then (fX9_takesCommand_b68 st8) else (ax_bind (fX9_takesInvocation  st8) fun r9 st10 => if r9 = 0 then (fX9_takesCommand_b68 st10) else (fX9_takesCommand_b69 (1 : Int32) st10))) else (ax_then (ax_sI st6 0 39 (10 : Int32)) fun st11 => ax_bind (fX9_takesNumber (1 : Int32) st11) fun r12 st13 => ax_rz r12 st13)) else (ax_then (ax_sI st4 0 39 (11 : Int32)) fun st14 => ax_rz (1 : Int32) st14))
def fX9_done_b74 (s0 : Int32) (st : ax_S) : ax_R := some (s0, st)
def fX9_done (st : ax_S) : ax_R := ax_ld st 26 4 (0 : Int32) fun v1 => if (st.1 0 39) = (11 : Int32) then (ax_bind (fX9_crash v1 st) fun r2 st3 => fX9_done_b74 r2 st3) else (if (st.1 0 39) = (10 : Int32) then (ax_ld st 26 4 (1 : Int32) fun v4 => ax_bind (fX9_respond v1 v4 st) fun r5 st6 => fX9_done_b74 r5 st6) else (ax_ld st 26 4 (1 : Int32) fun v7 => ax_ld st 26 4 (2 : Int32) fun v8 => ax_ld st 26 4 (3 : Int32) fun v9 => ax_bind (fX9_invoke (st.1 0 39) v1 v7 v8 v9 st) fun r10 st11 => fX9_done_b74 r10 st11))
def fX9_parseText_L82 : Nat → Int32 → Int32 → ax_S → ax_R
  | 0, _, _, _ => none
  | n + 1, x1, x3, st => if x1 ≤ x3 then (some (x1, st)) else (ax_bind (fX9_takesCommand  st) fun r9 st10 => ax_bind (fX9_takes (59 : Int32) st10) fun r11 st12 => ax_bind (fX9_done  st12) fun r13 st14 => if 0 ≤ r13 then ((fX9_parseText_L82 n) x1 (x3 + (1 : Int32)) st14) else (some (((-2000 : Int32) - x3), st14)))
def fX9_parseText_L22 : Nat → Int32 → Int32 → ax_S → ax_R
  | 0, _, _, _ => none
  | n + 1, x1, x2, st => if x2 = 0 then (if (st.1 0 37) ≤ (st.1 0 38) then (ax_then (ax_sI st 0 38 (0 : Int32)) fun st4 => fX9_parseText_L82 4000 x1 (0 : Int32) st4) else (some (((-1000 : Int32) - (st.1 0 38)), st))) else (ax_bind (fX9_takesCommand  st) fun r5 st6 => if r5 = 0 then (some (((-1000 : Int32) - (st6.1 0 38)), st6)) else (ax_bind (fX9_takes (59 : Int32) st6) fun r7 st8 => (fX9_parseText_L22 n) (x1 + (1 : Int32)) r7 st8))
def fX9_parseText (st : ax_S) : ax_R := ax_then (ax_sI st 0 37 (st.1 0 36)) fun st1 => ax_then (ax_sI st1 0 36 (0 : Int32)) fun st2 => ax_then (ax_sI st2 0 38 (0 : Int32)) fun st3 => fX9_parseText_L22 4000 (0 : Int32) (1 : Int32) st3
def fX9_copy_b39 (q1 : Nat) (n1 : Nat) (rec2 : Int32 → Int32 → ax_S → ax_R) (x2 : Int32) (x3 : Int32) (st : ax_S) : ax_R := ax_then (ax_sI st 0 43 ((st.1 0 43) + (1 : Int32))) fun st5 => rec2 x2 (x3 + (1 : Int32)) st5
def fX9_copy_L2 (q1 : Nat) (n1 : Nat) : Nat → Int32 → Int32 → ax_S → ax_R
  | 0, _, _, _ => none
  | n + 1, x2, x3, st => if (Int32.ofNat n1) ≤ x3 then (some (0, st)) else (if x2 = 0 then (ax_ld st q1 n1 x3 fun v1 => ax_sto st 27 174 (st.1 0 43) v1 fun st2 => fX9_copy_b39 q1 n1 (fX9_copy_L2 q1 n1 n) x2 x3 st2) else (ax_ld st 27 174 (st.1 0 43) fun v3 => ax_sto st q1 n1 x3 v3 fun st4 => fX9_copy_b39 q1 n1 (fX9_copy_L2 q1 n1 n) x2 x3 st4))
def fX9_copy (q1 : Nat) (n1 : Nat) (x2 : Int32) (st : ax_S) : ax_R := fX9_copy_L2 q1 n1 4000 x2 (0 : Int32) st
def fX9_copyAll (x1 : Int32) (st : ax_S) : ax_R := ax_then (ax_sI st 0 43 (4 : Int32)) fun st1 => ax_bind (fX9_copy 1 4 x1 st1) fun r2 st3 => ax_bind (fX9_copy 2 4 x1 st3) fun r4 st5 => ax_bind (fX9_copy 3 10 x1 st5) fun r6 st7 => ax_bind (fX9_copy 4 10 x1 st7) fun r8 st9 => ax_bind (fX9_copy 5 10 x1 st9) fun r10 st11 => ax_bind (fX9_copy 6 10 x1 st11) fun r12 st13 => ax_bind (fX9_copy 7 10 x1 st13) fun r14 st15 => ax_bind (fX9_copy 8 10 x1 st15) fun r16 st17 => ax_bind (fX9_copy 9 10 x1 st17) fun r18 st19 => ax_bind (fX9_copy 10 10 x1 st19) fun r20 st21 => ax_bind (fX9_copy 11 24 x1 st21) fun r22 st23 => ax_bind (fX9_copy 12 24 x1 st23) fun r24 st25 => ax_bind (fX9_copy 13 24 x1 st25) fun r26 st27 => ax_bind (fX9_copy 14 10 x1 st27) fun r28 st29 => some (0, st29)
def fX9_saveSnapshot (st : ax_S) : ax_R := ax_putz st 0 41 (1 : Int32) fun st1 => ax_sto st1 27 174 (0 : Int32) (st1.1 0 0) fun st2 => ax_sto st2 27 174 (1 : Int32) (st2.1 0 3) fun st3 => ax_sto st3 27 174 (2 : Int32) (st3.1 0 12) fun st4 => ax_sto st4 27 174 (3 : Int32) (st4.1 0 16) fun st5 => ax_bind (fX9_copyAll (0 : Int32) st5) fun r6 st7 => some ((st7.1 0 12), st7)
def fX9_restoreSnapshot (st : ax_S) : ax_R := if (st.1 0 41) = 0 then (some ((-13 : Int32), st)) else (ax_ld st 27 174 (0 : Int32) fun v1 => ax_then (ax_sI st 0 0 v1) fun st2 => ax_ld st2 27 174 (1 : Int32) fun v3 => ax_then (ax_sI st2 0 3 v3) fun st4 => ax_ld st4 27 174 (2 : Int32) fun v5 => ax_then (ax_sI st4 0 12 v5) fun st6 => ax_ld st6 27 174 (3 : Int32) fun v7 => ax_then (ax_sI st6 0 16 v7) fun st8 => ax_bind (fX9_copyAll (1 : Int32) st8) fun r9 st10 => some ((st10.1 0 12), st10))
