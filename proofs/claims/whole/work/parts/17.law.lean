/-! THE CLAIM OUT OF ONE WALK OF THE LAW'S BODY. Your part is whole_start (and what it stands on); all else here is the same for every law, but numbers. -/
def R_law : String := "LinearizabilityCheckerLaw"
def lw_P (b : Addr) (xs : List Int32) (args : Array Value) (s : State) : Prop := args = #[.ref b] ∧ s.IntsAt b xs ∧ xs.length ≤ 2560 ∧ (Jvm.Cond.and given_1 narrow_1).before args s = true
def lw_Q (_ : Array Value) (s : State) (o : Outcome) (t : State) : Prop := o = .returned (some (.int 1)) ∧ Framed s o t [] 600000 7302250
def lw_Z (below : List Frame) (a : Array Value) (s : State) : State → Prop := fun t => ∃ o, t.status = .running ∧ Ended t below o ∧ lw_Q a s o t
/-- the law's own end, with 1 on the stack, nothing written that was there before, its room as the claim has it -/
theorem lw_ret {p : Program} {l : Launch} {e : Env} {s : State} {m : MethodId} {below : List Frame} {meth : Method} {c : Code} {b : Nat} (hx : p.tables.exec = Jvm.exec) (hb : c.code = code) (hr : meth.sig.returnType = ret) (hlocks : meth.locks = false) {pc : Nat} {H : Heap} {ls : Array Slot} (hdg : decode code pc = .ok (.ireturn, 1)) : W p l e room_1 s m #[Value.ref b] below meth c H [] 600000 7302250 (lw_Z below #[Value.ref b] s) (F0 m pc ls [.int 1]) := by
  intro T hT X
  obtain ⟨fs, hret, hrun, hended, hW, hframe⟩ := X.leave (v := some (.int 1)) (hlocks := hlocks) (fun h => by rw [hr] at h; cases h)
  have hmeth' : T.vm.method? m = some meth := X.method'
  refine ⟨T.setFrames fs, ?_, .returned (some (.int 1)), hrun, hended, rfl, ⟨_, rfl⟩, hW, hframe⟩
  jvm_step X.here [X.here.top, hx, hb, hdg, hmeth', hr, ret, narrow_b1]
  (try refine ⟨rfl, ?_⟩); (try refine ⟨rfl, ?_⟩)
  first | (intro acts; rw [hret _ acts rfl rfl rfl]) | rw [hret _ _ rfl rfl rfl]
  exact Steps.refl _
/-- what holds at the law's entry: the machine, the code, the tables' words (any of lw_tbl by 'hts w (by decide +kernel)'), the script of L ints xs at the cell b, what the Statement gives of the start (any of its parts by flat_of_before) -/
def lw_At (p : Program) (s : State) (m : MethodId) (meth : Method) (c : Code) (b L : Nat) (xs : Nat → Int32) : Prop :=
  p.tables.exec = Jvm.exec ∧ c.code = code ∧ meth.sig.returnType = ret ∧ c.maxLocals = 4 ∧ s.vm.findClass R_law = some m.cls ∧ (∀ w ∈ lw_tbl, w.before #[Value.ref b] s = true) ∧ va_X b L xs s s.heap ∧ b < s.heap.size ∧ meth.locks = false ∧ (Jvm.Cond.and given_1 narrow_1).before #[Value.ref b] s = true
/-! THE LAW: one case each, then its loop, over what class and reference do to their abstract states; open in Rl and hsim: the states of the two that belong together -/
def ax_Sims (Rl : ax_S → ax_S → Prop) : Prop :=
  (∀ (a0 : Int32) (sx sm : ax_S), Rl sx sm → ∃ (r : Int32) (sx1 sm1 : ax_S), fX8_createRegister a0 sx = some (r, sx1) ∧ fX9_createRegister a0 sm = some (r, sm1) ∧ Rl sx1 sm1) ∧
  (∀ (a0 : Int32) (sx sm : ax_S), Rl sx sm → ∃ (r : Int32) (sx1 sm1 : ax_S), fX8_createCounter a0 sx = some (r, sx1) ∧ fX9_createCounter a0 sm = some (r, sm1) ∧ Rl sx1 sm1) ∧
  (∀ (sx sm : ax_S), Rl sx sm → ∃ (r : Int32) (sx1 sm1 : ax_S), fX8_createQueue sx = some (r, sx1) ∧ fX9_createQueue sm = some (r, sm1) ∧ Rl sx1 sm1) ∧
  (∀ (sx sm : ax_S), Rl sx sm → ∃ (r : Int32) (sx1 sm1 : ax_S), fX8_createSet sx = some (r, sx1) ∧ fX9_createSet sm = some (r, sm1) ∧ Rl sx1 sm1) ∧
  (∀ (sx sm : ax_S), Rl sx sm → ∃ (r : Int32) (sx1 sm1 : ax_S), fX8_objectCount sx = some (r, sx1) ∧ fX9_objectCount sm = some (r, sm1) ∧ Rl sx1 sm1) ∧
  (∀ (a0 : Int32) (sx sm : ax_S), Rl sx sm → ∃ (r : Int32) (sx1 sm1 : ax_S), fX8_typeOf a0 sx = some (r, sx1) ∧ fX9_typeOf a0 sm = some (r, sm1) ∧ Rl sx1 sm1) ∧
  (∀ (sx sm : ax_S), Rl sx sm → ∃ (r : Int32) (sx1 sm1 : ax_S), fX8_reset sx = some (r, sx1) ∧ fX9_reset sm = some (r, sm1) ∧ Rl sx1 sm1) ∧
  (∀ (a0 a1 : Int32) (sx sm : ax_S), Rl sx sm → ∃ (r : Int32) (sx1 sm1 : ax_S), fX8_invokeRead a0 a1 sx = some (r, sx1) ∧ fX9_invokeRead a0 a1 sm = some (r, sm1) ∧ Rl sx1 sm1) ∧
  (∀ (a0 a1 a2 : Int32) (sx sm : ax_S), Rl sx sm → ∃ (r : Int32) (sx1 sm1 : ax_S), fX8_invokeWrite a0 a1 a2 sx = some (r, sx1) ∧ fX9_invokeWrite a0 a1 a2 sm = some (r, sm1) ∧ Rl sx1 sm1) ∧
  (∀ (a0 a1 a2 a3 : Int32) (sx sm : ax_S), Rl sx sm → ∃ (r : Int32) (sx1 sm1 : ax_S), fX8_invokeCompareAndSet a0 a1 a2 a3 sx = some (r, sx1) ∧ fX9_invokeCompareAndSet a0 a1 a2 a3 sm = some (r, sm1) ∧ Rl sx1 sm1) ∧
  (∀ (a0 a1 : Int32) (sx sm : ax_S), Rl sx sm → ∃ (r : Int32) (sx1 sm1 : ax_S), fX8_invokeGet a0 a1 sx = some (r, sx1) ∧ fX9_invokeGet a0 a1 sm = some (r, sm1) ∧ Rl sx1 sm1) ∧
  (∀ (a0 a1 a2 : Int32) (sx sm : ax_S), Rl sx sm → ∃ (r : Int32) (sx1 sm1 : ax_S), fX8_invokeAdd a0 a1 a2 sx = some (r, sx1) ∧ fX9_invokeAdd a0 a1 a2 sm = some (r, sm1) ∧ Rl sx1 sm1) ∧
  (∀ (a0 a1 a2 : Int32) (sx sm : ax_S), Rl sx sm → ∃ (r : Int32) (sx1 sm1 : ax_S), fX8_invokeEnqueue a0 a1 a2 sx = some (r, sx1) ∧ fX9_invokeEnqueue a0 a1 a2 sm = some (r, sm1) ∧ Rl sx1 sm1) ∧
  (∀ (a0 a1 : Int32) (sx sm : ax_S), Rl sx sm → ∃ (r : Int32) (sx1 sm1 : ax_S), fX8_invokeDequeue a0 a1 sx = some (r, sx1) ∧ fX9_invokeDequeue a0 a1 sm = some (r, sm1) ∧ Rl sx1 sm1) ∧
  (∀ (a0 a1 a2 : Int32) (sx sm : ax_S), Rl sx sm → ∃ (r : Int32) (sx1 sm1 : ax_S), fX8_invokeInsert a0 a1 a2 sx = some (r, sx1) ∧ fX9_invokeInsert a0 a1 a2 sm = some (r, sm1) ∧ Rl sx1 sm1) ∧
  (∀ (a0 a1 a2 : Int32) (sx sm : ax_S), Rl sx sm → ∃ (r : Int32) (sx1 sm1 : ax_S), fX8_invokeRemove a0 a1 a2 sx = some (r, sx1) ∧ fX9_invokeRemove a0 a1 a2 sm = some (r, sm1) ∧ Rl sx1 sm1) ∧
  (∀ (a0 a1 a2 : Int32) (sx sm : ax_S), Rl sx sm → ∃ (r : Int32) (sx1 sm1 : ax_S), fX8_invokeContains a0 a1 a2 sx = some (r, sx1) ∧ fX9_invokeContains a0 a1 a2 sm = some (r, sm1) ∧ Rl sx1 sm1) ∧
  (∀ (a0 a1 : Int32) (sx sm : ax_S), Rl sx sm → ∃ (r : Int32) (sx1 sm1 : ax_S), fX8_respond a0 a1 sx = some (r, sx1) ∧ fX9_respond a0 a1 sm = some (r, sm1) ∧ Rl sx1 sm1) ∧
  (∀ (a0 : Int32) (sx sm : ax_S), Rl sx sm → ∃ (r : Int32) (sx1 sm1 : ax_S), fX8_crash a0 sx = some (r, sx1) ∧ fX9_crash a0 sm = some (r, sm1) ∧ Rl sx1 sm1) ∧
  (∀ (sx sm : ax_S), Rl sx sm → ∃ (r : Int32) (sx1 sm1 : ax_S), fX8_undo sx = some (r, sx1) ∧ fX9_undo sm = some (r, sm1) ∧ Rl sx1 sm1) ∧
  (∀ (sx sm : ax_S), Rl sx sm → ∃ (r : Int32) (sx1 sm1 : ax_S), fX8_eventCount sx = some (r, sx1) ∧ fX9_eventCount sm = some (r, sm1) ∧ Rl sx1 sm1) ∧
  (∀ (sx sm : ax_S), Rl sx sm → ∃ (r : Int32) (sx1 sm1 : ax_S), fX8_operationCount sx = some (r, sx1) ∧ fX9_operationCount sm = some (r, sm1) ∧ Rl sx1 sm1) ∧
  (∀ (a0 : Int32) (sx sm : ax_S), Rl sx sm → ∃ (r : Int32) (sx1 sm1 : ax_S), fX8_kindOf a0 sx = some (r, sx1) ∧ fX9_kindOf a0 sm = some (r, sm1) ∧ Rl sx1 sm1) ∧
  (∀ (a0 : Int32) (sx sm : ax_S), Rl sx sm → ∃ (r : Int32) (sx1 sm1 : ax_S), fX8_threadOf a0 sx = some (r, sx1) ∧ fX9_threadOf a0 sm = some (r, sm1) ∧ Rl sx1 sm1) ∧
  (∀ (a0 : Int32) (sx sm : ax_S), Rl sx sm → ∃ (r : Int32) (sx1 sm1 : ax_S), fX8_objectOf a0 sx = some (r, sx1) ∧ fX9_objectOf a0 sm = some (r, sm1) ∧ Rl sx1 sm1) ∧
  (∀ (a0 : Int32) (sx sm : ax_S), Rl sx sm → ∃ (r : Int32) (sx1 sm1 : ax_S), fX8_invocationTime a0 sx = some (r, sx1) ∧ fX9_invocationTime a0 sm = some (r, sm1) ∧ Rl sx1 sm1) ∧
  (∀ (a0 : Int32) (sx sm : ax_S), Rl sx sm → ∃ (r : Int32) (sx1 sm1 : ax_S), fX8_responseTime a0 sx = some (r, sx1) ∧ fX9_responseTime a0 sm = some (r, sm1) ∧ Rl sx1 sm1) ∧
  (∀ (a0 : Int32) (sx sm : ax_S), Rl sx sm → ∃ (r : Int32) (sx1 sm1 : ax_S), fX8_resultOf a0 sx = some (r, sx1) ∧ fX9_resultOf a0 sm = some (r, sm1) ∧ Rl sx1 sm1) ∧
  (∀ (a0 a1 : Int32) (sx sm : ax_S), Rl sx sm → ∃ (r : Int32) (sx1 sm1 : ax_S), fX8_precedes a0 a1 sx = some (r, sx1) ∧ fX9_precedes a0 a1 sm = some (r, sm1) ∧ Rl sx1 sm1) ∧
  (∀ (sx sm : ax_S), Rl sx sm → ∃ (r : Int32) (sx1 sm1 : ax_S), fX8_maxPending sx = some (r, sx1) ∧ fX9_maxPending sm = some (r, sm1) ∧ Rl sx1 sm1) ∧
  (∀ (sx sm : ax_S), Rl sx sm → ∃ (r : Int32) (sx1 sm1 : ax_S), fX8_longestChain sx = some (r, sx1) ∧ fX9_longestChain sm = some (r, sm1) ∧ Rl sx1 sm1) ∧
  (∀ (sx sm : ax_S), Rl sx sm → ∃ (r : Int32) (sx1 sm1 : ax_S), fX8_isLinearizable sx = some (r, sx1) ∧ fX9_isLinearizable sm = some (r, sm1) ∧ Rl sx1 sm1) ∧
  (∀ (a0 : Int32) (sx sm : ax_S), Rl sx sm → ∃ (r : Int32) (sx1 sm1 : ax_S), fX8_isObjectLinearizable a0 sx = some (r, sx1) ∧ fX9_isObjectLinearizable a0 sm = some (r, sm1) ∧ Rl sx1 sm1) ∧
  (∀ (sx sm : ax_S), Rl sx sm → ∃ (r : Int32) (sx1 sm1 : ax_S), fX8_isSequentiallyConsistent sx = some (r, sx1) ∧ fX9_isSequentiallyConsistent sm = some (r, sm1) ∧ Rl sx1 sm1) ∧
  (∀ (sx sm : ax_S), Rl sx sm → ∃ (r : Int32) (sx1 sm1 : ax_S), fX8_countLinearizations sx = some (r, sx1) ∧ fX9_countLinearizations sm = some (r, sm1) ∧ Rl sx1 sm1) ∧
  (∀ (sx sm : ax_S), Rl sx sm → ∃ (r : Int32) (sx1 sm1 : ax_S), fX8_firstLinearizationLength sx = some (r, sx1) ∧ fX9_firstLinearizationLength sm = some (r, sm1) ∧ Rl sx1 sm1) ∧
  (∀ (a0 : Int32) (sx sm : ax_S), Rl sx sm → ∃ (r : Int32) (sx1 sm1 : ax_S), fX8_firstLinearizationAt a0 sx = some (r, sx1) ∧ fX9_firstLinearizationAt a0 sm = some (r, sm1) ∧ Rl sx1 sm1) ∧
  (∀ (sx sm : ax_S), Rl sx sm → ∃ (r : Int32) (sx1 sm1 : ax_S), fX8_firstViolation sx = some (r, sx1) ∧ fX9_firstViolation sm = some (r, sm1) ∧ Rl sx1 sm1) ∧
  (∀ (a0 a1 : Int32) (sx sm : ax_S), Rl sx sm → ∃ (r : Int32) (sx1 sm1 : ax_S), fX8_canRespond a0 a1 sx = some (r, sx1) ∧ fX9_canRespond a0 a1 sm = some (r, sm1) ∧ Rl sx1 sm1) ∧
  (∀ (a0 : Int32) (sx sm : ax_S), Rl sx sm → ∃ (r : Int32) (sx1 sm1 : ax_S), fX8_countResponses a0 sx = some (r, sx1) ∧ fX9_countResponses a0 sm = some (r, sm1) ∧ Rl sx1 sm1) ∧
  (∀ (a0 : Int32) (sx sm : ax_S), Rl sx sm → ∃ (r : Int32) (sx1 sm1 : ax_S), fX8_appendToOrder a0 sx = some (r, sx1) ∧ fX9_appendToOrder a0 sm = some (r, sm1) ∧ Rl sx1 sm1) ∧
  (∀ (a0 : Int32) (sx sm : ax_S), Rl sx sm → ∃ (r : Int32) (sx1 sm1 : ax_S), fX8_removeFromOrder a0 sx = some (r, sx1) ∧ fX9_removeFromOrder a0 sm = some (r, sm1) ∧ Rl sx1 sm1) ∧
  (∀ (sx sm : ax_S), Rl sx sm → ∃ (r : Int32) (sx1 sm1 : ax_S), fX8_orderSize sx = some (r, sx1) ∧ fX9_orderSize sm = some (r, sm1) ∧ Rl sx1 sm1) ∧
  (∀ (a0 : Int32) (sx sm : ax_S), Rl sx sm → ∃ (r : Int32) (sx1 sm1 : ax_S), fX8_orderAt a0 sx = some (r, sx1) ∧ fX9_orderAt a0 sm = some (r, sm1) ∧ Rl sx1 sm1) ∧
  (∀ (sx sm : ax_S), Rl sx sm → ∃ (r : Int32) (sx1 sm1 : ax_S), fX8_isOrderLinearization sx = some (r, sx1) ∧ fX9_isOrderLinearization sm = some (r, sm1) ∧ Rl sx1 sm1) ∧
  (∀ (sx sm : ax_S), Rl sx sm → ∃ (r : Int32) (sx1 sm1 : ax_S), fX8_firstBadPosition sx = some (r, sx1) ∧ fX9_firstBadPosition sm = some (r, sm1) ∧ Rl sx1 sm1) ∧
  (∀ (a0 : Int32) (sx sm : ax_S), Rl sx sm → ∃ (r : Int32) (sx1 sm1 : ax_S), fX8_appendCharacter a0 sx = some (r, sx1) ∧ fX9_appendCharacter a0 sm = some (r, sm1) ∧ Rl sx1 sm1) ∧
  (∀ (sx sm : ax_S), Rl sx sm → ∃ (r : Int32) (sx1 sm1 : ax_S), fX8_clearText sx = some (r, sx1) ∧ fX9_clearText sm = some (r, sm1) ∧ Rl sx1 sm1) ∧
  (∀ (sx sm : ax_S), Rl sx sm → ∃ (r : Int32) (sx1 sm1 : ax_S), fX8_parseText sx = some (r, sx1) ∧ fX9_parseText sm = some (r, sm1) ∧ Rl sx1 sm1) ∧
  (∀ (sx sm : ax_S), Rl sx sm → ∃ (r : Int32) (sx1 sm1 : ax_S), fX8_saveSnapshot sx = some (r, sx1) ∧ fX9_saveSnapshot sm = some (r, sm1) ∧ Rl sx1 sm1) ∧
  (∀ (sx sm : ax_S), Rl sx sm → ∃ (r : Int32) (sx1 sm1 : ax_S), fX8_restoreSnapshot sx = some (r, sx1) ∧ fX9_restoreSnapshot sm = some (r, sm1) ∧ Rl sx1 sm1)
def lw_F (s : State) (D : va_G) (adX : Nat → Nat) (caX : Nat → ClassId) (adM : Nat → Nat) (caM : Nat → ClassId) : Prop := ax_K D LX caX s ∧ ax_K D LM caM s ∧ ax_inj LX adX ∧ ax_inj LM adM ∧ (∀ o, o < LX.length → s.heap.size ≤ adX o) ∧ (∀ o, o < LM.length → s.heap.size ≤ adM o) ∧ (∀ i j, i < LX.length → j < LM.length → adX i ≠ adM j) ∧ ax_str (fun q => s.heap.size ≤ q) adX s s.heap ∧ ax_str (fun q => s.heap.size ≤ q) adM s s.heap
def lw_G (s : State) (D : va_G) (adX : Nat → Nat) (caX : Nat → ClassId) (adM : Nat → Nat) (caM : Nat → ClassId) (H : Heap) (locs : List Loc) (stX stM : ax_S) : Prop := va_P D vwCl (ax_W LX adX caX stX) H ∧ va_P D vwCl (ax_W LM adM caM stM) H ∧ va_S (fun q => s.heap.size ≤ q) s.heap H locs
def lw_T (Rl : ax_S → ax_S → Prop) (p : Program) (l : Launch) (e : Env) (s : State) (m : MethodId) (b : Addr) (below : List Frame) (meth : Method) (c : Code) (D : va_G) (adX : Nat → Nat) (caX : Nat → ClassId) (adM : Nat → Nat) (caM : Nat → ClassId) (i : Int32) : Prop :=
  ∀ stX stM, Rl stX stM → ∀ (H : Heap) (locs : List Loc) (ls : Array Slot), lw_G s D adX caX adM caM H locs stX stM → lv_has ls 4 [(0, .ref b), (1, .ref (adX 0)), (2, .ref (adM 0)), (3, .int i)] → W p l e room_1 s m #[Value.ref b] below meth c H locs 600000 7302250 (lw_Z below #[Value.ref b] s) (F0 m 1425 ls [])
theorem lw_toInt {z : Int32} (h : 0 ≤ z) : z.toInt = (z.toNatClampNeg : Int) := by
  have h3 : (0 : Int) ≤ z.toInt := by simpa using Int32.le_iff_toInt_le.mp h
  show z.toInt = ((z.toInt.toNat : Nat) : Int)
  omega
theorem lw_add {j k N : Nat} (hj : j + 5 ≤ N) (hL : N ≤ 2560) (hk : k < 5) : nI j + Int32.ofNat k = nI (j + k) := by
  apply Int32.toInt_inj.mp
  rw [Int32.toInt_add, nI_toInt (by omega), nI_toInt (by omega)]
  show ((j : Int) + (nI k).toInt).bmod (2 ^ 32) = _
  rw [nI_toInt (by omega)]
  exact Int.bmod_eq_of_le (by omega) (by omega)
theorem lw_in {j k N : Nat} (hj : j + 5 ≤ N) (hL : N ≤ 2560) (hk : k < 5) : vp_in (nI j + Int32.ofNat k) N := by
  rw [lw_add hj hL hk]
  exact vp_in_nI (by omega) (by omega)
/-- a call of the one world's method beside the other world -/
theorem lw_call {p : Program} {l : Launch} {e : Env} {s : State} {m : MethodId} {args : Array Value} {below : List Frame} {meth : Method} {c : Code} {D : va_G} {L1 L2 : ax_L} {ad1 ad2 : Nat → Nat} {ca1 ca2 : Nat → ClassId} {st1 st2 st1' : ax_S} {H : Heap} {locs : List Loc} {pc nLy n idx dy ci : Nat} {ls : Array Slot} {Q : State → Prop} {y : MethodName} {cy : ByteArray} {rty : Option FieldType} {r : Int32} {fs : List (Option Nat)} {stk0 rest : List Value} {nL : Nat}
    (hx : p.tables.exec = Jvm.exec) (hb : c.code = code) (hml : c.maxLocals = nL) (hown : s.vm.findClass RL = some m.cls) (hts : ∀ w ∈ wsL_law, w.before args s = true) (hP1 : va_P D vwCl (ax_W L1 ad1 ca1 st1) H) (hP2 : va_P D vwCl (ax_W L2 ad2 ca2 st2) H) (hS : va_S (fun q => s.heap.size ≤ q) s.heap H locs) (hK1 : ax_K D L1 ca1 s) (hi1 : ax_inj L1 ad1) (hstr : ax_str (fun q => s.heap.size ≤ q) ad1 s s.heap) (hA1 : ∀ o, o < L1.length → s.heap.size ≤ ad1 o) (hdis : ∀ i j, i < L1.length → j < L2.length → ad1 i ≠ ad2 j)
    (hk : ax_mlk RL idx y cy nLy rty n) (hs : Cond.instanceMethod y ∈ wsL_law ∧ Cond.selects y.cls y y ∈ wsL_law ∧ ∃ (T : u_T) (N : Nat), vwCl[ci]? = some (y.cls, T, N)) (he : L1[0]? = some (.inr (.inr (ci, fs)))) (As : List ax_V) (hst : stk0 = (As.map (ax_val ad1)).reverse ++ .ref (ad1 0) :: rest) (hn : As.length = n) (hd : dy ≤ 2000) (hnl : nLy ≤ 21) (hrest : (rest.map fun v => v.category).sum ≤ 8) (hdg : decode code pc = .ok (.invokevirtual idx, 3)) (hM : ax_M L1 y cy nLy rty dy (.inr 0 :: As) st1 1 r st1') (hls : ls.size = nL)
    (kk : ∀ (H1 : Heap) (locs1 : List Loc), va_P D vwCl (ax_W L1 ad1 ca1 st1') H1 → va_P D vwCl (ax_W L2 ad2 ca2 st2) H1 → va_S (fun q => s.heap.size ≤ q) s.heap H1 locs1 → W p l e room_1 s m args below meth c H1 locs1 600000 7302250 Q (F0 m (pc + 3) ls (.int r :: rest))) : W p l e room_1 s m args below meth c H locs 600000 7302250 Q (F0 m pc ls stk0) := by
  subst hst
  obtain ⟨hs1, hs2, T9, N9, hs3⟩ := hs
  have hA : ∀ q, ax_A L1 ad1 H.size q → s.heap.size ≤ q := fun q hq => by
    rcases hq with ⟨o, ho, rfl⟩ | h
    · exact hA1 o ho
    · exact Nat.le_trans hS.1 h
  have hrun := va_runV (l := l) (e := e) (below := below) (meth := meth) (H := H) (locs := locs) (cells := 600000) (slots := 7302250) (g := F0 m pc ls ((As.map (ax_val ad1)).reverse ++ .ref (ad1 0) :: rest)) (rest := rest) (C := y.cls) (b := ad1 0) (As := As.map (ax_val ad1)) ⟨hx, hb, hml, hown, hts⟩ (hM l D ad1 ca1 H.size)
    (R := room_1) ⟨ix_pay hts hk rfl rfl ⟨by show dy + 1 ≤ 2048; omega, by show 8 + (nLy + 11) + 40 * dy ≤ 84000; omega⟩, hts _ hs1, hts _ hs2⟩
    ⟨ax_blind, va_recv (q := (y.cls, T9, N9)) (q0 := 0) hK1.1 hP1 hs3 (ax_W_of he), fun U hU hW => ⟨rfl, by rw [hU], by rw [hU]; exact hP1, hK1.moved hW.alike, hi1, by rw [hU]; exact ((hstr.kept hS.2.1).narrow hA).warm hW⟩⟩ rfl (by rw [List.length_map]; exact hn) hls rfl (lv_room hrest) hdg ⟨Nat.le_refl _, Nat.le_refl _⟩
  intro T hT XX
  obtain ⟨v, st₀, t, T', L', h0, X', hL, e1, e2, ⟨hv, hp, hF⟩, hst⟩ := hrun T hT XX
  cases hv
  have hk : ∀ q : Nat, q < H.size → ¬ ax_A L1 ad1 H.size q → t.heap[q]? = H[q]? := fun q h1 h2 => by
    have h3 := hF.2 q (by rw [h0]; exact h1) h2
    rw [h0] at h3; exact h3
  have hz : H.size ≤ t.heap.size := by
    have h3 := hF.1
    rw [h0] at h3; exact h3
  obtain ⟨t2, a1, b1⟩ := kk T'.heap (locs ++ L') (by rw [e1]; exact hp)
    (fun k q hq => by
      obtain ⟨e9, g1, rfl⟩ := ax_W_in hq
      have hlt := (hP2 k _ hq).lt
      refine (hP2 k _ hq).kept ?_
      rw [e1]
      refine hk _ hlt (fun hbad => ?_)
      rcases hbad with ⟨o, ho, h9⟩ | h9
      · exact hdis o k ho (List.getElem?_eq_some_iff.mp g1).1 h9.symm
      · exact absurd hlt (Nat.not_lt.mpr h9))
    ⟨Nat.le_trans hS.1 (by rw [e1]; exact hz), fun q h1 h2 => by rw [e1, hk q (Nat.lt_of_lt_of_le h1 hS.1) (fun z => h2 (hA q z))]; exact hS.2.1 q h1 h2, fun q hq => by
      rcases List.mem_append.mp hq with h | h
      · exact hS.2.2 q h
      · exact hA _ (hL q h)⟩ T' rfl X'
  exact ⟨t2, hst t2 a1, b1⟩
theorem mlk_L_13 : ax_mlk RL 13 yX8_createRegister cX8_createRegister 2 (some .int) 1 := ⟨wsub_wsL_law_r7 _ (List.mem_of_getElem? (i := 2) rfl), wsub_wsL_law_r1 _ (List.mem_of_getElem? (i := 2) rfl), wsub_wsL_law_r7 _ (List.mem_of_getElem? (i := 5) rfl), by decide +kernel⟩
theorem hst_L_13 : Cond.instanceMethod yX8_createRegister ∈ wsL_law ∧ Cond.selects yX8_createRegister.cls yX8_createRegister yX8_createRegister ∈ wsL_law ∧ ∃ (T : u_T) (N : Nat), vwCl[8]? = some (yX8_createRegister.cls, T, N) := ⟨wsub_wsL_law_r7 _ (List.mem_of_getElem? (i := 3) rfl), wsub_wsL_law_r7 _ (List.mem_of_getElem? (i := 4) rfl), TX8, 6, rfl⟩
theorem mlk_L_17 : ax_mlk RL 17 yX9_createRegister cX9_createRegister 2 (some .int) 1 := ⟨wsub_wsL_law_r7 _ (List.mem_of_getElem? (i := 23) rfl), wsub_wsL_law_r1 _ (List.mem_of_getElem? (i := 5) rfl), wsub_wsL_law_r8 _ (List.mem_of_getElem? (i := 2) rfl), by decide +kernel⟩
theorem hst_L_17 : Cond.instanceMethod yX9_createRegister ∈ wsL_law ∧ Cond.selects yX9_createRegister.cls yX9_createRegister yX9_createRegister ∈ wsL_law ∧ ∃ (T : u_T) (N : Nat), vwCl[9]? = some (yX9_createRegister.cls, T, N) := ⟨wsub_wsL_law_r8 _ (List.mem_of_getElem? (i := 0) rfl), wsub_wsL_law_r8 _ (List.mem_of_getElem? (i := 1) rfl), TX9, 44, rfl⟩
theorem mlk_L_18 : ax_mlk RL 18 yX8_createCounter cX8_createCounter 2 (some .int) 1 := ⟨wsub_wsL_law_r8 _ (List.mem_of_getElem? (i := 12) rfl), wsub_wsL_law_r1 _ (List.mem_of_getElem? (i := 2) rfl), wsub_wsL_law_r8 _ (List.mem_of_getElem? (i := 15) rfl), by decide +kernel⟩
theorem hst_L_18 : Cond.instanceMethod yX8_createCounter ∈ wsL_law ∧ Cond.selects yX8_createCounter.cls yX8_createCounter yX8_createCounter ∈ wsL_law ∧ ∃ (T : u_T) (N : Nat), vwCl[8]? = some (yX8_createCounter.cls, T, N) := ⟨wsub_wsL_law_r8 _ (List.mem_of_getElem? (i := 13) rfl), wsub_wsL_law_r8 _ (List.mem_of_getElem? (i := 14) rfl), TX8, 6, rfl⟩
theorem mlk_L_21 : ax_mlk RL 21 yX9_createCounter cX9_createCounter 2 (some .int) 1 := ⟨wsub_wsL_law_r8 _ (List.mem_of_getElem? (i := 16) rfl), wsub_wsL_law_r1 _ (List.mem_of_getElem? (i := 5) rfl), wsub_wsL_law_r8 _ (List.mem_of_getElem? (i := 19) rfl), by decide +kernel⟩
theorem hst_L_21 : Cond.instanceMethod yX9_createCounter ∈ wsL_law ∧ Cond.selects yX9_createCounter.cls yX9_createCounter yX9_createCounter ∈ wsL_law ∧ ∃ (T : u_T) (N : Nat), vwCl[9]? = some (yX9_createCounter.cls, T, N) := ⟨wsub_wsL_law_r8 _ (List.mem_of_getElem? (i := 17) rfl), wsub_wsL_law_r8 _ (List.mem_of_getElem? (i := 18) rfl), TX9, 44, rfl⟩
theorem mlk_L_22 : ax_mlk RL 22 yX8_createQueue cX8_createQueue 1 (some .int) 0 := ⟨wsub_wsL_law_r8 _ (List.mem_of_getElem? (i := 20) rfl), wsub_wsL_law_r1 _ (List.mem_of_getElem? (i := 2) rfl), wsub_wsL_law_r8 _ (List.mem_of_getElem? (i := 23) rfl), by decide +kernel⟩
theorem hst_L_22 : Cond.instanceMethod yX8_createQueue ∈ wsL_law ∧ Cond.selects yX8_createQueue.cls yX8_createQueue yX8_createQueue ∈ wsL_law ∧ ∃ (T : u_T) (N : Nat), vwCl[8]? = some (yX8_createQueue.cls, T, N) := ⟨wsub_wsL_law_r8 _ (List.mem_of_getElem? (i := 21) rfl), wsub_wsL_law_r8 _ (List.mem_of_getElem? (i := 22) rfl), TX8, 6, rfl⟩
theorem mlk_L_26 : ax_mlk RL 26 yX9_createQueue cX9_createQueue 1 (some .int) 0 := ⟨wsub_wsL_law_r9 _ (List.mem_of_getElem? (i := 0) rfl), wsub_wsL_law_r1 _ (List.mem_of_getElem? (i := 5) rfl), wsub_wsL_law_r9 _ (List.mem_of_getElem? (i := 3) rfl), by decide +kernel⟩
theorem hst_L_26 : Cond.instanceMethod yX9_createQueue ∈ wsL_law ∧ Cond.selects yX9_createQueue.cls yX9_createQueue yX9_createQueue ∈ wsL_law ∧ ∃ (T : u_T) (N : Nat), vwCl[9]? = some (yX9_createQueue.cls, T, N) := ⟨wsub_wsL_law_r9 _ (List.mem_of_getElem? (i := 1) rfl), wsub_wsL_law_r9 _ (List.mem_of_getElem? (i := 2) rfl), TX9, 44, rfl⟩
theorem mlk_L_27 : ax_mlk RL 27 yX8_createSet cX8_createSet 1 (some .int) 0 := ⟨wsub_wsL_law_r9 _ (List.mem_of_getElem? (i := 4) rfl), wsub_wsL_law_r1 _ (List.mem_of_getElem? (i := 2) rfl), wsub_wsL_law_r9 _ (List.mem_of_getElem? (i := 7) rfl), by decide +kernel⟩
theorem hst_L_27 : Cond.instanceMethod yX8_createSet ∈ wsL_law ∧ Cond.selects yX8_createSet.cls yX8_createSet yX8_createSet ∈ wsL_law ∧ ∃ (T : u_T) (N : Nat), vwCl[8]? = some (yX8_createSet.cls, T, N) := ⟨wsub_wsL_law_r9 _ (List.mem_of_getElem? (i := 5) rfl), wsub_wsL_law_r9 _ (List.mem_of_getElem? (i := 6) rfl), TX8, 6, rfl⟩
theorem mlk_L_30 : ax_mlk RL 30 yX9_createSet cX9_createSet 1 (some .int) 0 := ⟨wsub_wsL_law_r9 _ (List.mem_of_getElem? (i := 8) rfl), wsub_wsL_law_r1 _ (List.mem_of_getElem? (i := 5) rfl), wsub_wsL_law_r9 _ (List.mem_of_getElem? (i := 11) rfl), by decide +kernel⟩
theorem hst_L_30 : Cond.instanceMethod yX9_createSet ∈ wsL_law ∧ Cond.selects yX9_createSet.cls yX9_createSet yX9_createSet ∈ wsL_law ∧ ∃ (T : u_T) (N : Nat), vwCl[9]? = some (yX9_createSet.cls, T, N) := ⟨wsub_wsL_law_r9 _ (List.mem_of_getElem? (i := 9) rfl), wsub_wsL_law_r9 _ (List.mem_of_getElem? (i := 10) rfl), TX9, 44, rfl⟩
theorem mlk_L_31 : ax_mlk RL 31 yX8_objectCount cX8_objectCount 1 (some .int) 0 := ⟨wsub_wsL_law_r9 _ (List.mem_of_getElem? (i := 12) rfl), wsub_wsL_law_r1 _ (List.mem_of_getElem? (i := 2) rfl), wsub_wsL_law_r9 _ (List.mem_of_getElem? (i := 15) rfl), by decide +kernel⟩
theorem hst_L_31 : Cond.instanceMethod yX8_objectCount ∈ wsL_law ∧ Cond.selects yX8_objectCount.cls yX8_objectCount yX8_objectCount ∈ wsL_law ∧ ∃ (T : u_T) (N : Nat), vwCl[8]? = some (yX8_objectCount.cls, T, N) := ⟨wsub_wsL_law_r9 _ (List.mem_of_getElem? (i := 13) rfl), wsub_wsL_law_r9 _ (List.mem_of_getElem? (i := 14) rfl), TX8, 6, rfl⟩
theorem mlk_L_34 : ax_mlk RL 34 yX9_objectCount cX9_objectCount 1 (some .int) 0 := ⟨wsub_wsL_law_r9 _ (List.mem_of_getElem? (i := 16) rfl), wsub_wsL_law_r1 _ (List.mem_of_getElem? (i := 5) rfl), wsub_wsL_law_r9 _ (List.mem_of_getElem? (i := 19) rfl), by decide +kernel⟩
theorem hst_L_34 : Cond.instanceMethod yX9_objectCount ∈ wsL_law ∧ Cond.selects yX9_objectCount.cls yX9_objectCount yX9_objectCount ∈ wsL_law ∧ ∃ (T : u_T) (N : Nat), vwCl[9]? = some (yX9_objectCount.cls, T, N) := ⟨wsub_wsL_law_r9 _ (List.mem_of_getElem? (i := 17) rfl), wsub_wsL_law_r9 _ (List.mem_of_getElem? (i := 18) rfl), TX9, 44, rfl⟩
theorem mlk_L_35 : ax_mlk RL 35 yX8_typeOf cX8_typeOf 2 (some .int) 1 := ⟨wsub_wsL_law_r9 _ (List.mem_of_getElem? (i := 20) rfl), wsub_wsL_law_r1 _ (List.mem_of_getElem? (i := 2) rfl), wsub_wsL_law_r9 _ (List.mem_of_getElem? (i := 23) rfl), by decide +kernel⟩
theorem hst_L_35 : Cond.instanceMethod yX8_typeOf ∈ wsL_law ∧ Cond.selects yX8_typeOf.cls yX8_typeOf yX8_typeOf ∈ wsL_law ∧ ∃ (T : u_T) (N : Nat), vwCl[8]? = some (yX8_typeOf.cls, T, N) := ⟨wsub_wsL_law_r9 _ (List.mem_of_getElem? (i := 21) rfl), wsub_wsL_law_r9 _ (List.mem_of_getElem? (i := 22) rfl), TX8, 6, rfl⟩
theorem mlk_L_38 : ax_mlk RL 38 yX9_typeOf cX9_typeOf 2 (some .int) 1 := ⟨wsub_wsL_law_r10 _ (List.mem_of_getElem? (i := 4) rfl), wsub_wsL_law_r1 _ (List.mem_of_getElem? (i := 5) rfl), wsub_wsL_law_r10 _ (List.mem_of_getElem? (i := 7) rfl), by decide +kernel⟩
theorem hst_L_38 : Cond.instanceMethod yX9_typeOf ∈ wsL_law ∧ Cond.selects yX9_typeOf.cls yX9_typeOf yX9_typeOf ∈ wsL_law ∧ ∃ (T : u_T) (N : Nat), vwCl[9]? = some (yX9_typeOf.cls, T, N) := ⟨wsub_wsL_law_r10 _ (List.mem_of_getElem? (i := 5) rfl), wsub_wsL_law_r10 _ (List.mem_of_getElem? (i := 6) rfl), TX9, 44, rfl⟩
theorem mlk_L_39 : ax_mlk RL 39 yX8_reset cX8_reset 2 (some .int) 0 := ⟨wsub_wsL_law_r10 _ (List.mem_of_getElem? (i := 12) rfl), wsub_wsL_law_r1 _ (List.mem_of_getElem? (i := 2) rfl), wsub_wsL_law_r10 _ (List.mem_of_getElem? (i := 15) rfl), by decide +kernel⟩
theorem hst_L_39 : Cond.instanceMethod yX8_reset ∈ wsL_law ∧ Cond.selects yX8_reset.cls yX8_reset yX8_reset ∈ wsL_law ∧ ∃ (T : u_T) (N : Nat), vwCl[8]? = some (yX8_reset.cls, T, N) := ⟨wsub_wsL_law_r10 _ (List.mem_of_getElem? (i := 13) rfl), wsub_wsL_law_r10 _ (List.mem_of_getElem? (i := 14) rfl), TX8, 6, rfl⟩
theorem mlk_L_42 : ax_mlk RL 42 yX9_reset cX9_reset 2 (some .int) 0 := ⟨wsub_wsL_law_r10 _ (List.mem_of_getElem? (i := 22) rfl), wsub_wsL_law_r1 _ (List.mem_of_getElem? (i := 5) rfl), wsub_wsL_law_r11 _ (List.mem_of_getElem? (i := 1) rfl), by decide +kernel⟩
theorem hst_L_42 : Cond.instanceMethod yX9_reset ∈ wsL_law ∧ Cond.selects yX9_reset.cls yX9_reset yX9_reset ∈ wsL_law ∧ ∃ (T : u_T) (N : Nat), vwCl[9]? = some (yX9_reset.cls, T, N) := ⟨wsub_wsL_law_r10 _ (List.mem_of_getElem? (i := 23) rfl), wsub_wsL_law_r11 _ (List.mem_of_getElem? (i := 0) rfl), TX9, 44, rfl⟩
theorem mlk_L_43 : ax_mlk RL 43 yX8_invokeRead cX8_invokeRead 3 (some .int) 2 := ⟨wsub_wsL_law_r11 _ (List.mem_of_getElem? (i := 4) rfl), wsub_wsL_law_r1 _ (List.mem_of_getElem? (i := 2) rfl), wsub_wsL_law_r11 _ (List.mem_of_getElem? (i := 7) rfl), by decide +kernel⟩
theorem hst_L_43 : Cond.instanceMethod yX8_invokeRead ∈ wsL_law ∧ Cond.selects yX8_invokeRead.cls yX8_invokeRead yX8_invokeRead ∈ wsL_law ∧ ∃ (T : u_T) (N : Nat), vwCl[8]? = some (yX8_invokeRead.cls, T, N) := ⟨wsub_wsL_law_r11 _ (List.mem_of_getElem? (i := 5) rfl), wsub_wsL_law_r11 _ (List.mem_of_getElem? (i := 6) rfl), TX8, 6, rfl⟩
theorem mlk_L_47 : ax_mlk RL 47 yX9_invokeRead cX9_invokeRead 3 (some .int) 2 := ⟨wsub_wsL_law_r12 _ (List.mem_of_getElem? (i := 6) rfl), wsub_wsL_law_r1 _ (List.mem_of_getElem? (i := 5) rfl), wsub_wsL_law_r12 _ (List.mem_of_getElem? (i := 9) rfl), by decide +kernel⟩
theorem hst_L_47 : Cond.instanceMethod yX9_invokeRead ∈ wsL_law ∧ Cond.selects yX9_invokeRead.cls yX9_invokeRead yX9_invokeRead ∈ wsL_law ∧ ∃ (T : u_T) (N : Nat), vwCl[9]? = some (yX9_invokeRead.cls, T, N) := ⟨wsub_wsL_law_r12 _ (List.mem_of_getElem? (i := 7) rfl), wsub_wsL_law_r12 _ (List.mem_of_getElem? (i := 8) rfl), TX9, 44, rfl⟩
theorem mlk_L_48 : ax_mlk RL 48 yX8_invokeWrite cX8_invokeWrite 4 (some .int) 3 := ⟨wsub_wsL_law_r13 _ (List.mem_of_getElem? (i := 11) rfl), wsub_wsL_law_r1 _ (List.mem_of_getElem? (i := 2) rfl), wsub_wsL_law_r13 _ (List.mem_of_getElem? (i := 14) rfl), by decide +kernel⟩
theorem hst_L_48 : Cond.instanceMethod yX8_invokeWrite ∈ wsL_law ∧ Cond.selects yX8_invokeWrite.cls yX8_invokeWrite yX8_invokeWrite ∈ wsL_law ∧ ∃ (T : u_T) (N : Nat), vwCl[8]? = some (yX8_invokeWrite.cls, T, N) := ⟨wsub_wsL_law_r13 _ (List.mem_of_getElem? (i := 12) rfl), wsub_wsL_law_r13 _ (List.mem_of_getElem? (i := 13) rfl), TX8, 6, rfl⟩
theorem mlk_L_52 : ax_mlk RL 52 yX9_invokeWrite cX9_invokeWrite 4 (some .int) 3 := ⟨wsub_wsL_law_r13 _ (List.mem_of_getElem? (i := 15) rfl), wsub_wsL_law_r1 _ (List.mem_of_getElem? (i := 5) rfl), wsub_wsL_law_r13 _ (List.mem_of_getElem? (i := 18) rfl), by decide +kernel⟩
theorem hst_L_52 : Cond.instanceMethod yX9_invokeWrite ∈ wsL_law ∧ Cond.selects yX9_invokeWrite.cls yX9_invokeWrite yX9_invokeWrite ∈ wsL_law ∧ ∃ (T : u_T) (N : Nat), vwCl[9]? = some (yX9_invokeWrite.cls, T, N) := ⟨wsub_wsL_law_r13 _ (List.mem_of_getElem? (i := 16) rfl), wsub_wsL_law_r13 _ (List.mem_of_getElem? (i := 17) rfl), TX9, 44, rfl⟩
theorem mlk_L_53 : ax_mlk RL 53 yX8_invokeCompareAndSet cX8_invokeCompareAndSet 5 (some .int) 4 := ⟨wsub_wsL_law_r13 _ (List.mem_of_getElem? (i := 19) rfl), wsub_wsL_law_r1 _ (List.mem_of_getElem? (i := 2) rfl), wsub_wsL_law_r13 _ (List.mem_of_getElem? (i := 22) rfl), by decide +kernel⟩
theorem hst_L_53 : Cond.instanceMethod yX8_invokeCompareAndSet ∈ wsL_law ∧ Cond.selects yX8_invokeCompareAndSet.cls yX8_invokeCompareAndSet yX8_invokeCompareAndSet ∈ wsL_law ∧ ∃ (T : u_T) (N : Nat), vwCl[8]? = some (yX8_invokeCompareAndSet.cls, T, N) := ⟨wsub_wsL_law_r13 _ (List.mem_of_getElem? (i := 20) rfl), wsub_wsL_law_r13 _ (List.mem_of_getElem? (i := 21) rfl), TX8, 6, rfl⟩
theorem mlk_L_57 : ax_mlk RL 57 yX9_invokeCompareAndSet cX9_invokeCompareAndSet 5 (some .int) 4 := ⟨wsub_wsL_law_r13 _ (List.mem_of_getElem? (i := 23) rfl), wsub_wsL_law_r1 _ (List.mem_of_getElem? (i := 5) rfl), wsub_wsL_law_r14 _ (List.mem_of_getElem? (i := 2) rfl), by decide +kernel⟩
theorem hst_L_57 : Cond.instanceMethod yX9_invokeCompareAndSet ∈ wsL_law ∧ Cond.selects yX9_invokeCompareAndSet.cls yX9_invokeCompareAndSet yX9_invokeCompareAndSet ∈ wsL_law ∧ ∃ (T : u_T) (N : Nat), vwCl[9]? = some (yX9_invokeCompareAndSet.cls, T, N) := ⟨wsub_wsL_law_r14 _ (List.mem_of_getElem? (i := 0) rfl), wsub_wsL_law_r14 _ (List.mem_of_getElem? (i := 1) rfl), TX9, 44, rfl⟩
theorem mlk_L_58 : ax_mlk RL 58 yX8_invokeGet cX8_invokeGet 3 (some .int) 2 := ⟨wsub_wsL_law_r14 _ (List.mem_of_getElem? (i := 3) rfl), wsub_wsL_law_r1 _ (List.mem_of_getElem? (i := 2) rfl), wsub_wsL_law_r14 _ (List.mem_of_getElem? (i := 6) rfl), by decide +kernel⟩
theorem hst_L_58 : Cond.instanceMethod yX8_invokeGet ∈ wsL_law ∧ Cond.selects yX8_invokeGet.cls yX8_invokeGet yX8_invokeGet ∈ wsL_law ∧ ∃ (T : u_T) (N : Nat), vwCl[8]? = some (yX8_invokeGet.cls, T, N) := ⟨wsub_wsL_law_r14 _ (List.mem_of_getElem? (i := 4) rfl), wsub_wsL_law_r14 _ (List.mem_of_getElem? (i := 5) rfl), TX8, 6, rfl⟩
theorem mlk_L_61 : ax_mlk RL 61 yX9_invokeGet cX9_invokeGet 3 (some .int) 2 := ⟨wsub_wsL_law_r14 _ (List.mem_of_getElem? (i := 7) rfl), wsub_wsL_law_r1 _ (List.mem_of_getElem? (i := 5) rfl), wsub_wsL_law_r14 _ (List.mem_of_getElem? (i := 10) rfl), by decide +kernel⟩
theorem hst_L_61 : Cond.instanceMethod yX9_invokeGet ∈ wsL_law ∧ Cond.selects yX9_invokeGet.cls yX9_invokeGet yX9_invokeGet ∈ wsL_law ∧ ∃ (T : u_T) (N : Nat), vwCl[9]? = some (yX9_invokeGet.cls, T, N) := ⟨wsub_wsL_law_r14 _ (List.mem_of_getElem? (i := 8) rfl), wsub_wsL_law_r14 _ (List.mem_of_getElem? (i := 9) rfl), TX9, 44, rfl⟩
theorem mlk_L_62 : ax_mlk RL 62 yX8_invokeAdd cX8_invokeAdd 4 (some .int) 3 := ⟨wsub_wsL_law_r14 _ (List.mem_of_getElem? (i := 11) rfl), wsub_wsL_law_r1 _ (List.mem_of_getElem? (i := 2) rfl), wsub_wsL_law_r14 _ (List.mem_of_getElem? (i := 14) rfl), by decide +kernel⟩
theorem hst_L_62 : Cond.instanceMethod yX8_invokeAdd ∈ wsL_law ∧ Cond.selects yX8_invokeAdd.cls yX8_invokeAdd yX8_invokeAdd ∈ wsL_law ∧ ∃ (T : u_T) (N : Nat), vwCl[8]? = some (yX8_invokeAdd.cls, T, N) := ⟨wsub_wsL_law_r14 _ (List.mem_of_getElem? (i := 12) rfl), wsub_wsL_law_r14 _ (List.mem_of_getElem? (i := 13) rfl), TX8, 6, rfl⟩
theorem mlk_L_65 : ax_mlk RL 65 yX9_invokeAdd cX9_invokeAdd 4 (some .int) 3 := ⟨wsub_wsL_law_r14 _ (List.mem_of_getElem? (i := 15) rfl), wsub_wsL_law_r1 _ (List.mem_of_getElem? (i := 5) rfl), wsub_wsL_law_r14 _ (List.mem_of_getElem? (i := 18) rfl), by decide +kernel⟩
theorem hst_L_65 : Cond.instanceMethod yX9_invokeAdd ∈ wsL_law ∧ Cond.selects yX9_invokeAdd.cls yX9_invokeAdd yX9_invokeAdd ∈ wsL_law ∧ ∃ (T : u_T) (N : Nat), vwCl[9]? = some (yX9_invokeAdd.cls, T, N) := ⟨wsub_wsL_law_r14 _ (List.mem_of_getElem? (i := 16) rfl), wsub_wsL_law_r14 _ (List.mem_of_getElem? (i := 17) rfl), TX9, 44, rfl⟩
theorem mlk_L_66 : ax_mlk RL 66 yX8_invokeEnqueue cX8_invokeEnqueue 4 (some .int) 3 := ⟨wsub_wsL_law_r14 _ (List.mem_of_getElem? (i := 19) rfl), wsub_wsL_law_r1 _ (List.mem_of_getElem? (i := 2) rfl), wsub_wsL_law_r14 _ (List.mem_of_getElem? (i := 22) rfl), by decide +kernel⟩
theorem hst_L_66 : Cond.instanceMethod yX8_invokeEnqueue ∈ wsL_law ∧ Cond.selects yX8_invokeEnqueue.cls yX8_invokeEnqueue yX8_invokeEnqueue ∈ wsL_law ∧ ∃ (T : u_T) (N : Nat), vwCl[8]? = some (yX8_invokeEnqueue.cls, T, N) := ⟨wsub_wsL_law_r14 _ (List.mem_of_getElem? (i := 20) rfl), wsub_wsL_law_r14 _ (List.mem_of_getElem? (i := 21) rfl), TX8, 6, rfl⟩
theorem mlk_L_69 : ax_mlk RL 69 yX9_invokeEnqueue cX9_invokeEnqueue 4 (some .int) 3 := ⟨wsub_wsL_law_r14 _ (List.mem_of_getElem? (i := 23) rfl), wsub_wsL_law_r1 _ (List.mem_of_getElem? (i := 5) rfl), wsub_wsL_law_r15 _ (List.mem_of_getElem? (i := 2) rfl), by decide +kernel⟩
theorem hst_L_69 : Cond.instanceMethod yX9_invokeEnqueue ∈ wsL_law ∧ Cond.selects yX9_invokeEnqueue.cls yX9_invokeEnqueue yX9_invokeEnqueue ∈ wsL_law ∧ ∃ (T : u_T) (N : Nat), vwCl[9]? = some (yX9_invokeEnqueue.cls, T, N) := ⟨wsub_wsL_law_r15 _ (List.mem_of_getElem? (i := 0) rfl), wsub_wsL_law_r15 _ (List.mem_of_getElem? (i := 1) rfl), TX9, 44, rfl⟩
theorem mlk_L_70 : ax_mlk RL 70 yX8_invokeDequeue cX8_invokeDequeue 3 (some .int) 2 := ⟨wsub_wsL_law_r15 _ (List.mem_of_getElem? (i := 3) rfl), wsub_wsL_law_r1 _ (List.mem_of_getElem? (i := 2) rfl), wsub_wsL_law_r15 _ (List.mem_of_getElem? (i := 6) rfl), by decide +kernel⟩
theorem hst_L_70 : Cond.instanceMethod yX8_invokeDequeue ∈ wsL_law ∧ Cond.selects yX8_invokeDequeue.cls yX8_invokeDequeue yX8_invokeDequeue ∈ wsL_law ∧ ∃ (T : u_T) (N : Nat), vwCl[8]? = some (yX8_invokeDequeue.cls, T, N) := ⟨wsub_wsL_law_r15 _ (List.mem_of_getElem? (i := 4) rfl), wsub_wsL_law_r15 _ (List.mem_of_getElem? (i := 5) rfl), TX8, 6, rfl⟩
theorem mlk_L_73 : ax_mlk RL 73 yX9_invokeDequeue cX9_invokeDequeue 3 (some .int) 2 := ⟨wsub_wsL_law_r15 _ (List.mem_of_getElem? (i := 7) rfl), wsub_wsL_law_r1 _ (List.mem_of_getElem? (i := 5) rfl), wsub_wsL_law_r15 _ (List.mem_of_getElem? (i := 10) rfl), by decide +kernel⟩
theorem hst_L_73 : Cond.instanceMethod yX9_invokeDequeue ∈ wsL_law ∧ Cond.selects yX9_invokeDequeue.cls yX9_invokeDequeue yX9_invokeDequeue ∈ wsL_law ∧ ∃ (T : u_T) (N : Nat), vwCl[9]? = some (yX9_invokeDequeue.cls, T, N) := ⟨wsub_wsL_law_r15 _ (List.mem_of_getElem? (i := 8) rfl), wsub_wsL_law_r15 _ (List.mem_of_getElem? (i := 9) rfl), TX9, 44, rfl⟩
theorem mlk_L_74 : ax_mlk RL 74 yX8_invokeInsert cX8_invokeInsert 4 (some .int) 3 := ⟨wsub_wsL_law_r15 _ (List.mem_of_getElem? (i := 11) rfl), wsub_wsL_law_r1 _ (List.mem_of_getElem? (i := 2) rfl), wsub_wsL_law_r15 _ (List.mem_of_getElem? (i := 14) rfl), by decide +kernel⟩
theorem hst_L_74 : Cond.instanceMethod yX8_invokeInsert ∈ wsL_law ∧ Cond.selects yX8_invokeInsert.cls yX8_invokeInsert yX8_invokeInsert ∈ wsL_law ∧ ∃ (T : u_T) (N : Nat), vwCl[8]? = some (yX8_invokeInsert.cls, T, N) := ⟨wsub_wsL_law_r15 _ (List.mem_of_getElem? (i := 12) rfl), wsub_wsL_law_r15 _ (List.mem_of_getElem? (i := 13) rfl), TX8, 6, rfl⟩
theorem mlk_L_77 : ax_mlk RL 77 yX9_invokeInsert cX9_invokeInsert 4 (some .int) 3 := ⟨wsub_wsL_law_r15 _ (List.mem_of_getElem? (i := 15) rfl), wsub_wsL_law_r1 _ (List.mem_of_getElem? (i := 5) rfl), wsub_wsL_law_r15 _ (List.mem_of_getElem? (i := 18) rfl), by decide +kernel⟩
theorem hst_L_77 : Cond.instanceMethod yX9_invokeInsert ∈ wsL_law ∧ Cond.selects yX9_invokeInsert.cls yX9_invokeInsert yX9_invokeInsert ∈ wsL_law ∧ ∃ (T : u_T) (N : Nat), vwCl[9]? = some (yX9_invokeInsert.cls, T, N) := ⟨wsub_wsL_law_r15 _ (List.mem_of_getElem? (i := 16) rfl), wsub_wsL_law_r15 _ (List.mem_of_getElem? (i := 17) rfl), TX9, 44, rfl⟩
theorem mlk_L_78 : ax_mlk RL 78 yX8_invokeRemove cX8_invokeRemove 4 (some .int) 3 := ⟨wsub_wsL_law_r15 _ (List.mem_of_getElem? (i := 19) rfl), wsub_wsL_law_r1 _ (List.mem_of_getElem? (i := 2) rfl), wsub_wsL_law_r15 _ (List.mem_of_getElem? (i := 22) rfl), by decide +kernel⟩
theorem hst_L_78 : Cond.instanceMethod yX8_invokeRemove ∈ wsL_law ∧ Cond.selects yX8_invokeRemove.cls yX8_invokeRemove yX8_invokeRemove ∈ wsL_law ∧ ∃ (T : u_T) (N : Nat), vwCl[8]? = some (yX8_invokeRemove.cls, T, N) := ⟨wsub_wsL_law_r15 _ (List.mem_of_getElem? (i := 20) rfl), wsub_wsL_law_r15 _ (List.mem_of_getElem? (i := 21) rfl), TX8, 6, rfl⟩
theorem mlk_L_81 : ax_mlk RL 81 yX9_invokeRemove cX9_invokeRemove 4 (some .int) 3 := ⟨wsub_wsL_law_r15 _ (List.mem_of_getElem? (i := 23) rfl), wsub_wsL_law_r1 _ (List.mem_of_getElem? (i := 5) rfl), wsub_wsL_law_r16 _ (List.mem_of_getElem? (i := 2) rfl), by decide +kernel⟩
theorem hst_L_81 : Cond.instanceMethod yX9_invokeRemove ∈ wsL_law ∧ Cond.selects yX9_invokeRemove.cls yX9_invokeRemove yX9_invokeRemove ∈ wsL_law ∧ ∃ (T : u_T) (N : Nat), vwCl[9]? = some (yX9_invokeRemove.cls, T, N) := ⟨wsub_wsL_law_r16 _ (List.mem_of_getElem? (i := 0) rfl), wsub_wsL_law_r16 _ (List.mem_of_getElem? (i := 1) rfl), TX9, 44, rfl⟩
theorem mlk_L_82 : ax_mlk RL 82 yX8_invokeContains cX8_invokeContains 4 (some .int) 3 := ⟨wsub_wsL_law_r16 _ (List.mem_of_getElem? (i := 3) rfl), wsub_wsL_law_r1 _ (List.mem_of_getElem? (i := 2) rfl), wsub_wsL_law_r16 _ (List.mem_of_getElem? (i := 6) rfl), by decide +kernel⟩
theorem hst_L_82 : Cond.instanceMethod yX8_invokeContains ∈ wsL_law ∧ Cond.selects yX8_invokeContains.cls yX8_invokeContains yX8_invokeContains ∈ wsL_law ∧ ∃ (T : u_T) (N : Nat), vwCl[8]? = some (yX8_invokeContains.cls, T, N) := ⟨wsub_wsL_law_r16 _ (List.mem_of_getElem? (i := 4) rfl), wsub_wsL_law_r16 _ (List.mem_of_getElem? (i := 5) rfl), TX8, 6, rfl⟩
theorem mlk_L_85 : ax_mlk RL 85 yX9_invokeContains cX9_invokeContains 4 (some .int) 3 := ⟨wsub_wsL_law_r16 _ (List.mem_of_getElem? (i := 7) rfl), wsub_wsL_law_r1 _ (List.mem_of_getElem? (i := 5) rfl), wsub_wsL_law_r16 _ (List.mem_of_getElem? (i := 10) rfl), by decide +kernel⟩
theorem hst_L_85 : Cond.instanceMethod yX9_invokeContains ∈ wsL_law ∧ Cond.selects yX9_invokeContains.cls yX9_invokeContains yX9_invokeContains ∈ wsL_law ∧ ∃ (T : u_T) (N : Nat), vwCl[9]? = some (yX9_invokeContains.cls, T, N) := ⟨wsub_wsL_law_r16 _ (List.mem_of_getElem? (i := 8) rfl), wsub_wsL_law_r16 _ (List.mem_of_getElem? (i := 9) rfl), TX9, 44, rfl⟩
theorem mlk_L_86 : ax_mlk RL 86 yX8_respond cX8_respond 5 (some .int) 2 := ⟨wsub_wsL_law_r16 _ (List.mem_of_getElem? (i := 11) rfl), wsub_wsL_law_r1 _ (List.mem_of_getElem? (i := 2) rfl), wsub_wsL_law_r16 _ (List.mem_of_getElem? (i := 14) rfl), by decide +kernel⟩
theorem hst_L_86 : Cond.instanceMethod yX8_respond ∈ wsL_law ∧ Cond.selects yX8_respond.cls yX8_respond yX8_respond ∈ wsL_law ∧ ∃ (T : u_T) (N : Nat), vwCl[8]? = some (yX8_respond.cls, T, N) := ⟨wsub_wsL_law_r16 _ (List.mem_of_getElem? (i := 12) rfl), wsub_wsL_law_r16 _ (List.mem_of_getElem? (i := 13) rfl), TX8, 6, rfl⟩
theorem mlk_L_89 : ax_mlk RL 89 yX9_respond cX9_respond 4 (some .int) 2 := ⟨wsub_wsL_law_r17 _ (List.mem_of_getElem? (i := 14) rfl), wsub_wsL_law_r1 _ (List.mem_of_getElem? (i := 5) rfl), wsub_wsL_law_r17 _ (List.mem_of_getElem? (i := 17) rfl), by decide +kernel⟩
theorem hst_L_89 : Cond.instanceMethod yX9_respond ∈ wsL_law ∧ Cond.selects yX9_respond.cls yX9_respond yX9_respond ∈ wsL_law ∧ ∃ (T : u_T) (N : Nat), vwCl[9]? = some (yX9_respond.cls, T, N) := ⟨wsub_wsL_law_r17 _ (List.mem_of_getElem? (i := 15) rfl), wsub_wsL_law_r17 _ (List.mem_of_getElem? (i := 16) rfl), TX9, 44, rfl⟩
theorem mlk_L_90 : ax_mlk RL 90 yX8_crash cX8_crash 3 (some .int) 1 := ⟨wsub_wsL_law_r18 _ (List.mem_of_getElem? (i := 8) rfl), wsub_wsL_law_r1 _ (List.mem_of_getElem? (i := 2) rfl), wsub_wsL_law_r18 _ (List.mem_of_getElem? (i := 11) rfl), by decide +kernel⟩
theorem hst_L_90 : Cond.instanceMethod yX8_crash ∈ wsL_law ∧ Cond.selects yX8_crash.cls yX8_crash yX8_crash ∈ wsL_law ∧ ∃ (T : u_T) (N : Nat), vwCl[8]? = some (yX8_crash.cls, T, N) := ⟨wsub_wsL_law_r18 _ (List.mem_of_getElem? (i := 9) rfl), wsub_wsL_law_r18 _ (List.mem_of_getElem? (i := 10) rfl), TX8, 6, rfl⟩
theorem mlk_L_93 : ax_mlk RL 93 yX9_crash cX9_crash 2 (some .int) 1 := ⟨wsub_wsL_law_r18 _ (List.mem_of_getElem? (i := 16) rfl), wsub_wsL_law_r1 _ (List.mem_of_getElem? (i := 5) rfl), wsub_wsL_law_r18 _ (List.mem_of_getElem? (i := 19) rfl), by decide +kernel⟩
theorem hst_L_93 : Cond.instanceMethod yX9_crash ∈ wsL_law ∧ Cond.selects yX9_crash.cls yX9_crash yX9_crash ∈ wsL_law ∧ ∃ (T : u_T) (N : Nat), vwCl[9]? = some (yX9_crash.cls, T, N) := ⟨wsub_wsL_law_r18 _ (List.mem_of_getElem? (i := 17) rfl), wsub_wsL_law_r18 _ (List.mem_of_getElem? (i := 18) rfl), TX9, 44, rfl⟩
theorem mlk_L_94 : ax_mlk RL 94 yX8_undo cX8_undo 1 (some .int) 0 := ⟨wsub_wsL_law_r18 _ (List.mem_of_getElem? (i := 20) rfl), wsub_wsL_law_r1 _ (List.mem_of_getElem? (i := 2) rfl), wsub_wsL_law_r18 _ (List.mem_of_getElem? (i := 23) rfl), by decide +kernel⟩
theorem hst_L_94 : Cond.instanceMethod yX8_undo ∈ wsL_law ∧ Cond.selects yX8_undo.cls yX8_undo yX8_undo ∈ wsL_law ∧ ∃ (T : u_T) (N : Nat), vwCl[8]? = some (yX8_undo.cls, T, N) := ⟨wsub_wsL_law_r18 _ (List.mem_of_getElem? (i := 21) rfl), wsub_wsL_law_r18 _ (List.mem_of_getElem? (i := 22) rfl), TX8, 6, rfl⟩
theorem mlk_L_97 : ax_mlk RL 97 yX9_undo cX9_undo 1 (some .int) 0 := ⟨wsub_wsL_law_r19 _ (List.mem_of_getElem? (i := 4) rfl), wsub_wsL_law_r1 _ (List.mem_of_getElem? (i := 5) rfl), wsub_wsL_law_r19 _ (List.mem_of_getElem? (i := 7) rfl), by decide +kernel⟩
theorem hst_L_97 : Cond.instanceMethod yX9_undo ∈ wsL_law ∧ Cond.selects yX9_undo.cls yX9_undo yX9_undo ∈ wsL_law ∧ ∃ (T : u_T) (N : Nat), vwCl[9]? = some (yX9_undo.cls, T, N) := ⟨wsub_wsL_law_r19 _ (List.mem_of_getElem? (i := 5) rfl), wsub_wsL_law_r19 _ (List.mem_of_getElem? (i := 6) rfl), TX9, 44, rfl⟩
theorem mlk_L_98 : ax_mlk RL 98 yX8_eventCount cX8_eventCount 1 (some .int) 0 := ⟨wsub_wsL_law_r19 _ (List.mem_of_getElem? (i := 8) rfl), wsub_wsL_law_r1 _ (List.mem_of_getElem? (i := 2) rfl), wsub_wsL_law_r19 _ (List.mem_of_getElem? (i := 11) rfl), by decide +kernel⟩
theorem hst_L_98 : Cond.instanceMethod yX8_eventCount ∈ wsL_law ∧ Cond.selects yX8_eventCount.cls yX8_eventCount yX8_eventCount ∈ wsL_law ∧ ∃ (T : u_T) (N : Nat), vwCl[8]? = some (yX8_eventCount.cls, T, N) := ⟨wsub_wsL_law_r19 _ (List.mem_of_getElem? (i := 9) rfl), wsub_wsL_law_r19 _ (List.mem_of_getElem? (i := 10) rfl), TX8, 6, rfl⟩
theorem mlk_L_101 : ax_mlk RL 101 yX9_eventCount cX9_eventCount 1 (some .int) 0 := ⟨wsub_wsL_law_r19 _ (List.mem_of_getElem? (i := 12) rfl), wsub_wsL_law_r1 _ (List.mem_of_getElem? (i := 5) rfl), wsub_wsL_law_r19 _ (List.mem_of_getElem? (i := 15) rfl), by decide +kernel⟩
theorem hst_L_101 : Cond.instanceMethod yX9_eventCount ∈ wsL_law ∧ Cond.selects yX9_eventCount.cls yX9_eventCount yX9_eventCount ∈ wsL_law ∧ ∃ (T : u_T) (N : Nat), vwCl[9]? = some (yX9_eventCount.cls, T, N) := ⟨wsub_wsL_law_r19 _ (List.mem_of_getElem? (i := 13) rfl), wsub_wsL_law_r19 _ (List.mem_of_getElem? (i := 14) rfl), TX9, 44, rfl⟩
theorem mlk_L_102 : ax_mlk RL 102 yX8_operationCount cX8_operationCount 1 (some .int) 0 := ⟨wsub_wsL_law_r19 _ (List.mem_of_getElem? (i := 16) rfl), wsub_wsL_law_r1 _ (List.mem_of_getElem? (i := 2) rfl), wsub_wsL_law_r19 _ (List.mem_of_getElem? (i := 19) rfl), by decide +kernel⟩
theorem hst_L_102 : Cond.instanceMethod yX8_operationCount ∈ wsL_law ∧ Cond.selects yX8_operationCount.cls yX8_operationCount yX8_operationCount ∈ wsL_law ∧ ∃ (T : u_T) (N : Nat), vwCl[8]? = some (yX8_operationCount.cls, T, N) := ⟨wsub_wsL_law_r19 _ (List.mem_of_getElem? (i := 17) rfl), wsub_wsL_law_r19 _ (List.mem_of_getElem? (i := 18) rfl), TX8, 6, rfl⟩
theorem mlk_L_105 : ax_mlk RL 105 yX9_operationCount cX9_operationCount 1 (some .int) 0 := ⟨wsub_wsL_law_r19 _ (List.mem_of_getElem? (i := 20) rfl), wsub_wsL_law_r1 _ (List.mem_of_getElem? (i := 5) rfl), wsub_wsL_law_r19 _ (List.mem_of_getElem? (i := 23) rfl), by decide +kernel⟩
theorem hst_L_105 : Cond.instanceMethod yX9_operationCount ∈ wsL_law ∧ Cond.selects yX9_operationCount.cls yX9_operationCount yX9_operationCount ∈ wsL_law ∧ ∃ (T : u_T) (N : Nat), vwCl[9]? = some (yX9_operationCount.cls, T, N) := ⟨wsub_wsL_law_r19 _ (List.mem_of_getElem? (i := 21) rfl), wsub_wsL_law_r19 _ (List.mem_of_getElem? (i := 22) rfl), TX9, 44, rfl⟩
theorem mlk_L_106 : ax_mlk RL 106 yX8_kindOf cX8_kindOf 2 (some .int) 1 := ⟨wsub_wsL_law_r20 _ (List.mem_of_getElem? (i := 0) rfl), wsub_wsL_law_r1 _ (List.mem_of_getElem? (i := 2) rfl), wsub_wsL_law_r20 _ (List.mem_of_getElem? (i := 3) rfl), by decide +kernel⟩
theorem hst_L_106 : Cond.instanceMethod yX8_kindOf ∈ wsL_law ∧ Cond.selects yX8_kindOf.cls yX8_kindOf yX8_kindOf ∈ wsL_law ∧ ∃ (T : u_T) (N : Nat), vwCl[8]? = some (yX8_kindOf.cls, T, N) := ⟨wsub_wsL_law_r20 _ (List.mem_of_getElem? (i := 1) rfl), wsub_wsL_law_r20 _ (List.mem_of_getElem? (i := 2) rfl), TX8, 6, rfl⟩
theorem mlk_L_109 : ax_mlk RL 109 yX9_kindOf cX9_kindOf 2 (some .int) 1 := ⟨wsub_wsL_law_r20 _ (List.mem_of_getElem? (i := 4) rfl), wsub_wsL_law_r1 _ (List.mem_of_getElem? (i := 5) rfl), wsub_wsL_law_r20 _ (List.mem_of_getElem? (i := 7) rfl), by decide +kernel⟩
theorem hst_L_109 : Cond.instanceMethod yX9_kindOf ∈ wsL_law ∧ Cond.selects yX9_kindOf.cls yX9_kindOf yX9_kindOf ∈ wsL_law ∧ ∃ (T : u_T) (N : Nat), vwCl[9]? = some (yX9_kindOf.cls, T, N) := ⟨wsub_wsL_law_r20 _ (List.mem_of_getElem? (i := 5) rfl), wsub_wsL_law_r20 _ (List.mem_of_getElem? (i := 6) rfl), TX9, 44, rfl⟩
theorem mlk_L_110 : ax_mlk RL 110 yX8_threadOf cX8_threadOf 2 (some .int) 1 := ⟨wsub_wsL_law_r20 _ (List.mem_of_getElem? (i := 12) rfl), wsub_wsL_law_r1 _ (List.mem_of_getElem? (i := 2) rfl), wsub_wsL_law_r20 _ (List.mem_of_getElem? (i := 15) rfl), by decide +kernel⟩
theorem hst_L_110 : Cond.instanceMethod yX8_threadOf ∈ wsL_law ∧ Cond.selects yX8_threadOf.cls yX8_threadOf yX8_threadOf ∈ wsL_law ∧ ∃ (T : u_T) (N : Nat), vwCl[8]? = some (yX8_threadOf.cls, T, N) := ⟨wsub_wsL_law_r20 _ (List.mem_of_getElem? (i := 13) rfl), wsub_wsL_law_r20 _ (List.mem_of_getElem? (i := 14) rfl), TX8, 6, rfl⟩
theorem mlk_L_113 : ax_mlk RL 113 yX9_threadOf cX9_threadOf 2 (some .int) 1 := ⟨wsub_wsL_law_r20 _ (List.mem_of_getElem? (i := 16) rfl), wsub_wsL_law_r1 _ (List.mem_of_getElem? (i := 5) rfl), wsub_wsL_law_r20 _ (List.mem_of_getElem? (i := 19) rfl), by decide +kernel⟩
theorem hst_L_113 : Cond.instanceMethod yX9_threadOf ∈ wsL_law ∧ Cond.selects yX9_threadOf.cls yX9_threadOf yX9_threadOf ∈ wsL_law ∧ ∃ (T : u_T) (N : Nat), vwCl[9]? = some (yX9_threadOf.cls, T, N) := ⟨wsub_wsL_law_r20 _ (List.mem_of_getElem? (i := 17) rfl), wsub_wsL_law_r20 _ (List.mem_of_getElem? (i := 18) rfl), TX9, 44, rfl⟩
theorem mlk_L_114 : ax_mlk RL 114 yX8_objectOf cX8_objectOf 2 (some .int) 1 := ⟨wsub_wsL_law_r20 _ (List.mem_of_getElem? (i := 20) rfl), wsub_wsL_law_r1 _ (List.mem_of_getElem? (i := 2) rfl), wsub_wsL_law_r20 _ (List.mem_of_getElem? (i := 23) rfl), by decide +kernel⟩
theorem hst_L_114 : Cond.instanceMethod yX8_objectOf ∈ wsL_law ∧ Cond.selects yX8_objectOf.cls yX8_objectOf yX8_objectOf ∈ wsL_law ∧ ∃ (T : u_T) (N : Nat), vwCl[8]? = some (yX8_objectOf.cls, T, N) := ⟨wsub_wsL_law_r20 _ (List.mem_of_getElem? (i := 21) rfl), wsub_wsL_law_r20 _ (List.mem_of_getElem? (i := 22) rfl), TX8, 6, rfl⟩
theorem mlk_L_117 : ax_mlk RL 117 yX9_objectOf cX9_objectOf 2 (some .int) 1 := ⟨wsub_wsL_law_r21 _ (List.mem_of_getElem? (i := 0) rfl), wsub_wsL_law_r1 _ (List.mem_of_getElem? (i := 5) rfl), wsub_wsL_law_r21 _ (List.mem_of_getElem? (i := 3) rfl), by decide +kernel⟩
theorem hst_L_117 : Cond.instanceMethod yX9_objectOf ∈ wsL_law ∧ Cond.selects yX9_objectOf.cls yX9_objectOf yX9_objectOf ∈ wsL_law ∧ ∃ (T : u_T) (N : Nat), vwCl[9]? = some (yX9_objectOf.cls, T, N) := ⟨wsub_wsL_law_r21 _ (List.mem_of_getElem? (i := 1) rfl), wsub_wsL_law_r21 _ (List.mem_of_getElem? (i := 2) rfl), TX9, 44, rfl⟩
theorem mlk_L_118 : ax_mlk RL 118 yX8_invocationTime cX8_invocationTime 2 (some .int) 1 := ⟨wsub_wsL_law_r21 _ (List.mem_of_getElem? (i := 4) rfl), wsub_wsL_law_r1 _ (List.mem_of_getElem? (i := 2) rfl), wsub_wsL_law_r21 _ (List.mem_of_getElem? (i := 7) rfl), by decide +kernel⟩
theorem hst_L_118 : Cond.instanceMethod yX8_invocationTime ∈ wsL_law ∧ Cond.selects yX8_invocationTime.cls yX8_invocationTime yX8_invocationTime ∈ wsL_law ∧ ∃ (T : u_T) (N : Nat), vwCl[8]? = some (yX8_invocationTime.cls, T, N) := ⟨wsub_wsL_law_r21 _ (List.mem_of_getElem? (i := 5) rfl), wsub_wsL_law_r21 _ (List.mem_of_getElem? (i := 6) rfl), TX8, 6, rfl⟩
theorem mlk_L_121 : ax_mlk RL 121 yX9_invocationTime cX9_invocationTime 2 (some .int) 1 := ⟨wsub_wsL_law_r21 _ (List.mem_of_getElem? (i := 8) rfl), wsub_wsL_law_r1 _ (List.mem_of_getElem? (i := 5) rfl), wsub_wsL_law_r21 _ (List.mem_of_getElem? (i := 11) rfl), by decide +kernel⟩
theorem hst_L_121 : Cond.instanceMethod yX9_invocationTime ∈ wsL_law ∧ Cond.selects yX9_invocationTime.cls yX9_invocationTime yX9_invocationTime ∈ wsL_law ∧ ∃ (T : u_T) (N : Nat), vwCl[9]? = some (yX9_invocationTime.cls, T, N) := ⟨wsub_wsL_law_r21 _ (List.mem_of_getElem? (i := 9) rfl), wsub_wsL_law_r21 _ (List.mem_of_getElem? (i := 10) rfl), TX9, 44, rfl⟩
theorem mlk_L_122 : ax_mlk RL 122 yX8_responseTime cX8_responseTime 2 (some .int) 1 := ⟨wsub_wsL_law_r21 _ (List.mem_of_getElem? (i := 12) rfl), wsub_wsL_law_r1 _ (List.mem_of_getElem? (i := 2) rfl), wsub_wsL_law_r21 _ (List.mem_of_getElem? (i := 15) rfl), by decide +kernel⟩
theorem hst_L_122 : Cond.instanceMethod yX8_responseTime ∈ wsL_law ∧ Cond.selects yX8_responseTime.cls yX8_responseTime yX8_responseTime ∈ wsL_law ∧ ∃ (T : u_T) (N : Nat), vwCl[8]? = some (yX8_responseTime.cls, T, N) := ⟨wsub_wsL_law_r21 _ (List.mem_of_getElem? (i := 13) rfl), wsub_wsL_law_r21 _ (List.mem_of_getElem? (i := 14) rfl), TX8, 6, rfl⟩
theorem mlk_L_125 : ax_mlk RL 125 yX9_responseTime cX9_responseTime 2 (some .int) 1 := ⟨wsub_wsL_law_r21 _ (List.mem_of_getElem? (i := 20) rfl), wsub_wsL_law_r1 _ (List.mem_of_getElem? (i := 5) rfl), wsub_wsL_law_r21 _ (List.mem_of_getElem? (i := 23) rfl), by decide +kernel⟩
theorem hst_L_125 : Cond.instanceMethod yX9_responseTime ∈ wsL_law ∧ Cond.selects yX9_responseTime.cls yX9_responseTime yX9_responseTime ∈ wsL_law ∧ ∃ (T : u_T) (N : Nat), vwCl[9]? = some (yX9_responseTime.cls, T, N) := ⟨wsub_wsL_law_r21 _ (List.mem_of_getElem? (i := 21) rfl), wsub_wsL_law_r21 _ (List.mem_of_getElem? (i := 22) rfl), TX9, 44, rfl⟩
theorem mlk_L_126 : ax_mlk RL 126 yX8_resultOf cX8_resultOf 2 (some .int) 1 := ⟨wsub_wsL_law_r22 _ (List.mem_of_getElem? (i := 0) rfl), wsub_wsL_law_r1 _ (List.mem_of_getElem? (i := 2) rfl), wsub_wsL_law_r22 _ (List.mem_of_getElem? (i := 3) rfl), by decide +kernel⟩
theorem hst_L_126 : Cond.instanceMethod yX8_resultOf ∈ wsL_law ∧ Cond.selects yX8_resultOf.cls yX8_resultOf yX8_resultOf ∈ wsL_law ∧ ∃ (T : u_T) (N : Nat), vwCl[8]? = some (yX8_resultOf.cls, T, N) := ⟨wsub_wsL_law_r22 _ (List.mem_of_getElem? (i := 1) rfl), wsub_wsL_law_r22 _ (List.mem_of_getElem? (i := 2) rfl), TX8, 6, rfl⟩
theorem mlk_L_129 : ax_mlk RL 129 yX9_resultOf cX9_resultOf 2 (some .int) 1 := ⟨wsub_wsL_law_r22 _ (List.mem_of_getElem? (i := 4) rfl), wsub_wsL_law_r1 _ (List.mem_of_getElem? (i := 5) rfl), wsub_wsL_law_r22 _ (List.mem_of_getElem? (i := 7) rfl), by decide +kernel⟩
theorem hst_L_129 : Cond.instanceMethod yX9_resultOf ∈ wsL_law ∧ Cond.selects yX9_resultOf.cls yX9_resultOf yX9_resultOf ∈ wsL_law ∧ ∃ (T : u_T) (N : Nat), vwCl[9]? = some (yX9_resultOf.cls, T, N) := ⟨wsub_wsL_law_r22 _ (List.mem_of_getElem? (i := 5) rfl), wsub_wsL_law_r22 _ (List.mem_of_getElem? (i := 6) rfl), TX9, 44, rfl⟩
theorem mlk_L_130 : ax_mlk RL 130 yX8_precedes cX8_precedes 3 (some .int) 2 := ⟨wsub_wsL_law_r22 _ (List.mem_of_getElem? (i := 8) rfl), wsub_wsL_law_r1 _ (List.mem_of_getElem? (i := 2) rfl), wsub_wsL_law_r22 _ (List.mem_of_getElem? (i := 11) rfl), by decide +kernel⟩
theorem hst_L_130 : Cond.instanceMethod yX8_precedes ∈ wsL_law ∧ Cond.selects yX8_precedes.cls yX8_precedes yX8_precedes ∈ wsL_law ∧ ∃ (T : u_T) (N : Nat), vwCl[8]? = some (yX8_precedes.cls, T, N) := ⟨wsub_wsL_law_r22 _ (List.mem_of_getElem? (i := 9) rfl), wsub_wsL_law_r22 _ (List.mem_of_getElem? (i := 10) rfl), TX8, 6, rfl⟩
theorem mlk_L_133 : ax_mlk RL 133 yX9_precedes cX9_precedes 3 (some .int) 2 := ⟨wsub_wsL_law_r22 _ (List.mem_of_getElem? (i := 20) rfl), wsub_wsL_law_r1 _ (List.mem_of_getElem? (i := 5) rfl), wsub_wsL_law_r22 _ (List.mem_of_getElem? (i := 23) rfl), by decide +kernel⟩
theorem hst_L_133 : Cond.instanceMethod yX9_precedes ∈ wsL_law ∧ Cond.selects yX9_precedes.cls yX9_precedes yX9_precedes ∈ wsL_law ∧ ∃ (T : u_T) (N : Nat), vwCl[9]? = some (yX9_precedes.cls, T, N) := ⟨wsub_wsL_law_r22 _ (List.mem_of_getElem? (i := 21) rfl), wsub_wsL_law_r22 _ (List.mem_of_getElem? (i := 22) rfl), TX9, 44, rfl⟩
theorem mlk_L_134 : ax_mlk RL 134 yX8_maxPending cX8_maxPending 1 (some .int) 0 := ⟨wsub_wsL_law_r23 _ (List.mem_of_getElem? (i := 4) rfl), wsub_wsL_law_r1 _ (List.mem_of_getElem? (i := 2) rfl), wsub_wsL_law_r23 _ (List.mem_of_getElem? (i := 7) rfl), by decide +kernel⟩
theorem hst_L_134 : Cond.instanceMethod yX8_maxPending ∈ wsL_law ∧ Cond.selects yX8_maxPending.cls yX8_maxPending yX8_maxPending ∈ wsL_law ∧ ∃ (T : u_T) (N : Nat), vwCl[8]? = some (yX8_maxPending.cls, T, N) := ⟨wsub_wsL_law_r23 _ (List.mem_of_getElem? (i := 5) rfl), wsub_wsL_law_r23 _ (List.mem_of_getElem? (i := 6) rfl), TX8, 6, rfl⟩
theorem mlk_L_137 : ax_mlk RL 137 yX9_maxPending cX9_maxPending 4 (some .int) 0 := ⟨wsub_wsL_law_r23 _ (List.mem_of_getElem? (i := 16) rfl), wsub_wsL_law_r1 _ (List.mem_of_getElem? (i := 5) rfl), wsub_wsL_law_r23 _ (List.mem_of_getElem? (i := 19) rfl), by decide +kernel⟩
theorem hst_L_137 : Cond.instanceMethod yX9_maxPending ∈ wsL_law ∧ Cond.selects yX9_maxPending.cls yX9_maxPending yX9_maxPending ∈ wsL_law ∧ ∃ (T : u_T) (N : Nat), vwCl[9]? = some (yX9_maxPending.cls, T, N) := ⟨wsub_wsL_law_r23 _ (List.mem_of_getElem? (i := 17) rfl), wsub_wsL_law_r23 _ (List.mem_of_getElem? (i := 18) rfl), TX9, 44, rfl⟩
theorem mlk_L_138 : ax_mlk RL 138 yX8_longestChain cX8_longestChain 1 (some .int) 0 := ⟨wsub_wsL_law_r23 _ (List.mem_of_getElem? (i := 21) rfl), wsub_wsL_law_r1 _ (List.mem_of_getElem? (i := 2) rfl), wsub_wsL_law_r24 _ (List.mem_of_getElem? (i := 0) rfl), by decide +kernel⟩
theorem hst_L_138 : Cond.instanceMethod yX8_longestChain ∈ wsL_law ∧ Cond.selects yX8_longestChain.cls yX8_longestChain yX8_longestChain ∈ wsL_law ∧ ∃ (T : u_T) (N : Nat), vwCl[8]? = some (yX8_longestChain.cls, T, N) := ⟨wsub_wsL_law_r23 _ (List.mem_of_getElem? (i := 22) rfl), wsub_wsL_law_r23 _ (List.mem_of_getElem? (i := 23) rfl), TX8, 6, rfl⟩
theorem mlk_L_141 : ax_mlk RL 141 yX9_longestChain cX9_longestChain 4 (some .int) 0 := ⟨wsub_wsL_law_r24 _ (List.mem_of_getElem? (i := 6) rfl), wsub_wsL_law_r1 _ (List.mem_of_getElem? (i := 5) rfl), wsub_wsL_law_r24 _ (List.mem_of_getElem? (i := 9) rfl), by decide +kernel⟩
theorem hst_L_141 : Cond.instanceMethod yX9_longestChain ∈ wsL_law ∧ Cond.selects yX9_longestChain.cls yX9_longestChain yX9_longestChain ∈ wsL_law ∧ ∃ (T : u_T) (N : Nat), vwCl[9]? = some (yX9_longestChain.cls, T, N) := ⟨wsub_wsL_law_r24 _ (List.mem_of_getElem? (i := 7) rfl), wsub_wsL_law_r24 _ (List.mem_of_getElem? (i := 8) rfl), TX9, 44, rfl⟩
theorem mlk_L_142 : ax_mlk RL 142 yX8_isLinearizable cX8_isLinearizable 1 (some .int) 0 := ⟨wsub_wsL_law_r24 _ (List.mem_of_getElem? (i := 10) rfl), wsub_wsL_law_r1 _ (List.mem_of_getElem? (i := 2) rfl), wsub_wsL_law_r24 _ (List.mem_of_getElem? (i := 13) rfl), by decide +kernel⟩
theorem hst_L_142 : Cond.instanceMethod yX8_isLinearizable ∈ wsL_law ∧ Cond.selects yX8_isLinearizable.cls yX8_isLinearizable yX8_isLinearizable ∈ wsL_law ∧ ∃ (T : u_T) (N : Nat), vwCl[8]? = some (yX8_isLinearizable.cls, T, N) := ⟨wsub_wsL_law_r24 _ (List.mem_of_getElem? (i := 11) rfl), wsub_wsL_law_r24 _ (List.mem_of_getElem? (i := 12) rfl), TX8, 6, rfl⟩
theorem mlk_L_145 : ax_mlk RL 145 yX9_isLinearizable cX9_isLinearizable 1 (some .int) 0 := ⟨wsub_wsL_law_r27 _ (List.mem_of_getElem? (i := 22) rfl), wsub_wsL_law_r1 _ (List.mem_of_getElem? (i := 5) rfl), wsub_wsL_law_r28 _ (List.mem_of_getElem? (i := 1) rfl), by decide +kernel⟩
theorem hst_L_145 : Cond.instanceMethod yX9_isLinearizable ∈ wsL_law ∧ Cond.selects yX9_isLinearizable.cls yX9_isLinearizable yX9_isLinearizable ∈ wsL_law ∧ ∃ (T : u_T) (N : Nat), vwCl[9]? = some (yX9_isLinearizable.cls, T, N) := ⟨wsub_wsL_law_r27 _ (List.mem_of_getElem? (i := 23) rfl), wsub_wsL_law_r28 _ (List.mem_of_getElem? (i := 0) rfl), TX9, 44, rfl⟩
theorem mlk_L_146 : ax_mlk RL 146 yX8_isObjectLinearizable cX8_isObjectLinearizable 2 (some .int) 1 := ⟨wsub_wsL_law_r30 _ (List.mem_of_getElem? (i := 5) rfl), wsub_wsL_law_r1 _ (List.mem_of_getElem? (i := 2) rfl), wsub_wsL_law_r30 _ (List.mem_of_getElem? (i := 8) rfl), by decide +kernel⟩
theorem hst_L_146 : Cond.instanceMethod yX8_isObjectLinearizable ∈ wsL_law ∧ Cond.selects yX8_isObjectLinearizable.cls yX8_isObjectLinearizable yX8_isObjectLinearizable ∈ wsL_law ∧ ∃ (T : u_T) (N : Nat), vwCl[8]? = some (yX8_isObjectLinearizable.cls, T, N) := ⟨wsub_wsL_law_r30 _ (List.mem_of_getElem? (i := 6) rfl), wsub_wsL_law_r30 _ (List.mem_of_getElem? (i := 7) rfl), TX8, 6, rfl⟩
theorem mlk_L_149 : ax_mlk RL 149 yX9_isObjectLinearizable cX9_isObjectLinearizable 2 (some .int) 1 := ⟨wsub_wsL_law_r30 _ (List.mem_of_getElem? (i := 9) rfl), wsub_wsL_law_r1 _ (List.mem_of_getElem? (i := 5) rfl), wsub_wsL_law_r30 _ (List.mem_of_getElem? (i := 12) rfl), by decide +kernel⟩
theorem hst_L_149 : Cond.instanceMethod yX9_isObjectLinearizable ∈ wsL_law ∧ Cond.selects yX9_isObjectLinearizable.cls yX9_isObjectLinearizable yX9_isObjectLinearizable ∈ wsL_law ∧ ∃ (T : u_T) (N : Nat), vwCl[9]? = some (yX9_isObjectLinearizable.cls, T, N) := ⟨wsub_wsL_law_r30 _ (List.mem_of_getElem? (i := 10) rfl), wsub_wsL_law_r30 _ (List.mem_of_getElem? (i := 11) rfl), TX9, 44, rfl⟩
theorem mlk_L_150 : ax_mlk RL 150 yX8_isSequentiallyConsistent cX8_isSequentiallyConsistent 1 (some .int) 0 := ⟨wsub_wsL_law_r30 _ (List.mem_of_getElem? (i := 13) rfl), wsub_wsL_law_r1 _ (List.mem_of_getElem? (i := 2) rfl), wsub_wsL_law_r30 _ (List.mem_of_getElem? (i := 16) rfl), by decide +kernel⟩
theorem hst_L_150 : Cond.instanceMethod yX8_isSequentiallyConsistent ∈ wsL_law ∧ Cond.selects yX8_isSequentiallyConsistent.cls yX8_isSequentiallyConsistent yX8_isSequentiallyConsistent ∈ wsL_law ∧ ∃ (T : u_T) (N : Nat), vwCl[8]? = some (yX8_isSequentiallyConsistent.cls, T, N) := ⟨wsub_wsL_law_r30 _ (List.mem_of_getElem? (i := 14) rfl), wsub_wsL_law_r30 _ (List.mem_of_getElem? (i := 15) rfl), TX8, 6, rfl⟩
theorem mlk_L_153 : ax_mlk RL 153 yX9_isSequentiallyConsistent cX9_isSequentiallyConsistent 1 (some .int) 0 := ⟨wsub_wsL_law_r30 _ (List.mem_of_getElem? (i := 21) rfl), wsub_wsL_law_r1 _ (List.mem_of_getElem? (i := 5) rfl), wsub_wsL_law_r31 _ (List.mem_of_getElem? (i := 0) rfl), by decide +kernel⟩
theorem hst_L_153 : Cond.instanceMethod yX9_isSequentiallyConsistent ∈ wsL_law ∧ Cond.selects yX9_isSequentiallyConsistent.cls yX9_isSequentiallyConsistent yX9_isSequentiallyConsistent ∈ wsL_law ∧ ∃ (T : u_T) (N : Nat), vwCl[9]? = some (yX9_isSequentiallyConsistent.cls, T, N) := ⟨wsub_wsL_law_r30 _ (List.mem_of_getElem? (i := 22) rfl), wsub_wsL_law_r30 _ (List.mem_of_getElem? (i := 23) rfl), TX9, 44, rfl⟩
theorem mlk_L_154 : ax_mlk RL 154 yX8_countLinearizations cX8_countLinearizations 1 (some .int) 0 := ⟨wsub_wsL_law_r31 _ (List.mem_of_getElem? (i := 1) rfl), wsub_wsL_law_r1 _ (List.mem_of_getElem? (i := 2) rfl), wsub_wsL_law_r31 _ (List.mem_of_getElem? (i := 4) rfl), by decide +kernel⟩
theorem hst_L_154 : Cond.instanceMethod yX8_countLinearizations ∈ wsL_law ∧ Cond.selects yX8_countLinearizations.cls yX8_countLinearizations yX8_countLinearizations ∈ wsL_law ∧ ∃ (T : u_T) (N : Nat), vwCl[8]? = some (yX8_countLinearizations.cls, T, N) := ⟨wsub_wsL_law_r31 _ (List.mem_of_getElem? (i := 2) rfl), wsub_wsL_law_r31 _ (List.mem_of_getElem? (i := 3) rfl), TX8, 6, rfl⟩
theorem mlk_L_157 : ax_mlk RL 157 yX9_countLinearizations cX9_countLinearizations 1 (some .int) 0 := ⟨wsub_wsL_law_r31 _ (List.mem_of_getElem? (i := 13) rfl), wsub_wsL_law_r1 _ (List.mem_of_getElem? (i := 5) rfl), wsub_wsL_law_r31 _ (List.mem_of_getElem? (i := 16) rfl), by decide +kernel⟩
theorem hst_L_157 : Cond.instanceMethod yX9_countLinearizations ∈ wsL_law ∧ Cond.selects yX9_countLinearizations.cls yX9_countLinearizations yX9_countLinearizations ∈ wsL_law ∧ ∃ (T : u_T) (N : Nat), vwCl[9]? = some (yX9_countLinearizations.cls, T, N) := ⟨wsub_wsL_law_r31 _ (List.mem_of_getElem? (i := 14) rfl), wsub_wsL_law_r31 _ (List.mem_of_getElem? (i := 15) rfl), TX9, 44, rfl⟩
theorem mlk_L_158 : ax_mlk RL 158 yX8_firstLinearizationLength cX8_firstLinearizationLength 1 (some .int) 0 := ⟨wsub_wsL_law_r31 _ (List.mem_of_getElem? (i := 17) rfl), wsub_wsL_law_r1 _ (List.mem_of_getElem? (i := 2) rfl), wsub_wsL_law_r31 _ (List.mem_of_getElem? (i := 20) rfl), by decide +kernel⟩
theorem hst_L_158 : Cond.instanceMethod yX8_firstLinearizationLength ∈ wsL_law ∧ Cond.selects yX8_firstLinearizationLength.cls yX8_firstLinearizationLength yX8_firstLinearizationLength ∈ wsL_law ∧ ∃ (T : u_T) (N : Nat), vwCl[8]? = some (yX8_firstLinearizationLength.cls, T, N) := ⟨wsub_wsL_law_r31 _ (List.mem_of_getElem? (i := 18) rfl), wsub_wsL_law_r31 _ (List.mem_of_getElem? (i := 19) rfl), TX8, 6, rfl⟩
theorem mlk_L_161 : ax_mlk RL 161 yX9_firstLinearizationLength cX9_firstLinearizationLength 1 (some .int) 0 := ⟨wsub_wsL_law_r31 _ (List.mem_of_getElem? (i := 21) rfl), wsub_wsL_law_r1 _ (List.mem_of_getElem? (i := 5) rfl), wsub_wsL_law_r32 _ (List.mem_of_getElem? (i := 0) rfl), by decide +kernel⟩
theorem hst_L_161 : Cond.instanceMethod yX9_firstLinearizationLength ∈ wsL_law ∧ Cond.selects yX9_firstLinearizationLength.cls yX9_firstLinearizationLength yX9_firstLinearizationLength ∈ wsL_law ∧ ∃ (T : u_T) (N : Nat), vwCl[9]? = some (yX9_firstLinearizationLength.cls, T, N) := ⟨wsub_wsL_law_r31 _ (List.mem_of_getElem? (i := 22) rfl), wsub_wsL_law_r31 _ (List.mem_of_getElem? (i := 23) rfl), TX9, 44, rfl⟩
theorem mlk_L_162 : ax_mlk RL 162 yX8_firstLinearizationAt cX8_firstLinearizationAt 2 (some .int) 1 := ⟨wsub_wsL_law_r32 _ (List.mem_of_getElem? (i := 1) rfl), wsub_wsL_law_r1 _ (List.mem_of_getElem? (i := 2) rfl), wsub_wsL_law_r32 _ (List.mem_of_getElem? (i := 4) rfl), by decide +kernel⟩
theorem hst_L_162 : Cond.instanceMethod yX8_firstLinearizationAt ∈ wsL_law ∧ Cond.selects yX8_firstLinearizationAt.cls yX8_firstLinearizationAt yX8_firstLinearizationAt ∈ wsL_law ∧ ∃ (T : u_T) (N : Nat), vwCl[8]? = some (yX8_firstLinearizationAt.cls, T, N) := ⟨wsub_wsL_law_r32 _ (List.mem_of_getElem? (i := 2) rfl), wsub_wsL_law_r32 _ (List.mem_of_getElem? (i := 3) rfl), TX8, 6, rfl⟩
theorem mlk_L_165 : ax_mlk RL 165 yX9_firstLinearizationAt cX9_firstLinearizationAt 2 (some .int) 1 := ⟨wsub_wsL_law_r32 _ (List.mem_of_getElem? (i := 5) rfl), wsub_wsL_law_r1 _ (List.mem_of_getElem? (i := 5) rfl), wsub_wsL_law_r32 _ (List.mem_of_getElem? (i := 8) rfl), by decide +kernel⟩
theorem hst_L_165 : Cond.instanceMethod yX9_firstLinearizationAt ∈ wsL_law ∧ Cond.selects yX9_firstLinearizationAt.cls yX9_firstLinearizationAt yX9_firstLinearizationAt ∈ wsL_law ∧ ∃ (T : u_T) (N : Nat), vwCl[9]? = some (yX9_firstLinearizationAt.cls, T, N) := ⟨wsub_wsL_law_r32 _ (List.mem_of_getElem? (i := 6) rfl), wsub_wsL_law_r32 _ (List.mem_of_getElem? (i := 7) rfl), TX9, 44, rfl⟩
theorem mlk_L_166 : ax_mlk RL 166 yX8_firstViolation cX8_firstViolation 2 (some .int) 0 := ⟨wsub_wsL_law_r32 _ (List.mem_of_getElem? (i := 9) rfl), wsub_wsL_law_r1 _ (List.mem_of_getElem? (i := 2) rfl), wsub_wsL_law_r32 _ (List.mem_of_getElem? (i := 12) rfl), by decide +kernel⟩
theorem hst_L_166 : Cond.instanceMethod yX8_firstViolation ∈ wsL_law ∧ Cond.selects yX8_firstViolation.cls yX8_firstViolation yX8_firstViolation ∈ wsL_law ∧ ∃ (T : u_T) (N : Nat), vwCl[8]? = some (yX8_firstViolation.cls, T, N) := ⟨wsub_wsL_law_r32 _ (List.mem_of_getElem? (i := 10) rfl), wsub_wsL_law_r32 _ (List.mem_of_getElem? (i := 11) rfl), TX8, 6, rfl⟩
theorem mlk_L_169 : ax_mlk RL 169 yX9_firstViolation cX9_firstViolation 2 (some .int) 0 := ⟨wsub_wsL_law_r32 _ (List.mem_of_getElem? (i := 17) rfl), wsub_wsL_law_r1 _ (List.mem_of_getElem? (i := 5) rfl), wsub_wsL_law_r32 _ (List.mem_of_getElem? (i := 20) rfl), by decide +kernel⟩
theorem hst_L_169 : Cond.instanceMethod yX9_firstViolation ∈ wsL_law ∧ Cond.selects yX9_firstViolation.cls yX9_firstViolation yX9_firstViolation ∈ wsL_law ∧ ∃ (T : u_T) (N : Nat), vwCl[9]? = some (yX9_firstViolation.cls, T, N) := ⟨wsub_wsL_law_r32 _ (List.mem_of_getElem? (i := 18) rfl), wsub_wsL_law_r32 _ (List.mem_of_getElem? (i := 19) rfl), TX9, 44, rfl⟩
theorem mlk_L_170 : ax_mlk RL 170 yX8_canRespond cX8_canRespond 4 (some .int) 2 := ⟨wsub_wsL_law_r32 _ (List.mem_of_getElem? (i := 21) rfl), wsub_wsL_law_r1 _ (List.mem_of_getElem? (i := 2) rfl), wsub_wsL_law_r33 _ (List.mem_of_getElem? (i := 0) rfl), by decide +kernel⟩
theorem hst_L_170 : Cond.instanceMethod yX8_canRespond ∈ wsL_law ∧ Cond.selects yX8_canRespond.cls yX8_canRespond yX8_canRespond ∈ wsL_law ∧ ∃ (T : u_T) (N : Nat), vwCl[8]? = some (yX8_canRespond.cls, T, N) := ⟨wsub_wsL_law_r32 _ (List.mem_of_getElem? (i := 22) rfl), wsub_wsL_law_r32 _ (List.mem_of_getElem? (i := 23) rfl), TX8, 6, rfl⟩
theorem mlk_L_173 : ax_mlk RL 173 yX9_canRespond cX9_canRespond 4 (some .int) 2 := ⟨wsub_wsL_law_r33 _ (List.mem_of_getElem? (i := 5) rfl), wsub_wsL_law_r1 _ (List.mem_of_getElem? (i := 5) rfl), wsub_wsL_law_r33 _ (List.mem_of_getElem? (i := 8) rfl), by decide +kernel⟩
theorem hst_L_173 : Cond.instanceMethod yX9_canRespond ∈ wsL_law ∧ Cond.selects yX9_canRespond.cls yX9_canRespond yX9_canRespond ∈ wsL_law ∧ ∃ (T : u_T) (N : Nat), vwCl[9]? = some (yX9_canRespond.cls, T, N) := ⟨wsub_wsL_law_r33 _ (List.mem_of_getElem? (i := 6) rfl), wsub_wsL_law_r33 _ (List.mem_of_getElem? (i := 7) rfl), TX9, 44, rfl⟩
theorem mlk_L_174 : ax_mlk RL 174 yX8_countResponses cX8_countResponses 5 (some .int) 1 := ⟨wsub_wsL_law_r33 _ (List.mem_of_getElem? (i := 9) rfl), wsub_wsL_law_r1 _ (List.mem_of_getElem? (i := 2) rfl), wsub_wsL_law_r33 _ (List.mem_of_getElem? (i := 12) rfl), by decide +kernel⟩
theorem hst_L_174 : Cond.instanceMethod yX8_countResponses ∈ wsL_law ∧ Cond.selects yX8_countResponses.cls yX8_countResponses yX8_countResponses ∈ wsL_law ∧ ∃ (T : u_T) (N : Nat), vwCl[8]? = some (yX8_countResponses.cls, T, N) := ⟨wsub_wsL_law_r33 _ (List.mem_of_getElem? (i := 10) rfl), wsub_wsL_law_r33 _ (List.mem_of_getElem? (i := 11) rfl), TX8, 6, rfl⟩
theorem mlk_L_177 : ax_mlk RL 177 yX9_countResponses cX9_countResponses 5 (some .int) 1 := ⟨wsub_wsL_law_r33 _ (List.mem_of_getElem? (i := 18) rfl), wsub_wsL_law_r1 _ (List.mem_of_getElem? (i := 5) rfl), wsub_wsL_law_r33 _ (List.mem_of_getElem? (i := 21) rfl), by decide +kernel⟩
theorem hst_L_177 : Cond.instanceMethod yX9_countResponses ∈ wsL_law ∧ Cond.selects yX9_countResponses.cls yX9_countResponses yX9_countResponses ∈ wsL_law ∧ ∃ (T : u_T) (N : Nat), vwCl[9]? = some (yX9_countResponses.cls, T, N) := ⟨wsub_wsL_law_r33 _ (List.mem_of_getElem? (i := 19) rfl), wsub_wsL_law_r33 _ (List.mem_of_getElem? (i := 20) rfl), TX9, 44, rfl⟩
theorem mlk_L_178 : ax_mlk RL 178 yX8_appendToOrder cX8_appendToOrder 2 (some .int) 1 := ⟨wsub_wsL_law_r33 _ (List.mem_of_getElem? (i := 22) rfl), wsub_wsL_law_r1 _ (List.mem_of_getElem? (i := 2) rfl), wsub_wsL_law_r34 _ (List.mem_of_getElem? (i := 1) rfl), by decide +kernel⟩
theorem hst_L_178 : Cond.instanceMethod yX8_appendToOrder ∈ wsL_law ∧ Cond.selects yX8_appendToOrder.cls yX8_appendToOrder yX8_appendToOrder ∈ wsL_law ∧ ∃ (T : u_T) (N : Nat), vwCl[8]? = some (yX8_appendToOrder.cls, T, N) := ⟨wsub_wsL_law_r33 _ (List.mem_of_getElem? (i := 23) rfl), wsub_wsL_law_r34 _ (List.mem_of_getElem? (i := 0) rfl), TX8, 6, rfl⟩
theorem mlk_L_181 : ax_mlk RL 181 yX9_appendToOrder cX9_appendToOrder 2 (some .int) 1 := ⟨wsub_wsL_law_r34 _ (List.mem_of_getElem? (i := 10) rfl), wsub_wsL_law_r1 _ (List.mem_of_getElem? (i := 5) rfl), wsub_wsL_law_r34 _ (List.mem_of_getElem? (i := 13) rfl), by decide +kernel⟩
theorem hst_L_181 : Cond.instanceMethod yX9_appendToOrder ∈ wsL_law ∧ Cond.selects yX9_appendToOrder.cls yX9_appendToOrder yX9_appendToOrder ∈ wsL_law ∧ ∃ (T : u_T) (N : Nat), vwCl[9]? = some (yX9_appendToOrder.cls, T, N) := ⟨wsub_wsL_law_r34 _ (List.mem_of_getElem? (i := 11) rfl), wsub_wsL_law_r34 _ (List.mem_of_getElem? (i := 12) rfl), TX9, 44, rfl⟩
theorem mlk_L_182 : ax_mlk RL 182 yX8_removeFromOrder cX8_removeFromOrder 3 (some .int) 1 := ⟨wsub_wsL_law_r34 _ (List.mem_of_getElem? (i := 18) rfl), wsub_wsL_law_r1 _ (List.mem_of_getElem? (i := 2) rfl), wsub_wsL_law_r34 _ (List.mem_of_getElem? (i := 21) rfl), by decide +kernel⟩
theorem hst_L_182 : Cond.instanceMethod yX8_removeFromOrder ∈ wsL_law ∧ Cond.selects yX8_removeFromOrder.cls yX8_removeFromOrder yX8_removeFromOrder ∈ wsL_law ∧ ∃ (T : u_T) (N : Nat), vwCl[8]? = some (yX8_removeFromOrder.cls, T, N) := ⟨wsub_wsL_law_r34 _ (List.mem_of_getElem? (i := 19) rfl), wsub_wsL_law_r34 _ (List.mem_of_getElem? (i := 20) rfl), TX8, 6, rfl⟩
theorem mlk_L_185 : ax_mlk RL 185 yX9_removeFromOrder cX9_removeFromOrder 4 (some .int) 1 := ⟨wsub_wsL_law_r35 _ (List.mem_of_getElem? (i := 2) rfl), wsub_wsL_law_r1 _ (List.mem_of_getElem? (i := 5) rfl), wsub_wsL_law_r35 _ (List.mem_of_getElem? (i := 5) rfl), by decide +kernel⟩
theorem hst_L_185 : Cond.instanceMethod yX9_removeFromOrder ∈ wsL_law ∧ Cond.selects yX9_removeFromOrder.cls yX9_removeFromOrder yX9_removeFromOrder ∈ wsL_law ∧ ∃ (T : u_T) (N : Nat), vwCl[9]? = some (yX9_removeFromOrder.cls, T, N) := ⟨wsub_wsL_law_r35 _ (List.mem_of_getElem? (i := 3) rfl), wsub_wsL_law_r35 _ (List.mem_of_getElem? (i := 4) rfl), TX9, 44, rfl⟩
theorem mlk_L_186 : ax_mlk RL 186 yX8_orderSize cX8_orderSize 1 (some .int) 0 := ⟨wsub_wsL_law_r35 _ (List.mem_of_getElem? (i := 6) rfl), wsub_wsL_law_r1 _ (List.mem_of_getElem? (i := 2) rfl), wsub_wsL_law_r35 _ (List.mem_of_getElem? (i := 9) rfl), by decide +kernel⟩
theorem hst_L_186 : Cond.instanceMethod yX8_orderSize ∈ wsL_law ∧ Cond.selects yX8_orderSize.cls yX8_orderSize yX8_orderSize ∈ wsL_law ∧ ∃ (T : u_T) (N : Nat), vwCl[8]? = some (yX8_orderSize.cls, T, N) := ⟨wsub_wsL_law_r35 _ (List.mem_of_getElem? (i := 7) rfl), wsub_wsL_law_r35 _ (List.mem_of_getElem? (i := 8) rfl), TX8, 6, rfl⟩
theorem mlk_L_189 : ax_mlk RL 189 yX9_orderSize cX9_orderSize 1 (some .int) 0 := ⟨wsub_wsL_law_r35 _ (List.mem_of_getElem? (i := 10) rfl), wsub_wsL_law_r1 _ (List.mem_of_getElem? (i := 5) rfl), wsub_wsL_law_r35 _ (List.mem_of_getElem? (i := 13) rfl), by decide +kernel⟩
theorem hst_L_189 : Cond.instanceMethod yX9_orderSize ∈ wsL_law ∧ Cond.selects yX9_orderSize.cls yX9_orderSize yX9_orderSize ∈ wsL_law ∧ ∃ (T : u_T) (N : Nat), vwCl[9]? = some (yX9_orderSize.cls, T, N) := ⟨wsub_wsL_law_r35 _ (List.mem_of_getElem? (i := 11) rfl), wsub_wsL_law_r35 _ (List.mem_of_getElem? (i := 12) rfl), TX9, 44, rfl⟩
theorem mlk_L_190 : ax_mlk RL 190 yX8_orderAt cX8_orderAt 2 (some .int) 1 := ⟨wsub_wsL_law_r35 _ (List.mem_of_getElem? (i := 14) rfl), wsub_wsL_law_r1 _ (List.mem_of_getElem? (i := 2) rfl), wsub_wsL_law_r35 _ (List.mem_of_getElem? (i := 17) rfl), by decide +kernel⟩
theorem hst_L_190 : Cond.instanceMethod yX8_orderAt ∈ wsL_law ∧ Cond.selects yX8_orderAt.cls yX8_orderAt yX8_orderAt ∈ wsL_law ∧ ∃ (T : u_T) (N : Nat), vwCl[8]? = some (yX8_orderAt.cls, T, N) := ⟨wsub_wsL_law_r35 _ (List.mem_of_getElem? (i := 15) rfl), wsub_wsL_law_r35 _ (List.mem_of_getElem? (i := 16) rfl), TX8, 6, rfl⟩
theorem mlk_L_193 : ax_mlk RL 193 yX9_orderAt cX9_orderAt 2 (some .int) 1 := ⟨wsub_wsL_law_r35 _ (List.mem_of_getElem? (i := 18) rfl), wsub_wsL_law_r1 _ (List.mem_of_getElem? (i := 5) rfl), wsub_wsL_law_r35 _ (List.mem_of_getElem? (i := 21) rfl), by decide +kernel⟩
theorem hst_L_193 : Cond.instanceMethod yX9_orderAt ∈ wsL_law ∧ Cond.selects yX9_orderAt.cls yX9_orderAt yX9_orderAt ∈ wsL_law ∧ ∃ (T : u_T) (N : Nat), vwCl[9]? = some (yX9_orderAt.cls, T, N) := ⟨wsub_wsL_law_r35 _ (List.mem_of_getElem? (i := 19) rfl), wsub_wsL_law_r35 _ (List.mem_of_getElem? (i := 20) rfl), TX9, 44, rfl⟩
theorem mlk_L_194 : ax_mlk RL 194 yX8_isOrderLinearization cX8_isOrderLinearization 1 (some .int) 0 := ⟨wsub_wsL_law_r35 _ (List.mem_of_getElem? (i := 22) rfl), wsub_wsL_law_r1 _ (List.mem_of_getElem? (i := 2) rfl), wsub_wsL_law_r36 _ (List.mem_of_getElem? (i := 1) rfl), by decide +kernel⟩
theorem hst_L_194 : Cond.instanceMethod yX8_isOrderLinearization ∈ wsL_law ∧ Cond.selects yX8_isOrderLinearization.cls yX8_isOrderLinearization yX8_isOrderLinearization ∈ wsL_law ∧ ∃ (T : u_T) (N : Nat), vwCl[8]? = some (yX8_isOrderLinearization.cls, T, N) := ⟨wsub_wsL_law_r35 _ (List.mem_of_getElem? (i := 23) rfl), wsub_wsL_law_r36 _ (List.mem_of_getElem? (i := 0) rfl), TX8, 6, rfl⟩
theorem mlk_L_197 : ax_mlk RL 197 yX9_isOrderLinearization cX9_isOrderLinearization 3 (some .int) 0 := ⟨wsub_wsL_law_r36 _ (List.mem_of_getElem? (i := 14) rfl), wsub_wsL_law_r1 _ (List.mem_of_getElem? (i := 5) rfl), wsub_wsL_law_r36 _ (List.mem_of_getElem? (i := 17) rfl), by decide +kernel⟩
theorem hst_L_197 : Cond.instanceMethod yX9_isOrderLinearization ∈ wsL_law ∧ Cond.selects yX9_isOrderLinearization.cls yX9_isOrderLinearization yX9_isOrderLinearization ∈ wsL_law ∧ ∃ (T : u_T) (N : Nat), vwCl[9]? = some (yX9_isOrderLinearization.cls, T, N) := ⟨wsub_wsL_law_r36 _ (List.mem_of_getElem? (i := 15) rfl), wsub_wsL_law_r36 _ (List.mem_of_getElem? (i := 16) rfl), TX9, 44, rfl⟩
theorem mlk_L_198 : ax_mlk RL 198 yX8_firstBadPosition cX8_firstBadPosition 2 (some .int) 0 := ⟨wsub_wsL_law_r36 _ (List.mem_of_getElem? (i := 22) rfl), wsub_wsL_law_r1 _ (List.mem_of_getElem? (i := 2) rfl), wsub_wsL_law_r37 _ (List.mem_of_getElem? (i := 1) rfl), by decide +kernel⟩
theorem hst_L_198 : Cond.instanceMethod yX8_firstBadPosition ∈ wsL_law ∧ Cond.selects yX8_firstBadPosition.cls yX8_firstBadPosition yX8_firstBadPosition ∈ wsL_law ∧ ∃ (T : u_T) (N : Nat), vwCl[8]? = some (yX8_firstBadPosition.cls, T, N) := ⟨wsub_wsL_law_r36 _ (List.mem_of_getElem? (i := 23) rfl), wsub_wsL_law_r37 _ (List.mem_of_getElem? (i := 0) rfl), TX8, 6, rfl⟩
theorem mlk_L_201 : ax_mlk RL 201 yX9_firstBadPosition cX9_firstBadPosition 6 (some .int) 0 := ⟨wsub_wsL_law_r37 _ (List.mem_of_getElem? (i := 2) rfl), wsub_wsL_law_r1 _ (List.mem_of_getElem? (i := 5) rfl), wsub_wsL_law_r36 _ (List.mem_of_getElem? (i := 21) rfl), by decide +kernel⟩
theorem hst_L_201 : Cond.instanceMethod yX9_firstBadPosition ∈ wsL_law ∧ Cond.selects yX9_firstBadPosition.cls yX9_firstBadPosition yX9_firstBadPosition ∈ wsL_law ∧ ∃ (T : u_T) (N : Nat), vwCl[9]? = some (yX9_firstBadPosition.cls, T, N) := ⟨wsub_wsL_law_r36 _ (List.mem_of_getElem? (i := 19) rfl), wsub_wsL_law_r36 _ (List.mem_of_getElem? (i := 20) rfl), TX9, 44, rfl⟩
theorem mlk_L_202 : ax_mlk RL 202 yX8_appendCharacter cX8_appendCharacter 2 (some .int) 1 := ⟨wsub_wsL_law_r37 _ (List.mem_of_getElem? (i := 3) rfl), wsub_wsL_law_r1 _ (List.mem_of_getElem? (i := 2) rfl), wsub_wsL_law_r37 _ (List.mem_of_getElem? (i := 6) rfl), by decide +kernel⟩
theorem hst_L_202 : Cond.instanceMethod yX8_appendCharacter ∈ wsL_law ∧ Cond.selects yX8_appendCharacter.cls yX8_appendCharacter yX8_appendCharacter ∈ wsL_law ∧ ∃ (T : u_T) (N : Nat), vwCl[8]? = some (yX8_appendCharacter.cls, T, N) := ⟨wsub_wsL_law_r37 _ (List.mem_of_getElem? (i := 4) rfl), wsub_wsL_law_r37 _ (List.mem_of_getElem? (i := 5) rfl), TX8, 6, rfl⟩
theorem mlk_L_205 : ax_mlk RL 205 yX9_appendCharacter cX9_appendCharacter 2 (some .int) 1 := ⟨wsub_wsL_law_r37 _ (List.mem_of_getElem? (i := 12) rfl), wsub_wsL_law_r1 _ (List.mem_of_getElem? (i := 5) rfl), wsub_wsL_law_r37 _ (List.mem_of_getElem? (i := 15) rfl), by decide +kernel⟩
theorem hst_L_205 : Cond.instanceMethod yX9_appendCharacter ∈ wsL_law ∧ Cond.selects yX9_appendCharacter.cls yX9_appendCharacter yX9_appendCharacter ∈ wsL_law ∧ ∃ (T : u_T) (N : Nat), vwCl[9]? = some (yX9_appendCharacter.cls, T, N) := ⟨wsub_wsL_law_r37 _ (List.mem_of_getElem? (i := 13) rfl), wsub_wsL_law_r37 _ (List.mem_of_getElem? (i := 14) rfl), TX9, 44, rfl⟩
theorem mlk_L_206 : ax_mlk RL 206 yX8_clearText cX8_clearText 2 (some .int) 0 := ⟨wsub_wsL_law_r37 _ (List.mem_of_getElem? (i := 17) rfl), wsub_wsL_law_r1 _ (List.mem_of_getElem? (i := 2) rfl), wsub_wsL_law_r37 _ (List.mem_of_getElem? (i := 20) rfl), by decide +kernel⟩
theorem hst_L_206 : Cond.instanceMethod yX8_clearText ∈ wsL_law ∧ Cond.selects yX8_clearText.cls yX8_clearText yX8_clearText ∈ wsL_law ∧ ∃ (T : u_T) (N : Nat), vwCl[8]? = some (yX8_clearText.cls, T, N) := ⟨wsub_wsL_law_r37 _ (List.mem_of_getElem? (i := 18) rfl), wsub_wsL_law_r37 _ (List.mem_of_getElem? (i := 19) rfl), TX8, 6, rfl⟩
theorem mlk_L_209 : ax_mlk RL 209 yX9_clearText cX9_clearText 2 (some .int) 0 := ⟨wsub_wsL_law_r38 _ (List.mem_of_getElem? (i := 1) rfl), wsub_wsL_law_r1 _ (List.mem_of_getElem? (i := 5) rfl), wsub_wsL_law_r38 _ (List.mem_of_getElem? (i := 4) rfl), by decide +kernel⟩
theorem hst_L_209 : Cond.instanceMethod yX9_clearText ∈ wsL_law ∧ Cond.selects yX9_clearText.cls yX9_clearText yX9_clearText ∈ wsL_law ∧ ∃ (T : u_T) (N : Nat), vwCl[9]? = some (yX9_clearText.cls, T, N) := ⟨wsub_wsL_law_r38 _ (List.mem_of_getElem? (i := 2) rfl), wsub_wsL_law_r38 _ (List.mem_of_getElem? (i := 3) rfl), TX9, 44, rfl⟩
theorem mlk_L_210 : ax_mlk RL 210 yX8_parseText cX8_parseText 3 (some .int) 0 := ⟨wsub_wsL_law_r38 _ (List.mem_of_getElem? (i := 5) rfl), wsub_wsL_law_r1 _ (List.mem_of_getElem? (i := 2) rfl), wsub_wsL_law_r38 _ (List.mem_of_getElem? (i := 8) rfl), by decide +kernel⟩
theorem hst_L_210 : Cond.instanceMethod yX8_parseText ∈ wsL_law ∧ Cond.selects yX8_parseText.cls yX8_parseText yX8_parseText ∈ wsL_law ∧ ∃ (T : u_T) (N : Nat), vwCl[8]? = some (yX8_parseText.cls, T, N) := ⟨wsub_wsL_law_r38 _ (List.mem_of_getElem? (i := 6) rfl), wsub_wsL_law_r38 _ (List.mem_of_getElem? (i := 7) rfl), TX8, 6, rfl⟩
theorem mlk_L_213 : ax_mlk RL 213 yX9_parseText cX9_parseText 4 (some .int) 0 := ⟨wsub_wsL_law_r42 _ (List.mem_of_getElem? (i := 20) rfl), wsub_wsL_law_r1 _ (List.mem_of_getElem? (i := 5) rfl), wsub_wsL_law_r42 _ (List.mem_of_getElem? (i := 23) rfl), by decide +kernel⟩
theorem hst_L_213 : Cond.instanceMethod yX9_parseText ∈ wsL_law ∧ Cond.selects yX9_parseText.cls yX9_parseText yX9_parseText ∈ wsL_law ∧ ∃ (T : u_T) (N : Nat), vwCl[9]? = some (yX9_parseText.cls, T, N) := ⟨wsub_wsL_law_r42 _ (List.mem_of_getElem? (i := 21) rfl), wsub_wsL_law_r42 _ (List.mem_of_getElem? (i := 22) rfl), TX9, 44, rfl⟩
theorem mlk_L_214 : ax_mlk RL 214 yX8_saveSnapshot cX8_saveSnapshot 1 (some .int) 0 := ⟨wsub_wsL_law_r44 _ (List.mem_of_getElem? (i := 20) rfl), wsub_wsL_law_r1 _ (List.mem_of_getElem? (i := 2) rfl), wsub_wsL_law_r44 _ (List.mem_of_getElem? (i := 23) rfl), by decide +kernel⟩
theorem hst_L_214 : Cond.instanceMethod yX8_saveSnapshot ∈ wsL_law ∧ Cond.selects yX8_saveSnapshot.cls yX8_saveSnapshot yX8_saveSnapshot ∈ wsL_law ∧ ∃ (T : u_T) (N : Nat), vwCl[8]? = some (yX8_saveSnapshot.cls, T, N) := ⟨wsub_wsL_law_r44 _ (List.mem_of_getElem? (i := 21) rfl), wsub_wsL_law_r44 _ (List.mem_of_getElem? (i := 22) rfl), TX8, 6, rfl⟩
theorem mlk_L_217 : ax_mlk RL 217 yX9_saveSnapshot cX9_saveSnapshot 1 (some .int) 0 := ⟨wsub_wsL_law_r45 _ (List.mem_of_getElem? (i := 22) rfl), wsub_wsL_law_r1 _ (List.mem_of_getElem? (i := 5) rfl), wsub_wsL_law_r46 _ (List.mem_of_getElem? (i := 1) rfl), by decide +kernel⟩
theorem hst_L_217 : Cond.instanceMethod yX9_saveSnapshot ∈ wsL_law ∧ Cond.selects yX9_saveSnapshot.cls yX9_saveSnapshot yX9_saveSnapshot ∈ wsL_law ∧ ∃ (T : u_T) (N : Nat), vwCl[9]? = some (yX9_saveSnapshot.cls, T, N) := ⟨wsub_wsL_law_r45 _ (List.mem_of_getElem? (i := 23) rfl), wsub_wsL_law_r46 _ (List.mem_of_getElem? (i := 0) rfl), TX9, 44, rfl⟩
theorem mlk_L_218 : ax_mlk RL 218 yX8_restoreSnapshot cX8_restoreSnapshot 1 (some .int) 0 := ⟨wsub_wsL_law_r46 _ (List.mem_of_getElem? (i := 12) rfl), wsub_wsL_law_r1 _ (List.mem_of_getElem? (i := 2) rfl), wsub_wsL_law_r46 _ (List.mem_of_getElem? (i := 15) rfl), by decide +kernel⟩
theorem hst_L_218 : Cond.instanceMethod yX8_restoreSnapshot ∈ wsL_law ∧ Cond.selects yX8_restoreSnapshot.cls yX8_restoreSnapshot yX8_restoreSnapshot ∈ wsL_law ∧ ∃ (T : u_T) (N : Nat), vwCl[8]? = some (yX8_restoreSnapshot.cls, T, N) := ⟨wsub_wsL_law_r46 _ (List.mem_of_getElem? (i := 13) rfl), wsub_wsL_law_r46 _ (List.mem_of_getElem? (i := 14) rfl), TX8, 6, rfl⟩
theorem mlk_L_221 : ax_mlk RL 221 yX9_restoreSnapshot cX9_restoreSnapshot 1 (some .int) 0 := ⟨wsub_wsL_law_r46 _ (List.mem_of_getElem? (i := 16) rfl), wsub_wsL_law_r1 _ (List.mem_of_getElem? (i := 5) rfl), wsub_wsL_law_r46 _ (List.mem_of_getElem? (i := 19) rfl), by decide +kernel⟩
theorem hst_L_221 : Cond.instanceMethod yX9_restoreSnapshot ∈ wsL_law ∧ Cond.selects yX9_restoreSnapshot.cls yX9_restoreSnapshot yX9_restoreSnapshot ∈ wsL_law ∧ ∃ (T : u_T) (N : Nat), vwCl[9]? = some (yX9_restoreSnapshot.cls, T, N) := ⟨wsub_wsL_law_r46 _ (List.mem_of_getElem? (i := 17) rfl), wsub_wsL_law_r46 _ (List.mem_of_getElem? (i := 18) rfl), TX9, 44, rfl⟩
section LWC
variable {Rl : ax_S → ax_S → Prop} {p : Program} {l : Launch} {e : Env} {s : State} {m : MethodId} {below : List Frame} {meth : Method} {c : Code} {b N j : Nat} {xs : Nat → Int32} {D : va_G} {adX : Nat → Nat} {caX : Nat → ClassId} {adM : Nat → Nat} {caM : Nat → ClassId}
set_option maxRecDepth 100000 in
theorem law_c0 (hsim : ax_Sims Rl) (C0 : lw_At p s m meth c b N xs) (F : lw_F s D adX caX adM caM) (hj : j + 5 ≤ N) (hL : N ≤ 2560) (hT : lw_T Rl p l e s m b below meth c D adX caX adM caM (nI j)) {stX stM : ax_S} (hR : Rl stX stM) {H : Heap} {locs : List Loc} {ls : Array Slot} (hG : lw_G s D adX caX adM caM H locs stX stM) (hl : lv_has ls 4 [(0, .ref b), (1, .ref (adX 0)), (2, .ref (adM 0)), (3, .int (nI j))]) : W p l e room_1 s m #[Value.ref b] below meth c H locs 600000 7302250 (lw_Z below #[Value.ref b] s) (F0 m 252 ls []) := by
  obtain ⟨hx, hb, hr, hml, hown, hts, hX, hbl, hlocks, hgv⟩ := C0
  have hts := fun w h => hts w (wsL_law_in w h)
  have hbA : ¬ s.heap.size ≤ b := Nat.not_le.mpr hbl
  obtain ⟨hP1, hP2, hS⟩ := hG
  obtain ⟨r, sx1, sm1, e1, e2, hR1⟩ := hsim.1 (xs (nI j + 1).toNatClampNeg) stX stM hR
  refine lv_aload_n hx hb dL_law_252 rfl (lv_at hl 1 rfl) ?_
  refine lv_aload_n hx hb dL_law_253 rfl (lv_at hl 0 rfl) ?_
  refine lv_iload_n hx hb dL_law_254 rfl (lv_at hl 3 rfl) ?_
  refine lv_iconst (v := 1) hx hb dL_law_255 (by decide) ?_
  refine lv_iadd hx hb dL_law_256 ?_
  refine va_sld hx hb hX hbl hbA hS (lw_in hj hL (k := 1) (by decide)) dL_law_257 ?_
  refine lw_call (L1 := LX) (L2 := LM) hx hb hml hown hts hP1 hP2 hS F.1 F.2.2.1 F.2.2.2.2.2.2.2.1 F.2.2.2.2.1 F.2.2.2.2.2.2.1 mlk_L_13 hst_L_13 (dy := 3) LX_0 [.inl (xs (nI j + 1).toNatClampNeg)] (rest := []) rfl rfl (by decide) (by decide) (by decide) dL_law_258 (kX8_createRegister _ _ _ _ e1) hl.1 (fun H locs hP1 hP2 hS => ?_)
  refine lv_aload_n hx hb dL_law_261 rfl (lv_at hl 2 rfl) ?_
  refine lv_aload_n hx hb dL_law_262 rfl (lv_at hl 0 rfl) ?_
  refine lv_iload_n hx hb dL_law_263 rfl (lv_at hl 3 rfl) ?_
  refine lv_iconst (v := 1) hx hb dL_law_264 (by decide) ?_
  refine lv_iadd hx hb dL_law_265 ?_
  refine va_sld hx hb hX hbl hbA hS (lw_in hj hL (k := 1) (by decide)) dL_law_266 ?_
  refine lw_call (L1 := LM) (L2 := LX) hx hb hml hown hts hP2 hP1 hS F.2.1 F.2.2.2.1 F.2.2.2.2.2.2.2.2 F.2.2.2.2.2.1 (fun i j hi hj q => F.2.2.2.2.2.2.1 j i hj hi q.symm) mlk_L_17 hst_L_17 (dy := 2) LM_0 [.inl (xs (nI j + 1).toNatClampNeg)] (rest := [.int r]) rfl rfl (by decide) (by decide) (Nat.le_of_ble_eq_true rfl) dL_law_267 (kX9_createRegister _ _ _ _ e2) hl.1 (fun H locs hP2 hP1 hS => ?_)
  refine lv_icmp_eq (tgt := 1425) hx hb dL_law_270 (by decide) (fun _ => ?_) (fun h => absurd rfl h)
  exact hT sx1 sm1 hR1 H locs ls ⟨hP1, hP2, hS⟩ hl
set_option maxRecDepth 100000 in
theorem law_c1 (hsim : ax_Sims Rl) (C0 : lw_At p s m meth c b N xs) (F : lw_F s D adX caX adM caM) (hj : j + 5 ≤ N) (hL : N ≤ 2560) (hT : lw_T Rl p l e s m b below meth c D adX caX adM caM (nI j)) {stX stM : ax_S} (hR : Rl stX stM) {H : Heap} {locs : List Loc} {ls : Array Slot} (hG : lw_G s D adX caX adM caM H locs stX stM) (hl : lv_has ls 4 [(0, .ref b), (1, .ref (adX 0)), (2, .ref (adM 0)), (3, .int (nI j))]) : W p l e room_1 s m #[Value.ref b] below meth c H locs 600000 7302250 (lw_Z below #[Value.ref b] s) (F0 m 275 ls []) := by
  obtain ⟨hx, hb, hr, hml, hown, hts, hX, hbl, hlocks, hgv⟩ := C0
  have hts := fun w h => hts w (wsL_law_in w h)
  have hbA : ¬ s.heap.size ≤ b := Nat.not_le.mpr hbl
  obtain ⟨hP1, hP2, hS⟩ := hG
  obtain ⟨r, sx1, sm1, e1, e2, hR1⟩ := hsim.2.1 (xs (nI j + 1).toNatClampNeg) stX stM hR
  refine lv_aload_n hx hb dL_law_275 rfl (lv_at hl 1 rfl) ?_
  refine lv_aload_n hx hb dL_law_276 rfl (lv_at hl 0 rfl) ?_
  refine lv_iload_n hx hb dL_law_277 rfl (lv_at hl 3 rfl) ?_
  refine lv_iconst (v := 1) hx hb dL_law_278 (by decide) ?_
  refine lv_iadd hx hb dL_law_279 ?_
  refine va_sld hx hb hX hbl hbA hS (lw_in hj hL (k := 1) (by decide)) dL_law_280 ?_
  refine lw_call (L1 := LX) (L2 := LM) hx hb hml hown hts hP1 hP2 hS F.1 F.2.2.1 F.2.2.2.2.2.2.2.1 F.2.2.2.2.1 F.2.2.2.2.2.2.1 mlk_L_18 hst_L_18 (dy := 3) LX_0 [.inl (xs (nI j + 1).toNatClampNeg)] (rest := []) rfl rfl (by decide) (by decide) (by decide) dL_law_281 (kX8_createCounter _ _ _ _ e1) hl.1 (fun H locs hP1 hP2 hS => ?_)
  refine lv_aload_n hx hb dL_law_284 rfl (lv_at hl 2 rfl) ?_
  refine lv_aload_n hx hb dL_law_285 rfl (lv_at hl 0 rfl) ?_
  refine lv_iload_n hx hb dL_law_286 rfl (lv_at hl 3 rfl) ?_
  refine lv_iconst (v := 1) hx hb dL_law_287 (by decide) ?_
  refine lv_iadd hx hb dL_law_288 ?_
  refine va_sld hx hb hX hbl hbA hS (lw_in hj hL (k := 1) (by decide)) dL_law_289 ?_
  refine lw_call (L1 := LM) (L2 := LX) hx hb hml hown hts hP2 hP1 hS F.2.1 F.2.2.2.1 F.2.2.2.2.2.2.2.2 F.2.2.2.2.2.1 (fun i j hi hj q => F.2.2.2.2.2.2.1 j i hj hi q.symm) mlk_L_21 hst_L_21 (dy := 2) LM_0 [.inl (xs (nI j + 1).toNatClampNeg)] (rest := [.int r]) rfl rfl (by decide) (by decide) (Nat.le_of_ble_eq_true rfl) dL_law_290 (kX9_createCounter _ _ _ _ e2) hl.1 (fun H locs hP2 hP1 hS => ?_)
  refine lv_icmp_eq (tgt := 1425) hx hb dL_law_293 (by decide) (fun _ => ?_) (fun h => absurd rfl h)
  exact hT sx1 sm1 hR1 H locs ls ⟨hP1, hP2, hS⟩ hl
set_option maxRecDepth 100000 in
theorem law_c2 (hsim : ax_Sims Rl) (C0 : lw_At p s m meth c b N xs) (F : lw_F s D adX caX adM caM) (hj : j + 5 ≤ N) (hL : N ≤ 2560) (hT : lw_T Rl p l e s m b below meth c D adX caX adM caM (nI j)) {stX stM : ax_S} (hR : Rl stX stM) {H : Heap} {locs : List Loc} {ls : Array Slot} (hG : lw_G s D adX caX adM caM H locs stX stM) (hl : lv_has ls 4 [(0, .ref b), (1, .ref (adX 0)), (2, .ref (adM 0)), (3, .int (nI j))]) : W p l e room_1 s m #[Value.ref b] below meth c H locs 600000 7302250 (lw_Z below #[Value.ref b] s) (F0 m 298 ls []) := by
  obtain ⟨hx, hb, hr, hml, hown, hts, hX, hbl, hlocks, hgv⟩ := C0
  have hts := fun w h => hts w (wsL_law_in w h)
  have hbA : ¬ s.heap.size ≤ b := Nat.not_le.mpr hbl
  obtain ⟨hP1, hP2, hS⟩ := hG
  obtain ⟨r, sx1, sm1, e1, e2, hR1⟩ := hsim.2.2.1  stX stM hR
  refine lv_aload_n hx hb dL_law_298 rfl (lv_at hl 1 rfl) ?_
  refine lw_call (L1 := LX) (L2 := LM) hx hb hml hown hts hP1 hP2 hS F.1 F.2.2.1 F.2.2.2.2.2.2.2.1 F.2.2.2.2.1 F.2.2.2.2.2.2.1 mlk_L_22 hst_L_22 (dy := 3) LX_0 [] (rest := []) rfl rfl (by decide) (by decide) (by decide) dL_law_299 (kX8_createQueue _ _ _ e1) hl.1 (fun H locs hP1 hP2 hS => ?_)
  refine lv_aload_n hx hb dL_law_302 rfl (lv_at hl 2 rfl) ?_
  refine lw_call (L1 := LM) (L2 := LX) hx hb hml hown hts hP2 hP1 hS F.2.1 F.2.2.2.1 F.2.2.2.2.2.2.2.2 F.2.2.2.2.2.1 (fun i j hi hj q => F.2.2.2.2.2.2.1 j i hj hi q.symm) mlk_L_26 hst_L_26 (dy := 2) LM_0 [] (rest := [.int r]) rfl rfl (by decide) (by decide) (Nat.le_of_ble_eq_true rfl) dL_law_303 (kX9_createQueue _ _ _ e2) hl.1 (fun H locs hP2 hP1 hS => ?_)
  refine lv_icmp_eq (tgt := 1425) hx hb dL_law_306 (by decide) (fun _ => ?_) (fun h => absurd rfl h)
  exact hT sx1 sm1 hR1 H locs ls ⟨hP1, hP2, hS⟩ hl
set_option maxRecDepth 100000 in
theorem law_c3 (hsim : ax_Sims Rl) (C0 : lw_At p s m meth c b N xs) (F : lw_F s D adX caX adM caM) (hj : j + 5 ≤ N) (hL : N ≤ 2560) (hT : lw_T Rl p l e s m b below meth c D adX caX adM caM (nI j)) {stX stM : ax_S} (hR : Rl stX stM) {H : Heap} {locs : List Loc} {ls : Array Slot} (hG : lw_G s D adX caX adM caM H locs stX stM) (hl : lv_has ls 4 [(0, .ref b), (1, .ref (adX 0)), (2, .ref (adM 0)), (3, .int (nI j))]) : W p l e room_1 s m #[Value.ref b] below meth c H locs 600000 7302250 (lw_Z below #[Value.ref b] s) (F0 m 311 ls []) := by
  obtain ⟨hx, hb, hr, hml, hown, hts, hX, hbl, hlocks, hgv⟩ := C0
  have hts := fun w h => hts w (wsL_law_in w h)
  have hbA : ¬ s.heap.size ≤ b := Nat.not_le.mpr hbl
  obtain ⟨hP1, hP2, hS⟩ := hG
  obtain ⟨r, sx1, sm1, e1, e2, hR1⟩ := hsim.2.2.2.1  stX stM hR
  refine lv_aload_n hx hb dL_law_311 rfl (lv_at hl 1 rfl) ?_
  refine lw_call (L1 := LX) (L2 := LM) hx hb hml hown hts hP1 hP2 hS F.1 F.2.2.1 F.2.2.2.2.2.2.2.1 F.2.2.2.2.1 F.2.2.2.2.2.2.1 mlk_L_27 hst_L_27 (dy := 3) LX_0 [] (rest := []) rfl rfl (by decide) (by decide) (by decide) dL_law_312 (kX8_createSet _ _ _ e1) hl.1 (fun H locs hP1 hP2 hS => ?_)
  refine lv_aload_n hx hb dL_law_315 rfl (lv_at hl 2 rfl) ?_
  refine lw_call (L1 := LM) (L2 := LX) hx hb hml hown hts hP2 hP1 hS F.2.1 F.2.2.2.1 F.2.2.2.2.2.2.2.2 F.2.2.2.2.2.1 (fun i j hi hj q => F.2.2.2.2.2.2.1 j i hj hi q.symm) mlk_L_30 hst_L_30 (dy := 2) LM_0 [] (rest := [.int r]) rfl rfl (by decide) (by decide) (Nat.le_of_ble_eq_true rfl) dL_law_316 (kX9_createSet _ _ _ e2) hl.1 (fun H locs hP2 hP1 hS => ?_)
  refine lv_icmp_eq (tgt := 1425) hx hb dL_law_319 (by decide) (fun _ => ?_) (fun h => absurd rfl h)
  exact hT sx1 sm1 hR1 H locs ls ⟨hP1, hP2, hS⟩ hl
set_option maxRecDepth 100000 in
theorem law_c4 (hsim : ax_Sims Rl) (C0 : lw_At p s m meth c b N xs) (F : lw_F s D adX caX adM caM) (hj : j + 5 ≤ N) (hL : N ≤ 2560) (hT : lw_T Rl p l e s m b below meth c D adX caX adM caM (nI j)) {stX stM : ax_S} (hR : Rl stX stM) {H : Heap} {locs : List Loc} {ls : Array Slot} (hG : lw_G s D adX caX adM caM H locs stX stM) (hl : lv_has ls 4 [(0, .ref b), (1, .ref (adX 0)), (2, .ref (adM 0)), (3, .int (nI j))]) : W p l e room_1 s m #[Value.ref b] below meth c H locs 600000 7302250 (lw_Z below #[Value.ref b] s) (F0 m 324 ls []) := by
  obtain ⟨hx, hb, hr, hml, hown, hts, hX, hbl, hlocks, hgv⟩ := C0
  have hts := fun w h => hts w (wsL_law_in w h)
  have hbA : ¬ s.heap.size ≤ b := Nat.not_le.mpr hbl
  obtain ⟨hP1, hP2, hS⟩ := hG
  obtain ⟨r, sx1, sm1, e1, e2, hR1⟩ := hsim.2.2.2.2.1  stX stM hR
  refine lv_aload_n hx hb dL_law_324 rfl (lv_at hl 1 rfl) ?_
  refine lw_call (L1 := LX) (L2 := LM) hx hb hml hown hts hP1 hP2 hS F.1 F.2.2.1 F.2.2.2.2.2.2.2.1 F.2.2.2.2.1 F.2.2.2.2.2.2.1 mlk_L_31 hst_L_31 (dy := 1) LX_0 [] (rest := []) rfl rfl (by decide) (by decide) (by decide) dL_law_325 (kX8_objectCount _ _ _ e1) hl.1 (fun H locs hP1 hP2 hS => ?_)
  refine lv_aload_n hx hb dL_law_328 rfl (lv_at hl 2 rfl) ?_
  refine lw_call (L1 := LM) (L2 := LX) hx hb hml hown hts hP2 hP1 hS F.2.1 F.2.2.2.1 F.2.2.2.2.2.2.2.2 F.2.2.2.2.2.1 (fun i j hi hj q => F.2.2.2.2.2.2.1 j i hj hi q.symm) mlk_L_34 hst_L_34 (dy := 1) LM_0 [] (rest := [.int r]) rfl rfl (by decide) (by decide) (Nat.le_of_ble_eq_true rfl) dL_law_329 (kX9_objectCount _ _ _ e2) hl.1 (fun H locs hP2 hP1 hS => ?_)
  refine lv_icmp_eq (tgt := 1425) hx hb dL_law_332 (by decide) (fun _ => ?_) (fun h => absurd rfl h)
  exact hT sx1 sm1 hR1 H locs ls ⟨hP1, hP2, hS⟩ hl
set_option maxRecDepth 100000 in
theorem law_c5 (hsim : ax_Sims Rl) (C0 : lw_At p s m meth c b N xs) (F : lw_F s D adX caX adM caM) (hj : j + 5 ≤ N) (hL : N ≤ 2560) (hT : lw_T Rl p l e s m b below meth c D adX caX adM caM (nI j)) {stX stM : ax_S} (hR : Rl stX stM) {H : Heap} {locs : List Loc} {ls : Array Slot} (hG : lw_G s D adX caX adM caM H locs stX stM) (hl : lv_has ls 4 [(0, .ref b), (1, .ref (adX 0)), (2, .ref (adM 0)), (3, .int (nI j))]) : W p l e room_1 s m #[Value.ref b] below meth c H locs 600000 7302250 (lw_Z below #[Value.ref b] s) (F0 m 337 ls []) := by
  obtain ⟨hx, hb, hr, hml, hown, hts, hX, hbl, hlocks, hgv⟩ := C0
  have hts := fun w h => hts w (wsL_law_in w h)
  have hbA : ¬ s.heap.size ≤ b := Nat.not_le.mpr hbl
  obtain ⟨hP1, hP2, hS⟩ := hG
  obtain ⟨r, sx1, sm1, e1, e2, hR1⟩ := hsim.2.2.2.2.2.1 (xs (nI j + 1).toNatClampNeg) stX stM hR
  refine lv_aload_n hx hb dL_law_337 rfl (lv_at hl 1 rfl) ?_
  refine lv_aload_n hx hb dL_law_338 rfl (lv_at hl 0 rfl) ?_
  refine lv_iload_n hx hb dL_law_339 rfl (lv_at hl 3 rfl) ?_
  refine lv_iconst (v := 1) hx hb dL_law_340 (by decide) ?_
  refine lv_iadd hx hb dL_law_341 ?_
  refine va_sld hx hb hX hbl hbA hS (lw_in hj hL (k := 1) (by decide)) dL_law_342 ?_
  refine lw_call (L1 := LX) (L2 := LM) hx hb hml hown hts hP1 hP2 hS F.1 F.2.2.1 F.2.2.2.2.2.2.2.1 F.2.2.2.2.1 F.2.2.2.2.2.2.1 mlk_L_35 hst_L_35 (dy := 3) LX_0 [.inl (xs (nI j + 1).toNatClampNeg)] (rest := []) rfl rfl (by decide) (by decide) (by decide) dL_law_343 (kX8_typeOf _ _ _ _ e1) hl.1 (fun H locs hP1 hP2 hS => ?_)
  refine lv_aload_n hx hb dL_law_346 rfl (lv_at hl 2 rfl) ?_
  refine lv_aload_n hx hb dL_law_347 rfl (lv_at hl 0 rfl) ?_
  refine lv_iload_n hx hb dL_law_348 rfl (lv_at hl 3 rfl) ?_
  refine lv_iconst (v := 1) hx hb dL_law_349 (by decide) ?_
  refine lv_iadd hx hb dL_law_350 ?_
  refine va_sld hx hb hX hbl hbA hS (lw_in hj hL (k := 1) (by decide)) dL_law_351 ?_
  refine lw_call (L1 := LM) (L2 := LX) hx hb hml hown hts hP2 hP1 hS F.2.1 F.2.2.2.1 F.2.2.2.2.2.2.2.2 F.2.2.2.2.2.1 (fun i j hi hj q => F.2.2.2.2.2.2.1 j i hj hi q.symm) mlk_L_38 hst_L_38 (dy := 3) LM_0 [.inl (xs (nI j + 1).toNatClampNeg)] (rest := [.int r]) rfl rfl (by decide) (by decide) (Nat.le_of_ble_eq_true rfl) dL_law_352 (kX9_typeOf _ _ _ _ e2) hl.1 (fun H locs hP2 hP1 hS => ?_)
  refine lv_icmp_eq (tgt := 1425) hx hb dL_law_355 (by decide) (fun _ => ?_) (fun h => absurd rfl h)
  exact hT sx1 sm1 hR1 H locs ls ⟨hP1, hP2, hS⟩ hl
set_option maxRecDepth 100000 in
theorem law_c6 (hsim : ax_Sims Rl) (C0 : lw_At p s m meth c b N xs) (F : lw_F s D adX caX adM caM) (hj : j + 5 ≤ N) (hL : N ≤ 2560) (hT : lw_T Rl p l e s m b below meth c D adX caX adM caM (nI j)) {stX stM : ax_S} (hR : Rl stX stM) {H : Heap} {locs : List Loc} {ls : Array Slot} (hG : lw_G s D adX caX adM caM H locs stX stM) (hl : lv_has ls 4 [(0, .ref b), (1, .ref (adX 0)), (2, .ref (adM 0)), (3, .int (nI j))]) : W p l e room_1 s m #[Value.ref b] below meth c H locs 600000 7302250 (lw_Z below #[Value.ref b] s) (F0 m 360 ls []) := by
  obtain ⟨hx, hb, hr, hml, hown, hts, hX, hbl, hlocks, hgv⟩ := C0
  have hts := fun w h => hts w (wsL_law_in w h)
  have hbA : ¬ s.heap.size ≤ b := Nat.not_le.mpr hbl
  obtain ⟨hP1, hP2, hS⟩ := hG
  obtain ⟨r, sx1, sm1, e1, e2, hR1⟩ := hsim.2.2.2.2.2.2.1  stX stM hR
  refine lv_aload_n hx hb dL_law_360 rfl (lv_at hl 1 rfl) ?_
  refine lw_call (L1 := LX) (L2 := LM) hx hb hml hown hts hP1 hP2 hS F.1 F.2.2.1 F.2.2.2.2.2.2.2.1 F.2.2.2.2.1 F.2.2.2.2.2.2.1 mlk_L_39 hst_L_39 (dy := 3) LX_0 [] (rest := []) rfl rfl (by decide) (by decide) (by decide) dL_law_361 (kX8_reset _ _ _ e1) hl.1 (fun H locs hP1 hP2 hS => ?_)
  refine lv_aload_n hx hb dL_law_364 rfl (lv_at hl 2 rfl) ?_
  refine lw_call (L1 := LM) (L2 := LX) hx hb hml hown hts hP2 hP1 hS F.2.1 F.2.2.2.1 F.2.2.2.2.2.2.2.2 F.2.2.2.2.2.1 (fun i j hi hj q => F.2.2.2.2.2.2.1 j i hj hi q.symm) mlk_L_42 hst_L_42 (dy := 1) LM_0 [] (rest := [.int r]) rfl rfl (by decide) (by decide) (Nat.le_of_ble_eq_true rfl) dL_law_365 (kX9_reset _ _ _ e2) hl.1 (fun H locs hP2 hP1 hS => ?_)
  refine lv_icmp_eq (tgt := 1425) hx hb dL_law_368 (by decide) (fun _ => ?_) (fun h => absurd rfl h)
  exact hT sx1 sm1 hR1 H locs ls ⟨hP1, hP2, hS⟩ hl
set_option maxRecDepth 100000 in
theorem law_c7 (hsim : ax_Sims Rl) (C0 : lw_At p s m meth c b N xs) (F : lw_F s D adX caX adM caM) (hj : j + 5 ≤ N) (hL : N ≤ 2560) (hT : lw_T Rl p l e s m b below meth c D adX caX adM caM (nI j)) {stX stM : ax_S} (hR : Rl stX stM) {H : Heap} {locs : List Loc} {ls : Array Slot} (hG : lw_G s D adX caX adM caM H locs stX stM) (hl : lv_has ls 4 [(0, .ref b), (1, .ref (adX 0)), (2, .ref (adM 0)), (3, .int (nI j))]) : W p l e room_1 s m #[Value.ref b] below meth c H locs 600000 7302250 (lw_Z below #[Value.ref b] s) (F0 m 373 ls []) := by
  obtain ⟨hx, hb, hr, hml, hown, hts, hX, hbl, hlocks, hgv⟩ := C0
  have hts := fun w h => hts w (wsL_law_in w h)
  have hbA : ¬ s.heap.size ≤ b := Nat.not_le.mpr hbl
  obtain ⟨hP1, hP2, hS⟩ := hG
  obtain ⟨r, sx1, sm1, e1, e2, hR1⟩ := hsim.2.2.2.2.2.2.2.1 (xs (nI j + 1).toNatClampNeg) (xs (nI j + 2).toNatClampNeg) stX stM hR
  refine lv_aload_n hx hb dL_law_373 rfl (lv_at hl 1 rfl) ?_
  refine lv_aload_n hx hb dL_law_374 rfl (lv_at hl 0 rfl) ?_
  refine lv_iload_n hx hb dL_law_375 rfl (lv_at hl 3 rfl) ?_
  refine lv_iconst (v := 1) hx hb dL_law_376 (by decide) ?_
  refine lv_iadd hx hb dL_law_377 ?_
  refine va_sld hx hb hX hbl hbA hS (lw_in hj hL (k := 1) (by decide)) dL_law_378 ?_
  refine lv_aload_n hx hb dL_law_379 rfl (lv_at hl 0 rfl) ?_
  refine lv_iload_n hx hb dL_law_380 rfl (lv_at hl 3 rfl) ?_
  refine lv_iconst (v := 2) hx hb dL_law_381 (by decide) ?_
  refine lv_iadd hx hb dL_law_382 ?_
  refine va_sld hx hb hX hbl hbA hS (lw_in hj hL (k := 2) (by decide)) dL_law_383 ?_
  refine lw_call (L1 := LX) (L2 := LM) hx hb hml hown hts hP1 hP2 hS F.1 F.2.2.1 F.2.2.2.2.2.2.2.1 F.2.2.2.2.1 F.2.2.2.2.2.2.1 mlk_L_43 hst_L_43 (dy := 5) LX_0 [.inl (xs (nI j + 1).toNatClampNeg), .inl (xs (nI j + 2).toNatClampNeg)] (rest := []) rfl rfl (by decide) (by decide) (by decide) dL_law_384 (kX8_invokeRead _ _ _ _ _ e1) hl.1 (fun H locs hP1 hP2 hS => ?_)
  refine lv_aload_n hx hb dL_law_387 rfl (lv_at hl 2 rfl) ?_
  refine lv_aload_n hx hb dL_law_388 rfl (lv_at hl 0 rfl) ?_
  refine lv_iload_n hx hb dL_law_389 rfl (lv_at hl 3 rfl) ?_
  refine lv_iconst (v := 1) hx hb dL_law_390 (by decide) ?_
  refine lv_iadd hx hb dL_law_391 ?_
  refine va_sld hx hb hX hbl hbA hS (lw_in hj hL (k := 1) (by decide)) dL_law_392 ?_
  refine lv_aload_n hx hb dL_law_393 rfl (lv_at hl 0 rfl) ?_
  refine lv_iload_n hx hb dL_law_394 rfl (lv_at hl 3 rfl) ?_
  refine lv_iconst (v := 2) hx hb dL_law_395 (by decide) ?_
  refine lv_iadd hx hb dL_law_396 ?_
  refine va_sld hx hb hX hbl hbA hS (lw_in hj hL (k := 2) (by decide)) dL_law_397 ?_
  refine lw_call (L1 := LM) (L2 := LX) hx hb hml hown hts hP2 hP1 hS F.2.1 F.2.2.2.1 F.2.2.2.2.2.2.2.2 F.2.2.2.2.2.1 (fun i j hi hj q => F.2.2.2.2.2.2.1 j i hj hi q.symm) mlk_L_47 hst_L_47 (dy := 4) LM_0 [.inl (xs (nI j + 1).toNatClampNeg), .inl (xs (nI j + 2).toNatClampNeg)] (rest := [.int r]) rfl rfl (by decide) (by decide) (Nat.le_of_ble_eq_true rfl) dL_law_398 (kX9_invokeRead _ _ _ _ _ e2) hl.1 (fun H locs hP2 hP1 hS => ?_)
  refine lv_icmp_eq (tgt := 1425) hx hb dL_law_401 (by decide) (fun _ => ?_) (fun h => absurd rfl h)
  exact hT sx1 sm1 hR1 H locs ls ⟨hP1, hP2, hS⟩ hl
set_option maxRecDepth 100000 in
theorem law_c8 (hsim : ax_Sims Rl) (C0 : lw_At p s m meth c b N xs) (F : lw_F s D adX caX adM caM) (hj : j + 5 ≤ N) (hL : N ≤ 2560) (hT : lw_T Rl p l e s m b below meth c D adX caX adM caM (nI j)) {stX stM : ax_S} (hR : Rl stX stM) {H : Heap} {locs : List Loc} {ls : Array Slot} (hG : lw_G s D adX caX adM caM H locs stX stM) (hl : lv_has ls 4 [(0, .ref b), (1, .ref (adX 0)), (2, .ref (adM 0)), (3, .int (nI j))]) : W p l e room_1 s m #[Value.ref b] below meth c H locs 600000 7302250 (lw_Z below #[Value.ref b] s) (F0 m 406 ls []) := by
  obtain ⟨hx, hb, hr, hml, hown, hts, hX, hbl, hlocks, hgv⟩ := C0
  have hts := fun w h => hts w (wsL_law_in w h)
  have hbA : ¬ s.heap.size ≤ b := Nat.not_le.mpr hbl
  obtain ⟨hP1, hP2, hS⟩ := hG
  obtain ⟨r, sx1, sm1, e1, e2, hR1⟩ := hsim.2.2.2.2.2.2.2.2.1 (xs (nI j + 1).toNatClampNeg) (xs (nI j + 2).toNatClampNeg) (xs (nI j + 3).toNatClampNeg) stX stM hR
  refine lv_aload_n hx hb dL_law_406 rfl (lv_at hl 1 rfl) ?_
  refine lv_aload_n hx hb dL_law_407 rfl (lv_at hl 0 rfl) ?_
  refine lv_iload_n hx hb dL_law_408 rfl (lv_at hl 3 rfl) ?_
  refine lv_iconst (v := 1) hx hb dL_law_409 (by decide) ?_
  refine lv_iadd hx hb dL_law_410 ?_
  refine va_sld hx hb hX hbl hbA hS (lw_in hj hL (k := 1) (by decide)) dL_law_411 ?_
  refine lv_aload_n hx hb dL_law_412 rfl (lv_at hl 0 rfl) ?_
  refine lv_iload_n hx hb dL_law_413 rfl (lv_at hl 3 rfl) ?_
  refine lv_iconst (v := 2) hx hb dL_law_414 (by decide) ?_
  refine lv_iadd hx hb dL_law_415 ?_
  refine va_sld hx hb hX hbl hbA hS (lw_in hj hL (k := 2) (by decide)) dL_law_416 ?_
  refine lv_aload_n hx hb dL_law_417 rfl (lv_at hl 0 rfl) ?_
  refine lv_iload_n hx hb dL_law_418 rfl (lv_at hl 3 rfl) ?_
  refine lv_iconst (v := 3) hx hb dL_law_419 (by decide) ?_
  refine lv_iadd hx hb dL_law_420 ?_
  refine va_sld hx hb hX hbl hbA hS (lw_in hj hL (k := 3) (by decide)) dL_law_421 ?_
  refine lw_call (L1 := LX) (L2 := LM) hx hb hml hown hts hP1 hP2 hS F.1 F.2.2.1 F.2.2.2.2.2.2.2.1 F.2.2.2.2.1 F.2.2.2.2.2.2.1 mlk_L_48 hst_L_48 (dy := 5) LX_0 [.inl (xs (nI j + 1).toNatClampNeg), .inl (xs (nI j + 2).toNatClampNeg), .inl (xs (nI j + 3).toNatClampNeg)] (rest := []) rfl rfl (by decide) (by decide) (by decide) dL_law_422 (kX8_invokeWrite _ _ _ _ _ _ e1) hl.1 (fun H locs hP1 hP2 hS => ?_)
  refine lv_aload_n hx hb dL_law_425 rfl (lv_at hl 2 rfl) ?_
  refine lv_aload_n hx hb dL_law_426 rfl (lv_at hl 0 rfl) ?_
  refine lv_iload_n hx hb dL_law_427 rfl (lv_at hl 3 rfl) ?_
  refine lv_iconst (v := 1) hx hb dL_law_428 (by decide) ?_
  refine lv_iadd hx hb dL_law_429 ?_
  refine va_sld hx hb hX hbl hbA hS (lw_in hj hL (k := 1) (by decide)) dL_law_430 ?_
  refine lv_aload_n hx hb dL_law_431 rfl (lv_at hl 0 rfl) ?_
  refine lv_iload_n hx hb dL_law_432 rfl (lv_at hl 3 rfl) ?_
  refine lv_iconst (v := 2) hx hb dL_law_433 (by decide) ?_
  refine lv_iadd hx hb dL_law_434 ?_
  refine va_sld hx hb hX hbl hbA hS (lw_in hj hL (k := 2) (by decide)) dL_law_435 ?_
  refine lv_aload_n hx hb dL_law_436 rfl (lv_at hl 0 rfl) ?_
  refine lv_iload_n hx hb dL_law_437 rfl (lv_at hl 3 rfl) ?_
  refine lv_iconst (v := 3) hx hb dL_law_438 (by decide) ?_
  refine lv_iadd hx hb dL_law_439 ?_
  refine va_sld hx hb hX hbl hbA hS (lw_in hj hL (k := 3) (by decide)) dL_law_440 ?_
  refine lw_call (L1 := LM) (L2 := LX) hx hb hml hown hts hP2 hP1 hS F.2.1 F.2.2.2.1 F.2.2.2.2.2.2.2.2 F.2.2.2.2.2.1 (fun i j hi hj q => F.2.2.2.2.2.2.1 j i hj hi q.symm) mlk_L_52 hst_L_52 (dy := 4) LM_0 [.inl (xs (nI j + 1).toNatClampNeg), .inl (xs (nI j + 2).toNatClampNeg), .inl (xs (nI j + 3).toNatClampNeg)] (rest := [.int r]) rfl rfl (by decide) (by decide) (Nat.le_of_ble_eq_true rfl) dL_law_441 (kX9_invokeWrite _ _ _ _ _ _ e2) hl.1 (fun H locs hP2 hP1 hS => ?_)
  refine lv_icmp_eq (tgt := 1425) hx hb dL_law_444 (by decide) (fun _ => ?_) (fun h => absurd rfl h)
  exact hT sx1 sm1 hR1 H locs ls ⟨hP1, hP2, hS⟩ hl
set_option maxRecDepth 100000 in
theorem law_c9 (hsim : ax_Sims Rl) (C0 : lw_At p s m meth c b N xs) (F : lw_F s D adX caX adM caM) (hj : j + 5 ≤ N) (hL : N ≤ 2560) (hT : lw_T Rl p l e s m b below meth c D adX caX adM caM (nI j)) {stX stM : ax_S} (hR : Rl stX stM) {H : Heap} {locs : List Loc} {ls : Array Slot} (hG : lw_G s D adX caX adM caM H locs stX stM) (hl : lv_has ls 4 [(0, .ref b), (1, .ref (adX 0)), (2, .ref (adM 0)), (3, .int (nI j))]) : W p l e room_1 s m #[Value.ref b] below meth c H locs 600000 7302250 (lw_Z below #[Value.ref b] s) (F0 m 449 ls []) := by
  obtain ⟨hx, hb, hr, hml, hown, hts, hX, hbl, hlocks, hgv⟩ := C0
  have hts := fun w h => hts w (wsL_law_in w h)
  have hbA : ¬ s.heap.size ≤ b := Nat.not_le.mpr hbl
  obtain ⟨hP1, hP2, hS⟩ := hG
  obtain ⟨r, sx1, sm1, e1, e2, hR1⟩ := hsim.2.2.2.2.2.2.2.2.2.1 (xs (nI j + 1).toNatClampNeg) (xs (nI j + 2).toNatClampNeg) (xs (nI j + 3).toNatClampNeg) (xs (nI j + 4).toNatClampNeg) stX stM hR
  refine lv_aload_n hx hb dL_law_449 rfl (lv_at hl 1 rfl) ?_
  refine lv_aload_n hx hb dL_law_450 rfl (lv_at hl 0 rfl) ?_
  refine lv_iload_n hx hb dL_law_451 rfl (lv_at hl 3 rfl) ?_
  refine lv_iconst (v := 1) hx hb dL_law_452 (by decide) ?_
  refine lv_iadd hx hb dL_law_453 ?_
  refine va_sld hx hb hX hbl hbA hS (lw_in hj hL (k := 1) (by decide)) dL_law_454 ?_
  refine lv_aload_n hx hb dL_law_455 rfl (lv_at hl 0 rfl) ?_
  refine lv_iload_n hx hb dL_law_456 rfl (lv_at hl 3 rfl) ?_
  refine lv_iconst (v := 2) hx hb dL_law_457 (by decide) ?_
  refine lv_iadd hx hb dL_law_458 ?_
  refine va_sld hx hb hX hbl hbA hS (lw_in hj hL (k := 2) (by decide)) dL_law_459 ?_
  refine lv_aload_n hx hb dL_law_460 rfl (lv_at hl 0 rfl) ?_
  refine lv_iload_n hx hb dL_law_461 rfl (lv_at hl 3 rfl) ?_
  refine lv_iconst (v := 3) hx hb dL_law_462 (by decide) ?_
  refine lv_iadd hx hb dL_law_463 ?_
  refine va_sld hx hb hX hbl hbA hS (lw_in hj hL (k := 3) (by decide)) dL_law_464 ?_
  refine lv_aload_n hx hb dL_law_465 rfl (lv_at hl 0 rfl) ?_
  refine lv_iload_n hx hb dL_law_466 rfl (lv_at hl 3 rfl) ?_
  refine lv_iconst (v := 4) hx hb dL_law_467 (by decide) ?_
  refine lv_iadd hx hb dL_law_468 ?_
  refine va_sld hx hb hX hbl hbA hS (lw_in hj hL (k := 4) (by decide)) dL_law_469 ?_
  refine lw_call (L1 := LX) (L2 := LM) hx hb hml hown hts hP1 hP2 hS F.1 F.2.2.1 F.2.2.2.2.2.2.2.1 F.2.2.2.2.1 F.2.2.2.2.2.2.1 mlk_L_53 hst_L_53 (dy := 5) LX_0 [.inl (xs (nI j + 1).toNatClampNeg), .inl (xs (nI j + 2).toNatClampNeg), .inl (xs (nI j + 3).toNatClampNeg), .inl (xs (nI j + 4).toNatClampNeg)] (rest := []) rfl rfl (by decide) (by decide) (by decide) dL_law_470 (kX8_invokeCompareAndSet _ _ _ _ _ _ _ e1) hl.1 (fun H locs hP1 hP2 hS => ?_)
  refine lv_aload_n hx hb dL_law_473 rfl (lv_at hl 2 rfl) ?_
  refine lv_aload_n hx hb dL_law_474 rfl (lv_at hl 0 rfl) ?_
  refine lv_iload_n hx hb dL_law_475 rfl (lv_at hl 3 rfl) ?_
  refine lv_iconst (v := 1) hx hb dL_law_476 (by decide) ?_
  refine lv_iadd hx hb dL_law_477 ?_
  refine va_sld hx hb hX hbl hbA hS (lw_in hj hL (k := 1) (by decide)) dL_law_478 ?_
  refine lv_aload_n hx hb dL_law_479 rfl (lv_at hl 0 rfl) ?_
  refine lv_iload_n hx hb dL_law_480 rfl (lv_at hl 3 rfl) ?_
  refine lv_iconst (v := 2) hx hb dL_law_481 (by decide) ?_
  refine lv_iadd hx hb dL_law_482 ?_
  refine va_sld hx hb hX hbl hbA hS (lw_in hj hL (k := 2) (by decide)) dL_law_483 ?_
  refine lv_aload_n hx hb dL_law_484 rfl (lv_at hl 0 rfl) ?_
  refine lv_iload_n hx hb dL_law_485 rfl (lv_at hl 3 rfl) ?_
  refine lv_iconst (v := 3) hx hb dL_law_486 (by decide) ?_
  refine lv_iadd hx hb dL_law_487 ?_
  refine va_sld hx hb hX hbl hbA hS (lw_in hj hL (k := 3) (by decide)) dL_law_488 ?_
  refine lv_aload_n hx hb dL_law_489 rfl (lv_at hl 0 rfl) ?_
  refine lv_iload_n hx hb dL_law_490 rfl (lv_at hl 3 rfl) ?_
  refine lv_iconst (v := 4) hx hb dL_law_491 (by decide) ?_
  refine lv_iadd hx hb dL_law_492 ?_
  refine va_sld hx hb hX hbl hbA hS (lw_in hj hL (k := 4) (by decide)) dL_law_493 ?_
  refine lw_call (L1 := LM) (L2 := LX) hx hb hml hown hts hP2 hP1 hS F.2.1 F.2.2.2.1 F.2.2.2.2.2.2.2.2 F.2.2.2.2.2.1 (fun i j hi hj q => F.2.2.2.2.2.2.1 j i hj hi q.symm) mlk_L_57 hst_L_57 (dy := 4) LM_0 [.inl (xs (nI j + 1).toNatClampNeg), .inl (xs (nI j + 2).toNatClampNeg), .inl (xs (nI j + 3).toNatClampNeg), .inl (xs (nI j + 4).toNatClampNeg)] (rest := [.int r]) rfl rfl (by decide) (by decide) (Nat.le_of_ble_eq_true rfl) dL_law_494 (kX9_invokeCompareAndSet _ _ _ _ _ _ _ e2) hl.1 (fun H locs hP2 hP1 hS => ?_)
  refine lv_icmp_eq (tgt := 1425) hx hb dL_law_497 (by decide) (fun _ => ?_) (fun h => absurd rfl h)
  exact hT sx1 sm1 hR1 H locs ls ⟨hP1, hP2, hS⟩ hl
set_option maxRecDepth 100000 in
theorem law_c10 (hsim : ax_Sims Rl) (C0 : lw_At p s m meth c b N xs) (F : lw_F s D adX caX adM caM) (hj : j + 5 ≤ N) (hL : N ≤ 2560) (hT : lw_T Rl p l e s m b below meth c D adX caX adM caM (nI j)) {stX stM : ax_S} (hR : Rl stX stM) {H : Heap} {locs : List Loc} {ls : Array Slot} (hG : lw_G s D adX caX adM caM H locs stX stM) (hl : lv_has ls 4 [(0, .ref b), (1, .ref (adX 0)), (2, .ref (adM 0)), (3, .int (nI j))]) : W p l e room_1 s m #[Value.ref b] below meth c H locs 600000 7302250 (lw_Z below #[Value.ref b] s) (F0 m 502 ls []) := by
  obtain ⟨hx, hb, hr, hml, hown, hts, hX, hbl, hlocks, hgv⟩ := C0
  have hts := fun w h => hts w (wsL_law_in w h)
  have hbA : ¬ s.heap.size ≤ b := Nat.not_le.mpr hbl
  obtain ⟨hP1, hP2, hS⟩ := hG
  obtain ⟨r, sx1, sm1, e1, e2, hR1⟩ := hsim.2.2.2.2.2.2.2.2.2.2.1 (xs (nI j + 1).toNatClampNeg) (xs (nI j + 2).toNatClampNeg) stX stM hR
  refine lv_aload_n hx hb dL_law_502 rfl (lv_at hl 1 rfl) ?_
  refine lv_aload_n hx hb dL_law_503 rfl (lv_at hl 0 rfl) ?_
  refine lv_iload_n hx hb dL_law_504 rfl (lv_at hl 3 rfl) ?_
  refine lv_iconst (v := 1) hx hb dL_law_505 (by decide) ?_
  refine lv_iadd hx hb dL_law_506 ?_
  refine va_sld hx hb hX hbl hbA hS (lw_in hj hL (k := 1) (by decide)) dL_law_507 ?_
  refine lv_aload_n hx hb dL_law_508 rfl (lv_at hl 0 rfl) ?_
  refine lv_iload_n hx hb dL_law_509 rfl (lv_at hl 3 rfl) ?_
  refine lv_iconst (v := 2) hx hb dL_law_510 (by decide) ?_
  refine lv_iadd hx hb dL_law_511 ?_
  refine va_sld hx hb hX hbl hbA hS (lw_in hj hL (k := 2) (by decide)) dL_law_512 ?_
  refine lw_call (L1 := LX) (L2 := LM) hx hb hml hown hts hP1 hP2 hS F.1 F.2.2.1 F.2.2.2.2.2.2.2.1 F.2.2.2.2.1 F.2.2.2.2.2.2.1 mlk_L_58 hst_L_58 (dy := 5) LX_0 [.inl (xs (nI j + 1).toNatClampNeg), .inl (xs (nI j + 2).toNatClampNeg)] (rest := []) rfl rfl (by decide) (by decide) (by decide) dL_law_513 (kX8_invokeGet _ _ _ _ _ e1) hl.1 (fun H locs hP1 hP2 hS => ?_)
  refine lv_aload_n hx hb dL_law_516 rfl (lv_at hl 2 rfl) ?_
  refine lv_aload_n hx hb dL_law_517 rfl (lv_at hl 0 rfl) ?_
  refine lv_iload_n hx hb dL_law_518 rfl (lv_at hl 3 rfl) ?_
  refine lv_iconst (v := 1) hx hb dL_law_519 (by decide) ?_
  refine lv_iadd hx hb dL_law_520 ?_
  refine va_sld hx hb hX hbl hbA hS (lw_in hj hL (k := 1) (by decide)) dL_law_521 ?_
  refine lv_aload_n hx hb dL_law_522 rfl (lv_at hl 0 rfl) ?_
  refine lv_iload_n hx hb dL_law_523 rfl (lv_at hl 3 rfl) ?_
  refine lv_iconst (v := 2) hx hb dL_law_524 (by decide) ?_
  refine lv_iadd hx hb dL_law_525 ?_
  refine va_sld hx hb hX hbl hbA hS (lw_in hj hL (k := 2) (by decide)) dL_law_526 ?_
  refine lw_call (L1 := LM) (L2 := LX) hx hb hml hown hts hP2 hP1 hS F.2.1 F.2.2.2.1 F.2.2.2.2.2.2.2.2 F.2.2.2.2.2.1 (fun i j hi hj q => F.2.2.2.2.2.2.1 j i hj hi q.symm) mlk_L_61 hst_L_61 (dy := 4) LM_0 [.inl (xs (nI j + 1).toNatClampNeg), .inl (xs (nI j + 2).toNatClampNeg)] (rest := [.int r]) rfl rfl (by decide) (by decide) (Nat.le_of_ble_eq_true rfl) dL_law_527 (kX9_invokeGet _ _ _ _ _ e2) hl.1 (fun H locs hP2 hP1 hS => ?_)
  refine lv_icmp_eq (tgt := 1425) hx hb dL_law_530 (by decide) (fun _ => ?_) (fun h => absurd rfl h)
  exact hT sx1 sm1 hR1 H locs ls ⟨hP1, hP2, hS⟩ hl
set_option maxRecDepth 100000 in
theorem law_c11 (hsim : ax_Sims Rl) (C0 : lw_At p s m meth c b N xs) (F : lw_F s D adX caX adM caM) (hj : j + 5 ≤ N) (hL : N ≤ 2560) (hT : lw_T Rl p l e s m b below meth c D adX caX adM caM (nI j)) {stX stM : ax_S} (hR : Rl stX stM) {H : Heap} {locs : List Loc} {ls : Array Slot} (hG : lw_G s D adX caX adM caM H locs stX stM) (hl : lv_has ls 4 [(0, .ref b), (1, .ref (adX 0)), (2, .ref (adM 0)), (3, .int (nI j))]) : W p l e room_1 s m #[Value.ref b] below meth c H locs 600000 7302250 (lw_Z below #[Value.ref b] s) (F0 m 535 ls []) := by
  obtain ⟨hx, hb, hr, hml, hown, hts, hX, hbl, hlocks, hgv⟩ := C0
  have hts := fun w h => hts w (wsL_law_in w h)
  have hbA : ¬ s.heap.size ≤ b := Nat.not_le.mpr hbl
  obtain ⟨hP1, hP2, hS⟩ := hG
  obtain ⟨r, sx1, sm1, e1, e2, hR1⟩ := hsim.2.2.2.2.2.2.2.2.2.2.2.1 (xs (nI j + 1).toNatClampNeg) (xs (nI j + 2).toNatClampNeg) (xs (nI j + 3).toNatClampNeg) stX stM hR
  refine lv_aload_n hx hb dL_law_535 rfl (lv_at hl 1 rfl) ?_
  refine lv_aload_n hx hb dL_law_536 rfl (lv_at hl 0 rfl) ?_
  refine lv_iload_n hx hb dL_law_537 rfl (lv_at hl 3 rfl) ?_
  refine lv_iconst (v := 1) hx hb dL_law_538 (by decide) ?_
  refine lv_iadd hx hb dL_law_539 ?_
  refine va_sld hx hb hX hbl hbA hS (lw_in hj hL (k := 1) (by decide)) dL_law_540 ?_
  refine lv_aload_n hx hb dL_law_541 rfl (lv_at hl 0 rfl) ?_
  refine lv_iload_n hx hb dL_law_542 rfl (lv_at hl 3 rfl) ?_
  refine lv_iconst (v := 2) hx hb dL_law_543 (by decide) ?_
  refine lv_iadd hx hb dL_law_544 ?_
  refine va_sld hx hb hX hbl hbA hS (lw_in hj hL (k := 2) (by decide)) dL_law_545 ?_
  refine lv_aload_n hx hb dL_law_546 rfl (lv_at hl 0 rfl) ?_
  refine lv_iload_n hx hb dL_law_547 rfl (lv_at hl 3 rfl) ?_
  refine lv_iconst (v := 3) hx hb dL_law_548 (by decide) ?_
  refine lv_iadd hx hb dL_law_549 ?_
  refine va_sld hx hb hX hbl hbA hS (lw_in hj hL (k := 3) (by decide)) dL_law_550 ?_
  refine lw_call (L1 := LX) (L2 := LM) hx hb hml hown hts hP1 hP2 hS F.1 F.2.2.1 F.2.2.2.2.2.2.2.1 F.2.2.2.2.1 F.2.2.2.2.2.2.1 mlk_L_62 hst_L_62 (dy := 5) LX_0 [.inl (xs (nI j + 1).toNatClampNeg), .inl (xs (nI j + 2).toNatClampNeg), .inl (xs (nI j + 3).toNatClampNeg)] (rest := []) rfl rfl (by decide) (by decide) (by decide) dL_law_551 (kX8_invokeAdd _ _ _ _ _ _ e1) hl.1 (fun H locs hP1 hP2 hS => ?_)
  refine lv_aload_n hx hb dL_law_554 rfl (lv_at hl 2 rfl) ?_
  refine lv_aload_n hx hb dL_law_555 rfl (lv_at hl 0 rfl) ?_
  refine lv_iload_n hx hb dL_law_556 rfl (lv_at hl 3 rfl) ?_
  refine lv_iconst (v := 1) hx hb dL_law_557 (by decide) ?_
  refine lv_iadd hx hb dL_law_558 ?_
  refine va_sld hx hb hX hbl hbA hS (lw_in hj hL (k := 1) (by decide)) dL_law_559 ?_
  refine lv_aload_n hx hb dL_law_560 rfl (lv_at hl 0 rfl) ?_
  refine lv_iload_n hx hb dL_law_561 rfl (lv_at hl 3 rfl) ?_
  refine lv_iconst (v := 2) hx hb dL_law_562 (by decide) ?_
  refine lv_iadd hx hb dL_law_563 ?_
  refine va_sld hx hb hX hbl hbA hS (lw_in hj hL (k := 2) (by decide)) dL_law_564 ?_
  refine lv_aload_n hx hb dL_law_565 rfl (lv_at hl 0 rfl) ?_
  refine lv_iload_n hx hb dL_law_566 rfl (lv_at hl 3 rfl) ?_
  refine lv_iconst (v := 3) hx hb dL_law_567 (by decide) ?_
  refine lv_iadd hx hb dL_law_568 ?_
  refine va_sld hx hb hX hbl hbA hS (lw_in hj hL (k := 3) (by decide)) dL_law_569 ?_
  refine lw_call (L1 := LM) (L2 := LX) hx hb hml hown hts hP2 hP1 hS F.2.1 F.2.2.2.1 F.2.2.2.2.2.2.2.2 F.2.2.2.2.2.1 (fun i j hi hj q => F.2.2.2.2.2.2.1 j i hj hi q.symm) mlk_L_65 hst_L_65 (dy := 4) LM_0 [.inl (xs (nI j + 1).toNatClampNeg), .inl (xs (nI j + 2).toNatClampNeg), .inl (xs (nI j + 3).toNatClampNeg)] (rest := [.int r]) rfl rfl (by decide) (by decide) (Nat.le_of_ble_eq_true rfl) dL_law_570 (kX9_invokeAdd _ _ _ _ _ _ e2) hl.1 (fun H locs hP2 hP1 hS => ?_)
  refine lv_icmp_eq (tgt := 1425) hx hb dL_law_573 (by decide) (fun _ => ?_) (fun h => absurd rfl h)
  exact hT sx1 sm1 hR1 H locs ls ⟨hP1, hP2, hS⟩ hl
set_option maxRecDepth 100000 in
theorem law_c12 (hsim : ax_Sims Rl) (C0 : lw_At p s m meth c b N xs) (F : lw_F s D adX caX adM caM) (hj : j + 5 ≤ N) (hL : N ≤ 2560) (hT : lw_T Rl p l e s m b below meth c D adX caX adM caM (nI j)) {stX stM : ax_S} (hR : Rl stX stM) {H : Heap} {locs : List Loc} {ls : Array Slot} (hG : lw_G s D adX caX adM caM H locs stX stM) (hl : lv_has ls 4 [(0, .ref b), (1, .ref (adX 0)), (2, .ref (adM 0)), (3, .int (nI j))]) : W p l e room_1 s m #[Value.ref b] below meth c H locs 600000 7302250 (lw_Z below #[Value.ref b] s) (F0 m 578 ls []) := by
  obtain ⟨hx, hb, hr, hml, hown, hts, hX, hbl, hlocks, hgv⟩ := C0
  have hts := fun w h => hts w (wsL_law_in w h)
  have hbA : ¬ s.heap.size ≤ b := Nat.not_le.mpr hbl
  obtain ⟨hP1, hP2, hS⟩ := hG
  obtain ⟨r, sx1, sm1, e1, e2, hR1⟩ := hsim.2.2.2.2.2.2.2.2.2.2.2.2.1 (xs (nI j + 1).toNatClampNeg) (xs (nI j + 2).toNatClampNeg) (xs (nI j + 3).toNatClampNeg) stX stM hR
  refine lv_aload_n hx hb dL_law_578 rfl (lv_at hl 1 rfl) ?_
  refine lv_aload_n hx hb dL_law_579 rfl (lv_at hl 0 rfl) ?_
  refine lv_iload_n hx hb dL_law_580 rfl (lv_at hl 3 rfl) ?_
  refine lv_iconst (v := 1) hx hb dL_law_581 (by decide) ?_
  refine lv_iadd hx hb dL_law_582 ?_
  refine va_sld hx hb hX hbl hbA hS (lw_in hj hL (k := 1) (by decide)) dL_law_583 ?_
  refine lv_aload_n hx hb dL_law_584 rfl (lv_at hl 0 rfl) ?_
  refine lv_iload_n hx hb dL_law_585 rfl (lv_at hl 3 rfl) ?_
  refine lv_iconst (v := 2) hx hb dL_law_586 (by decide) ?_
  refine lv_iadd hx hb dL_law_587 ?_
  refine va_sld hx hb hX hbl hbA hS (lw_in hj hL (k := 2) (by decide)) dL_law_588 ?_
  refine lv_aload_n hx hb dL_law_589 rfl (lv_at hl 0 rfl) ?_
  refine lv_iload_n hx hb dL_law_590 rfl (lv_at hl 3 rfl) ?_
  refine lv_iconst (v := 3) hx hb dL_law_591 (by decide) ?_
  refine lv_iadd hx hb dL_law_592 ?_
  refine va_sld hx hb hX hbl hbA hS (lw_in hj hL (k := 3) (by decide)) dL_law_593 ?_
  refine lw_call (L1 := LX) (L2 := LM) hx hb hml hown hts hP1 hP2 hS F.1 F.2.2.1 F.2.2.2.2.2.2.2.1 F.2.2.2.2.1 F.2.2.2.2.2.2.1 mlk_L_66 hst_L_66 (dy := 5) LX_0 [.inl (xs (nI j + 1).toNatClampNeg), .inl (xs (nI j + 2).toNatClampNeg), .inl (xs (nI j + 3).toNatClampNeg)] (rest := []) rfl rfl (by decide) (by decide) (by decide) dL_law_594 (kX8_invokeEnqueue _ _ _ _ _ _ e1) hl.1 (fun H locs hP1 hP2 hS => ?_)
  refine lv_aload_n hx hb dL_law_597 rfl (lv_at hl 2 rfl) ?_
  refine lv_aload_n hx hb dL_law_598 rfl (lv_at hl 0 rfl) ?_
  refine lv_iload_n hx hb dL_law_599 rfl (lv_at hl 3 rfl) ?_
  refine lv_iconst (v := 1) hx hb dL_law_600 (by decide) ?_
  refine lv_iadd hx hb dL_law_601 ?_
  refine va_sld hx hb hX hbl hbA hS (lw_in hj hL (k := 1) (by decide)) dL_law_602 ?_
  refine lv_aload_n hx hb dL_law_603 rfl (lv_at hl 0 rfl) ?_
  refine lv_iload_n hx hb dL_law_604 rfl (lv_at hl 3 rfl) ?_
  refine lv_iconst (v := 2) hx hb dL_law_605 (by decide) ?_
  refine lv_iadd hx hb dL_law_606 ?_
  refine va_sld hx hb hX hbl hbA hS (lw_in hj hL (k := 2) (by decide)) dL_law_607 ?_
  refine lv_aload_n hx hb dL_law_608 rfl (lv_at hl 0 rfl) ?_
  refine lv_iload_n hx hb dL_law_609 rfl (lv_at hl 3 rfl) ?_
  refine lv_iconst (v := 3) hx hb dL_law_610 (by decide) ?_
  refine lv_iadd hx hb dL_law_611 ?_
  refine va_sld hx hb hX hbl hbA hS (lw_in hj hL (k := 3) (by decide)) dL_law_612 ?_
  refine lw_call (L1 := LM) (L2 := LX) hx hb hml hown hts hP2 hP1 hS F.2.1 F.2.2.2.1 F.2.2.2.2.2.2.2.2 F.2.2.2.2.2.1 (fun i j hi hj q => F.2.2.2.2.2.2.1 j i hj hi q.symm) mlk_L_69 hst_L_69 (dy := 4) LM_0 [.inl (xs (nI j + 1).toNatClampNeg), .inl (xs (nI j + 2).toNatClampNeg), .inl (xs (nI j + 3).toNatClampNeg)] (rest := [.int r]) rfl rfl (by decide) (by decide) (Nat.le_of_ble_eq_true rfl) dL_law_613 (kX9_invokeEnqueue _ _ _ _ _ _ e2) hl.1 (fun H locs hP2 hP1 hS => ?_)
  refine lv_icmp_eq (tgt := 1425) hx hb dL_law_616 (by decide) (fun _ => ?_) (fun h => absurd rfl h)
  exact hT sx1 sm1 hR1 H locs ls ⟨hP1, hP2, hS⟩ hl
set_option maxRecDepth 100000 in
theorem law_c13 (hsim : ax_Sims Rl) (C0 : lw_At p s m meth c b N xs) (F : lw_F s D adX caX adM caM) (hj : j + 5 ≤ N) (hL : N ≤ 2560) (hT : lw_T Rl p l e s m b below meth c D adX caX adM caM (nI j)) {stX stM : ax_S} (hR : Rl stX stM) {H : Heap} {locs : List Loc} {ls : Array Slot} (hG : lw_G s D adX caX adM caM H locs stX stM) (hl : lv_has ls 4 [(0, .ref b), (1, .ref (adX 0)), (2, .ref (adM 0)), (3, .int (nI j))]) : W p l e room_1 s m #[Value.ref b] below meth c H locs 600000 7302250 (lw_Z below #[Value.ref b] s) (F0 m 621 ls []) := by
  obtain ⟨hx, hb, hr, hml, hown, hts, hX, hbl, hlocks, hgv⟩ := C0
  have hts := fun w h => hts w (wsL_law_in w h)
  have hbA : ¬ s.heap.size ≤ b := Nat.not_le.mpr hbl
  obtain ⟨hP1, hP2, hS⟩ := hG
  obtain ⟨r, sx1, sm1, e1, e2, hR1⟩ := hsim.2.2.2.2.2.2.2.2.2.2.2.2.2.1 (xs (nI j + 1).toNatClampNeg) (xs (nI j + 2).toNatClampNeg) stX stM hR
  refine lv_aload_n hx hb dL_law_621 rfl (lv_at hl 1 rfl) ?_
  refine lv_aload_n hx hb dL_law_622 rfl (lv_at hl 0 rfl) ?_
  refine lv_iload_n hx hb dL_law_623 rfl (lv_at hl 3 rfl) ?_
  refine lv_iconst (v := 1) hx hb dL_law_624 (by decide) ?_
  refine lv_iadd hx hb dL_law_625 ?_
  refine va_sld hx hb hX hbl hbA hS (lw_in hj hL (k := 1) (by decide)) dL_law_626 ?_
  refine lv_aload_n hx hb dL_law_627 rfl (lv_at hl 0 rfl) ?_
  refine lv_iload_n hx hb dL_law_628 rfl (lv_at hl 3 rfl) ?_
  refine lv_iconst (v := 2) hx hb dL_law_629 (by decide) ?_
  refine lv_iadd hx hb dL_law_630 ?_
  refine va_sld hx hb hX hbl hbA hS (lw_in hj hL (k := 2) (by decide)) dL_law_631 ?_
  refine lw_call (L1 := LX) (L2 := LM) hx hb hml hown hts hP1 hP2 hS F.1 F.2.2.1 F.2.2.2.2.2.2.2.1 F.2.2.2.2.1 F.2.2.2.2.2.2.1 mlk_L_70 hst_L_70 (dy := 5) LX_0 [.inl (xs (nI j + 1).toNatClampNeg), .inl (xs (nI j + 2).toNatClampNeg)] (rest := []) rfl rfl (by decide) (by decide) (by decide) dL_law_632 (kX8_invokeDequeue _ _ _ _ _ e1) hl.1 (fun H locs hP1 hP2 hS => ?_)
  refine lv_aload_n hx hb dL_law_635 rfl (lv_at hl 2 rfl) ?_
  refine lv_aload_n hx hb dL_law_636 rfl (lv_at hl 0 rfl) ?_
  refine lv_iload_n hx hb dL_law_637 rfl (lv_at hl 3 rfl) ?_
  refine lv_iconst (v := 1) hx hb dL_law_638 (by decide) ?_
  refine lv_iadd hx hb dL_law_639 ?_
  refine va_sld hx hb hX hbl hbA hS (lw_in hj hL (k := 1) (by decide)) dL_law_640 ?_
  refine lv_aload_n hx hb dL_law_641 rfl (lv_at hl 0 rfl) ?_
  refine lv_iload_n hx hb dL_law_642 rfl (lv_at hl 3 rfl) ?_
  refine lv_iconst (v := 2) hx hb dL_law_643 (by decide) ?_
  refine lv_iadd hx hb dL_law_644 ?_
  refine va_sld hx hb hX hbl hbA hS (lw_in hj hL (k := 2) (by decide)) dL_law_645 ?_
  refine lw_call (L1 := LM) (L2 := LX) hx hb hml hown hts hP2 hP1 hS F.2.1 F.2.2.2.1 F.2.2.2.2.2.2.2.2 F.2.2.2.2.2.1 (fun i j hi hj q => F.2.2.2.2.2.2.1 j i hj hi q.symm) mlk_L_73 hst_L_73 (dy := 4) LM_0 [.inl (xs (nI j + 1).toNatClampNeg), .inl (xs (nI j + 2).toNatClampNeg)] (rest := [.int r]) rfl rfl (by decide) (by decide) (Nat.le_of_ble_eq_true rfl) dL_law_646 (kX9_invokeDequeue _ _ _ _ _ e2) hl.1 (fun H locs hP2 hP1 hS => ?_)
  refine lv_icmp_eq (tgt := 1425) hx hb dL_law_649 (by decide) (fun _ => ?_) (fun h => absurd rfl h)
  exact hT sx1 sm1 hR1 H locs ls ⟨hP1, hP2, hS⟩ hl
set_option maxRecDepth 100000 in
theorem law_c14 (hsim : ax_Sims Rl) (C0 : lw_At p s m meth c b N xs) (F : lw_F s D adX caX adM caM) (hj : j + 5 ≤ N) (hL : N ≤ 2560) (hT : lw_T Rl p l e s m b below meth c D adX caX adM caM (nI j)) {stX stM : ax_S} (hR : Rl stX stM) {H : Heap} {locs : List Loc} {ls : Array Slot} (hG : lw_G s D adX caX adM caM H locs stX stM) (hl : lv_has ls 4 [(0, .ref b), (1, .ref (adX 0)), (2, .ref (adM 0)), (3, .int (nI j))]) : W p l e room_1 s m #[Value.ref b] below meth c H locs 600000 7302250 (lw_Z below #[Value.ref b] s) (F0 m 654 ls []) := by
  obtain ⟨hx, hb, hr, hml, hown, hts, hX, hbl, hlocks, hgv⟩ := C0
  have hts := fun w h => hts w (wsL_law_in w h)
  have hbA : ¬ s.heap.size ≤ b := Nat.not_le.mpr hbl
  obtain ⟨hP1, hP2, hS⟩ := hG
  obtain ⟨r, sx1, sm1, e1, e2, hR1⟩ := hsim.2.2.2.2.2.2.2.2.2.2.2.2.2.2.1 (xs (nI j + 1).toNatClampNeg) (xs (nI j + 2).toNatClampNeg) (xs (nI j + 3).toNatClampNeg) stX stM hR
  refine lv_aload_n hx hb dL_law_654 rfl (lv_at hl 1 rfl) ?_
  refine lv_aload_n hx hb dL_law_655 rfl (lv_at hl 0 rfl) ?_
  refine lv_iload_n hx hb dL_law_656 rfl (lv_at hl 3 rfl) ?_
  refine lv_iconst (v := 1) hx hb dL_law_657 (by decide) ?_
  refine lv_iadd hx hb dL_law_658 ?_
  refine va_sld hx hb hX hbl hbA hS (lw_in hj hL (k := 1) (by decide)) dL_law_659 ?_
  refine lv_aload_n hx hb dL_law_660 rfl (lv_at hl 0 rfl) ?_
  refine lv_iload_n hx hb dL_law_661 rfl (lv_at hl 3 rfl) ?_
  refine lv_iconst (v := 2) hx hb dL_law_662 (by decide) ?_
  refine lv_iadd hx hb dL_law_663 ?_
  refine va_sld hx hb hX hbl hbA hS (lw_in hj hL (k := 2) (by decide)) dL_law_664 ?_
  refine lv_aload_n hx hb dL_law_665 rfl (lv_at hl 0 rfl) ?_
  refine lv_iload_n hx hb dL_law_666 rfl (lv_at hl 3 rfl) ?_
  refine lv_iconst (v := 3) hx hb dL_law_667 (by decide) ?_
  refine lv_iadd hx hb dL_law_668 ?_
  refine va_sld hx hb hX hbl hbA hS (lw_in hj hL (k := 3) (by decide)) dL_law_669 ?_
  refine lw_call (L1 := LX) (L2 := LM) hx hb hml hown hts hP1 hP2 hS F.1 F.2.2.1 F.2.2.2.2.2.2.2.1 F.2.2.2.2.1 F.2.2.2.2.2.2.1 mlk_L_74 hst_L_74 (dy := 5) LX_0 [.inl (xs (nI j + 1).toNatClampNeg), .inl (xs (nI j + 2).toNatClampNeg), .inl (xs (nI j + 3).toNatClampNeg)] (rest := []) rfl rfl (by decide) (by decide) (by decide) dL_law_670 (kX8_invokeInsert _ _ _ _ _ _ e1) hl.1 (fun H locs hP1 hP2 hS => ?_)
  refine lv_aload_n hx hb dL_law_673 rfl (lv_at hl 2 rfl) ?_
  refine lv_aload_n hx hb dL_law_674 rfl (lv_at hl 0 rfl) ?_
  refine lv_iload_n hx hb dL_law_675 rfl (lv_at hl 3 rfl) ?_
  refine lv_iconst (v := 1) hx hb dL_law_676 (by decide) ?_
  refine lv_iadd hx hb dL_law_677 ?_
  refine va_sld hx hb hX hbl hbA hS (lw_in hj hL (k := 1) (by decide)) dL_law_678 ?_
  refine lv_aload_n hx hb dL_law_679 rfl (lv_at hl 0 rfl) ?_
  refine lv_iload_n hx hb dL_law_680 rfl (lv_at hl 3 rfl) ?_
  refine lv_iconst (v := 2) hx hb dL_law_681 (by decide) ?_
  refine lv_iadd hx hb dL_law_682 ?_
  refine va_sld hx hb hX hbl hbA hS (lw_in hj hL (k := 2) (by decide)) dL_law_683 ?_
  refine lv_aload_n hx hb dL_law_684 rfl (lv_at hl 0 rfl) ?_
  refine lv_iload_n hx hb dL_law_685 rfl (lv_at hl 3 rfl) ?_
  refine lv_iconst (v := 3) hx hb dL_law_686 (by decide) ?_
  refine lv_iadd hx hb dL_law_687 ?_
  refine va_sld hx hb hX hbl hbA hS (lw_in hj hL (k := 3) (by decide)) dL_law_688 ?_
  refine lw_call (L1 := LM) (L2 := LX) hx hb hml hown hts hP2 hP1 hS F.2.1 F.2.2.2.1 F.2.2.2.2.2.2.2.2 F.2.2.2.2.2.1 (fun i j hi hj q => F.2.2.2.2.2.2.1 j i hj hi q.symm) mlk_L_77 hst_L_77 (dy := 4) LM_0 [.inl (xs (nI j + 1).toNatClampNeg), .inl (xs (nI j + 2).toNatClampNeg), .inl (xs (nI j + 3).toNatClampNeg)] (rest := [.int r]) rfl rfl (by decide) (by decide) (Nat.le_of_ble_eq_true rfl) dL_law_689 (kX9_invokeInsert _ _ _ _ _ _ e2) hl.1 (fun H locs hP2 hP1 hS => ?_)
  refine lv_icmp_eq (tgt := 1425) hx hb dL_law_692 (by decide) (fun _ => ?_) (fun h => absurd rfl h)
  exact hT sx1 sm1 hR1 H locs ls ⟨hP1, hP2, hS⟩ hl
set_option maxRecDepth 100000 in
theorem law_c15 (hsim : ax_Sims Rl) (C0 : lw_At p s m meth c b N xs) (F : lw_F s D adX caX adM caM) (hj : j + 5 ≤ N) (hL : N ≤ 2560) (hT : lw_T Rl p l e s m b below meth c D adX caX adM caM (nI j)) {stX stM : ax_S} (hR : Rl stX stM) {H : Heap} {locs : List Loc} {ls : Array Slot} (hG : lw_G s D adX caX adM caM H locs stX stM) (hl : lv_has ls 4 [(0, .ref b), (1, .ref (adX 0)), (2, .ref (adM 0)), (3, .int (nI j))]) : W p l e room_1 s m #[Value.ref b] below meth c H locs 600000 7302250 (lw_Z below #[Value.ref b] s) (F0 m 697 ls []) := by
  obtain ⟨hx, hb, hr, hml, hown, hts, hX, hbl, hlocks, hgv⟩ := C0
  have hts := fun w h => hts w (wsL_law_in w h)
  have hbA : ¬ s.heap.size ≤ b := Nat.not_le.mpr hbl
  obtain ⟨hP1, hP2, hS⟩ := hG
  obtain ⟨r, sx1, sm1, e1, e2, hR1⟩ := hsim.2.2.2.2.2.2.2.2.2.2.2.2.2.2.2.1 (xs (nI j + 1).toNatClampNeg) (xs (nI j + 2).toNatClampNeg) (xs (nI j + 3).toNatClampNeg) stX stM hR
  refine lv_aload_n hx hb dL_law_697 rfl (lv_at hl 1 rfl) ?_
  refine lv_aload_n hx hb dL_law_698 rfl (lv_at hl 0 rfl) ?_
  refine lv_iload_n hx hb dL_law_699 rfl (lv_at hl 3 rfl) ?_
  refine lv_iconst (v := 1) hx hb dL_law_700 (by decide) ?_
  refine lv_iadd hx hb dL_law_701 ?_
  refine va_sld hx hb hX hbl hbA hS (lw_in hj hL (k := 1) (by decide)) dL_law_702 ?_
  refine lv_aload_n hx hb dL_law_703 rfl (lv_at hl 0 rfl) ?_
  refine lv_iload_n hx hb dL_law_704 rfl (lv_at hl 3 rfl) ?_
  refine lv_iconst (v := 2) hx hb dL_law_705 (by decide) ?_
  refine lv_iadd hx hb dL_law_706 ?_
  refine va_sld hx hb hX hbl hbA hS (lw_in hj hL (k := 2) (by decide)) dL_law_707 ?_
  refine lv_aload_n hx hb dL_law_708 rfl (lv_at hl 0 rfl) ?_
  refine lv_iload_n hx hb dL_law_709 rfl (lv_at hl 3 rfl) ?_
  refine lv_iconst (v := 3) hx hb dL_law_710 (by decide) ?_
  refine lv_iadd hx hb dL_law_711 ?_
  refine va_sld hx hb hX hbl hbA hS (lw_in hj hL (k := 3) (by decide)) dL_law_712 ?_
  refine lw_call (L1 := LX) (L2 := LM) hx hb hml hown hts hP1 hP2 hS F.1 F.2.2.1 F.2.2.2.2.2.2.2.1 F.2.2.2.2.1 F.2.2.2.2.2.2.1 mlk_L_78 hst_L_78 (dy := 5) LX_0 [.inl (xs (nI j + 1).toNatClampNeg), .inl (xs (nI j + 2).toNatClampNeg), .inl (xs (nI j + 3).toNatClampNeg)] (rest := []) rfl rfl (by decide) (by decide) (by decide) dL_law_713 (kX8_invokeRemove _ _ _ _ _ _ e1) hl.1 (fun H locs hP1 hP2 hS => ?_)
  refine lv_aload_n hx hb dL_law_716 rfl (lv_at hl 2 rfl) ?_
  refine lv_aload_n hx hb dL_law_717 rfl (lv_at hl 0 rfl) ?_
  refine lv_iload_n hx hb dL_law_718 rfl (lv_at hl 3 rfl) ?_
  refine lv_iconst (v := 1) hx hb dL_law_719 (by decide) ?_
  refine lv_iadd hx hb dL_law_720 ?_
  refine va_sld hx hb hX hbl hbA hS (lw_in hj hL (k := 1) (by decide)) dL_law_721 ?_
  refine lv_aload_n hx hb dL_law_722 rfl (lv_at hl 0 rfl) ?_
  refine lv_iload_n hx hb dL_law_723 rfl (lv_at hl 3 rfl) ?_
  refine lv_iconst (v := 2) hx hb dL_law_724 (by decide) ?_
  refine lv_iadd hx hb dL_law_725 ?_
  refine va_sld hx hb hX hbl hbA hS (lw_in hj hL (k := 2) (by decide)) dL_law_726 ?_
  refine lv_aload_n hx hb dL_law_727 rfl (lv_at hl 0 rfl) ?_
  refine lv_iload_n hx hb dL_law_728 rfl (lv_at hl 3 rfl) ?_
  refine lv_iconst (v := 3) hx hb dL_law_729 (by decide) ?_
  refine lv_iadd hx hb dL_law_730 ?_
  refine va_sld hx hb hX hbl hbA hS (lw_in hj hL (k := 3) (by decide)) dL_law_731 ?_
  refine lw_call (L1 := LM) (L2 := LX) hx hb hml hown hts hP2 hP1 hS F.2.1 F.2.2.2.1 F.2.2.2.2.2.2.2.2 F.2.2.2.2.2.1 (fun i j hi hj q => F.2.2.2.2.2.2.1 j i hj hi q.symm) mlk_L_81 hst_L_81 (dy := 4) LM_0 [.inl (xs (nI j + 1).toNatClampNeg), .inl (xs (nI j + 2).toNatClampNeg), .inl (xs (nI j + 3).toNatClampNeg)] (rest := [.int r]) rfl rfl (by decide) (by decide) (Nat.le_of_ble_eq_true rfl) dL_law_732 (kX9_invokeRemove _ _ _ _ _ _ e2) hl.1 (fun H locs hP2 hP1 hS => ?_)
  refine lv_icmp_eq (tgt := 1425) hx hb dL_law_735 (by decide) (fun _ => ?_) (fun h => absurd rfl h)
  exact hT sx1 sm1 hR1 H locs ls ⟨hP1, hP2, hS⟩ hl
set_option maxRecDepth 100000 in
theorem law_c16 (hsim : ax_Sims Rl) (C0 : lw_At p s m meth c b N xs) (F : lw_F s D adX caX adM caM) (hj : j + 5 ≤ N) (hL : N ≤ 2560) (hT : lw_T Rl p l e s m b below meth c D adX caX adM caM (nI j)) {stX stM : ax_S} (hR : Rl stX stM) {H : Heap} {locs : List Loc} {ls : Array Slot} (hG : lw_G s D adX caX adM caM H locs stX stM) (hl : lv_has ls 4 [(0, .ref b), (1, .ref (adX 0)), (2, .ref (adM 0)), (3, .int (nI j))]) : W p l e room_1 s m #[Value.ref b] below meth c H locs 600000 7302250 (lw_Z below #[Value.ref b] s) (F0 m 740 ls []) := by
  obtain ⟨hx, hb, hr, hml, hown, hts, hX, hbl, hlocks, hgv⟩ := C0
  have hts := fun w h => hts w (wsL_law_in w h)
  have hbA : ¬ s.heap.size ≤ b := Nat.not_le.mpr hbl
  obtain ⟨hP1, hP2, hS⟩ := hG
  obtain ⟨r, sx1, sm1, e1, e2, hR1⟩ := hsim.2.2.2.2.2.2.2.2.2.2.2.2.2.2.2.2.1 (xs (nI j + 1).toNatClampNeg) (xs (nI j + 2).toNatClampNeg) (xs (nI j + 3).toNatClampNeg) stX stM hR
  refine lv_aload_n hx hb dL_law_740 rfl (lv_at hl 1 rfl) ?_
  refine lv_aload_n hx hb dL_law_741 rfl (lv_at hl 0 rfl) ?_
  refine lv_iload_n hx hb dL_law_742 rfl (lv_at hl 3 rfl) ?_
  refine lv_iconst (v := 1) hx hb dL_law_743 (by decide) ?_
  refine lv_iadd hx hb dL_law_744 ?_
  refine va_sld hx hb hX hbl hbA hS (lw_in hj hL (k := 1) (by decide)) dL_law_745 ?_
  refine lv_aload_n hx hb dL_law_746 rfl (lv_at hl 0 rfl) ?_
  refine lv_iload_n hx hb dL_law_747 rfl (lv_at hl 3 rfl) ?_
  refine lv_iconst (v := 2) hx hb dL_law_748 (by decide) ?_
  refine lv_iadd hx hb dL_law_749 ?_
  refine va_sld hx hb hX hbl hbA hS (lw_in hj hL (k := 2) (by decide)) dL_law_750 ?_
  refine lv_aload_n hx hb dL_law_751 rfl (lv_at hl 0 rfl) ?_
  refine lv_iload_n hx hb dL_law_752 rfl (lv_at hl 3 rfl) ?_
  refine lv_iconst (v := 3) hx hb dL_law_753 (by decide) ?_
  refine lv_iadd hx hb dL_law_754 ?_
  refine va_sld hx hb hX hbl hbA hS (lw_in hj hL (k := 3) (by decide)) dL_law_755 ?_
  refine lw_call (L1 := LX) (L2 := LM) hx hb hml hown hts hP1 hP2 hS F.1 F.2.2.1 F.2.2.2.2.2.2.2.1 F.2.2.2.2.1 F.2.2.2.2.2.2.1 mlk_L_82 hst_L_82 (dy := 5) LX_0 [.inl (xs (nI j + 1).toNatClampNeg), .inl (xs (nI j + 2).toNatClampNeg), .inl (xs (nI j + 3).toNatClampNeg)] (rest := []) rfl rfl (by decide) (by decide) (by decide) dL_law_756 (kX8_invokeContains _ _ _ _ _ _ e1) hl.1 (fun H locs hP1 hP2 hS => ?_)
  refine lv_aload_n hx hb dL_law_759 rfl (lv_at hl 2 rfl) ?_
  refine lv_aload_n hx hb dL_law_760 rfl (lv_at hl 0 rfl) ?_
  refine lv_iload_n hx hb dL_law_761 rfl (lv_at hl 3 rfl) ?_
  refine lv_iconst (v := 1) hx hb dL_law_762 (by decide) ?_
  refine lv_iadd hx hb dL_law_763 ?_
  refine va_sld hx hb hX hbl hbA hS (lw_in hj hL (k := 1) (by decide)) dL_law_764 ?_
  refine lv_aload_n hx hb dL_law_765 rfl (lv_at hl 0 rfl) ?_
  refine lv_iload_n hx hb dL_law_766 rfl (lv_at hl 3 rfl) ?_
  refine lv_iconst (v := 2) hx hb dL_law_767 (by decide) ?_
  refine lv_iadd hx hb dL_law_768 ?_
  refine va_sld hx hb hX hbl hbA hS (lw_in hj hL (k := 2) (by decide)) dL_law_769 ?_
  refine lv_aload_n hx hb dL_law_770 rfl (lv_at hl 0 rfl) ?_
  refine lv_iload_n hx hb dL_law_771 rfl (lv_at hl 3 rfl) ?_
  refine lv_iconst (v := 3) hx hb dL_law_772 (by decide) ?_
  refine lv_iadd hx hb dL_law_773 ?_
  refine va_sld hx hb hX hbl hbA hS (lw_in hj hL (k := 3) (by decide)) dL_law_774 ?_
  refine lw_call (L1 := LM) (L2 := LX) hx hb hml hown hts hP2 hP1 hS F.2.1 F.2.2.2.1 F.2.2.2.2.2.2.2.2 F.2.2.2.2.2.1 (fun i j hi hj q => F.2.2.2.2.2.2.1 j i hj hi q.symm) mlk_L_85 hst_L_85 (dy := 4) LM_0 [.inl (xs (nI j + 1).toNatClampNeg), .inl (xs (nI j + 2).toNatClampNeg), .inl (xs (nI j + 3).toNatClampNeg)] (rest := [.int r]) rfl rfl (by decide) (by decide) (Nat.le_of_ble_eq_true rfl) dL_law_775 (kX9_invokeContains _ _ _ _ _ _ e2) hl.1 (fun H locs hP2 hP1 hS => ?_)
  refine lv_icmp_eq (tgt := 1425) hx hb dL_law_778 (by decide) (fun _ => ?_) (fun h => absurd rfl h)
  exact hT sx1 sm1 hR1 H locs ls ⟨hP1, hP2, hS⟩ hl
set_option maxRecDepth 100000 in
theorem law_c17 (hsim : ax_Sims Rl) (C0 : lw_At p s m meth c b N xs) (F : lw_F s D adX caX adM caM) (hj : j + 5 ≤ N) (hL : N ≤ 2560) (hT : lw_T Rl p l e s m b below meth c D adX caX adM caM (nI j)) {stX stM : ax_S} (hR : Rl stX stM) {H : Heap} {locs : List Loc} {ls : Array Slot} (hG : lw_G s D adX caX adM caM H locs stX stM) (hl : lv_has ls 4 [(0, .ref b), (1, .ref (adX 0)), (2, .ref (adM 0)), (3, .int (nI j))]) : W p l e room_1 s m #[Value.ref b] below meth c H locs 600000 7302250 (lw_Z below #[Value.ref b] s) (F0 m 783 ls []) := by
  obtain ⟨hx, hb, hr, hml, hown, hts, hX, hbl, hlocks, hgv⟩ := C0
  have hts := fun w h => hts w (wsL_law_in w h)
  have hbA : ¬ s.heap.size ≤ b := Nat.not_le.mpr hbl
  obtain ⟨hP1, hP2, hS⟩ := hG
  obtain ⟨r, sx1, sm1, e1, e2, hR1⟩ := hsim.2.2.2.2.2.2.2.2.2.2.2.2.2.2.2.2.2.1 (xs (nI j + 1).toNatClampNeg) (xs (nI j + 2).toNatClampNeg) stX stM hR
  refine lv_aload_n hx hb dL_law_783 rfl (lv_at hl 1 rfl) ?_
  refine lv_aload_n hx hb dL_law_784 rfl (lv_at hl 0 rfl) ?_
  refine lv_iload_n hx hb dL_law_785 rfl (lv_at hl 3 rfl) ?_
  refine lv_iconst (v := 1) hx hb dL_law_786 (by decide) ?_
  refine lv_iadd hx hb dL_law_787 ?_
  refine va_sld hx hb hX hbl hbA hS (lw_in hj hL (k := 1) (by decide)) dL_law_788 ?_
  refine lv_aload_n hx hb dL_law_789 rfl (lv_at hl 0 rfl) ?_
  refine lv_iload_n hx hb dL_law_790 rfl (lv_at hl 3 rfl) ?_
  refine lv_iconst (v := 2) hx hb dL_law_791 (by decide) ?_
  refine lv_iadd hx hb dL_law_792 ?_
  refine va_sld hx hb hX hbl hbA hS (lw_in hj hL (k := 2) (by decide)) dL_law_793 ?_
  refine lw_call (L1 := LX) (L2 := LM) hx hb hml hown hts hP1 hP2 hS F.1 F.2.2.1 F.2.2.2.2.2.2.2.1 F.2.2.2.2.1 F.2.2.2.2.2.2.1 mlk_L_86 hst_L_86 (dy := 5) LX_0 [.inl (xs (nI j + 1).toNatClampNeg), .inl (xs (nI j + 2).toNatClampNeg)] (rest := []) rfl rfl (by decide) (by decide) (by decide) dL_law_794 (kX8_respond _ _ _ _ _ e1) hl.1 (fun H locs hP1 hP2 hS => ?_)
  refine lv_aload_n hx hb dL_law_797 rfl (lv_at hl 2 rfl) ?_
  refine lv_aload_n hx hb dL_law_798 rfl (lv_at hl 0 rfl) ?_
  refine lv_iload_n hx hb dL_law_799 rfl (lv_at hl 3 rfl) ?_
  refine lv_iconst (v := 1) hx hb dL_law_800 (by decide) ?_
  refine lv_iadd hx hb dL_law_801 ?_
  refine va_sld hx hb hX hbl hbA hS (lw_in hj hL (k := 1) (by decide)) dL_law_802 ?_
  refine lv_aload_n hx hb dL_law_803 rfl (lv_at hl 0 rfl) ?_
  refine lv_iload_n hx hb dL_law_804 rfl (lv_at hl 3 rfl) ?_
  refine lv_iconst (v := 2) hx hb dL_law_805 (by decide) ?_
  refine lv_iadd hx hb dL_law_806 ?_
  refine va_sld hx hb hX hbl hbA hS (lw_in hj hL (k := 2) (by decide)) dL_law_807 ?_
  refine lw_call (L1 := LM) (L2 := LX) hx hb hml hown hts hP2 hP1 hS F.2.1 F.2.2.2.1 F.2.2.2.2.2.2.2.2 F.2.2.2.2.2.1 (fun i j hi hj q => F.2.2.2.2.2.2.1 j i hj hi q.symm) mlk_L_89 hst_L_89 (dy := 5) LM_0 [.inl (xs (nI j + 1).toNatClampNeg), .inl (xs (nI j + 2).toNatClampNeg)] (rest := [.int r]) rfl rfl (by decide) (by decide) (Nat.le_of_ble_eq_true rfl) dL_law_808 (kX9_respond _ _ _ _ _ e2) hl.1 (fun H locs hP2 hP1 hS => ?_)
  refine lv_icmp_eq (tgt := 1425) hx hb dL_law_811 (by decide) (fun _ => ?_) (fun h => absurd rfl h)
  exact hT sx1 sm1 hR1 H locs ls ⟨hP1, hP2, hS⟩ hl
set_option maxRecDepth 100000 in
theorem law_c18 (hsim : ax_Sims Rl) (C0 : lw_At p s m meth c b N xs) (F : lw_F s D adX caX adM caM) (hj : j + 5 ≤ N) (hL : N ≤ 2560) (hT : lw_T Rl p l e s m b below meth c D adX caX adM caM (nI j)) {stX stM : ax_S} (hR : Rl stX stM) {H : Heap} {locs : List Loc} {ls : Array Slot} (hG : lw_G s D adX caX adM caM H locs stX stM) (hl : lv_has ls 4 [(0, .ref b), (1, .ref (adX 0)), (2, .ref (adM 0)), (3, .int (nI j))]) : W p l e room_1 s m #[Value.ref b] below meth c H locs 600000 7302250 (lw_Z below #[Value.ref b] s) (F0 m 816 ls []) := by
  obtain ⟨hx, hb, hr, hml, hown, hts, hX, hbl, hlocks, hgv⟩ := C0
  have hts := fun w h => hts w (wsL_law_in w h)
  have hbA : ¬ s.heap.size ≤ b := Nat.not_le.mpr hbl
  obtain ⟨hP1, hP2, hS⟩ := hG
  obtain ⟨r, sx1, sm1, e1, e2, hR1⟩ := hsim.2.2.2.2.2.2.2.2.2.2.2.2.2.2.2.2.2.2.1 (xs (nI j + 1).toNatClampNeg) stX stM hR
  refine lv_aload_n hx hb dL_law_816 rfl (lv_at hl 1 rfl) ?_
  refine lv_aload_n hx hb dL_law_817 rfl (lv_at hl 0 rfl) ?_
  refine lv_iload_n hx hb dL_law_818 rfl (lv_at hl 3 rfl) ?_
  refine lv_iconst (v := 1) hx hb dL_law_819 (by decide) ?_
  refine lv_iadd hx hb dL_law_820 ?_
  refine va_sld hx hb hX hbl hbA hS (lw_in hj hL (k := 1) (by decide)) dL_law_821 ?_
  refine lw_call (L1 := LX) (L2 := LM) hx hb hml hown hts hP1 hP2 hS F.1 F.2.2.1 F.2.2.2.2.2.2.2.1 F.2.2.2.2.1 F.2.2.2.2.2.2.1 mlk_L_90 hst_L_90 (dy := 3) LX_0 [.inl (xs (nI j + 1).toNatClampNeg)] (rest := []) rfl rfl (by decide) (by decide) (by decide) dL_law_822 (kX8_crash _ _ _ _ e1) hl.1 (fun H locs hP1 hP2 hS => ?_)
  refine lv_aload_n hx hb dL_law_825 rfl (lv_at hl 2 rfl) ?_
  refine lv_aload_n hx hb dL_law_826 rfl (lv_at hl 0 rfl) ?_
  refine lv_iload_n hx hb dL_law_827 rfl (lv_at hl 3 rfl) ?_
  refine lv_iconst (v := 1) hx hb dL_law_828 (by decide) ?_
  refine lv_iadd hx hb dL_law_829 ?_
  refine va_sld hx hb hX hbl hbA hS (lw_in hj hL (k := 1) (by decide)) dL_law_830 ?_
  refine lw_call (L1 := LM) (L2 := LX) hx hb hml hown hts hP2 hP1 hS F.2.1 F.2.2.2.1 F.2.2.2.2.2.2.2.2 F.2.2.2.2.2.1 (fun i j hi hj q => F.2.2.2.2.2.2.1 j i hj hi q.symm) mlk_L_93 hst_L_93 (dy := 3) LM_0 [.inl (xs (nI j + 1).toNatClampNeg)] (rest := [.int r]) rfl rfl (by decide) (by decide) (Nat.le_of_ble_eq_true rfl) dL_law_831 (kX9_crash _ _ _ _ e2) hl.1 (fun H locs hP2 hP1 hS => ?_)
  refine lv_icmp_eq (tgt := 1425) hx hb dL_law_834 (by decide) (fun _ => ?_) (fun h => absurd rfl h)
  exact hT sx1 sm1 hR1 H locs ls ⟨hP1, hP2, hS⟩ hl
set_option maxRecDepth 100000 in
theorem law_c19 (hsim : ax_Sims Rl) (C0 : lw_At p s m meth c b N xs) (F : lw_F s D adX caX adM caM) (hj : j + 5 ≤ N) (hL : N ≤ 2560) (hT : lw_T Rl p l e s m b below meth c D adX caX adM caM (nI j)) {stX stM : ax_S} (hR : Rl stX stM) {H : Heap} {locs : List Loc} {ls : Array Slot} (hG : lw_G s D adX caX adM caM H locs stX stM) (hl : lv_has ls 4 [(0, .ref b), (1, .ref (adX 0)), (2, .ref (adM 0)), (3, .int (nI j))]) : W p l e room_1 s m #[Value.ref b] below meth c H locs 600000 7302250 (lw_Z below #[Value.ref b] s) (F0 m 839 ls []) := by
  obtain ⟨hx, hb, hr, hml, hown, hts, hX, hbl, hlocks, hgv⟩ := C0
  have hts := fun w h => hts w (wsL_law_in w h)
  have hbA : ¬ s.heap.size ≤ b := Nat.not_le.mpr hbl
  obtain ⟨hP1, hP2, hS⟩ := hG
  obtain ⟨r, sx1, sm1, e1, e2, hR1⟩ := hsim.2.2.2.2.2.2.2.2.2.2.2.2.2.2.2.2.2.2.2.1  stX stM hR
  refine lv_aload_n hx hb dL_law_839 rfl (lv_at hl 1 rfl) ?_
  refine lw_call (L1 := LX) (L2 := LM) hx hb hml hown hts hP1 hP2 hS F.1 F.2.2.1 F.2.2.2.2.2.2.2.1 F.2.2.2.2.1 F.2.2.2.2.2.2.1 mlk_L_94 hst_L_94 (dy := 2) LX_0 [] (rest := []) rfl rfl (by decide) (by decide) (by decide) dL_law_840 (kX8_undo _ _ _ e1) hl.1 (fun H locs hP1 hP2 hS => ?_)
  refine lv_aload_n hx hb dL_law_843 rfl (lv_at hl 2 rfl) ?_
  refine lw_call (L1 := LM) (L2 := LX) hx hb hml hown hts hP2 hP1 hS F.2.1 F.2.2.2.1 F.2.2.2.2.2.2.2.2 F.2.2.2.2.2.1 (fun i j hi hj q => F.2.2.2.2.2.2.1 j i hj hi q.symm) mlk_L_97 hst_L_97 (dy := 1) LM_0 [] (rest := [.int r]) rfl rfl (by decide) (by decide) (Nat.le_of_ble_eq_true rfl) dL_law_844 (kX9_undo _ _ _ e2) hl.1 (fun H locs hP2 hP1 hS => ?_)
  refine lv_icmp_eq (tgt := 1425) hx hb dL_law_847 (by decide) (fun _ => ?_) (fun h => absurd rfl h)
  exact hT sx1 sm1 hR1 H locs ls ⟨hP1, hP2, hS⟩ hl
set_option maxRecDepth 100000 in
theorem law_c20 (hsim : ax_Sims Rl) (C0 : lw_At p s m meth c b N xs) (F : lw_F s D adX caX adM caM) (hj : j + 5 ≤ N) (hL : N ≤ 2560) (hT : lw_T Rl p l e s m b below meth c D adX caX adM caM (nI j)) {stX stM : ax_S} (hR : Rl stX stM) {H : Heap} {locs : List Loc} {ls : Array Slot} (hG : lw_G s D adX caX adM caM H locs stX stM) (hl : lv_has ls 4 [(0, .ref b), (1, .ref (adX 0)), (2, .ref (adM 0)), (3, .int (nI j))]) : W p l e room_1 s m #[Value.ref b] below meth c H locs 600000 7302250 (lw_Z below #[Value.ref b] s) (F0 m 852 ls []) := by
  obtain ⟨hx, hb, hr, hml, hown, hts, hX, hbl, hlocks, hgv⟩ := C0
  have hts := fun w h => hts w (wsL_law_in w h)
  have hbA : ¬ s.heap.size ≤ b := Nat.not_le.mpr hbl
  obtain ⟨hP1, hP2, hS⟩ := hG
  obtain ⟨r, sx1, sm1, e1, e2, hR1⟩ := hsim.2.2.2.2.2.2.2.2.2.2.2.2.2.2.2.2.2.2.2.2.1  stX stM hR
  refine lv_aload_n hx hb dL_law_852 rfl (lv_at hl 1 rfl) ?_
  refine lw_call (L1 := LX) (L2 := LM) hx hb hml hown hts hP1 hP2 hS F.1 F.2.2.1 F.2.2.2.2.2.2.2.1 F.2.2.2.2.1 F.2.2.2.2.2.2.1 mlk_L_98 hst_L_98 (dy := 1) LX_0 [] (rest := []) rfl rfl (by decide) (by decide) (by decide) dL_law_853 (kX8_eventCount _ _ _ e1) hl.1 (fun H locs hP1 hP2 hS => ?_)
  refine lv_aload_n hx hb dL_law_856 rfl (lv_at hl 2 rfl) ?_
  refine lw_call (L1 := LM) (L2 := LX) hx hb hml hown hts hP2 hP1 hS F.2.1 F.2.2.2.1 F.2.2.2.2.2.2.2.2 F.2.2.2.2.2.1 (fun i j hi hj q => F.2.2.2.2.2.2.1 j i hj hi q.symm) mlk_L_101 hst_L_101 (dy := 1) LM_0 [] (rest := [.int r]) rfl rfl (by decide) (by decide) (Nat.le_of_ble_eq_true rfl) dL_law_857 (kX9_eventCount _ _ _ e2) hl.1 (fun H locs hP2 hP1 hS => ?_)
  refine lv_icmp_eq (tgt := 1425) hx hb dL_law_860 (by decide) (fun _ => ?_) (fun h => absurd rfl h)
  exact hT sx1 sm1 hR1 H locs ls ⟨hP1, hP2, hS⟩ hl
set_option maxRecDepth 100000 in
theorem law_c21 (hsim : ax_Sims Rl) (C0 : lw_At p s m meth c b N xs) (F : lw_F s D adX caX adM caM) (hj : j + 5 ≤ N) (hL : N ≤ 2560) (hT : lw_T Rl p l e s m b below meth c D adX caX adM caM (nI j)) {stX stM : ax_S} (hR : Rl stX stM) {H : Heap} {locs : List Loc} {ls : Array Slot} (hG : lw_G s D adX caX adM caM H locs stX stM) (hl : lv_has ls 4 [(0, .ref b), (1, .ref (adX 0)), (2, .ref (adM 0)), (3, .int (nI j))]) : W p l e room_1 s m #[Value.ref b] below meth c H locs 600000 7302250 (lw_Z below #[Value.ref b] s) (F0 m 865 ls []) := by
  obtain ⟨hx, hb, hr, hml, hown, hts, hX, hbl, hlocks, hgv⟩ := C0
  have hts := fun w h => hts w (wsL_law_in w h)
  have hbA : ¬ s.heap.size ≤ b := Nat.not_le.mpr hbl
  obtain ⟨hP1, hP2, hS⟩ := hG
  obtain ⟨r, sx1, sm1, e1, e2, hR1⟩ := hsim.2.2.2.2.2.2.2.2.2.2.2.2.2.2.2.2.2.2.2.2.2.1  stX stM hR
  refine lv_aload_n hx hb dL_law_865 rfl (lv_at hl 1 rfl) ?_
  refine lw_call (L1 := LX) (L2 := LM) hx hb hml hown hts hP1 hP2 hS F.1 F.2.2.1 F.2.2.2.2.2.2.2.1 F.2.2.2.2.1 F.2.2.2.2.2.2.1 mlk_L_102 hst_L_102 (dy := 1) LX_0 [] (rest := []) rfl rfl (by decide) (by decide) (by decide) dL_law_866 (kX8_operationCount _ _ _ e1) hl.1 (fun H locs hP1 hP2 hS => ?_)
  refine lv_aload_n hx hb dL_law_869 rfl (lv_at hl 2 rfl) ?_
  refine lw_call (L1 := LM) (L2 := LX) hx hb hml hown hts hP2 hP1 hS F.2.1 F.2.2.2.1 F.2.2.2.2.2.2.2.2 F.2.2.2.2.2.1 (fun i j hi hj q => F.2.2.2.2.2.2.1 j i hj hi q.symm) mlk_L_105 hst_L_105 (dy := 1) LM_0 [] (rest := [.int r]) rfl rfl (by decide) (by decide) (Nat.le_of_ble_eq_true rfl) dL_law_870 (kX9_operationCount _ _ _ e2) hl.1 (fun H locs hP2 hP1 hS => ?_)
  refine lv_icmp_eq (tgt := 1425) hx hb dL_law_873 (by decide) (fun _ => ?_) (fun h => absurd rfl h)
  exact hT sx1 sm1 hR1 H locs ls ⟨hP1, hP2, hS⟩ hl
set_option maxRecDepth 100000 in
theorem law_c22 (hsim : ax_Sims Rl) (C0 : lw_At p s m meth c b N xs) (F : lw_F s D adX caX adM caM) (hj : j + 5 ≤ N) (hL : N ≤ 2560) (hT : lw_T Rl p l e s m b below meth c D adX caX adM caM (nI j)) {stX stM : ax_S} (hR : Rl stX stM) {H : Heap} {locs : List Loc} {ls : Array Slot} (hG : lw_G s D adX caX adM caM H locs stX stM) (hl : lv_has ls 4 [(0, .ref b), (1, .ref (adX 0)), (2, .ref (adM 0)), (3, .int (nI j))]) : W p l e room_1 s m #[Value.ref b] below meth c H locs 600000 7302250 (lw_Z below #[Value.ref b] s) (F0 m 878 ls []) := by
  obtain ⟨hx, hb, hr, hml, hown, hts, hX, hbl, hlocks, hgv⟩ := C0
  have hts := fun w h => hts w (wsL_law_in w h)
  have hbA : ¬ s.heap.size ≤ b := Nat.not_le.mpr hbl
  obtain ⟨hP1, hP2, hS⟩ := hG
  obtain ⟨r, sx1, sm1, e1, e2, hR1⟩ := hsim.2.2.2.2.2.2.2.2.2.2.2.2.2.2.2.2.2.2.2.2.2.2.1 (xs (nI j + 1).toNatClampNeg) stX stM hR
  refine lv_aload_n hx hb dL_law_878 rfl (lv_at hl 1 rfl) ?_
  refine lv_aload_n hx hb dL_law_879 rfl (lv_at hl 0 rfl) ?_
  refine lv_iload_n hx hb dL_law_880 rfl (lv_at hl 3 rfl) ?_
  refine lv_iconst (v := 1) hx hb dL_law_881 (by decide) ?_
  refine lv_iadd hx hb dL_law_882 ?_
  refine va_sld hx hb hX hbl hbA hS (lw_in hj hL (k := 1) (by decide)) dL_law_883 ?_
  refine lw_call (L1 := LX) (L2 := LM) hx hb hml hown hts hP1 hP2 hS F.1 F.2.2.1 F.2.2.2.2.2.2.2.1 F.2.2.2.2.1 F.2.2.2.2.2.2.1 mlk_L_106 hst_L_106 (dy := 3) LX_0 [.inl (xs (nI j + 1).toNatClampNeg)] (rest := []) rfl rfl (by decide) (by decide) (by decide) dL_law_884 (kX8_kindOf _ _ _ _ e1) hl.1 (fun H locs hP1 hP2 hS => ?_)
  refine lv_aload_n hx hb dL_law_887 rfl (lv_at hl 2 rfl) ?_
  refine lv_aload_n hx hb dL_law_888 rfl (lv_at hl 0 rfl) ?_
  refine lv_iload_n hx hb dL_law_889 rfl (lv_at hl 3 rfl) ?_
  refine lv_iconst (v := 1) hx hb dL_law_890 (by decide) ?_
  refine lv_iadd hx hb dL_law_891 ?_
  refine va_sld hx hb hX hbl hbA hS (lw_in hj hL (k := 1) (by decide)) dL_law_892 ?_
  refine lw_call (L1 := LM) (L2 := LX) hx hb hml hown hts hP2 hP1 hS F.2.1 F.2.2.2.1 F.2.2.2.2.2.2.2.2 F.2.2.2.2.2.1 (fun i j hi hj q => F.2.2.2.2.2.2.1 j i hj hi q.symm) mlk_L_109 hst_L_109 (dy := 3) LM_0 [.inl (xs (nI j + 1).toNatClampNeg)] (rest := [.int r]) rfl rfl (by decide) (by decide) (Nat.le_of_ble_eq_true rfl) dL_law_893 (kX9_kindOf _ _ _ _ e2) hl.1 (fun H locs hP2 hP1 hS => ?_)
  refine lv_icmp_eq (tgt := 1425) hx hb dL_law_896 (by decide) (fun _ => ?_) (fun h => absurd rfl h)
  exact hT sx1 sm1 hR1 H locs ls ⟨hP1, hP2, hS⟩ hl
set_option maxRecDepth 100000 in
theorem law_c23 (hsim : ax_Sims Rl) (C0 : lw_At p s m meth c b N xs) (F : lw_F s D adX caX adM caM) (hj : j + 5 ≤ N) (hL : N ≤ 2560) (hT : lw_T Rl p l e s m b below meth c D adX caX adM caM (nI j)) {stX stM : ax_S} (hR : Rl stX stM) {H : Heap} {locs : List Loc} {ls : Array Slot} (hG : lw_G s D adX caX adM caM H locs stX stM) (hl : lv_has ls 4 [(0, .ref b), (1, .ref (adX 0)), (2, .ref (adM 0)), (3, .int (nI j))]) : W p l e room_1 s m #[Value.ref b] below meth c H locs 600000 7302250 (lw_Z below #[Value.ref b] s) (F0 m 901 ls []) := by
  obtain ⟨hx, hb, hr, hml, hown, hts, hX, hbl, hlocks, hgv⟩ := C0
  have hts := fun w h => hts w (wsL_law_in w h)
  have hbA : ¬ s.heap.size ≤ b := Nat.not_le.mpr hbl
  obtain ⟨hP1, hP2, hS⟩ := hG
  obtain ⟨r, sx1, sm1, e1, e2, hR1⟩ := hsim.2.2.2.2.2.2.2.2.2.2.2.2.2.2.2.2.2.2.2.2.2.2.2.1 (xs (nI j + 1).toNatClampNeg) stX stM hR
  refine lv_aload_n hx hb dL_law_901 rfl (lv_at hl 1 rfl) ?_
  refine lv_aload_n hx hb dL_law_902 rfl (lv_at hl 0 rfl) ?_
  refine lv_iload_n hx hb dL_law_903 rfl (lv_at hl 3 rfl) ?_
  refine lv_iconst (v := 1) hx hb dL_law_904 (by decide) ?_
  refine lv_iadd hx hb dL_law_905 ?_
  refine va_sld hx hb hX hbl hbA hS (lw_in hj hL (k := 1) (by decide)) dL_law_906 ?_
  refine lw_call (L1 := LX) (L2 := LM) hx hb hml hown hts hP1 hP2 hS F.1 F.2.2.1 F.2.2.2.2.2.2.2.1 F.2.2.2.2.1 F.2.2.2.2.2.2.1 mlk_L_110 hst_L_110 (dy := 3) LX_0 [.inl (xs (nI j + 1).toNatClampNeg)] (rest := []) rfl rfl (by decide) (by decide) (by decide) dL_law_907 (kX8_threadOf _ _ _ _ e1) hl.1 (fun H locs hP1 hP2 hS => ?_)
  refine lv_aload_n hx hb dL_law_910 rfl (lv_at hl 2 rfl) ?_
  refine lv_aload_n hx hb dL_law_911 rfl (lv_at hl 0 rfl) ?_
  refine lv_iload_n hx hb dL_law_912 rfl (lv_at hl 3 rfl) ?_
  refine lv_iconst (v := 1) hx hb dL_law_913 (by decide) ?_
  refine lv_iadd hx hb dL_law_914 ?_
  refine va_sld hx hb hX hbl hbA hS (lw_in hj hL (k := 1) (by decide)) dL_law_915 ?_
  refine lw_call (L1 := LM) (L2 := LX) hx hb hml hown hts hP2 hP1 hS F.2.1 F.2.2.2.1 F.2.2.2.2.2.2.2.2 F.2.2.2.2.2.1 (fun i j hi hj q => F.2.2.2.2.2.2.1 j i hj hi q.symm) mlk_L_113 hst_L_113 (dy := 3) LM_0 [.inl (xs (nI j + 1).toNatClampNeg)] (rest := [.int r]) rfl rfl (by decide) (by decide) (Nat.le_of_ble_eq_true rfl) dL_law_916 (kX9_threadOf _ _ _ _ e2) hl.1 (fun H locs hP2 hP1 hS => ?_)
  refine lv_icmp_eq (tgt := 1425) hx hb dL_law_919 (by decide) (fun _ => ?_) (fun h => absurd rfl h)
  exact hT sx1 sm1 hR1 H locs ls ⟨hP1, hP2, hS⟩ hl
set_option maxRecDepth 100000 in
theorem law_c24 (hsim : ax_Sims Rl) (C0 : lw_At p s m meth c b N xs) (F : lw_F s D adX caX adM caM) (hj : j + 5 ≤ N) (hL : N ≤ 2560) (hT : lw_T Rl p l e s m b below meth c D adX caX adM caM (nI j)) {stX stM : ax_S} (hR : Rl stX stM) {H : Heap} {locs : List Loc} {ls : Array Slot} (hG : lw_G s D adX caX adM caM H locs stX stM) (hl : lv_has ls 4 [(0, .ref b), (1, .ref (adX 0)), (2, .ref (adM 0)), (3, .int (nI j))]) : W p l e room_1 s m #[Value.ref b] below meth c H locs 600000 7302250 (lw_Z below #[Value.ref b] s) (F0 m 924 ls []) := by
  obtain ⟨hx, hb, hr, hml, hown, hts, hX, hbl, hlocks, hgv⟩ := C0
  have hts := fun w h => hts w (wsL_law_in w h)
  have hbA : ¬ s.heap.size ≤ b := Nat.not_le.mpr hbl
  obtain ⟨hP1, hP2, hS⟩ := hG
  obtain ⟨r, sx1, sm1, e1, e2, hR1⟩ := hsim.2.2.2.2.2.2.2.2.2.2.2.2.2.2.2.2.2.2.2.2.2.2.2.2.1 (xs (nI j + 1).toNatClampNeg) stX stM hR
  refine lv_aload_n hx hb dL_law_924 rfl (lv_at hl 1 rfl) ?_
  refine lv_aload_n hx hb dL_law_925 rfl (lv_at hl 0 rfl) ?_
  refine lv_iload_n hx hb dL_law_926 rfl (lv_at hl 3 rfl) ?_
  refine lv_iconst (v := 1) hx hb dL_law_927 (by decide) ?_
  refine lv_iadd hx hb dL_law_928 ?_
  refine va_sld hx hb hX hbl hbA hS (lw_in hj hL (k := 1) (by decide)) dL_law_929 ?_
  refine lw_call (L1 := LX) (L2 := LM) hx hb hml hown hts hP1 hP2 hS F.1 F.2.2.1 F.2.2.2.2.2.2.2.1 F.2.2.2.2.1 F.2.2.2.2.2.2.1 mlk_L_114 hst_L_114 (dy := 3) LX_0 [.inl (xs (nI j + 1).toNatClampNeg)] (rest := []) rfl rfl (by decide) (by decide) (by decide) dL_law_930 (kX8_objectOf _ _ _ _ e1) hl.1 (fun H locs hP1 hP2 hS => ?_)
  refine lv_aload_n hx hb dL_law_933 rfl (lv_at hl 2 rfl) ?_
  refine lv_aload_n hx hb dL_law_934 rfl (lv_at hl 0 rfl) ?_
  refine lv_iload_n hx hb dL_law_935 rfl (lv_at hl 3 rfl) ?_
  refine lv_iconst (v := 1) hx hb dL_law_936 (by decide) ?_
  refine lv_iadd hx hb dL_law_937 ?_
  refine va_sld hx hb hX hbl hbA hS (lw_in hj hL (k := 1) (by decide)) dL_law_938 ?_
  refine lw_call (L1 := LM) (L2 := LX) hx hb hml hown hts hP2 hP1 hS F.2.1 F.2.2.2.1 F.2.2.2.2.2.2.2.2 F.2.2.2.2.2.1 (fun i j hi hj q => F.2.2.2.2.2.2.1 j i hj hi q.symm) mlk_L_117 hst_L_117 (dy := 3) LM_0 [.inl (xs (nI j + 1).toNatClampNeg)] (rest := [.int r]) rfl rfl (by decide) (by decide) (Nat.le_of_ble_eq_true rfl) dL_law_939 (kX9_objectOf _ _ _ _ e2) hl.1 (fun H locs hP2 hP1 hS => ?_)
  refine lv_icmp_eq (tgt := 1425) hx hb dL_law_942 (by decide) (fun _ => ?_) (fun h => absurd rfl h)
  exact hT sx1 sm1 hR1 H locs ls ⟨hP1, hP2, hS⟩ hl
set_option maxRecDepth 100000 in
theorem law_c25 (hsim : ax_Sims Rl) (C0 : lw_At p s m meth c b N xs) (F : lw_F s D adX caX adM caM) (hj : j + 5 ≤ N) (hL : N ≤ 2560) (hT : lw_T Rl p l e s m b below meth c D adX caX adM caM (nI j)) {stX stM : ax_S} (hR : Rl stX stM) {H : Heap} {locs : List Loc} {ls : Array Slot} (hG : lw_G s D adX caX adM caM H locs stX stM) (hl : lv_has ls 4 [(0, .ref b), (1, .ref (adX 0)), (2, .ref (adM 0)), (3, .int (nI j))]) : W p l e room_1 s m #[Value.ref b] below meth c H locs 600000 7302250 (lw_Z below #[Value.ref b] s) (F0 m 947 ls []) := by
  obtain ⟨hx, hb, hr, hml, hown, hts, hX, hbl, hlocks, hgv⟩ := C0
  have hts := fun w h => hts w (wsL_law_in w h)
  have hbA : ¬ s.heap.size ≤ b := Nat.not_le.mpr hbl
  obtain ⟨hP1, hP2, hS⟩ := hG
  obtain ⟨r, sx1, sm1, e1, e2, hR1⟩ := hsim.2.2.2.2.2.2.2.2.2.2.2.2.2.2.2.2.2.2.2.2.2.2.2.2.2.1 (xs (nI j + 1).toNatClampNeg) stX stM hR
  refine lv_aload_n hx hb dL_law_947 rfl (lv_at hl 1 rfl) ?_
  refine lv_aload_n hx hb dL_law_948 rfl (lv_at hl 0 rfl) ?_
  refine lv_iload_n hx hb dL_law_949 rfl (lv_at hl 3 rfl) ?_
  refine lv_iconst (v := 1) hx hb dL_law_950 (by decide) ?_
  refine lv_iadd hx hb dL_law_951 ?_
  refine va_sld hx hb hX hbl hbA hS (lw_in hj hL (k := 1) (by decide)) dL_law_952 ?_
  refine lw_call (L1 := LX) (L2 := LM) hx hb hml hown hts hP1 hP2 hS F.1 F.2.2.1 F.2.2.2.2.2.2.2.1 F.2.2.2.2.1 F.2.2.2.2.2.2.1 mlk_L_118 hst_L_118 (dy := 3) LX_0 [.inl (xs (nI j + 1).toNatClampNeg)] (rest := []) rfl rfl (by decide) (by decide) (by decide) dL_law_953 (kX8_invocationTime _ _ _ _ e1) hl.1 (fun H locs hP1 hP2 hS => ?_)
  refine lv_aload_n hx hb dL_law_956 rfl (lv_at hl 2 rfl) ?_
  refine lv_aload_n hx hb dL_law_957 rfl (lv_at hl 0 rfl) ?_
  refine lv_iload_n hx hb dL_law_958 rfl (lv_at hl 3 rfl) ?_
  refine lv_iconst (v := 1) hx hb dL_law_959 (by decide) ?_
  refine lv_iadd hx hb dL_law_960 ?_
  refine va_sld hx hb hX hbl hbA hS (lw_in hj hL (k := 1) (by decide)) dL_law_961 ?_
  refine lw_call (L1 := LM) (L2 := LX) hx hb hml hown hts hP2 hP1 hS F.2.1 F.2.2.2.1 F.2.2.2.2.2.2.2.2 F.2.2.2.2.2.1 (fun i j hi hj q => F.2.2.2.2.2.2.1 j i hj hi q.symm) mlk_L_121 hst_L_121 (dy := 3) LM_0 [.inl (xs (nI j + 1).toNatClampNeg)] (rest := [.int r]) rfl rfl (by decide) (by decide) (Nat.le_of_ble_eq_true rfl) dL_law_962 (kX9_invocationTime _ _ _ _ e2) hl.1 (fun H locs hP2 hP1 hS => ?_)
  refine lv_icmp_eq (tgt := 1425) hx hb dL_law_965 (by decide) (fun _ => ?_) (fun h => absurd rfl h)
  exact hT sx1 sm1 hR1 H locs ls ⟨hP1, hP2, hS⟩ hl
set_option maxRecDepth 100000 in
theorem law_c26 (hsim : ax_Sims Rl) (C0 : lw_At p s m meth c b N xs) (F : lw_F s D adX caX adM caM) (hj : j + 5 ≤ N) (hL : N ≤ 2560) (hT : lw_T Rl p l e s m b below meth c D adX caX adM caM (nI j)) {stX stM : ax_S} (hR : Rl stX stM) {H : Heap} {locs : List Loc} {ls : Array Slot} (hG : lw_G s D adX caX adM caM H locs stX stM) (hl : lv_has ls 4 [(0, .ref b), (1, .ref (adX 0)), (2, .ref (adM 0)), (3, .int (nI j))]) : W p l e room_1 s m #[Value.ref b] below meth c H locs 600000 7302250 (lw_Z below #[Value.ref b] s) (F0 m 970 ls []) := by
  obtain ⟨hx, hb, hr, hml, hown, hts, hX, hbl, hlocks, hgv⟩ := C0
  have hts := fun w h => hts w (wsL_law_in w h)
  have hbA : ¬ s.heap.size ≤ b := Nat.not_le.mpr hbl
  obtain ⟨hP1, hP2, hS⟩ := hG
  obtain ⟨r, sx1, sm1, e1, e2, hR1⟩ := hsim.2.2.2.2.2.2.2.2.2.2.2.2.2.2.2.2.2.2.2.2.2.2.2.2.2.2.1 (xs (nI j + 1).toNatClampNeg) stX stM hR
  refine lv_aload_n hx hb dL_law_970 rfl (lv_at hl 1 rfl) ?_
  refine lv_aload_n hx hb dL_law_971 rfl (lv_at hl 0 rfl) ?_
  refine lv_iload_n hx hb dL_law_972 rfl (lv_at hl 3 rfl) ?_
  refine lv_iconst (v := 1) hx hb dL_law_973 (by decide) ?_
  refine lv_iadd hx hb dL_law_974 ?_
  refine va_sld hx hb hX hbl hbA hS (lw_in hj hL (k := 1) (by decide)) dL_law_975 ?_
  refine lw_call (L1 := LX) (L2 := LM) hx hb hml hown hts hP1 hP2 hS F.1 F.2.2.1 F.2.2.2.2.2.2.2.1 F.2.2.2.2.1 F.2.2.2.2.2.2.1 mlk_L_122 hst_L_122 (dy := 3) LX_0 [.inl (xs (nI j + 1).toNatClampNeg)] (rest := []) rfl rfl (by decide) (by decide) (by decide) dL_law_976 (kX8_responseTime _ _ _ _ e1) hl.1 (fun H locs hP1 hP2 hS => ?_)
  refine lv_aload_n hx hb dL_law_979 rfl (lv_at hl 2 rfl) ?_
  refine lv_aload_n hx hb dL_law_980 rfl (lv_at hl 0 rfl) ?_
  refine lv_iload_n hx hb dL_law_981 rfl (lv_at hl 3 rfl) ?_
  refine lv_iconst (v := 1) hx hb dL_law_982 (by decide) ?_
  refine lv_iadd hx hb dL_law_983 ?_
  refine va_sld hx hb hX hbl hbA hS (lw_in hj hL (k := 1) (by decide)) dL_law_984 ?_
  refine lw_call (L1 := LM) (L2 := LX) hx hb hml hown hts hP2 hP1 hS F.2.1 F.2.2.2.1 F.2.2.2.2.2.2.2.2 F.2.2.2.2.2.1 (fun i j hi hj q => F.2.2.2.2.2.2.1 j i hj hi q.symm) mlk_L_125 hst_L_125 (dy := 3) LM_0 [.inl (xs (nI j + 1).toNatClampNeg)] (rest := [.int r]) rfl rfl (by decide) (by decide) (Nat.le_of_ble_eq_true rfl) dL_law_985 (kX9_responseTime _ _ _ _ e2) hl.1 (fun H locs hP2 hP1 hS => ?_)
  refine lv_icmp_eq (tgt := 1425) hx hb dL_law_988 (by decide) (fun _ => ?_) (fun h => absurd rfl h)
  exact hT sx1 sm1 hR1 H locs ls ⟨hP1, hP2, hS⟩ hl
set_option maxRecDepth 100000 in
theorem law_c27 (hsim : ax_Sims Rl) (C0 : lw_At p s m meth c b N xs) (F : lw_F s D adX caX adM caM) (hj : j + 5 ≤ N) (hL : N ≤ 2560) (hT : lw_T Rl p l e s m b below meth c D adX caX adM caM (nI j)) {stX stM : ax_S} (hR : Rl stX stM) {H : Heap} {locs : List Loc} {ls : Array Slot} (hG : lw_G s D adX caX adM caM H locs stX stM) (hl : lv_has ls 4 [(0, .ref b), (1, .ref (adX 0)), (2, .ref (adM 0)), (3, .int (nI j))]) : W p l e room_1 s m #[Value.ref b] below meth c H locs 600000 7302250 (lw_Z below #[Value.ref b] s) (F0 m 993 ls []) := by
  obtain ⟨hx, hb, hr, hml, hown, hts, hX, hbl, hlocks, hgv⟩ := C0
  have hts := fun w h => hts w (wsL_law_in w h)
  have hbA : ¬ s.heap.size ≤ b := Nat.not_le.mpr hbl
  obtain ⟨hP1, hP2, hS⟩ := hG
  obtain ⟨r, sx1, sm1, e1, e2, hR1⟩ := hsim.2.2.2.2.2.2.2.2.2.2.2.2.2.2.2.2.2.2.2.2.2.2.2.2.2.2.2.1 (xs (nI j + 1).toNatClampNeg) stX stM hR
  refine lv_aload_n hx hb dL_law_993 rfl (lv_at hl 1 rfl) ?_
  refine lv_aload_n hx hb dL_law_994 rfl (lv_at hl 0 rfl) ?_
  refine lv_iload_n hx hb dL_law_995 rfl (lv_at hl 3 rfl) ?_
  refine lv_iconst (v := 1) hx hb dL_law_996 (by decide) ?_
  refine lv_iadd hx hb dL_law_997 ?_
  refine va_sld hx hb hX hbl hbA hS (lw_in hj hL (k := 1) (by decide)) dL_law_998 ?_
  refine lw_call (L1 := LX) (L2 := LM) hx hb hml hown hts hP1 hP2 hS F.1 F.2.2.1 F.2.2.2.2.2.2.2.1 F.2.2.2.2.1 F.2.2.2.2.2.2.1 mlk_L_126 hst_L_126 (dy := 3) LX_0 [.inl (xs (nI j + 1).toNatClampNeg)] (rest := []) rfl rfl (by decide) (by decide) (by decide) dL_law_999 (kX8_resultOf _ _ _ _ e1) hl.1 (fun H locs hP1 hP2 hS => ?_)
  refine lv_aload_n hx hb dL_law_1002 rfl (lv_at hl 2 rfl) ?_
  refine lv_aload_n hx hb dL_law_1003 rfl (lv_at hl 0 rfl) ?_
  refine lv_iload_n hx hb dL_law_1004 rfl (lv_at hl 3 rfl) ?_
  refine lv_iconst (v := 1) hx hb dL_law_1005 (by decide) ?_
  refine lv_iadd hx hb dL_law_1006 ?_
  refine va_sld hx hb hX hbl hbA hS (lw_in hj hL (k := 1) (by decide)) dL_law_1007 ?_
  refine lw_call (L1 := LM) (L2 := LX) hx hb hml hown hts hP2 hP1 hS F.2.1 F.2.2.2.1 F.2.2.2.2.2.2.2.2 F.2.2.2.2.2.1 (fun i j hi hj q => F.2.2.2.2.2.2.1 j i hj hi q.symm) mlk_L_129 hst_L_129 (dy := 3) LM_0 [.inl (xs (nI j + 1).toNatClampNeg)] (rest := [.int r]) rfl rfl (by decide) (by decide) (Nat.le_of_ble_eq_true rfl) dL_law_1008 (kX9_resultOf _ _ _ _ e2) hl.1 (fun H locs hP2 hP1 hS => ?_)
  refine lv_icmp_eq (tgt := 1425) hx hb dL_law_1011 (by decide) (fun _ => ?_) (fun h => absurd rfl h)
  exact hT sx1 sm1 hR1 H locs ls ⟨hP1, hP2, hS⟩ hl
set_option maxRecDepth 100000 in
theorem law_c28 (hsim : ax_Sims Rl) (C0 : lw_At p s m meth c b N xs) (F : lw_F s D adX caX adM caM) (hj : j + 5 ≤ N) (hL : N ≤ 2560) (hT : lw_T Rl p l e s m b below meth c D adX caX adM caM (nI j)) {stX stM : ax_S} (hR : Rl stX stM) {H : Heap} {locs : List Loc} {ls : Array Slot} (hG : lw_G s D adX caX adM caM H locs stX stM) (hl : lv_has ls 4 [(0, .ref b), (1, .ref (adX 0)), (2, .ref (adM 0)), (3, .int (nI j))]) : W p l e room_1 s m #[Value.ref b] below meth c H locs 600000 7302250 (lw_Z below #[Value.ref b] s) (F0 m 1016 ls []) := by
  obtain ⟨hx, hb, hr, hml, hown, hts, hX, hbl, hlocks, hgv⟩ := C0
  have hts := fun w h => hts w (wsL_law_in w h)
  have hbA : ¬ s.heap.size ≤ b := Nat.not_le.mpr hbl
  obtain ⟨hP1, hP2, hS⟩ := hG
  obtain ⟨r, sx1, sm1, e1, e2, hR1⟩ := hsim.2.2.2.2.2.2.2.2.2.2.2.2.2.2.2.2.2.2.2.2.2.2.2.2.2.2.2.2.1 (xs (nI j + 1).toNatClampNeg) (xs (nI j + 2).toNatClampNeg) stX stM hR
  refine lv_aload_n hx hb dL_law_1016 rfl (lv_at hl 1 rfl) ?_
  refine lv_aload_n hx hb dL_law_1017 rfl (lv_at hl 0 rfl) ?_
  refine lv_iload_n hx hb dL_law_1018 rfl (lv_at hl 3 rfl) ?_
  refine lv_iconst (v := 1) hx hb dL_law_1019 (by decide) ?_
  refine lv_iadd hx hb dL_law_1020 ?_
  refine va_sld hx hb hX hbl hbA hS (lw_in hj hL (k := 1) (by decide)) dL_law_1021 ?_
  refine lv_aload_n hx hb dL_law_1022 rfl (lv_at hl 0 rfl) ?_
  refine lv_iload_n hx hb dL_law_1023 rfl (lv_at hl 3 rfl) ?_
  refine lv_iconst (v := 2) hx hb dL_law_1024 (by decide) ?_
  refine lv_iadd hx hb dL_law_1025 ?_
  refine va_sld hx hb hX hbl hbA hS (lw_in hj hL (k := 2) (by decide)) dL_law_1026 ?_
  refine lw_call (L1 := LX) (L2 := LM) hx hb hml hown hts hP1 hP2 hS F.1 F.2.2.1 F.2.2.2.2.2.2.2.1 F.2.2.2.2.1 F.2.2.2.2.2.2.1 mlk_L_130 hst_L_130 (dy := 3) LX_0 [.inl (xs (nI j + 1).toNatClampNeg), .inl (xs (nI j + 2).toNatClampNeg)] (rest := []) rfl rfl (by decide) (by decide) (by decide) dL_law_1027 (kX8_precedes _ _ _ _ _ e1) hl.1 (fun H locs hP1 hP2 hS => ?_)
  refine lv_aload_n hx hb dL_law_1030 rfl (lv_at hl 2 rfl) ?_
  refine lv_aload_n hx hb dL_law_1031 rfl (lv_at hl 0 rfl) ?_
  refine lv_iload_n hx hb dL_law_1032 rfl (lv_at hl 3 rfl) ?_
  refine lv_iconst (v := 1) hx hb dL_law_1033 (by decide) ?_
  refine lv_iadd hx hb dL_law_1034 ?_
  refine va_sld hx hb hX hbl hbA hS (lw_in hj hL (k := 1) (by decide)) dL_law_1035 ?_
  refine lv_aload_n hx hb dL_law_1036 rfl (lv_at hl 0 rfl) ?_
  refine lv_iload_n hx hb dL_law_1037 rfl (lv_at hl 3 rfl) ?_
  refine lv_iconst (v := 2) hx hb dL_law_1038 (by decide) ?_
  refine lv_iadd hx hb dL_law_1039 ?_
  refine va_sld hx hb hX hbl hbA hS (lw_in hj hL (k := 2) (by decide)) dL_law_1040 ?_
  refine lw_call (L1 := LM) (L2 := LX) hx hb hml hown hts hP2 hP1 hS F.2.1 F.2.2.2.1 F.2.2.2.2.2.2.2.2 F.2.2.2.2.2.1 (fun i j hi hj q => F.2.2.2.2.2.2.1 j i hj hi q.symm) mlk_L_133 hst_L_133 (dy := 3) LM_0 [.inl (xs (nI j + 1).toNatClampNeg), .inl (xs (nI j + 2).toNatClampNeg)] (rest := [.int r]) rfl rfl (by decide) (by decide) (Nat.le_of_ble_eq_true rfl) dL_law_1041 (kX9_precedes _ _ _ _ _ e2) hl.1 (fun H locs hP2 hP1 hS => ?_)
  refine lv_icmp_eq (tgt := 1425) hx hb dL_law_1044 (by decide) (fun _ => ?_) (fun h => absurd rfl h)
  exact hT sx1 sm1 hR1 H locs ls ⟨hP1, hP2, hS⟩ hl
set_option maxRecDepth 100000 in
theorem law_c29 (hsim : ax_Sims Rl) (C0 : lw_At p s m meth c b N xs) (F : lw_F s D adX caX adM caM) (hj : j + 5 ≤ N) (hL : N ≤ 2560) (hT : lw_T Rl p l e s m b below meth c D adX caX adM caM (nI j)) {stX stM : ax_S} (hR : Rl stX stM) {H : Heap} {locs : List Loc} {ls : Array Slot} (hG : lw_G s D adX caX adM caM H locs stX stM) (hl : lv_has ls 4 [(0, .ref b), (1, .ref (adX 0)), (2, .ref (adM 0)), (3, .int (nI j))]) : W p l e room_1 s m #[Value.ref b] below meth c H locs 600000 7302250 (lw_Z below #[Value.ref b] s) (F0 m 1049 ls []) := by
  obtain ⟨hx, hb, hr, hml, hown, hts, hX, hbl, hlocks, hgv⟩ := C0
  have hts := fun w h => hts w (wsL_law_in w h)
  have hbA : ¬ s.heap.size ≤ b := Nat.not_le.mpr hbl
  obtain ⟨hP1, hP2, hS⟩ := hG
  obtain ⟨r, sx1, sm1, e1, e2, hR1⟩ := hsim.2.2.2.2.2.2.2.2.2.2.2.2.2.2.2.2.2.2.2.2.2.2.2.2.2.2.2.2.2.1  stX stM hR
  refine lv_aload_n hx hb dL_law_1049 rfl (lv_at hl 1 rfl) ?_
  refine lw_call (L1 := LX) (L2 := LM) hx hb hml hown hts hP1 hP2 hS F.1 F.2.2.1 F.2.2.2.2.2.2.2.1 F.2.2.2.2.1 F.2.2.2.2.2.2.1 mlk_L_134 hst_L_134 (dy := 2) LX_0 [] (rest := []) rfl rfl (by decide) (by decide) (by decide) dL_law_1050 (kX8_maxPending _ _ _ e1) hl.1 (fun H locs hP1 hP2 hS => ?_)
  refine lv_aload_n hx hb dL_law_1053 rfl (lv_at hl 2 rfl) ?_
  refine lw_call (L1 := LM) (L2 := LX) hx hb hml hown hts hP2 hP1 hS F.2.1 F.2.2.2.1 F.2.2.2.2.2.2.2.2 F.2.2.2.2.2.1 (fun i j hi hj q => F.2.2.2.2.2.2.1 j i hj hi q.symm) mlk_L_137 hst_L_137 (dy := 1) LM_0 [] (rest := [.int r]) rfl rfl (by decide) (by decide) (Nat.le_of_ble_eq_true rfl) dL_law_1054 (kX9_maxPending _ _ _ e2) hl.1 (fun H locs hP2 hP1 hS => ?_)
  refine lv_icmp_eq (tgt := 1425) hx hb dL_law_1057 (by decide) (fun _ => ?_) (fun h => absurd rfl h)
  exact hT sx1 sm1 hR1 H locs ls ⟨hP1, hP2, hS⟩ hl
set_option maxRecDepth 100000 in
theorem law_c30 (hsim : ax_Sims Rl) (C0 : lw_At p s m meth c b N xs) (F : lw_F s D adX caX adM caM) (hj : j + 5 ≤ N) (hL : N ≤ 2560) (hT : lw_T Rl p l e s m b below meth c D adX caX adM caM (nI j)) {stX stM : ax_S} (hR : Rl stX stM) {H : Heap} {locs : List Loc} {ls : Array Slot} (hG : lw_G s D adX caX adM caM H locs stX stM) (hl : lv_has ls 4 [(0, .ref b), (1, .ref (adX 0)), (2, .ref (adM 0)), (3, .int (nI j))]) : W p l e room_1 s m #[Value.ref b] below meth c H locs 600000 7302250 (lw_Z below #[Value.ref b] s) (F0 m 1062 ls []) := by
  obtain ⟨hx, hb, hr, hml, hown, hts, hX, hbl, hlocks, hgv⟩ := C0
  have hts := fun w h => hts w (wsL_law_in w h)
  have hbA : ¬ s.heap.size ≤ b := Nat.not_le.mpr hbl
  obtain ⟨hP1, hP2, hS⟩ := hG
  obtain ⟨r, sx1, sm1, e1, e2, hR1⟩ := hsim.2.2.2.2.2.2.2.2.2.2.2.2.2.2.2.2.2.2.2.2.2.2.2.2.2.2.2.2.2.2.1  stX stM hR
  refine lv_aload_n hx hb dL_law_1062 rfl (lv_at hl 1 rfl) ?_
  refine lw_call (L1 := LX) (L2 := LM) hx hb hml hown hts hP1 hP2 hS F.1 F.2.2.1 F.2.2.2.2.2.2.2.1 F.2.2.2.2.1 F.2.2.2.2.2.2.1 mlk_L_138 hst_L_138 (dy := 4) LX_0 [] (rest := []) rfl rfl (by decide) (by decide) (by decide) dL_law_1063 (kX8_longestChain _ _ _ e1) hl.1 (fun H locs hP1 hP2 hS => ?_)
  refine lv_aload_n hx hb dL_law_1066 rfl (lv_at hl 2 rfl) ?_
  refine lw_call (L1 := LM) (L2 := LX) hx hb hml hown hts hP2 hP1 hS F.2.1 F.2.2.2.1 F.2.2.2.2.2.2.2.2 F.2.2.2.2.2.1 (fun i j hi hj q => F.2.2.2.2.2.2.1 j i hj hi q.symm) mlk_L_141 hst_L_141 (dy := 2) LM_0 [] (rest := [.int r]) rfl rfl (by decide) (by decide) (Nat.le_of_ble_eq_true rfl) dL_law_1067 (kX9_longestChain _ _ _ e2) hl.1 (fun H locs hP2 hP1 hS => ?_)
  refine lv_icmp_eq (tgt := 1425) hx hb dL_law_1070 (by decide) (fun _ => ?_) (fun h => absurd rfl h)
  exact hT sx1 sm1 hR1 H locs ls ⟨hP1, hP2, hS⟩ hl
set_option maxRecDepth 100000 in
theorem law_c31 (hsim : ax_Sims Rl) (C0 : lw_At p s m meth c b N xs) (F : lw_F s D adX caX adM caM) (hj : j + 5 ≤ N) (hL : N ≤ 2560) (hT : lw_T Rl p l e s m b below meth c D adX caX adM caM (nI j)) {stX stM : ax_S} (hR : Rl stX stM) {H : Heap} {locs : List Loc} {ls : Array Slot} (hG : lw_G s D adX caX adM caM H locs stX stM) (hl : lv_has ls 4 [(0, .ref b), (1, .ref (adX 0)), (2, .ref (adM 0)), (3, .int (nI j))]) : W p l e room_1 s m #[Value.ref b] below meth c H locs 600000 7302250 (lw_Z below #[Value.ref b] s) (F0 m 1075 ls []) := by
  obtain ⟨hx, hb, hr, hml, hown, hts, hX, hbl, hlocks, hgv⟩ := C0
  have hts := fun w h => hts w (wsL_law_in w h)
  have hbA : ¬ s.heap.size ≤ b := Nat.not_le.mpr hbl
  obtain ⟨hP1, hP2, hS⟩ := hG
  obtain ⟨r, sx1, sm1, e1, e2, hR1⟩ := hsim.2.2.2.2.2.2.2.2.2.2.2.2.2.2.2.2.2.2.2.2.2.2.2.2.2.2.2.2.2.2.2.1  stX stM hR
  refine lv_aload_n hx hb dL_law_1075 rfl (lv_at hl 1 rfl) ?_
  refine lw_call (L1 := LX) (L2 := LM) hx hb hml hown hts hP1 hP2 hS F.1 F.2.2.1 F.2.2.2.2.2.2.2.1 F.2.2.2.2.1 F.2.2.2.2.2.2.1 mlk_L_142 hst_L_142 (dy := 37) LX_0 [] (rest := []) rfl rfl (by decide) (by decide) (by decide) dL_law_1076 (kX8_isLinearizable _ _ _ e1) hl.1 (fun H locs hP1 hP2 hS => ?_)
  refine lv_aload_n hx hb dL_law_1079 rfl (lv_at hl 2 rfl) ?_
  refine lw_call (L1 := LM) (L2 := LX) hx hb hml hown hts hP2 hP1 hS F.2.1 F.2.2.2.1 F.2.2.2.2.2.2.2.2 F.2.2.2.2.2.1 (fun i j hi hj q => F.2.2.2.2.2.2.1 j i hj hi q.symm) mlk_L_145 hst_L_145 (dy := 25) LM_0 [] (rest := [.int r]) rfl rfl (by decide) (by decide) (Nat.le_of_ble_eq_true rfl) dL_law_1080 (kX9_isLinearizable _ _ _ e2) hl.1 (fun H locs hP2 hP1 hS => ?_)
  refine lv_icmp_eq (tgt := 1425) hx hb dL_law_1083 (by decide) (fun _ => ?_) (fun h => absurd rfl h)
  exact hT sx1 sm1 hR1 H locs ls ⟨hP1, hP2, hS⟩ hl
set_option maxRecDepth 100000 in
theorem law_c32 (hsim : ax_Sims Rl) (C0 : lw_At p s m meth c b N xs) (F : lw_F s D adX caX adM caM) (hj : j + 5 ≤ N) (hL : N ≤ 2560) (hT : lw_T Rl p l e s m b below meth c D adX caX adM caM (nI j)) {stX stM : ax_S} (hR : Rl stX stM) {H : Heap} {locs : List Loc} {ls : Array Slot} (hG : lw_G s D adX caX adM caM H locs stX stM) (hl : lv_has ls 4 [(0, .ref b), (1, .ref (adX 0)), (2, .ref (adM 0)), (3, .int (nI j))]) : W p l e room_1 s m #[Value.ref b] below meth c H locs 600000 7302250 (lw_Z below #[Value.ref b] s) (F0 m 1088 ls []) := by
  obtain ⟨hx, hb, hr, hml, hown, hts, hX, hbl, hlocks, hgv⟩ := C0
  have hts := fun w h => hts w (wsL_law_in w h)
  have hbA : ¬ s.heap.size ≤ b := Nat.not_le.mpr hbl
  obtain ⟨hP1, hP2, hS⟩ := hG
  obtain ⟨r, sx1, sm1, e1, e2, hR1⟩ := hsim.2.2.2.2.2.2.2.2.2.2.2.2.2.2.2.2.2.2.2.2.2.2.2.2.2.2.2.2.2.2.2.2.1 (xs (nI j + 1).toNatClampNeg) stX stM hR
  refine lv_aload_n hx hb dL_law_1088 rfl (lv_at hl 1 rfl) ?_
  refine lv_aload_n hx hb dL_law_1089 rfl (lv_at hl 0 rfl) ?_
  refine lv_iload_n hx hb dL_law_1090 rfl (lv_at hl 3 rfl) ?_
  refine lv_iconst (v := 1) hx hb dL_law_1091 (by decide) ?_
  refine lv_iadd hx hb dL_law_1092 ?_
  refine va_sld hx hb hX hbl hbA hS (lw_in hj hL (k := 1) (by decide)) dL_law_1093 ?_
  refine lw_call (L1 := LX) (L2 := LM) hx hb hml hown hts hP1 hP2 hS F.1 F.2.2.1 F.2.2.2.2.2.2.2.1 F.2.2.2.2.1 F.2.2.2.2.2.2.1 mlk_L_146 hst_L_146 (dy := 36) LX_0 [.inl (xs (nI j + 1).toNatClampNeg)] (rest := []) rfl rfl (by decide) (by decide) (by decide) dL_law_1094 (kX8_isObjectLinearizable _ _ _ _ e1) hl.1 (fun H locs hP1 hP2 hS => ?_)
  refine lv_aload_n hx hb dL_law_1097 rfl (lv_at hl 2 rfl) ?_
  refine lv_aload_n hx hb dL_law_1098 rfl (lv_at hl 0 rfl) ?_
  refine lv_iload_n hx hb dL_law_1099 rfl (lv_at hl 3 rfl) ?_
  refine lv_iconst (v := 1) hx hb dL_law_1100 (by decide) ?_
  refine lv_iadd hx hb dL_law_1101 ?_
  refine va_sld hx hb hX hbl hbA hS (lw_in hj hL (k := 1) (by decide)) dL_law_1102 ?_
  refine lw_call (L1 := LM) (L2 := LX) hx hb hml hown hts hP2 hP1 hS F.2.1 F.2.2.2.1 F.2.2.2.2.2.2.2.2 F.2.2.2.2.2.1 (fun i j hi hj q => F.2.2.2.2.2.2.1 j i hj hi q.symm) mlk_L_149 hst_L_149 (dy := 24) LM_0 [.inl (xs (nI j + 1).toNatClampNeg)] (rest := [.int r]) rfl rfl (by decide) (by decide) (Nat.le_of_ble_eq_true rfl) dL_law_1103 (kX9_isObjectLinearizable _ _ _ _ e2) hl.1 (fun H locs hP2 hP1 hS => ?_)
  refine lv_icmp_eq (tgt := 1425) hx hb dL_law_1106 (by decide) (fun _ => ?_) (fun h => absurd rfl h)
  exact hT sx1 sm1 hR1 H locs ls ⟨hP1, hP2, hS⟩ hl
set_option maxRecDepth 100000 in
theorem law_c33 (hsim : ax_Sims Rl) (C0 : lw_At p s m meth c b N xs) (F : lw_F s D adX caX adM caM) (hj : j + 5 ≤ N) (hL : N ≤ 2560) (hT : lw_T Rl p l e s m b below meth c D adX caX adM caM (nI j)) {stX stM : ax_S} (hR : Rl stX stM) {H : Heap} {locs : List Loc} {ls : Array Slot} (hG : lw_G s D adX caX adM caM H locs stX stM) (hl : lv_has ls 4 [(0, .ref b), (1, .ref (adX 0)), (2, .ref (adM 0)), (3, .int (nI j))]) : W p l e room_1 s m #[Value.ref b] below meth c H locs 600000 7302250 (lw_Z below #[Value.ref b] s) (F0 m 1111 ls []) := by
  obtain ⟨hx, hb, hr, hml, hown, hts, hX, hbl, hlocks, hgv⟩ := C0
  have hts := fun w h => hts w (wsL_law_in w h)
  have hbA : ¬ s.heap.size ≤ b := Nat.not_le.mpr hbl
  obtain ⟨hP1, hP2, hS⟩ := hG
  obtain ⟨r, sx1, sm1, e1, e2, hR1⟩ := hsim.2.2.2.2.2.2.2.2.2.2.2.2.2.2.2.2.2.2.2.2.2.2.2.2.2.2.2.2.2.2.2.2.2.1  stX stM hR
  refine lv_aload_n hx hb dL_law_1111 rfl (lv_at hl 1 rfl) ?_
  refine lw_call (L1 := LX) (L2 := LM) hx hb hml hown hts hP1 hP2 hS F.1 F.2.2.1 F.2.2.2.2.2.2.2.1 F.2.2.2.2.1 F.2.2.2.2.2.2.1 mlk_L_150 hst_L_150 (dy := 36) LX_0 [] (rest := []) rfl rfl (by decide) (by decide) (by decide) dL_law_1112 (kX8_isSequentiallyConsistent _ _ _ e1) hl.1 (fun H locs hP1 hP2 hS => ?_)
  refine lv_aload_n hx hb dL_law_1115 rfl (lv_at hl 2 rfl) ?_
  refine lw_call (L1 := LM) (L2 := LX) hx hb hml hown hts hP2 hP1 hS F.2.1 F.2.2.2.1 F.2.2.2.2.2.2.2.2 F.2.2.2.2.2.1 (fun i j hi hj q => F.2.2.2.2.2.2.1 j i hj hi q.symm) mlk_L_153 hst_L_153 (dy := 24) LM_0 [] (rest := [.int r]) rfl rfl (by decide) (by decide) (Nat.le_of_ble_eq_true rfl) dL_law_1116 (kX9_isSequentiallyConsistent _ _ _ e2) hl.1 (fun H locs hP2 hP1 hS => ?_)
  refine lv_icmp_eq (tgt := 1425) hx hb dL_law_1119 (by decide) (fun _ => ?_) (fun h => absurd rfl h)
  exact hT sx1 sm1 hR1 H locs ls ⟨hP1, hP2, hS⟩ hl
set_option maxRecDepth 100000 in
theorem law_c34 (hsim : ax_Sims Rl) (C0 : lw_At p s m meth c b N xs) (F : lw_F s D adX caX adM caM) (hj : j + 5 ≤ N) (hL : N ≤ 2560) (hT : lw_T Rl p l e s m b below meth c D adX caX adM caM (nI j)) {stX stM : ax_S} (hR : Rl stX stM) {H : Heap} {locs : List Loc} {ls : Array Slot} (hG : lw_G s D adX caX adM caM H locs stX stM) (hl : lv_has ls 4 [(0, .ref b), (1, .ref (adX 0)), (2, .ref (adM 0)), (3, .int (nI j))]) : W p l e room_1 s m #[Value.ref b] below meth c H locs 600000 7302250 (lw_Z below #[Value.ref b] s) (F0 m 1124 ls []) := by
  obtain ⟨hx, hb, hr, hml, hown, hts, hX, hbl, hlocks, hgv⟩ := C0
  have hts := fun w h => hts w (wsL_law_in w h)
  have hbA : ¬ s.heap.size ≤ b := Nat.not_le.mpr hbl
  obtain ⟨hP1, hP2, hS⟩ := hG
  obtain ⟨r, sx1, sm1, e1, e2, hR1⟩ := hsim.2.2.2.2.2.2.2.2.2.2.2.2.2.2.2.2.2.2.2.2.2.2.2.2.2.2.2.2.2.2.2.2.2.2.1  stX stM hR
  refine lv_aload_n hx hb dL_law_1124 rfl (lv_at hl 1 rfl) ?_
  refine lw_call (L1 := LX) (L2 := LM) hx hb hml hown hts hP1 hP2 hS F.1 F.2.2.1 F.2.2.2.2.2.2.2.1 F.2.2.2.2.1 F.2.2.2.2.2.2.1 mlk_L_154 hst_L_154 (dy := 36) LX_0 [] (rest := []) rfl rfl (by decide) (by decide) (by decide) dL_law_1125 (kX8_countLinearizations _ _ _ e1) hl.1 (fun H locs hP1 hP2 hS => ?_)
  refine lv_aload_n hx hb dL_law_1128 rfl (lv_at hl 2 rfl) ?_
  refine lw_call (L1 := LM) (L2 := LX) hx hb hml hown hts hP2 hP1 hS F.2.1 F.2.2.2.1 F.2.2.2.2.2.2.2.2 F.2.2.2.2.2.1 (fun i j hi hj q => F.2.2.2.2.2.2.1 j i hj hi q.symm) mlk_L_157 hst_L_157 (dy := 24) LM_0 [] (rest := [.int r]) rfl rfl (by decide) (by decide) (Nat.le_of_ble_eq_true rfl) dL_law_1129 (kX9_countLinearizations _ _ _ e2) hl.1 (fun H locs hP2 hP1 hS => ?_)
  refine lv_icmp_eq (tgt := 1425) hx hb dL_law_1132 (by decide) (fun _ => ?_) (fun h => absurd rfl h)
  exact hT sx1 sm1 hR1 H locs ls ⟨hP1, hP2, hS⟩ hl
set_option maxRecDepth 100000 in
theorem law_c35 (hsim : ax_Sims Rl) (C0 : lw_At p s m meth c b N xs) (F : lw_F s D adX caX adM caM) (hj : j + 5 ≤ N) (hL : N ≤ 2560) (hT : lw_T Rl p l e s m b below meth c D adX caX adM caM (nI j)) {stX stM : ax_S} (hR : Rl stX stM) {H : Heap} {locs : List Loc} {ls : Array Slot} (hG : lw_G s D adX caX adM caM H locs stX stM) (hl : lv_has ls 4 [(0, .ref b), (1, .ref (adX 0)), (2, .ref (adM 0)), (3, .int (nI j))]) : W p l e room_1 s m #[Value.ref b] below meth c H locs 600000 7302250 (lw_Z below #[Value.ref b] s) (F0 m 1137 ls []) := by
  obtain ⟨hx, hb, hr, hml, hown, hts, hX, hbl, hlocks, hgv⟩ := C0
  have hts := fun w h => hts w (wsL_law_in w h)
  have hbA : ¬ s.heap.size ≤ b := Nat.not_le.mpr hbl
  obtain ⟨hP1, hP2, hS⟩ := hG
  obtain ⟨r, sx1, sm1, e1, e2, hR1⟩ := hsim.2.2.2.2.2.2.2.2.2.2.2.2.2.2.2.2.2.2.2.2.2.2.2.2.2.2.2.2.2.2.2.2.2.2.2.1  stX stM hR
  refine lv_aload_n hx hb dL_law_1137 rfl (lv_at hl 1 rfl) ?_
  refine lw_call (L1 := LX) (L2 := LM) hx hb hml hown hts hP1 hP2 hS F.1 F.2.2.1 F.2.2.2.2.2.2.2.1 F.2.2.2.2.1 F.2.2.2.2.2.2.1 mlk_L_158 hst_L_158 (dy := 36) LX_0 [] (rest := []) rfl rfl (by decide) (by decide) (by decide) dL_law_1138 (kX8_firstLinearizationLength _ _ _ e1) hl.1 (fun H locs hP1 hP2 hS => ?_)
  refine lv_aload_n hx hb dL_law_1141 rfl (lv_at hl 2 rfl) ?_
  refine lw_call (L1 := LM) (L2 := LX) hx hb hml hown hts hP2 hP1 hS F.2.1 F.2.2.2.1 F.2.2.2.2.2.2.2.2 F.2.2.2.2.2.1 (fun i j hi hj q => F.2.2.2.2.2.2.1 j i hj hi q.symm) mlk_L_161 hst_L_161 (dy := 25) LM_0 [] (rest := [.int r]) rfl rfl (by decide) (by decide) (Nat.le_of_ble_eq_true rfl) dL_law_1142 (kX9_firstLinearizationLength _ _ _ e2) hl.1 (fun H locs hP2 hP1 hS => ?_)
  refine lv_icmp_eq (tgt := 1425) hx hb dL_law_1145 (by decide) (fun _ => ?_) (fun h => absurd rfl h)
  exact hT sx1 sm1 hR1 H locs ls ⟨hP1, hP2, hS⟩ hl
set_option maxRecDepth 100000 in
theorem law_c36 (hsim : ax_Sims Rl) (C0 : lw_At p s m meth c b N xs) (F : lw_F s D adX caX adM caM) (hj : j + 5 ≤ N) (hL : N ≤ 2560) (hT : lw_T Rl p l e s m b below meth c D adX caX adM caM (nI j)) {stX stM : ax_S} (hR : Rl stX stM) {H : Heap} {locs : List Loc} {ls : Array Slot} (hG : lw_G s D adX caX adM caM H locs stX stM) (hl : lv_has ls 4 [(0, .ref b), (1, .ref (adX 0)), (2, .ref (adM 0)), (3, .int (nI j))]) : W p l e room_1 s m #[Value.ref b] below meth c H locs 600000 7302250 (lw_Z below #[Value.ref b] s) (F0 m 1150 ls []) := by
  obtain ⟨hx, hb, hr, hml, hown, hts, hX, hbl, hlocks, hgv⟩ := C0
  have hts := fun w h => hts w (wsL_law_in w h)
  have hbA : ¬ s.heap.size ≤ b := Nat.not_le.mpr hbl
  obtain ⟨hP1, hP2, hS⟩ := hG
  obtain ⟨r, sx1, sm1, e1, e2, hR1⟩ := hsim.2.2.2.2.2.2.2.2.2.2.2.2.2.2.2.2.2.2.2.2.2.2.2.2.2.2.2.2.2.2.2.2.2.2.2.2.1 (xs (nI j + 1).toNatClampNeg) stX stM hR
  refine lv_aload_n hx hb dL_law_1150 rfl (lv_at hl 1 rfl) ?_
  refine lv_aload_n hx hb dL_law_1151 rfl (lv_at hl 0 rfl) ?_
  refine lv_iload_n hx hb dL_law_1152 rfl (lv_at hl 3 rfl) ?_
  refine lv_iconst (v := 1) hx hb dL_law_1153 (by decide) ?_
  refine lv_iadd hx hb dL_law_1154 ?_
  refine va_sld hx hb hX hbl hbA hS (lw_in hj hL (k := 1) (by decide)) dL_law_1155 ?_
  refine lw_call (L1 := LX) (L2 := LM) hx hb hml hown hts hP1 hP2 hS F.1 F.2.2.1 F.2.2.2.2.2.2.2.1 F.2.2.2.2.1 F.2.2.2.2.2.2.1 mlk_L_162 hst_L_162 (dy := 36) LX_0 [.inl (xs (nI j + 1).toNatClampNeg)] (rest := []) rfl rfl (by decide) (by decide) (by decide) dL_law_1156 (kX8_firstLinearizationAt _ _ _ _ e1) hl.1 (fun H locs hP1 hP2 hS => ?_)
  refine lv_aload_n hx hb dL_law_1159 rfl (lv_at hl 2 rfl) ?_
  refine lv_aload_n hx hb dL_law_1160 rfl (lv_at hl 0 rfl) ?_
  refine lv_iload_n hx hb dL_law_1161 rfl (lv_at hl 3 rfl) ?_
  refine lv_iconst (v := 1) hx hb dL_law_1162 (by decide) ?_
  refine lv_iadd hx hb dL_law_1163 ?_
  refine va_sld hx hb hX hbl hbA hS (lw_in hj hL (k := 1) (by decide)) dL_law_1164 ?_
  refine lw_call (L1 := LM) (L2 := LX) hx hb hml hown hts hP2 hP1 hS F.2.1 F.2.2.2.1 F.2.2.2.2.2.2.2.2 F.2.2.2.2.2.1 (fun i j hi hj q => F.2.2.2.2.2.2.1 j i hj hi q.symm) mlk_L_165 hst_L_165 (dy := 25) LM_0 [.inl (xs (nI j + 1).toNatClampNeg)] (rest := [.int r]) rfl rfl (by decide) (by decide) (Nat.le_of_ble_eq_true rfl) dL_law_1165 (kX9_firstLinearizationAt _ _ _ _ e2) hl.1 (fun H locs hP2 hP1 hS => ?_)
  refine lv_icmp_eq (tgt := 1425) hx hb dL_law_1168 (by decide) (fun _ => ?_) (fun h => absurd rfl h)
  exact hT sx1 sm1 hR1 H locs ls ⟨hP1, hP2, hS⟩ hl
set_option maxRecDepth 100000 in
theorem law_c37 (hsim : ax_Sims Rl) (C0 : lw_At p s m meth c b N xs) (F : lw_F s D adX caX adM caM) (hj : j + 5 ≤ N) (hL : N ≤ 2560) (hT : lw_T Rl p l e s m b below meth c D adX caX adM caM (nI j)) {stX stM : ax_S} (hR : Rl stX stM) {H : Heap} {locs : List Loc} {ls : Array Slot} (hG : lw_G s D adX caX adM caM H locs stX stM) (hl : lv_has ls 4 [(0, .ref b), (1, .ref (adX 0)), (2, .ref (adM 0)), (3, .int (nI j))]) : W p l e room_1 s m #[Value.ref b] below meth c H locs 600000 7302250 (lw_Z below #[Value.ref b] s) (F0 m 1173 ls []) := by
  obtain ⟨hx, hb, hr, hml, hown, hts, hX, hbl, hlocks, hgv⟩ := C0
  have hts := fun w h => hts w (wsL_law_in w h)
  have hbA : ¬ s.heap.size ≤ b := Nat.not_le.mpr hbl
  obtain ⟨hP1, hP2, hS⟩ := hG
  obtain ⟨r, sx1, sm1, e1, e2, hR1⟩ := hsim.2.2.2.2.2.2.2.2.2.2.2.2.2.2.2.2.2.2.2.2.2.2.2.2.2.2.2.2.2.2.2.2.2.2.2.2.2.1  stX stM hR
  refine lv_aload_n hx hb dL_law_1173 rfl (lv_at hl 1 rfl) ?_
  refine lw_call (L1 := LX) (L2 := LM) hx hb hml hown hts hP1 hP2 hS F.1 F.2.2.1 F.2.2.2.2.2.2.2.1 F.2.2.2.2.1 F.2.2.2.2.2.2.1 mlk_L_166 hst_L_166 (dy := 37) LX_0 [] (rest := []) rfl rfl (by decide) (by decide) (by decide) dL_law_1174 (kX8_firstViolation _ _ _ e1) hl.1 (fun H locs hP1 hP2 hS => ?_)
  refine lv_aload_n hx hb dL_law_1177 rfl (lv_at hl 2 rfl) ?_
  refine lw_call (L1 := LM) (L2 := LX) hx hb hml hown hts hP2 hP1 hS F.2.1 F.2.2.2.1 F.2.2.2.2.2.2.2.2 F.2.2.2.2.2.1 (fun i j hi hj q => F.2.2.2.2.2.2.1 j i hj hi q.symm) mlk_L_169 hst_L_169 (dy := 25) LM_0 [] (rest := [.int r]) rfl rfl (by decide) (by decide) (Nat.le_of_ble_eq_true rfl) dL_law_1178 (kX9_firstViolation _ _ _ e2) hl.1 (fun H locs hP2 hP1 hS => ?_)
  refine lv_icmp_eq (tgt := 1425) hx hb dL_law_1181 (by decide) (fun _ => ?_) (fun h => absurd rfl h)
  exact hT sx1 sm1 hR1 H locs ls ⟨hP1, hP2, hS⟩ hl
set_option maxRecDepth 100000 in
theorem law_c38 (hsim : ax_Sims Rl) (C0 : lw_At p s m meth c b N xs) (F : lw_F s D adX caX adM caM) (hj : j + 5 ≤ N) (hL : N ≤ 2560) (hT : lw_T Rl p l e s m b below meth c D adX caX adM caM (nI j)) {stX stM : ax_S} (hR : Rl stX stM) {H : Heap} {locs : List Loc} {ls : Array Slot} (hG : lw_G s D adX caX adM caM H locs stX stM) (hl : lv_has ls 4 [(0, .ref b), (1, .ref (adX 0)), (2, .ref (adM 0)), (3, .int (nI j))]) : W p l e room_1 s m #[Value.ref b] below meth c H locs 600000 7302250 (lw_Z below #[Value.ref b] s) (F0 m 1186 ls []) := by
  obtain ⟨hx, hb, hr, hml, hown, hts, hX, hbl, hlocks, hgv⟩ := C0
  have hts := fun w h => hts w (wsL_law_in w h)
  have hbA : ¬ s.heap.size ≤ b := Nat.not_le.mpr hbl
  obtain ⟨hP1, hP2, hS⟩ := hG
  obtain ⟨r, sx1, sm1, e1, e2, hR1⟩ := hsim.2.2.2.2.2.2.2.2.2.2.2.2.2.2.2.2.2.2.2.2.2.2.2.2.2.2.2.2.2.2.2.2.2.2.2.2.2.2.1 (xs (nI j + 1).toNatClampNeg) (xs (nI j + 2).toNatClampNeg) stX stM hR
  refine lv_aload_n hx hb dL_law_1186 rfl (lv_at hl 1 rfl) ?_
  refine lv_aload_n hx hb dL_law_1187 rfl (lv_at hl 0 rfl) ?_
  refine lv_iload_n hx hb dL_law_1188 rfl (lv_at hl 3 rfl) ?_
  refine lv_iconst (v := 1) hx hb dL_law_1189 (by decide) ?_
  refine lv_iadd hx hb dL_law_1190 ?_
  refine va_sld hx hb hX hbl hbA hS (lw_in hj hL (k := 1) (by decide)) dL_law_1191 ?_
  refine lv_aload_n hx hb dL_law_1192 rfl (lv_at hl 0 rfl) ?_
  refine lv_iload_n hx hb dL_law_1193 rfl (lv_at hl 3 rfl) ?_
  refine lv_iconst (v := 2) hx hb dL_law_1194 (by decide) ?_
  refine lv_iadd hx hb dL_law_1195 ?_
  refine va_sld hx hb hX hbl hbA hS (lw_in hj hL (k := 2) (by decide)) dL_law_1196 ?_
  refine lw_call (L1 := LX) (L2 := LM) hx hb hml hown hts hP1 hP2 hS F.1 F.2.2.1 F.2.2.2.2.2.2.2.1 F.2.2.2.2.1 F.2.2.2.2.2.2.1 mlk_L_170 hst_L_170 (dy := 36) LX_0 [.inl (xs (nI j + 1).toNatClampNeg), .inl (xs (nI j + 2).toNatClampNeg)] (rest := []) rfl rfl (by decide) (by decide) (by decide) dL_law_1197 (kX8_canRespond _ _ _ _ _ e1) hl.1 (fun H locs hP1 hP2 hS => ?_)
  refine lv_aload_n hx hb dL_law_1200 rfl (lv_at hl 2 rfl) ?_
  refine lv_aload_n hx hb dL_law_1201 rfl (lv_at hl 0 rfl) ?_
  refine lv_iload_n hx hb dL_law_1202 rfl (lv_at hl 3 rfl) ?_
  refine lv_iconst (v := 1) hx hb dL_law_1203 (by decide) ?_
  refine lv_iadd hx hb dL_law_1204 ?_
  refine va_sld hx hb hX hbl hbA hS (lw_in hj hL (k := 1) (by decide)) dL_law_1205 ?_
  refine lv_aload_n hx hb dL_law_1206 rfl (lv_at hl 0 rfl) ?_
  refine lv_iload_n hx hb dL_law_1207 rfl (lv_at hl 3 rfl) ?_
  refine lv_iconst (v := 2) hx hb dL_law_1208 (by decide) ?_
  refine lv_iadd hx hb dL_law_1209 ?_
  refine va_sld hx hb hX hbl hbA hS (lw_in hj hL (k := 2) (by decide)) dL_law_1210 ?_
  refine lw_call (L1 := LM) (L2 := LX) hx hb hml hown hts hP2 hP1 hS F.2.1 F.2.2.2.1 F.2.2.2.2.2.2.2.2 F.2.2.2.2.2.1 (fun i j hi hj q => F.2.2.2.2.2.2.1 j i hj hi q.symm) mlk_L_173 hst_L_173 (dy := 24) LM_0 [.inl (xs (nI j + 1).toNatClampNeg), .inl (xs (nI j + 2).toNatClampNeg)] (rest := [.int r]) rfl rfl (by decide) (by decide) (Nat.le_of_ble_eq_true rfl) dL_law_1211 (kX9_canRespond _ _ _ _ _ e2) hl.1 (fun H locs hP2 hP1 hS => ?_)
  refine lv_icmp_eq (tgt := 1425) hx hb dL_law_1214 (by decide) (fun _ => ?_) (fun h => absurd rfl h)
  exact hT sx1 sm1 hR1 H locs ls ⟨hP1, hP2, hS⟩ hl
set_option maxRecDepth 100000 in
theorem law_c39 (hsim : ax_Sims Rl) (C0 : lw_At p s m meth c b N xs) (F : lw_F s D adX caX adM caM) (hj : j + 5 ≤ N) (hL : N ≤ 2560) (hT : lw_T Rl p l e s m b below meth c D adX caX adM caM (nI j)) {stX stM : ax_S} (hR : Rl stX stM) {H : Heap} {locs : List Loc} {ls : Array Slot} (hG : lw_G s D adX caX adM caM H locs stX stM) (hl : lv_has ls 4 [(0, .ref b), (1, .ref (adX 0)), (2, .ref (adM 0)), (3, .int (nI j))]) : W p l e room_1 s m #[Value.ref b] below meth c H locs 600000 7302250 (lw_Z below #[Value.ref b] s) (F0 m 1219 ls []) := by
  obtain ⟨hx, hb, hr, hml, hown, hts, hX, hbl, hlocks, hgv⟩ := C0
  have hts := fun w h => hts w (wsL_law_in w h)
  have hbA : ¬ s.heap.size ≤ b := Nat.not_le.mpr hbl
  obtain ⟨hP1, hP2, hS⟩ := hG
  obtain ⟨r, sx1, sm1, e1, e2, hR1⟩ := hsim.2.2.2.2.2.2.2.2.2.2.2.2.2.2.2.2.2.2.2.2.2.2.2.2.2.2.2.2.2.2.2.2.2.2.2.2.2.2.2.1 (xs (nI j + 1).toNatClampNeg) stX stM hR
  refine lv_aload_n hx hb dL_law_1219 rfl (lv_at hl 1 rfl) ?_
  refine lv_aload_n hx hb dL_law_1220 rfl (lv_at hl 0 rfl) ?_
  refine lv_iload_n hx hb dL_law_1221 rfl (lv_at hl 3 rfl) ?_
  refine lv_iconst (v := 1) hx hb dL_law_1222 (by decide) ?_
  refine lv_iadd hx hb dL_law_1223 ?_
  refine va_sld hx hb hX hbl hbA hS (lw_in hj hL (k := 1) (by decide)) dL_law_1224 ?_
  refine lw_call (L1 := LX) (L2 := LM) hx hb hml hown hts hP1 hP2 hS F.1 F.2.2.1 F.2.2.2.2.2.2.2.1 F.2.2.2.2.1 F.2.2.2.2.2.2.1 mlk_L_174 hst_L_174 (dy := 37) LX_0 [.inl (xs (nI j + 1).toNatClampNeg)] (rest := []) rfl rfl (by decide) (by decide) (by decide) dL_law_1225 (kX8_countResponses _ _ _ _ e1) hl.1 (fun H locs hP1 hP2 hS => ?_)
  refine lv_aload_n hx hb dL_law_1228 rfl (lv_at hl 2 rfl) ?_
  refine lv_aload_n hx hb dL_law_1229 rfl (lv_at hl 0 rfl) ?_
  refine lv_iload_n hx hb dL_law_1230 rfl (lv_at hl 3 rfl) ?_
  refine lv_iconst (v := 1) hx hb dL_law_1231 (by decide) ?_
  refine lv_iadd hx hb dL_law_1232 ?_
  refine va_sld hx hb hX hbl hbA hS (lw_in hj hL (k := 1) (by decide)) dL_law_1233 ?_
  refine lw_call (L1 := LM) (L2 := LX) hx hb hml hown hts hP2 hP1 hS F.2.1 F.2.2.2.1 F.2.2.2.2.2.2.2.2 F.2.2.2.2.2.1 (fun i j hi hj q => F.2.2.2.2.2.2.1 j i hj hi q.symm) mlk_L_177 hst_L_177 (dy := 24) LM_0 [.inl (xs (nI j + 1).toNatClampNeg)] (rest := [.int r]) rfl rfl (by decide) (by decide) (Nat.le_of_ble_eq_true rfl) dL_law_1234 (kX9_countResponses _ _ _ _ e2) hl.1 (fun H locs hP2 hP1 hS => ?_)
  refine lv_icmp_eq (tgt := 1425) hx hb dL_law_1237 (by decide) (fun _ => ?_) (fun h => absurd rfl h)
  exact hT sx1 sm1 hR1 H locs ls ⟨hP1, hP2, hS⟩ hl
set_option maxRecDepth 100000 in
theorem law_c40 (hsim : ax_Sims Rl) (C0 : lw_At p s m meth c b N xs) (F : lw_F s D adX caX adM caM) (hj : j + 5 ≤ N) (hL : N ≤ 2560) (hT : lw_T Rl p l e s m b below meth c D adX caX adM caM (nI j)) {stX stM : ax_S} (hR : Rl stX stM) {H : Heap} {locs : List Loc} {ls : Array Slot} (hG : lw_G s D adX caX adM caM H locs stX stM) (hl : lv_has ls 4 [(0, .ref b), (1, .ref (adX 0)), (2, .ref (adM 0)), (3, .int (nI j))]) : W p l e room_1 s m #[Value.ref b] below meth c H locs 600000 7302250 (lw_Z below #[Value.ref b] s) (F0 m 1242 ls []) := by
  obtain ⟨hx, hb, hr, hml, hown, hts, hX, hbl, hlocks, hgv⟩ := C0
  have hts := fun w h => hts w (wsL_law_in w h)
  have hbA : ¬ s.heap.size ≤ b := Nat.not_le.mpr hbl
  obtain ⟨hP1, hP2, hS⟩ := hG
  obtain ⟨r, sx1, sm1, e1, e2, hR1⟩ := hsim.2.2.2.2.2.2.2.2.2.2.2.2.2.2.2.2.2.2.2.2.2.2.2.2.2.2.2.2.2.2.2.2.2.2.2.2.2.2.2.2.1 (xs (nI j + 1).toNatClampNeg) stX stM hR
  refine lv_aload_n hx hb dL_law_1242 rfl (lv_at hl 1 rfl) ?_
  refine lv_aload_n hx hb dL_law_1243 rfl (lv_at hl 0 rfl) ?_
  refine lv_iload_n hx hb dL_law_1244 rfl (lv_at hl 3 rfl) ?_
  refine lv_iconst (v := 1) hx hb dL_law_1245 (by decide) ?_
  refine lv_iadd hx hb dL_law_1246 ?_
  refine va_sld hx hb hX hbl hbA hS (lw_in hj hL (k := 1) (by decide)) dL_law_1247 ?_
  refine lw_call (L1 := LX) (L2 := LM) hx hb hml hown hts hP1 hP2 hS F.1 F.2.2.1 F.2.2.2.2.2.2.2.1 F.2.2.2.2.1 F.2.2.2.2.2.2.1 mlk_L_178 hst_L_178 (dy := 3) LX_0 [.inl (xs (nI j + 1).toNatClampNeg)] (rest := []) rfl rfl (by decide) (by decide) (by decide) dL_law_1248 (kX8_appendToOrder _ _ _ _ e1) hl.1 (fun H locs hP1 hP2 hS => ?_)
  refine lv_aload_n hx hb dL_law_1251 rfl (lv_at hl 2 rfl) ?_
  refine lv_aload_n hx hb dL_law_1252 rfl (lv_at hl 0 rfl) ?_
  refine lv_iload_n hx hb dL_law_1253 rfl (lv_at hl 3 rfl) ?_
  refine lv_iconst (v := 1) hx hb dL_law_1254 (by decide) ?_
  refine lv_iadd hx hb dL_law_1255 ?_
  refine va_sld hx hb hX hbl hbA hS (lw_in hj hL (k := 1) (by decide)) dL_law_1256 ?_
  refine lw_call (L1 := LM) (L2 := LX) hx hb hml hown hts hP2 hP1 hS F.2.1 F.2.2.2.1 F.2.2.2.2.2.2.2.2 F.2.2.2.2.2.1 (fun i j hi hj q => F.2.2.2.2.2.2.1 j i hj hi q.symm) mlk_L_181 hst_L_181 (dy := 3) LM_0 [.inl (xs (nI j + 1).toNatClampNeg)] (rest := [.int r]) rfl rfl (by decide) (by decide) (Nat.le_of_ble_eq_true rfl) dL_law_1257 (kX9_appendToOrder _ _ _ _ e2) hl.1 (fun H locs hP2 hP1 hS => ?_)
  refine lv_icmp_eq (tgt := 1425) hx hb dL_law_1260 (by decide) (fun _ => ?_) (fun h => absurd rfl h)
  exact hT sx1 sm1 hR1 H locs ls ⟨hP1, hP2, hS⟩ hl
set_option maxRecDepth 100000 in
theorem law_c41 (hsim : ax_Sims Rl) (C0 : lw_At p s m meth c b N xs) (F : lw_F s D adX caX adM caM) (hj : j + 5 ≤ N) (hL : N ≤ 2560) (hT : lw_T Rl p l e s m b below meth c D adX caX adM caM (nI j)) {stX stM : ax_S} (hR : Rl stX stM) {H : Heap} {locs : List Loc} {ls : Array Slot} (hG : lw_G s D adX caX adM caM H locs stX stM) (hl : lv_has ls 4 [(0, .ref b), (1, .ref (adX 0)), (2, .ref (adM 0)), (3, .int (nI j))]) : W p l e room_1 s m #[Value.ref b] below meth c H locs 600000 7302250 (lw_Z below #[Value.ref b] s) (F0 m 1265 ls []) := by
  obtain ⟨hx, hb, hr, hml, hown, hts, hX, hbl, hlocks, hgv⟩ := C0
  have hts := fun w h => hts w (wsL_law_in w h)
  have hbA : ¬ s.heap.size ≤ b := Nat.not_le.mpr hbl
  obtain ⟨hP1, hP2, hS⟩ := hG
  obtain ⟨r, sx1, sm1, e1, e2, hR1⟩ := hsim.2.2.2.2.2.2.2.2.2.2.2.2.2.2.2.2.2.2.2.2.2.2.2.2.2.2.2.2.2.2.2.2.2.2.2.2.2.2.2.2.2.1 (xs (nI j + 1).toNatClampNeg) stX stM hR
  refine lv_aload_n hx hb dL_law_1265 rfl (lv_at hl 1 rfl) ?_
  refine lv_aload_n hx hb dL_law_1266 rfl (lv_at hl 0 rfl) ?_
  refine lv_iload_n hx hb dL_law_1267 rfl (lv_at hl 3 rfl) ?_
  refine lv_iconst (v := 1) hx hb dL_law_1268 (by decide) ?_
  refine lv_iadd hx hb dL_law_1269 ?_
  refine va_sld hx hb hX hbl hbA hS (lw_in hj hL (k := 1) (by decide)) dL_law_1270 ?_
  refine lw_call (L1 := LX) (L2 := LM) hx hb hml hown hts hP1 hP2 hS F.1 F.2.2.1 F.2.2.2.2.2.2.2.1 F.2.2.2.2.1 F.2.2.2.2.2.2.1 mlk_L_182 hst_L_182 (dy := 3) LX_0 [.inl (xs (nI j + 1).toNatClampNeg)] (rest := []) rfl rfl (by decide) (by decide) (by decide) dL_law_1271 (kX8_removeFromOrder _ _ _ _ e1) hl.1 (fun H locs hP1 hP2 hS => ?_)
  refine lv_aload_n hx hb dL_law_1274 rfl (lv_at hl 2 rfl) ?_
  refine lv_aload_n hx hb dL_law_1275 rfl (lv_at hl 0 rfl) ?_
  refine lv_iload_n hx hb dL_law_1276 rfl (lv_at hl 3 rfl) ?_
  refine lv_iconst (v := 1) hx hb dL_law_1277 (by decide) ?_
  refine lv_iadd hx hb dL_law_1278 ?_
  refine va_sld hx hb hX hbl hbA hS (lw_in hj hL (k := 1) (by decide)) dL_law_1279 ?_
  refine lw_call (L1 := LM) (L2 := LX) hx hb hml hown hts hP2 hP1 hS F.2.1 F.2.2.2.1 F.2.2.2.2.2.2.2.2 F.2.2.2.2.2.1 (fun i j hi hj q => F.2.2.2.2.2.2.1 j i hj hi q.symm) mlk_L_185 hst_L_185 (dy := 3) LM_0 [.inl (xs (nI j + 1).toNatClampNeg)] (rest := [.int r]) rfl rfl (by decide) (by decide) (Nat.le_of_ble_eq_true rfl) dL_law_1280 (kX9_removeFromOrder _ _ _ _ e2) hl.1 (fun H locs hP2 hP1 hS => ?_)
  refine lv_icmp_eq (tgt := 1425) hx hb dL_law_1283 (by decide) (fun _ => ?_) (fun h => absurd rfl h)
  exact hT sx1 sm1 hR1 H locs ls ⟨hP1, hP2, hS⟩ hl
set_option maxRecDepth 100000 in
theorem law_c42 (hsim : ax_Sims Rl) (C0 : lw_At p s m meth c b N xs) (F : lw_F s D adX caX adM caM) (hj : j + 5 ≤ N) (hL : N ≤ 2560) (hT : lw_T Rl p l e s m b below meth c D adX caX adM caM (nI j)) {stX stM : ax_S} (hR : Rl stX stM) {H : Heap} {locs : List Loc} {ls : Array Slot} (hG : lw_G s D adX caX adM caM H locs stX stM) (hl : lv_has ls 4 [(0, .ref b), (1, .ref (adX 0)), (2, .ref (adM 0)), (3, .int (nI j))]) : W p l e room_1 s m #[Value.ref b] below meth c H locs 600000 7302250 (lw_Z below #[Value.ref b] s) (F0 m 1288 ls []) := by
  obtain ⟨hx, hb, hr, hml, hown, hts, hX, hbl, hlocks, hgv⟩ := C0
  have hts := fun w h => hts w (wsL_law_in w h)
  have hbA : ¬ s.heap.size ≤ b := Nat.not_le.mpr hbl
  obtain ⟨hP1, hP2, hS⟩ := hG
  obtain ⟨r, sx1, sm1, e1, e2, hR1⟩ := hsim.2.2.2.2.2.2.2.2.2.2.2.2.2.2.2.2.2.2.2.2.2.2.2.2.2.2.2.2.2.2.2.2.2.2.2.2.2.2.2.2.2.2.1  stX stM hR
  refine lv_aload_n hx hb dL_law_1288 rfl (lv_at hl 1 rfl) ?_
  refine lw_call (L1 := LX) (L2 := LM) hx hb hml hown hts hP1 hP2 hS F.1 F.2.2.1 F.2.2.2.2.2.2.2.1 F.2.2.2.2.1 F.2.2.2.2.2.2.1 mlk_L_186 hst_L_186 (dy := 1) LX_0 [] (rest := []) rfl rfl (by decide) (by decide) (by decide) dL_law_1289 (kX8_orderSize _ _ _ e1) hl.1 (fun H locs hP1 hP2 hS => ?_)
  refine lv_aload_n hx hb dL_law_1292 rfl (lv_at hl 2 rfl) ?_
  refine lw_call (L1 := LM) (L2 := LX) hx hb hml hown hts hP2 hP1 hS F.2.1 F.2.2.2.1 F.2.2.2.2.2.2.2.2 F.2.2.2.2.2.1 (fun i j hi hj q => F.2.2.2.2.2.2.1 j i hj hi q.symm) mlk_L_189 hst_L_189 (dy := 1) LM_0 [] (rest := [.int r]) rfl rfl (by decide) (by decide) (Nat.le_of_ble_eq_true rfl) dL_law_1293 (kX9_orderSize _ _ _ e2) hl.1 (fun H locs hP2 hP1 hS => ?_)
  refine lv_icmp_eq (tgt := 1425) hx hb dL_law_1296 (by decide) (fun _ => ?_) (fun h => absurd rfl h)
  exact hT sx1 sm1 hR1 H locs ls ⟨hP1, hP2, hS⟩ hl
set_option maxRecDepth 100000 in
theorem law_c43 (hsim : ax_Sims Rl) (C0 : lw_At p s m meth c b N xs) (F : lw_F s D adX caX adM caM) (hj : j + 5 ≤ N) (hL : N ≤ 2560) (hT : lw_T Rl p l e s m b below meth c D adX caX adM caM (nI j)) {stX stM : ax_S} (hR : Rl stX stM) {H : Heap} {locs : List Loc} {ls : Array Slot} (hG : lw_G s D adX caX adM caM H locs stX stM) (hl : lv_has ls 4 [(0, .ref b), (1, .ref (adX 0)), (2, .ref (adM 0)), (3, .int (nI j))]) : W p l e room_1 s m #[Value.ref b] below meth c H locs 600000 7302250 (lw_Z below #[Value.ref b] s) (F0 m 1301 ls []) := by
  obtain ⟨hx, hb, hr, hml, hown, hts, hX, hbl, hlocks, hgv⟩ := C0
  have hts := fun w h => hts w (wsL_law_in w h)
  have hbA : ¬ s.heap.size ≤ b := Nat.not_le.mpr hbl
  obtain ⟨hP1, hP2, hS⟩ := hG
  obtain ⟨r, sx1, sm1, e1, e2, hR1⟩ := hsim.2.2.2.2.2.2.2.2.2.2.2.2.2.2.2.2.2.2.2.2.2.2.2.2.2.2.2.2.2.2.2.2.2.2.2.2.2.2.2.2.2.2.2.1 (xs (nI j + 1).toNatClampNeg) stX stM hR
  refine lv_aload_n hx hb dL_law_1301 rfl (lv_at hl 1 rfl) ?_
  refine lv_aload_n hx hb dL_law_1302 rfl (lv_at hl 0 rfl) ?_
  refine lv_iload_n hx hb dL_law_1303 rfl (lv_at hl 3 rfl) ?_
  refine lv_iconst (v := 1) hx hb dL_law_1304 (by decide) ?_
  refine lv_iadd hx hb dL_law_1305 ?_
  refine va_sld hx hb hX hbl hbA hS (lw_in hj hL (k := 1) (by decide)) dL_law_1306 ?_
  refine lw_call (L1 := LX) (L2 := LM) hx hb hml hown hts hP1 hP2 hS F.1 F.2.2.1 F.2.2.2.2.2.2.2.1 F.2.2.2.2.1 F.2.2.2.2.2.2.1 mlk_L_190 hst_L_190 (dy := 2) LX_0 [.inl (xs (nI j + 1).toNatClampNeg)] (rest := []) rfl rfl (by decide) (by decide) (by decide) dL_law_1307 (kX8_orderAt _ _ _ _ e1) hl.1 (fun H locs hP1 hP2 hS => ?_)
  refine lv_aload_n hx hb dL_law_1310 rfl (lv_at hl 2 rfl) ?_
  refine lv_aload_n hx hb dL_law_1311 rfl (lv_at hl 0 rfl) ?_
  refine lv_iload_n hx hb dL_law_1312 rfl (lv_at hl 3 rfl) ?_
  refine lv_iconst (v := 1) hx hb dL_law_1313 (by decide) ?_
  refine lv_iadd hx hb dL_law_1314 ?_
  refine va_sld hx hb hX hbl hbA hS (lw_in hj hL (k := 1) (by decide)) dL_law_1315 ?_
  refine lw_call (L1 := LM) (L2 := LX) hx hb hml hown hts hP2 hP1 hS F.2.1 F.2.2.2.1 F.2.2.2.2.2.2.2.2 F.2.2.2.2.2.1 (fun i j hi hj q => F.2.2.2.2.2.2.1 j i hj hi q.symm) mlk_L_193 hst_L_193 (dy := 2) LM_0 [.inl (xs (nI j + 1).toNatClampNeg)] (rest := [.int r]) rfl rfl (by decide) (by decide) (Nat.le_of_ble_eq_true rfl) dL_law_1316 (kX9_orderAt _ _ _ _ e2) hl.1 (fun H locs hP2 hP1 hS => ?_)
  refine lv_icmp_eq (tgt := 1425) hx hb dL_law_1319 (by decide) (fun _ => ?_) (fun h => absurd rfl h)
  exact hT sx1 sm1 hR1 H locs ls ⟨hP1, hP2, hS⟩ hl
set_option maxRecDepth 100000 in
theorem law_c44 (hsim : ax_Sims Rl) (C0 : lw_At p s m meth c b N xs) (F : lw_F s D adX caX adM caM) (hj : j + 5 ≤ N) (hL : N ≤ 2560) (hT : lw_T Rl p l e s m b below meth c D adX caX adM caM (nI j)) {stX stM : ax_S} (hR : Rl stX stM) {H : Heap} {locs : List Loc} {ls : Array Slot} (hG : lw_G s D adX caX adM caM H locs stX stM) (hl : lv_has ls 4 [(0, .ref b), (1, .ref (adX 0)), (2, .ref (adM 0)), (3, .int (nI j))]) : W p l e room_1 s m #[Value.ref b] below meth c H locs 600000 7302250 (lw_Z below #[Value.ref b] s) (F0 m 1324 ls []) := by
  obtain ⟨hx, hb, hr, hml, hown, hts, hX, hbl, hlocks, hgv⟩ := C0
  have hts := fun w h => hts w (wsL_law_in w h)
  have hbA : ¬ s.heap.size ≤ b := Nat.not_le.mpr hbl
  obtain ⟨hP1, hP2, hS⟩ := hG
  obtain ⟨r, sx1, sm1, e1, e2, hR1⟩ := hsim.2.2.2.2.2.2.2.2.2.2.2.2.2.2.2.2.2.2.2.2.2.2.2.2.2.2.2.2.2.2.2.2.2.2.2.2.2.2.2.2.2.2.2.2.1  stX stM hR
  refine lv_aload_n hx hb dL_law_1324 rfl (lv_at hl 1 rfl) ?_
  refine lw_call (L1 := LX) (L2 := LM) hx hb hml hown hts hP1 hP2 hS F.1 F.2.2.1 F.2.2.2.2.2.2.2.1 F.2.2.2.2.1 F.2.2.2.2.2.2.1 mlk_L_194 hst_L_194 (dy := 6) LX_0 [] (rest := []) rfl rfl (by decide) (by decide) (by decide) dL_law_1325 (kX8_isOrderLinearization _ _ _ e1) hl.1 (fun H locs hP1 hP2 hS => ?_)
  refine lv_aload_n hx hb dL_law_1328 rfl (lv_at hl 2 rfl) ?_
  refine lw_call (L1 := LM) (L2 := LX) hx hb hml hown hts hP2 hP1 hS F.2.1 F.2.2.2.1 F.2.2.2.2.2.2.2.2 F.2.2.2.2.2.1 (fun i j hi hj q => F.2.2.2.2.2.2.1 j i hj hi q.symm) mlk_L_197 hst_L_197 (dy := 3) LM_0 [] (rest := [.int r]) rfl rfl (by decide) (by decide) (Nat.le_of_ble_eq_true rfl) dL_law_1329 (kX9_isOrderLinearization _ _ _ e2) hl.1 (fun H locs hP2 hP1 hS => ?_)
  refine lv_icmp_eq (tgt := 1425) hx hb dL_law_1332 (by decide) (fun _ => ?_) (fun h => absurd rfl h)
  exact hT sx1 sm1 hR1 H locs ls ⟨hP1, hP2, hS⟩ hl
set_option maxRecDepth 100000 in
theorem law_c45 (hsim : ax_Sims Rl) (C0 : lw_At p s m meth c b N xs) (F : lw_F s D adX caX adM caM) (hj : j + 5 ≤ N) (hL : N ≤ 2560) (hT : lw_T Rl p l e s m b below meth c D adX caX adM caM (nI j)) {stX stM : ax_S} (hR : Rl stX stM) {H : Heap} {locs : List Loc} {ls : Array Slot} (hG : lw_G s D adX caX adM caM H locs stX stM) (hl : lv_has ls 4 [(0, .ref b), (1, .ref (adX 0)), (2, .ref (adM 0)), (3, .int (nI j))]) : W p l e room_1 s m #[Value.ref b] below meth c H locs 600000 7302250 (lw_Z below #[Value.ref b] s) (F0 m 1337 ls []) := by
  obtain ⟨hx, hb, hr, hml, hown, hts, hX, hbl, hlocks, hgv⟩ := C0
  have hts := fun w h => hts w (wsL_law_in w h)
  have hbA : ¬ s.heap.size ≤ b := Nat.not_le.mpr hbl
  obtain ⟨hP1, hP2, hS⟩ := hG
  obtain ⟨r, sx1, sm1, e1, e2, hR1⟩ := hsim.2.2.2.2.2.2.2.2.2.2.2.2.2.2.2.2.2.2.2.2.2.2.2.2.2.2.2.2.2.2.2.2.2.2.2.2.2.2.2.2.2.2.2.2.2.1  stX stM hR
  refine lv_aload_n hx hb dL_law_1337 rfl (lv_at hl 1 rfl) ?_
  refine lw_call (L1 := LX) (L2 := LM) hx hb hml hown hts hP1 hP2 hS F.1 F.2.2.1 F.2.2.2.2.2.2.2.1 F.2.2.2.2.1 F.2.2.2.2.2.2.1 mlk_L_198 hst_L_198 (dy := 6) LX_0 [] (rest := []) rfl rfl (by decide) (by decide) (by decide) dL_law_1338 (kX8_firstBadPosition _ _ _ e1) hl.1 (fun H locs hP1 hP2 hS => ?_)
  refine lv_aload_n hx hb dL_law_1341 rfl (lv_at hl 2 rfl) ?_
  refine lw_call (L1 := LM) (L2 := LX) hx hb hml hown hts hP2 hP1 hS F.2.1 F.2.2.2.1 F.2.2.2.2.2.2.2.2 F.2.2.2.2.2.1 (fun i j hi hj q => F.2.2.2.2.2.2.1 j i hj hi q.symm) mlk_L_201 hst_L_201 (dy := 2) LM_0 [] (rest := [.int r]) rfl rfl (by decide) (by decide) (Nat.le_of_ble_eq_true rfl) dL_law_1342 (kX9_firstBadPosition _ _ _ e2) hl.1 (fun H locs hP2 hP1 hS => ?_)
  refine lv_icmp_eq (tgt := 1425) hx hb dL_law_1345 (by decide) (fun _ => ?_) (fun h => absurd rfl h)
  exact hT sx1 sm1 hR1 H locs ls ⟨hP1, hP2, hS⟩ hl
set_option maxRecDepth 100000 in
theorem law_c46 (hsim : ax_Sims Rl) (C0 : lw_At p s m meth c b N xs) (F : lw_F s D adX caX adM caM) (hj : j + 5 ≤ N) (hL : N ≤ 2560) (hT : lw_T Rl p l e s m b below meth c D adX caX adM caM (nI j)) {stX stM : ax_S} (hR : Rl stX stM) {H : Heap} {locs : List Loc} {ls : Array Slot} (hG : lw_G s D adX caX adM caM H locs stX stM) (hl : lv_has ls 4 [(0, .ref b), (1, .ref (adX 0)), (2, .ref (adM 0)), (3, .int (nI j))]) : W p l e room_1 s m #[Value.ref b] below meth c H locs 600000 7302250 (lw_Z below #[Value.ref b] s) (F0 m 1350 ls []) := by
  obtain ⟨hx, hb, hr, hml, hown, hts, hX, hbl, hlocks, hgv⟩ := C0
  have hts := fun w h => hts w (wsL_law_in w h)
  have hbA : ¬ s.heap.size ≤ b := Nat.not_le.mpr hbl
  obtain ⟨hP1, hP2, hS⟩ := hG
  obtain ⟨r, sx1, sm1, e1, e2, hR1⟩ := hsim.2.2.2.2.2.2.2.2.2.2.2.2.2.2.2.2.2.2.2.2.2.2.2.2.2.2.2.2.2.2.2.2.2.2.2.2.2.2.2.2.2.2.2.2.2.2.1 (xs (nI j + 1).toNatClampNeg) stX stM hR
  refine lv_aload_n hx hb dL_law_1350 rfl (lv_at hl 1 rfl) ?_
  refine lv_aload_n hx hb dL_law_1351 rfl (lv_at hl 0 rfl) ?_
  refine lv_iload_n hx hb dL_law_1352 rfl (lv_at hl 3 rfl) ?_
  refine lv_iconst (v := 1) hx hb dL_law_1353 (by decide) ?_
  refine lv_iadd hx hb dL_law_1354 ?_
  refine va_sld hx hb hX hbl hbA hS (lw_in hj hL (k := 1) (by decide)) dL_law_1355 ?_
  refine lw_call (L1 := LX) (L2 := LM) hx hb hml hown hts hP1 hP2 hS F.1 F.2.2.1 F.2.2.2.2.2.2.2.1 F.2.2.2.2.1 F.2.2.2.2.2.2.1 mlk_L_202 hst_L_202 (dy := 2) LX_0 [.inl (xs (nI j + 1).toNatClampNeg)] (rest := []) rfl rfl (by decide) (by decide) (by decide) dL_law_1356 (kX8_appendCharacter _ _ _ _ e1) hl.1 (fun H locs hP1 hP2 hS => ?_)
  refine lv_aload_n hx hb dL_law_1359 rfl (lv_at hl 2 rfl) ?_
  refine lv_aload_n hx hb dL_law_1360 rfl (lv_at hl 0 rfl) ?_
  refine lv_iload_n hx hb dL_law_1361 rfl (lv_at hl 3 rfl) ?_
  refine lv_iconst (v := 1) hx hb dL_law_1362 (by decide) ?_
  refine lv_iadd hx hb dL_law_1363 ?_
  refine va_sld hx hb hX hbl hbA hS (lw_in hj hL (k := 1) (by decide)) dL_law_1364 ?_
  refine lw_call (L1 := LM) (L2 := LX) hx hb hml hown hts hP2 hP1 hS F.2.1 F.2.2.2.1 F.2.2.2.2.2.2.2.2 F.2.2.2.2.2.1 (fun i j hi hj q => F.2.2.2.2.2.2.1 j i hj hi q.symm) mlk_L_205 hst_L_205 (dy := 2) LM_0 [.inl (xs (nI j + 1).toNatClampNeg)] (rest := [.int r]) rfl rfl (by decide) (by decide) (Nat.le_of_ble_eq_true rfl) dL_law_1365 (kX9_appendCharacter _ _ _ _ e2) hl.1 (fun H locs hP2 hP1 hS => ?_)
  refine lv_icmp_eq (tgt := 1425) hx hb dL_law_1368 (by decide) (fun _ => ?_) (fun h => absurd rfl h)
  exact hT sx1 sm1 hR1 H locs ls ⟨hP1, hP2, hS⟩ hl
set_option maxRecDepth 100000 in
theorem law_c47 (hsim : ax_Sims Rl) (C0 : lw_At p s m meth c b N xs) (F : lw_F s D adX caX adM caM) (hj : j + 5 ≤ N) (hL : N ≤ 2560) (hT : lw_T Rl p l e s m b below meth c D adX caX adM caM (nI j)) {stX stM : ax_S} (hR : Rl stX stM) {H : Heap} {locs : List Loc} {ls : Array Slot} (hG : lw_G s D adX caX adM caM H locs stX stM) (hl : lv_has ls 4 [(0, .ref b), (1, .ref (adX 0)), (2, .ref (adM 0)), (3, .int (nI j))]) : W p l e room_1 s m #[Value.ref b] below meth c H locs 600000 7302250 (lw_Z below #[Value.ref b] s) (F0 m 1373 ls []) := by
  obtain ⟨hx, hb, hr, hml, hown, hts, hX, hbl, hlocks, hgv⟩ := C0
  have hts := fun w h => hts w (wsL_law_in w h)
  have hbA : ¬ s.heap.size ≤ b := Nat.not_le.mpr hbl
  obtain ⟨hP1, hP2, hS⟩ := hG
  obtain ⟨r, sx1, sm1, e1, e2, hR1⟩ := hsim.2.2.2.2.2.2.2.2.2.2.2.2.2.2.2.2.2.2.2.2.2.2.2.2.2.2.2.2.2.2.2.2.2.2.2.2.2.2.2.2.2.2.2.2.2.2.2.1  stX stM hR
  refine lv_aload_n hx hb dL_law_1373 rfl (lv_at hl 1 rfl) ?_
  refine lw_call (L1 := LX) (L2 := LM) hx hb hml hown hts hP1 hP2 hS F.1 F.2.2.1 F.2.2.2.2.2.2.2.1 F.2.2.2.2.1 F.2.2.2.2.2.2.1 mlk_L_206 hst_L_206 (dy := 2) LX_0 [] (rest := []) rfl rfl (by decide) (by decide) (by decide) dL_law_1374 (kX8_clearText _ _ _ e1) hl.1 (fun H locs hP1 hP2 hS => ?_)
  refine lv_aload_n hx hb dL_law_1377 rfl (lv_at hl 2 rfl) ?_
  refine lw_call (L1 := LM) (L2 := LX) hx hb hml hown hts hP2 hP1 hS F.2.1 F.2.2.2.1 F.2.2.2.2.2.2.2.2 F.2.2.2.2.2.1 (fun i j hi hj q => F.2.2.2.2.2.2.1 j i hj hi q.symm) mlk_L_209 hst_L_209 (dy := 1) LM_0 [] (rest := [.int r]) rfl rfl (by decide) (by decide) (Nat.le_of_ble_eq_true rfl) dL_law_1378 (kX9_clearText _ _ _ e2) hl.1 (fun H locs hP2 hP1 hS => ?_)
  refine lv_icmp_eq (tgt := 1425) hx hb dL_law_1381 (by decide) (fun _ => ?_) (fun h => absurd rfl h)
  exact hT sx1 sm1 hR1 H locs ls ⟨hP1, hP2, hS⟩ hl
set_option maxRecDepth 100000 in
theorem law_c48 (hsim : ax_Sims Rl) (C0 : lw_At p s m meth c b N xs) (F : lw_F s D adX caX adM caM) (hj : j + 5 ≤ N) (hL : N ≤ 2560) (hT : lw_T Rl p l e s m b below meth c D adX caX adM caM (nI j)) {stX stM : ax_S} (hR : Rl stX stM) {H : Heap} {locs : List Loc} {ls : Array Slot} (hG : lw_G s D adX caX adM caM H locs stX stM) (hl : lv_has ls 4 [(0, .ref b), (1, .ref (adX 0)), (2, .ref (adM 0)), (3, .int (nI j))]) : W p l e room_1 s m #[Value.ref b] below meth c H locs 600000 7302250 (lw_Z below #[Value.ref b] s) (F0 m 1386 ls []) := by
  obtain ⟨hx, hb, hr, hml, hown, hts, hX, hbl, hlocks, hgv⟩ := C0
  have hts := fun w h => hts w (wsL_law_in w h)
  have hbA : ¬ s.heap.size ≤ b := Nat.not_le.mpr hbl
  obtain ⟨hP1, hP2, hS⟩ := hG
  obtain ⟨r, sx1, sm1, e1, e2, hR1⟩ := hsim.2.2.2.2.2.2.2.2.2.2.2.2.2.2.2.2.2.2.2.2.2.2.2.2.2.2.2.2.2.2.2.2.2.2.2.2.2.2.2.2.2.2.2.2.2.2.2.2.1  stX stM hR
  refine lv_aload_n hx hb dL_law_1386 rfl (lv_at hl 1 rfl) ?_
  refine lw_call (L1 := LX) (L2 := LM) hx hb hml hown hts hP1 hP2 hS F.1 F.2.2.1 F.2.2.2.2.2.2.2.1 F.2.2.2.2.1 F.2.2.2.2.2.2.1 mlk_L_210 hst_L_210 (dy := 11) LX_0 [] (rest := []) rfl rfl (by decide) (by decide) (by decide) dL_law_1387 (kX8_parseText _ _ _ e1) hl.1 (fun H locs hP1 hP2 hS => ?_)
  refine lv_aload_n hx hb dL_law_1390 rfl (lv_at hl 2 rfl) ?_
  refine lw_call (L1 := LM) (L2 := LX) hx hb hml hown hts hP2 hP1 hS F.2.1 F.2.2.2.1 F.2.2.2.2.2.2.2.2 F.2.2.2.2.2.1 (fun i j hi hj q => F.2.2.2.2.2.2.1 j i hj hi q.symm) mlk_L_213 hst_L_213 (dy := 7) LM_0 [] (rest := [.int r]) rfl rfl (by decide) (by decide) (Nat.le_of_ble_eq_true rfl) dL_law_1391 (kX9_parseText _ _ _ e2) hl.1 (fun H locs hP2 hP1 hS => ?_)
  refine lv_icmp_eq (tgt := 1425) hx hb dL_law_1394 (by decide) (fun _ => ?_) (fun h => absurd rfl h)
  exact hT sx1 sm1 hR1 H locs ls ⟨hP1, hP2, hS⟩ hl
set_option maxRecDepth 100000 in
theorem law_c49 (hsim : ax_Sims Rl) (C0 : lw_At p s m meth c b N xs) (F : lw_F s D adX caX adM caM) (hj : j + 5 ≤ N) (hL : N ≤ 2560) (hT : lw_T Rl p l e s m b below meth c D adX caX adM caM (nI j)) {stX stM : ax_S} (hR : Rl stX stM) {H : Heap} {locs : List Loc} {ls : Array Slot} (hG : lw_G s D adX caX adM caM H locs stX stM) (hl : lv_has ls 4 [(0, .ref b), (1, .ref (adX 0)), (2, .ref (adM 0)), (3, .int (nI j))]) : W p l e room_1 s m #[Value.ref b] below meth c H locs 600000 7302250 (lw_Z below #[Value.ref b] s) (F0 m 1399 ls []) := by
  obtain ⟨hx, hb, hr, hml, hown, hts, hX, hbl, hlocks, hgv⟩ := C0
  have hts := fun w h => hts w (wsL_law_in w h)
  have hbA : ¬ s.heap.size ≤ b := Nat.not_le.mpr hbl
  obtain ⟨hP1, hP2, hS⟩ := hG
  obtain ⟨r, sx1, sm1, e1, e2, hR1⟩ := hsim.2.2.2.2.2.2.2.2.2.2.2.2.2.2.2.2.2.2.2.2.2.2.2.2.2.2.2.2.2.2.2.2.2.2.2.2.2.2.2.2.2.2.2.2.2.2.2.2.2.1  stX stM hR
  refine lv_aload_n hx hb dL_law_1399 rfl (lv_at hl 1 rfl) ?_
  refine lw_call (L1 := LX) (L2 := LM) hx hb hml hown hts hP1 hP2 hS F.1 F.2.2.1 F.2.2.2.2.2.2.2.1 F.2.2.2.2.1 F.2.2.2.2.2.2.1 mlk_L_214 hst_L_214 (dy := 4) LX_0 [] (rest := []) rfl rfl (by decide) (by decide) (by decide) dL_law_1400 (kX8_saveSnapshot _ _ _ e1) hl.1 (fun H locs hP1 hP2 hS => ?_)
  refine lv_aload_n hx hb dL_law_1403 rfl (lv_at hl 2 rfl) ?_
  refine lw_call (L1 := LM) (L2 := LX) hx hb hml hown hts hP2 hP1 hS F.2.1 F.2.2.2.1 F.2.2.2.2.2.2.2.2 F.2.2.2.2.2.1 (fun i j hi hj q => F.2.2.2.2.2.2.1 j i hj hi q.symm) mlk_L_217 hst_L_217 (dy := 3) LM_0 [] (rest := [.int r]) rfl rfl (by decide) (by decide) (Nat.le_of_ble_eq_true rfl) dL_law_1404 (kX9_saveSnapshot _ _ _ e2) hl.1 (fun H locs hP2 hP1 hS => ?_)
  refine lv_icmp_eq (tgt := 1425) hx hb dL_law_1407 (by decide) (fun _ => ?_) (fun h => absurd rfl h)
  exact hT sx1 sm1 hR1 H locs ls ⟨hP1, hP2, hS⟩ hl
set_option maxRecDepth 100000 in
theorem law_c50 (hsim : ax_Sims Rl) (C0 : lw_At p s m meth c b N xs) (F : lw_F s D adX caX adM caM) (hj : j + 5 ≤ N) (hL : N ≤ 2560) (hT : lw_T Rl p l e s m b below meth c D adX caX adM caM (nI j)) {stX stM : ax_S} (hR : Rl stX stM) {H : Heap} {locs : List Loc} {ls : Array Slot} (hG : lw_G s D adX caX adM caM H locs stX stM) (hl : lv_has ls 4 [(0, .ref b), (1, .ref (adX 0)), (2, .ref (adM 0)), (3, .int (nI j))]) : W p l e room_1 s m #[Value.ref b] below meth c H locs 600000 7302250 (lw_Z below #[Value.ref b] s) (F0 m 1412 ls []) := by
  obtain ⟨hx, hb, hr, hml, hown, hts, hX, hbl, hlocks, hgv⟩ := C0
  have hts := fun w h => hts w (wsL_law_in w h)
  have hbA : ¬ s.heap.size ≤ b := Nat.not_le.mpr hbl
  obtain ⟨hP1, hP2, hS⟩ := hG
  obtain ⟨r, sx1, sm1, e1, e2, hR1⟩ := hsim.2.2.2.2.2.2.2.2.2.2.2.2.2.2.2.2.2.2.2.2.2.2.2.2.2.2.2.2.2.2.2.2.2.2.2.2.2.2.2.2.2.2.2.2.2.2.2.2.2.2  stX stM hR
  refine lv_aload_n hx hb dL_law_1412 rfl (lv_at hl 1 rfl) ?_
  refine lw_call (L1 := LX) (L2 := LM) hx hb hml hown hts hP1 hP2 hS F.1 F.2.2.1 F.2.2.2.2.2.2.2.1 F.2.2.2.2.1 F.2.2.2.2.2.2.1 mlk_L_218 hst_L_218 (dy := 4) LX_0 [] (rest := []) rfl rfl (by decide) (by decide) (by decide) dL_law_1413 (kX8_restoreSnapshot _ _ _ e1) hl.1 (fun H locs hP1 hP2 hS => ?_)
  refine lv_aload_n hx hb dL_law_1416 rfl (lv_at hl 2 rfl) ?_
  refine lw_call (L1 := LM) (L2 := LX) hx hb hml hown hts hP2 hP1 hS F.2.1 F.2.2.2.1 F.2.2.2.2.2.2.2.2 F.2.2.2.2.2.1 (fun i j hi hj q => F.2.2.2.2.2.2.1 j i hj hi q.symm) mlk_L_221 hst_L_221 (dy := 3) LM_0 [] (rest := [.int r]) rfl rfl (by decide) (by decide) (Nat.le_of_ble_eq_true rfl) dL_law_1417 (kX9_restoreSnapshot _ _ _ e2) hl.1 (fun H locs hP2 hP1 hS => ?_)
  refine lv_icmp_eq (tgt := 1425) hx hb dL_law_1420 (by decide) (fun _ => ?_) (fun h => absurd rfl h)
  exact hT sx1 sm1 hR1 H locs ls ⟨hP1, hP2, hS⟩ hl
end LWC
theorem lw_tsIn {p : Program} {l : Launch} {e : Env} {R : Room} {s : State} {m : MethodId} {args : Array Value} {below : List Frame} {meth : Method} {c : Code} {H : Heap} {locs : List Loc} {cells slots pc : Nat} {Q : State → Prop} {ls : Array Slot} {rest : List Value} (hx : p.tables.exec = Jvm.exec) (hb : c.code = code) {dflt lo hi : Int} {offs : Array Int} {len : Nat} {x v : Int32} {off : Int} {tgt : Nat} (hd : decode code pc = .ok (.tableswitch dflt lo hi offs, len)) (h1 : ¬ v.toInt < lo) (h2 : ¬ hi < v.toInt) (ho : offs[(v.toInt - lo).toNat]? = some off) (ht : (pc : Int) + off = (tgt : Int)) (kt : W p l e R s m args below meth c H locs cells slots Q (F0 m tgt ls rest)) (kf : ¬ x = v → W p l e R s m args below meth c H locs cells slots Q (F0 m pc ls (.int x :: rest))) : W p l e R s m args below meth c H locs cells slots Q (F0 m pc ls (.int x :: rest)) := by
  by_cases h : x = v
  · subst h; exact lv_tableIn hx hb hd h1 h2 ho ht kt
  · exact kf h
section LWC
variable {Rl : ax_S → ax_S → Prop} {p : Program} {l : Launch} {e : Env} {s : State} {m : MethodId} {below : List Frame} {meth : Method} {c : Code} {b N : Nat} {xs : Nat → Int32} {D : va_G} {adX : Nat → Nat} {caX : Nat → ClassId} {adM : Nat → Nat} {caM : Nat → ClassId}

theorem lw_add5 {j N : Nat} (hj : j + 5 ≤ N) (hL : N ≤ 2560) : nI j + Int32.ofInt 5 = nI (j + 5) := by
  apply Int32.toInt_inj.mp
  rw [Int32.toInt_add, nI_toInt (by omega), nI_toInt (by omega)]
  show ((j : Int) + (5 : Int)).bmod (2 ^ 32) = _
  exact Int.bmod_eq_of_le (by omega) (by omega)
theorem lw_gt {j N : Nat} (hj : j ≤ N) (hL : N ≤ 2560) (h : ¬ nI N - 5 < nI j) : j + 5 ≤ N := by
  have h2 : ¬ (nI N - 5).toInt < (nI j).toInt := fun q => h (Int32.lt_iff_toInt_lt.mpr q)
  rw [Int32.toInt_sub, nI_toInt (by omega), nI_toInt (by omega)] at h2
  have h3 : ((N : Int) - (5 : Int32).toInt).bmod (2 ^ 32) = (N : Int) - 5 := by
    show ((N : Int) - (5 : Int)).bmod (2 ^ 32) = _
    exact Int.bmod_eq_of_le (by omega) (by omega)
  rw [h3] at h2
  omega
set_option maxHeartbeats 4000000 in
set_option maxRecDepth 100000 in
theorem law_switch (hsim : ax_Sims Rl) (C0 : lw_At p s m meth c b N xs) (F : lw_F s D adX caX adM caM) {j : Nat} (hj : j + 5 ≤ N) (hL : N ≤ 2560) (hT : lw_T Rl p l e s m b below meth c D adX caX adM caM (nI j)) {stX stM : ax_S} (hR : Rl stX stM) {H : Heap} {locs : List Loc} {ls : Array Slot} (hG : lw_G s D adX caX adM caM H locs stX stM) (hl : lv_has ls 4 [(0, .ref b), (1, .ref (adX 0)), (2, .ref (adM 0)), (3, .int (nI j))]) (x : Int32) : W p l e room_1 s m #[Value.ref b] below meth c H locs 600000 7302250 (lw_Z below #[Value.ref b] s) (F0 m 32 ls [.int x]) := by
  obtain ⟨hx, hb, -⟩ := id C0
  refine lw_tsIn hx hb dL_law_32 (v := 0) (by decide) (by decide) (off := 220) rfl (tgt := 252) (by decide) (law_c0 hsim C0 F hj hL hT hR hG hl) (fun e0 => ?_)
  refine lw_tsIn hx hb dL_law_32 (v := 1) (by decide) (by decide) (off := 243) rfl (tgt := 275) (by decide) (law_c1 hsim C0 F hj hL hT hR hG hl) (fun e1 => ?_)
  refine lw_tsIn hx hb dL_law_32 (v := 2) (by decide) (by decide) (off := 266) rfl (tgt := 298) (by decide) (law_c2 hsim C0 F hj hL hT hR hG hl) (fun e2 => ?_)
  refine lw_tsIn hx hb dL_law_32 (v := 3) (by decide) (by decide) (off := 279) rfl (tgt := 311) (by decide) (law_c3 hsim C0 F hj hL hT hR hG hl) (fun e3 => ?_)
  refine lw_tsIn hx hb dL_law_32 (v := 4) (by decide) (by decide) (off := 292) rfl (tgt := 324) (by decide) (law_c4 hsim C0 F hj hL hT hR hG hl) (fun e4 => ?_)
  refine lw_tsIn hx hb dL_law_32 (v := 5) (by decide) (by decide) (off := 305) rfl (tgt := 337) (by decide) (law_c5 hsim C0 F hj hL hT hR hG hl) (fun e5 => ?_)
  refine lw_tsIn hx hb dL_law_32 (v := 6) (by decide) (by decide) (off := 328) rfl (tgt := 360) (by decide) (law_c6 hsim C0 F hj hL hT hR hG hl) (fun e6 => ?_)
  refine lw_tsIn hx hb dL_law_32 (v := 7) (by decide) (by decide) (off := 341) rfl (tgt := 373) (by decide) (law_c7 hsim C0 F hj hL hT hR hG hl) (fun e7 => ?_)
  refine lw_tsIn hx hb dL_law_32 (v := 8) (by decide) (by decide) (off := 374) rfl (tgt := 406) (by decide) (law_c8 hsim C0 F hj hL hT hR hG hl) (fun e8 => ?_)
  refine lw_tsIn hx hb dL_law_32 (v := 9) (by decide) (by decide) (off := 417) rfl (tgt := 449) (by decide) (law_c9 hsim C0 F hj hL hT hR hG hl) (fun e9 => ?_)
  refine lw_tsIn hx hb dL_law_32 (v := 10) (by decide) (by decide) (off := 470) rfl (tgt := 502) (by decide) (law_c10 hsim C0 F hj hL hT hR hG hl) (fun e10 => ?_)
  refine lw_tsIn hx hb dL_law_32 (v := 11) (by decide) (by decide) (off := 503) rfl (tgt := 535) (by decide) (law_c11 hsim C0 F hj hL hT hR hG hl) (fun e11 => ?_)
  refine lw_tsIn hx hb dL_law_32 (v := 12) (by decide) (by decide) (off := 546) rfl (tgt := 578) (by decide) (law_c12 hsim C0 F hj hL hT hR hG hl) (fun e12 => ?_)
  refine lw_tsIn hx hb dL_law_32 (v := 13) (by decide) (by decide) (off := 589) rfl (tgt := 621) (by decide) (law_c13 hsim C0 F hj hL hT hR hG hl) (fun e13 => ?_)
  refine lw_tsIn hx hb dL_law_32 (v := 14) (by decide) (by decide) (off := 622) rfl (tgt := 654) (by decide) (law_c14 hsim C0 F hj hL hT hR hG hl) (fun e14 => ?_)
  refine lw_tsIn hx hb dL_law_32 (v := 15) (by decide) (by decide) (off := 665) rfl (tgt := 697) (by decide) (law_c15 hsim C0 F hj hL hT hR hG hl) (fun e15 => ?_)
  refine lw_tsIn hx hb dL_law_32 (v := 16) (by decide) (by decide) (off := 708) rfl (tgt := 740) (by decide) (law_c16 hsim C0 F hj hL hT hR hG hl) (fun e16 => ?_)
  refine lw_tsIn hx hb dL_law_32 (v := 17) (by decide) (by decide) (off := 751) rfl (tgt := 783) (by decide) (law_c17 hsim C0 F hj hL hT hR hG hl) (fun e17 => ?_)
  refine lw_tsIn hx hb dL_law_32 (v := 18) (by decide) (by decide) (off := 784) rfl (tgt := 816) (by decide) (law_c18 hsim C0 F hj hL hT hR hG hl) (fun e18 => ?_)
  refine lw_tsIn hx hb dL_law_32 (v := 19) (by decide) (by decide) (off := 807) rfl (tgt := 839) (by decide) (law_c19 hsim C0 F hj hL hT hR hG hl) (fun e19 => ?_)
  refine lw_tsIn hx hb dL_law_32 (v := 20) (by decide) (by decide) (off := 820) rfl (tgt := 852) (by decide) (law_c20 hsim C0 F hj hL hT hR hG hl) (fun e20 => ?_)
  refine lw_tsIn hx hb dL_law_32 (v := 21) (by decide) (by decide) (off := 833) rfl (tgt := 865) (by decide) (law_c21 hsim C0 F hj hL hT hR hG hl) (fun e21 => ?_)
  refine lw_tsIn hx hb dL_law_32 (v := 22) (by decide) (by decide) (off := 846) rfl (tgt := 878) (by decide) (law_c22 hsim C0 F hj hL hT hR hG hl) (fun e22 => ?_)
  refine lw_tsIn hx hb dL_law_32 (v := 23) (by decide) (by decide) (off := 869) rfl (tgt := 901) (by decide) (law_c23 hsim C0 F hj hL hT hR hG hl) (fun e23 => ?_)
  refine lw_tsIn hx hb dL_law_32 (v := 24) (by decide) (by decide) (off := 892) rfl (tgt := 924) (by decide) (law_c24 hsim C0 F hj hL hT hR hG hl) (fun e24 => ?_)
  refine lw_tsIn hx hb dL_law_32 (v := 25) (by decide) (by decide) (off := 915) rfl (tgt := 947) (by decide) (law_c25 hsim C0 F hj hL hT hR hG hl) (fun e25 => ?_)
  refine lw_tsIn hx hb dL_law_32 (v := 26) (by decide) (by decide) (off := 938) rfl (tgt := 970) (by decide) (law_c26 hsim C0 F hj hL hT hR hG hl) (fun e26 => ?_)
  refine lw_tsIn hx hb dL_law_32 (v := 27) (by decide) (by decide) (off := 961) rfl (tgt := 993) (by decide) (law_c27 hsim C0 F hj hL hT hR hG hl) (fun e27 => ?_)
  refine lw_tsIn hx hb dL_law_32 (v := 28) (by decide) (by decide) (off := 984) rfl (tgt := 1016) (by decide) (law_c28 hsim C0 F hj hL hT hR hG hl) (fun e28 => ?_)
  refine lw_tsIn hx hb dL_law_32 (v := 29) (by decide) (by decide) (off := 1017) rfl (tgt := 1049) (by decide) (law_c29 hsim C0 F hj hL hT hR hG hl) (fun e29 => ?_)
  refine lw_tsIn hx hb dL_law_32 (v := 30) (by decide) (by decide) (off := 1030) rfl (tgt := 1062) (by decide) (law_c30 hsim C0 F hj hL hT hR hG hl) (fun e30 => ?_)
  refine lw_tsIn hx hb dL_law_32 (v := 31) (by decide) (by decide) (off := 1043) rfl (tgt := 1075) (by decide) (law_c31 hsim C0 F hj hL hT hR hG hl) (fun e31 => ?_)
  refine lw_tsIn hx hb dL_law_32 (v := 32) (by decide) (by decide) (off := 1056) rfl (tgt := 1088) (by decide) (law_c32 hsim C0 F hj hL hT hR hG hl) (fun e32 => ?_)
  refine lw_tsIn hx hb dL_law_32 (v := 33) (by decide) (by decide) (off := 1079) rfl (tgt := 1111) (by decide) (law_c33 hsim C0 F hj hL hT hR hG hl) (fun e33 => ?_)
  refine lw_tsIn hx hb dL_law_32 (v := 34) (by decide) (by decide) (off := 1092) rfl (tgt := 1124) (by decide) (law_c34 hsim C0 F hj hL hT hR hG hl) (fun e34 => ?_)
  refine lw_tsIn hx hb dL_law_32 (v := 35) (by decide) (by decide) (off := 1105) rfl (tgt := 1137) (by decide) (law_c35 hsim C0 F hj hL hT hR hG hl) (fun e35 => ?_)
  refine lw_tsIn hx hb dL_law_32 (v := 36) (by decide) (by decide) (off := 1118) rfl (tgt := 1150) (by decide) (law_c36 hsim C0 F hj hL hT hR hG hl) (fun e36 => ?_)
  refine lw_tsIn hx hb dL_law_32 (v := 37) (by decide) (by decide) (off := 1141) rfl (tgt := 1173) (by decide) (law_c37 hsim C0 F hj hL hT hR hG hl) (fun e37 => ?_)
  refine lw_tsIn hx hb dL_law_32 (v := 38) (by decide) (by decide) (off := 1154) rfl (tgt := 1186) (by decide) (law_c38 hsim C0 F hj hL hT hR hG hl) (fun e38 => ?_)
  refine lw_tsIn hx hb dL_law_32 (v := 39) (by decide) (by decide) (off := 1187) rfl (tgt := 1219) (by decide) (law_c39 hsim C0 F hj hL hT hR hG hl) (fun e39 => ?_)
  refine lw_tsIn hx hb dL_law_32 (v := 40) (by decide) (by decide) (off := 1210) rfl (tgt := 1242) (by decide) (law_c40 hsim C0 F hj hL hT hR hG hl) (fun e40 => ?_)
  refine lw_tsIn hx hb dL_law_32 (v := 41) (by decide) (by decide) (off := 1233) rfl (tgt := 1265) (by decide) (law_c41 hsim C0 F hj hL hT hR hG hl) (fun e41 => ?_)
  refine lw_tsIn hx hb dL_law_32 (v := 42) (by decide) (by decide) (off := 1256) rfl (tgt := 1288) (by decide) (law_c42 hsim C0 F hj hL hT hR hG hl) (fun e42 => ?_)
  refine lw_tsIn hx hb dL_law_32 (v := 43) (by decide) (by decide) (off := 1269) rfl (tgt := 1301) (by decide) (law_c43 hsim C0 F hj hL hT hR hG hl) (fun e43 => ?_)
  refine lw_tsIn hx hb dL_law_32 (v := 44) (by decide) (by decide) (off := 1292) rfl (tgt := 1324) (by decide) (law_c44 hsim C0 F hj hL hT hR hG hl) (fun e44 => ?_)
  refine lw_tsIn hx hb dL_law_32 (v := 45) (by decide) (by decide) (off := 1305) rfl (tgt := 1337) (by decide) (law_c45 hsim C0 F hj hL hT hR hG hl) (fun e45 => ?_)
  refine lw_tsIn hx hb dL_law_32 (v := 46) (by decide) (by decide) (off := 1318) rfl (tgt := 1350) (by decide) (law_c46 hsim C0 F hj hL hT hR hG hl) (fun e46 => ?_)
  refine lw_tsIn hx hb dL_law_32 (v := 47) (by decide) (by decide) (off := 1341) rfl (tgt := 1373) (by decide) (law_c47 hsim C0 F hj hL hT hR hG hl) (fun e47 => ?_)
  refine lw_tsIn hx hb dL_law_32 (v := 48) (by decide) (by decide) (off := 1354) rfl (tgt := 1386) (by decide) (law_c48 hsim C0 F hj hL hT hR hG hl) (fun e48 => ?_)
  refine lw_tsIn hx hb dL_law_32 (v := 49) (by decide) (by decide) (off := 1367) rfl (tgt := 1399) (by decide) (law_c49 hsim C0 F hj hL hT hR hG hl) (fun e49 => ?_)
  refine lw_tsIn hx hb dL_law_32 (v := 50) (by decide) (by decide) (off := 1380) rfl (tgt := 1412) (by decide) (law_c50 hsim C0 F hj hL hT hR hG hl) (fun e50 => ?_)
  have g0 : ¬ x.toInt = 0 := fun q => e0 (Int32.toInt_inj.mp (q.trans (by decide)))
  have g1 : ¬ x.toInt = 1 := fun q => e1 (Int32.toInt_inj.mp (q.trans (by decide)))
  have g2 : ¬ x.toInt = 2 := fun q => e2 (Int32.toInt_inj.mp (q.trans (by decide)))
  have g3 : ¬ x.toInt = 3 := fun q => e3 (Int32.toInt_inj.mp (q.trans (by decide)))
  have g4 : ¬ x.toInt = 4 := fun q => e4 (Int32.toInt_inj.mp (q.trans (by decide)))
  have g5 : ¬ x.toInt = 5 := fun q => e5 (Int32.toInt_inj.mp (q.trans (by decide)))
  have g6 : ¬ x.toInt = 6 := fun q => e6 (Int32.toInt_inj.mp (q.trans (by decide)))
  have g7 : ¬ x.toInt = 7 := fun q => e7 (Int32.toInt_inj.mp (q.trans (by decide)))
  have g8 : ¬ x.toInt = 8 := fun q => e8 (Int32.toInt_inj.mp (q.trans (by decide)))
  have g9 : ¬ x.toInt = 9 := fun q => e9 (Int32.toInt_inj.mp (q.trans (by decide)))
  have g10 : ¬ x.toInt = 10 := fun q => e10 (Int32.toInt_inj.mp (q.trans (by decide)))
  have g11 : ¬ x.toInt = 11 := fun q => e11 (Int32.toInt_inj.mp (q.trans (by decide)))
  have g12 : ¬ x.toInt = 12 := fun q => e12 (Int32.toInt_inj.mp (q.trans (by decide)))
  have g13 : ¬ x.toInt = 13 := fun q => e13 (Int32.toInt_inj.mp (q.trans (by decide)))
  have g14 : ¬ x.toInt = 14 := fun q => e14 (Int32.toInt_inj.mp (q.trans (by decide)))
  have g15 : ¬ x.toInt = 15 := fun q => e15 (Int32.toInt_inj.mp (q.trans (by decide)))
  have g16 : ¬ x.toInt = 16 := fun q => e16 (Int32.toInt_inj.mp (q.trans (by decide)))
  have g17 : ¬ x.toInt = 17 := fun q => e17 (Int32.toInt_inj.mp (q.trans (by decide)))
  have g18 : ¬ x.toInt = 18 := fun q => e18 (Int32.toInt_inj.mp (q.trans (by decide)))
  have g19 : ¬ x.toInt = 19 := fun q => e19 (Int32.toInt_inj.mp (q.trans (by decide)))
  have g20 : ¬ x.toInt = 20 := fun q => e20 (Int32.toInt_inj.mp (q.trans (by decide)))
  have g21 : ¬ x.toInt = 21 := fun q => e21 (Int32.toInt_inj.mp (q.trans (by decide)))
  have g22 : ¬ x.toInt = 22 := fun q => e22 (Int32.toInt_inj.mp (q.trans (by decide)))
  have g23 : ¬ x.toInt = 23 := fun q => e23 (Int32.toInt_inj.mp (q.trans (by decide)))
  have g24 : ¬ x.toInt = 24 := fun q => e24 (Int32.toInt_inj.mp (q.trans (by decide)))
  have g25 : ¬ x.toInt = 25 := fun q => e25 (Int32.toInt_inj.mp (q.trans (by decide)))
  have g26 : ¬ x.toInt = 26 := fun q => e26 (Int32.toInt_inj.mp (q.trans (by decide)))
  have g27 : ¬ x.toInt = 27 := fun q => e27 (Int32.toInt_inj.mp (q.trans (by decide)))
  have g28 : ¬ x.toInt = 28 := fun q => e28 (Int32.toInt_inj.mp (q.trans (by decide)))
  have g29 : ¬ x.toInt = 29 := fun q => e29 (Int32.toInt_inj.mp (q.trans (by decide)))
  have g30 : ¬ x.toInt = 30 := fun q => e30 (Int32.toInt_inj.mp (q.trans (by decide)))
  have g31 : ¬ x.toInt = 31 := fun q => e31 (Int32.toInt_inj.mp (q.trans (by decide)))
  have g32 : ¬ x.toInt = 32 := fun q => e32 (Int32.toInt_inj.mp (q.trans (by decide)))
  have g33 : ¬ x.toInt = 33 := fun q => e33 (Int32.toInt_inj.mp (q.trans (by decide)))
  have g34 : ¬ x.toInt = 34 := fun q => e34 (Int32.toInt_inj.mp (q.trans (by decide)))
  have g35 : ¬ x.toInt = 35 := fun q => e35 (Int32.toInt_inj.mp (q.trans (by decide)))
  have g36 : ¬ x.toInt = 36 := fun q => e36 (Int32.toInt_inj.mp (q.trans (by decide)))
  have g37 : ¬ x.toInt = 37 := fun q => e37 (Int32.toInt_inj.mp (q.trans (by decide)))
  have g38 : ¬ x.toInt = 38 := fun q => e38 (Int32.toInt_inj.mp (q.trans (by decide)))
  have g39 : ¬ x.toInt = 39 := fun q => e39 (Int32.toInt_inj.mp (q.trans (by decide)))
  have g40 : ¬ x.toInt = 40 := fun q => e40 (Int32.toInt_inj.mp (q.trans (by decide)))
  have g41 : ¬ x.toInt = 41 := fun q => e41 (Int32.toInt_inj.mp (q.trans (by decide)))
  have g42 : ¬ x.toInt = 42 := fun q => e42 (Int32.toInt_inj.mp (q.trans (by decide)))
  have g43 : ¬ x.toInt = 43 := fun q => e43 (Int32.toInt_inj.mp (q.trans (by decide)))
  have g44 : ¬ x.toInt = 44 := fun q => e44 (Int32.toInt_inj.mp (q.trans (by decide)))
  have g45 : ¬ x.toInt = 45 := fun q => e45 (Int32.toInt_inj.mp (q.trans (by decide)))
  have g46 : ¬ x.toInt = 46 := fun q => e46 (Int32.toInt_inj.mp (q.trans (by decide)))
  have g47 : ¬ x.toInt = 47 := fun q => e47 (Int32.toInt_inj.mp (q.trans (by decide)))
  have g48 : ¬ x.toInt = 48 := fun q => e48 (Int32.toInt_inj.mp (q.trans (by decide)))
  have g49 : ¬ x.toInt = 49 := fun q => e49 (Int32.toInt_inj.mp (q.trans (by decide)))
  have g50 : ¬ x.toInt = 50 := fun q => e50 (Int32.toInt_inj.mp (q.trans (by decide)))
  exact lv_tableOut hx hb dL_law_32 (by omega) (tgt := 1425) (by decide) (hT stX stM hR H locs ls hG hl)
set_option maxRecDepth 100000 in
theorem law_step (C0 : lw_At p s m meth c b N xs) {j : Nat} (hj : j ≤ N) (hL : N ≤ 2560) {stX stM : ax_S} {H : Heap} {locs : List Loc} {ls : Array Slot} (hG : lw_G s D adX caX adM caM H locs stX stM) (hl : lv_has ls 4 [(0, .ref b), (1, .ref (adX 0)), (2, .ref (adM 0)), (3, .int (nI j))]) (kk : j + 5 ≤ N → W p l e room_1 s m #[Value.ref b] below meth c H locs 600000 7302250 (lw_Z below #[Value.ref b] s) (F0 m 32 ls [.int (xs (nI j).toNatClampNeg &&& 63)])) : W p l e room_1 s m #[Value.ref b] below meth c H locs 600000 7302250 (lw_Z below #[Value.ref b] s) (F0 m 18 ls []) := by
  obtain ⟨hx, hb, hr, hml, hown, hts, hX, hbl, hlocks, hgv⟩ := C0
  have hbA : ¬ s.heap.size ≤ b := Nat.not_le.mpr hbl
  obtain ⟨hP1, hP2, hS⟩ := hG
  refine lv_iload_n hx hb dL_law_18 rfl (lv_at hl 3 rfl) ?_
  refine lv_aload_n hx hb dL_law_19 rfl (lv_at hl 0 rfl) ?_
  refine va_slen hx hb hX hbl hbA hS dL_law_20 ?_
  refine lv_iconst (v := 5) hx hb dL_law_21 (by decide) ?_
  refine lv_isub hx hb dL_law_22 ?_
  refine lv_icmp_gt (tgt := 1431) hx hb dL_law_23 (by decide) (fun _ => ?_) (fun h => ?_)
  · refine lv_iconst (v := 1) hx hb dL_law_1431 (by decide) ?_
    refine va_forget (fun q hq => hS.2.2 q hq) ?_
    exact lw_ret hx hb hr hlocks dL_law_1432
  · have hlt := lw_gt hj hL h
    refine lv_aload_n hx hb dL_law_26 rfl (lv_at hl 0 rfl) ?_
    refine lv_iload_n hx hb dL_law_27 rfl (lv_at hl 3 rfl) ?_
    refine va_sld hx hb hX hbl hbA hS (vp_in_nI (by omega) (by omega)) dL_law_28 ?_
    refine lv_bipush (v := 63) hx hb dL_law_29 (by decide) ?_
    refine lv_iand hx hb dL_law_31 ?_
    exact kk hlt
/-- THE LAW'S LOOP -/
theorem law_loop (hsim : ax_Sims Rl) (C0 : lw_At p s m meth c b N xs) (F : lw_F s D adX caX adM caM) (hL : N ≤ 2560) : ∀ (n j : Nat), N ≤ j + 5 * n → j ≤ N → ∀ (stX stM : ax_S), Rl stX stM → ∀ (H : Heap) (locs : List Loc) (ls : Array Slot), lw_G s D adX caX adM caM H locs stX stM → lv_has ls 4 [(0, .ref b), (1, .ref (adX 0)), (2, .ref (adM 0)), (3, .int (nI j))] → W p l e room_1 s m #[Value.ref b] below meth c H locs 600000 7302250 (lw_Z below #[Value.ref b] s) (F0 m 18 ls []) := by
  intro n
  induction n with
  | zero =>
    intro j hn hj stX stM hR H locs ls hG hl
    exact law_step C0 hj hL hG hl (fun h => absurd h (by omega))
  | succ n ih =>
    intro j hn hj stX stM hR H locs ls hG hl
    refine law_step C0 hj hL hG hl (fun h5 => ?_)
    have hT : lw_T Rl p l e s m b below meth c D adX caX adM caM (nI j) := by
      intro sx sm hR H locs ls hG hl
      obtain ⟨hx, hb, -⟩ := id C0
      refine lv_iinc (v := nI (j + 5)) (lv' := [(3, .int (nI (j + 5))), (0, .ref b), (1, .ref (adX 0)), (2, .ref (adM 0))]) hx hb dL_law_1425 hl (k := 3) rfl (lw_add5 h5 hL) (by decide) rfl (fun ls hl => ?_)
      refine lv_goto (tgt := 18) hx hb dL_law_1428 (by decide) ?_
      exact ih (j + 5) (by omega) (by omega) sx sm hR H locs ls hG (lv_sub hl [1, 2, 3, 0] rfl)
    exact law_switch hsim C0 F h5 hL hT hR hG hl _
end LWC
