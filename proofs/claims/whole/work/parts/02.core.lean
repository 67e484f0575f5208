/-! A layer of abstract states over the kit's worlds: a world is a list of rows (an array of numbers, an array of references, an object); a reference is a place in that list; what the rows hold is a pair of functions of places. -/
abbrev ax_V : Type := Int32 ⊕ Nat
abbrev ax_S : Type := (Nat → Nat → Int32) × (Nat → Nat → Int32)
abbrev ax_E : Type := (FieldType × Nat) ⊕ ((String × List Nat) ⊕ (Nat × List (Option Nat)))
abbrev ax_L : Type := List ax_E
abbrev ax_C : Type := Program × Launch × Env × Room × State × MethodId × Array Value × List Frame × Method × Code
abbrev ax_X : Type := va_G × (Nat → Nat) × (Nat → ClassId) × (Nat → Prop)
abbrev ax_R : Type := Option (Int32 × ax_S)
def ax_val (ad : Nat → Nat) : ax_V → Value
  | .inl i => .int i
  | .inr o => .ref (ad o)
def ax_fld (ad : Nat → Nat) (st : ax_S) (o k : Nat) : Option Nat → Value
  | none => .int (st.1 o k)
  | some q => .ref (ad q)
def ax_cell (ad : Nat → Nat) (ca : Nat → ClassId) (st : ax_S) (o : Nat) : ax_E → va_E
  | .inl q => .inl (ca o, q.2, .inl (st.2 o))
  | .inr (.inl q) => .inl (ca o, q.2.length, .inr (.inr (.inr (.inr (fun j => (q.2[j]?).map ad)))))
  | .inr (.inr q) => .inr (q.1, q.2.mapIdx (ax_fld ad st o))
def ax_W (L : ax_L) (ad : Nat → Nat) (ca : Nat → ClassId) (st : ax_S) : va_W := L.mapIdx (fun o e => (ad o, ax_cell ad ca st o e))
def ax_sI (st : ax_S) (o k : Nat) (v : Int32) : ax_S := (fun a b => if a = o ∧ b = k then v else st.1 a b, st.2)
def ax_sA (st : ax_S) (o : Nat) (f : Nat → Int32) : ax_S := (st.1, fun a => if a = o then f else st.2 a)
def ax_sE (st : ax_S) (o i : Nat) (x : Int32) : ax_S := ax_sA st o (upd (st.2 o) i x)
theorem ax_W_at (L : ax_L) (ad : Nat → Nat) (ca : Nat → ClassId) (st : ax_S) (o : Nat) : (ax_W L ad ca st)[o]? = (L[o]?).map (fun e => (ad o, ax_cell ad ca st o e)) := by
  simp [ax_W, List.getElem?_mapIdx]
theorem ax_W_of {L : ax_L} {ad : Nat → Nat} {ca : Nat → ClassId} {st : ax_S} {o : Nat} {e : ax_E} (h : L[o]? = some e) : (ax_W L ad ca st)[o]? = some (ad o, ax_cell ad ca st o e) := by
  rw [ax_W_at, h]; rfl
theorem ax_W_in {L : ax_L} {ad : Nat → Nat} {ca : Nat → ClassId} {st : ax_S} {k : Nat} {q : Nat × va_E} (h : (ax_W L ad ca st)[k]? = some q) : ∃ e, L[k]? = some e ∧ q = (ad k, ax_cell ad ca st k e) := by
  rw [ax_W_at] at h
  cases hL : L[k]? with
  | none => rw [hL] at h; cases h
  | some e => rw [hL] at h; exact ⟨e, rfl, (Option.some.inj h).symm⟩
theorem ax_cell_I {ad : Nat → Nat} {ca : Nat → ClassId} {st : ax_S} {o k i : Nat} {v : Int32} (h : i ≠ o) (e : ax_E) : ax_cell ad ca (ax_sI st o k v) i e = ax_cell ad ca st i e := by
  rcases e with q | q | q
  · rfl
  · rfl
  · show Sum.inr (q.1, q.2.mapIdx _) = Sum.inr (q.1, q.2.mapIdx _)
    have : ax_fld ad (ax_sI st o k v) i = ax_fld ad st i := by
      funext j f
      cases f with
      | none => simp [ax_fld, ax_sI, h]
      | some q => rfl
    rw [this]
theorem ax_cell_A {ad : Nat → Nat} {ca : Nat → ClassId} {st : ax_S} {o i : Nat} {f : Nat → Int32} (h : i ≠ o) (e : ax_E) : ax_cell ad ca (ax_sA st o f) i e = ax_cell ad ca st i e := by
  rcases e with q | q | q
  · show Sum.inl (ca i, q.2, Sum.inl ((ax_sA st o f).2 i)) = _
    have : (ax_sA st o f).2 i = st.2 i := by simp [ax_sA, h]
    rw [this]; rfl
  · rfl
  · rfl
theorem ax_W_len (L : ax_L) (ad : Nat → Nat) (ca : Nat → ClassId) (st : ax_S) : (ax_W L ad ca st).length = L.length := by simp [ax_W]
theorem ax_setI {L : ax_L} {ad : Nat → Nat} {ca : Nat → ClassId} {st : ax_S} {o k ci : Nat} {fs : List (Option Nat)} {v : Int32} (he : L[o]? = some (.inr (.inr (ci, fs)))) (hf : fs[k]? = some none) : (ax_W L ad ca st).set o (ad o, .inr (ci, (fs.mapIdx (ax_fld ad st o)).set k (.int v))) = ax_W L ad ca (ax_sI st o k v) := by
  have hlen : o < L.length := (List.getElem?_eq_some_iff.mp he).1
  apply List.ext_getElem?
  intro i
  rw [List.getElem?_set, ax_W_at, ax_W_at]
  by_cases h : o = i
  · subst h
    rw [if_pos rfl, if_pos (by rw [ax_W_len]; exact hlen), he]
    show some (ad o, Sum.inr (ci, _)) = some (ad o, Sum.inr (ci, _))
    have : (fs.mapIdx (ax_fld ad st o)).set k (.int v) = fs.mapIdx (ax_fld ad (ax_sI st o k v) o) := by
      apply List.ext_getElem?
      intro j
      rw [List.getElem?_set, List.getElem?_mapIdx, List.getElem?_mapIdx]
      by_cases hj : k = j
      · subst hj
        have hk : k < fs.length := (List.getElem?_eq_some_iff.mp hf).1
        rw [if_pos rfl, if_pos (by simpa using hk), hf]
        simp [ax_fld, ax_sI]
      · rw [if_neg hj]
        cases hF : fs[j]? with
        | none => rfl
        | some f =>
          cases f with
          | none => simp [ax_fld, ax_sI, Ne.symm hj]
          | some q => rfl
    rw [this]
  · rw [if_neg h]
    cases hL : L[i]? with
    | none => rfl
    | some e => simp only [Option.map_some, ax_cell_I (Ne.symm h)]
theorem ax_setA {L : ax_L} {ad : Nat → Nat} {ca : Nat → ClassId} {st : ax_S} {o n : Nat} {ty : FieldType} {f : Nat → Int32} (he : L[o]? = some (.inl (ty, n))) : (ax_W L ad ca st).set o (ad o, .inl (ca o, n, .inl f)) = ax_W L ad ca (ax_sA st o f) := by
  have hlen : o < L.length := (List.getElem?_eq_some_iff.mp he).1
  apply List.ext_getElem?
  intro i
  rw [List.getElem?_set, ax_W_at, ax_W_at]
  by_cases h : o = i
  · subst h
    rw [if_pos rfl, if_pos (by rw [ax_W_len]; exact hlen), he]
    simp [ax_cell, ax_sA]
  · rw [if_neg h]
    cases hL : L[i]? with
    | none => rfl
    | some e => simp only [Option.map_some, ax_cell_A (Ne.symm h)]
/-- the addresses are apart -/
def ax_inj (L : ax_L) (ad : Nat → Nat) : Prop := ∀ i j, i < L.length → j < L.length → ad i = ad j → i = j
theorem ax_W_D {L : ax_L} {ad : Nat → Nat} {ca : Nat → ClassId} {A : Nat → Prop} (st : ax_S) (hi : ax_inj L ad) (hA : ∀ o, o < L.length → A (ad o)) : va_D A (ax_W L ad ca st) := by
  refine ⟨fun i j p q h1 h2 h => ?_, fun k q h => ?_⟩
  · obtain ⟨e1, g1, rfl⟩ := ax_W_in h1
    obtain ⟨e2, g2, rfl⟩ := ax_W_in h2
    exact hi i j (List.getElem?_eq_some_iff.mp g1).1 (List.getElem?_eq_some_iff.mp g2).1 h
  · obtain ⟨e1, g1, rfl⟩ := ax_W_in h
    exact hA k (List.getElem?_eq_some_iff.mp g1).1
/-- the cells that a method on this world may write -/
def ax_A (L : ax_L) (ad : Nat → Nat) (sz : Nat) : Nat → Prop := fun q => (∃ o, o < L.length ∧ q = ad o) ∨ sz ≤ q
def ax_K (D : va_G) (L : ax_L) (ca : Nat → ClassId) (U : State) : Prop := va_K D vwCl [] U ∧ (∀ o ty n, L[o]? = some (.inl (ty, n)) → ArrOfT U (ca o) ty ∧ va_RA U (ca o) ty) ∧ ∀ o C qs, L[o]? = some (.inr (.inl (C, qs))) → ArrOfT U (ca o) (.object C) ∧ va_RA U (ca o) (.object C)
theorem ax_K.moved {D : va_G} {L : ax_L} {ca : Nat → ClassId} {u U : State} (hvm : u.vm.Alike U.vm) (h : ax_K D L ca u) : ax_K D L ca U :=
  ⟨va_K.moved hvm h.1, fun o ty n ho => ⟨arrOfT_moved hvm (h.2.1 o ty n ho).1, (h.2.1 o ty n ho).2.moved hvm⟩, fun o C qs ho => ⟨arrOfT_moved hvm (h.2.2 o C qs ho).1, (h.2.2 o C qs ho).2.moved hvm⟩⟩
theorem ax_K.one {D : va_G} {L : ax_L} {ca : Nat → ClassId} {U : State} (h : ax_K D L ca U) {o n : Nat} {ty : FieldType} (he : L[o]? = some (.inl (ty, n))) : va_K D vwCl [(ca o, ty)] U := by
  refine ⟨h.1.1, fun k q hk => ?_⟩
  cases k with
  | zero => cases hk; exact h.2.1 o ty n he
  | succ k => cases hk
theorem ax_K.ref {D : va_G} {L : ax_L} {ca : Nat → ClassId} {U : State} (h : ax_K D L ca U) {o : Nat} {C : String} {qs : List Nat} (he : L[o]? = some (.inr (.inl (C, qs)))) : va_K D vwCl [(ca o, .object C)] U := by
  refine ⟨h.1.1, fun k q hk => ?_⟩
  cases k with
  | zero => cases hk; exact h.2.2 o C qs he
  | succ k => cases hk
/-- the texts of the operations' names -/
def ax_tx : List String := ["read", "write", "compareAndSet", "get", "add", "enqueue", "dequeue", "insert", "remove", "contains"]
def ax_byt : List (List Int32) := ax_tx.map (fun t => t.toList.map (fun c => Int32.ofNat c.toNat))
def ax_len : List Nat := ax_byt.map List.length
def ax_pool (i : Nat) : Nat := 284 + 2 * i
def ax_nest : List Cond := [.methodLinkNest "LinearizabilityChecker" 11 ⟨"LinearizabilityChecker$Recording", "<init>", "()V"⟩ "LinearizabilityChecker",
  .methodLinkNest "LinearizabilityChecker$Recording" 9 ⟨"LinearizabilityChecker$ObjectTable", "<init>", "()V"⟩ "LinearizabilityChecker",
  .fieldLinkNest "LinearizabilityChecker$Recording" 30 "LinearizabilityChecker$ObjectTable" "count" "I" "LinearizabilityChecker",
  .fieldLinkNest "LinearizabilityChecker$Search" 77 "LinearizabilityChecker$ObjectTable" "count" "I" "LinearizabilityChecker",
  .fieldLinkNest "LinearizabilityChecker" 60 "LinearizabilityChecker$ObjectTable" "count" "I" "LinearizabilityChecker",
  .fieldLinkNest "LinearizabilityChecker" 70 "LinearizabilityChecker$ObjectTable" "types" "[I" "LinearizabilityChecker",
  .fieldLinkNest "LinearizabilityChecker$Search" 82 "LinearizabilityChecker$ObjectTable" "initials" "[I" "LinearizabilityChecker",
  .fieldLinkNest "LinearizabilityChecker" 78 "LinearizabilityChecker$History" "events" "I" "LinearizabilityChecker",
  .fieldLinkNest "LinearizabilityChecker$Search" 54 "LinearizabilityChecker$History" "operations" "I" "LinearizabilityChecker",
  .fieldLinkNest "LinearizabilityChecker" 123 "LinearizabilityChecker$History" "operations" "I" "LinearizabilityChecker",
  .fieldLinkNest "LinearizabilityChecker$Search" 128 "LinearizabilityChecker$History" "kinds" "[I" "LinearizabilityChecker",
  .fieldLinkNest "LinearizabilityChecker" 127 "LinearizabilityChecker$History" "kinds" "[I" "LinearizabilityChecker",
  .fieldLinkNest "LinearizabilityChecker$Search" 93 "LinearizabilityChecker$History" "threads" "[I" "LinearizabilityChecker",
  .fieldLinkNest "LinearizabilityChecker" 130 "LinearizabilityChecker$History" "threads" "[I" "LinearizabilityChecker",
  .fieldLinkNest "LinearizabilityChecker$Search" 59 "LinearizabilityChecker$History" "objects" "[I" "LinearizabilityChecker",
  .fieldLinkNest "LinearizabilityChecker" 133 "LinearizabilityChecker$History" "objects" "[I" "LinearizabilityChecker",
  .fieldLinkNest "LinearizabilityChecker$Search" 131 "LinearizabilityChecker$History" "firstArguments" "[I" "LinearizabilityChecker",
  .fieldLinkNest "LinearizabilityChecker$Search" 134 "LinearizabilityChecker$History" "secondArguments" "[I" "LinearizabilityChecker",
  .fieldLinkNest "LinearizabilityChecker$Search" 61 "LinearizabilityChecker$History" "invokedAt" "[I" "LinearizabilityChecker",
  .fieldLinkNest "LinearizabilityChecker" 135 "LinearizabilityChecker$History" "invokedAt" "[I" "LinearizabilityChecker",
  .fieldLinkNest "LinearizabilityChecker$Search" 68 "LinearizabilityChecker$History" "respondedAt" "[I" "LinearizabilityChecker",
  .fieldLinkNest "LinearizabilityChecker" 141 "LinearizabilityChecker$History" "respondedAt" "[I" "LinearizabilityChecker",
  .fieldLinkNest "LinearizabilityChecker$Search" 71 "LinearizabilityChecker$History" "results" "[I" "LinearizabilityChecker",
  .fieldLinkNest "LinearizabilityChecker" 144 "LinearizabilityChecker$History" "results" "[I" "LinearizabilityChecker",
  .fieldLinkNest "LinearizabilityChecker" 93 "LinearizabilityChecker$History" "pendingOperation" "[I" "LinearizabilityChecker",
  .fieldLinkNest "LinearizabilityChecker" 112 "LinearizabilityChecker$History" "crashed" "[Z" "LinearizabilityChecker",
  .methodLinkNest "LinearizabilityChecker$Recording" 25 ⟨"LinearizabilityChecker$OrderBuffer", "<init>", "()V"⟩ "LinearizabilityChecker",
  .fieldLinkNest "LinearizabilityChecker$Search" 111 "LinearizabilityChecker$OrderBuffer" "size" "I" "LinearizabilityChecker",
  .fieldLinkNest "LinearizabilityChecker" 216 "LinearizabilityChecker$OrderBuffer" "size" "I" "LinearizabilityChecker",
  .fieldLinkNest "LinearizabilityChecker$Search" 116 "LinearizabilityChecker$OrderBuffer" "operations" "[I" "LinearizabilityChecker",
  .fieldLinkNest "LinearizabilityChecker" 222 "LinearizabilityChecker$OrderBuffer" "operations" "[I" "LinearizabilityChecker",
  .fieldLinkNest "LinearizabilityChecker$Search" 31 "LinearizabilityChecker$Recording" "objects" "LLinearizabilityChecker$ObjectTable;" "LinearizabilityChecker",
  .fieldLinkNest "LinearizabilityChecker" 56 "LinearizabilityChecker$Recording" "objects" "LLinearizabilityChecker$ObjectTable;" "LinearizabilityChecker",
  .fieldLinkNest "LinearizabilityChecker$Search" 38 "LinearizabilityChecker$Recording" "history" "LLinearizabilityChecker$History;" "LinearizabilityChecker",
  .fieldLinkNest "LinearizabilityChecker" 74 "LinearizabilityChecker$Recording" "history" "LLinearizabilityChecker$History;" "LinearizabilityChecker",
  .fieldLinkNest "LinearizabilityChecker" 100 "LinearizabilityChecker$Recording" "order" "LLinearizabilityChecker$OrderBuffer;" "LinearizabilityChecker",
  .methodLinkNest "LinearizabilityChecker$Search" 43 ⟨"LinearizabilityChecker$SharedState", "<init>", "()V"⟩ "LinearizabilityChecker",
  .fieldLinkNest "LinearizabilityChecker$Search" 152 "LinearizabilityChecker$SharedState" "value" "I" "LinearizabilityChecker",
  .fieldLinkNest "LinearizabilityChecker" 187 "LinearizabilityChecker$Search" "sequence" "[I" "LinearizabilityChecker",
  .fieldLinkNest "LinearizabilityChecker" 184 "LinearizabilityChecker$Search" "foundLength" "I" "LinearizabilityChecker",
  .methodLinkNest "LinearizabilityChecker" 30 ⟨"LinearizabilityChecker$TextBuffer", "<init>", "()V"⟩ "LinearizabilityChecker",
  .fieldLinkNest "LinearizabilityChecker$Parser" 48 "LinearizabilityChecker$TextBuffer" "length" "I" "LinearizabilityChecker",
  .fieldLinkNest "LinearizabilityChecker" 232 "LinearizabilityChecker$TextBuffer" "length" "I" "LinearizabilityChecker",
  .fieldLinkNest "LinearizabilityChecker$Parser" 109 "LinearizabilityChecker$TextBuffer" "characters" "[C" "LinearizabilityChecker",
  .fieldLinkNest "LinearizabilityChecker" 245 "LinearizabilityChecker$Parser" "commands" "I" "LinearizabilityChecker",
  .fieldLinkNest "LinearizabilityChecker" 273 "LinearizabilityChecker$Parser" "forms" "[I" "LinearizabilityChecker",
  .fieldLinkNest "LinearizabilityChecker" 266 "LinearizabilityChecker$Parser" "threads" "[I" "LinearizabilityChecker",
  .fieldLinkNest "LinearizabilityChecker" 283 "LinearizabilityChecker$Parser" "objects" "[I" "LinearizabilityChecker",
  .fieldLinkNest "LinearizabilityChecker" 282 "LinearizabilityChecker$Parser" "kinds" "[I" "LinearizabilityChecker",
  .fieldLinkNest "LinearizabilityChecker" 267 "LinearizabilityChecker$Parser" "firstNumbers" "[I" "LinearizabilityChecker",
  .fieldLinkNest "LinearizabilityChecker" 270 "LinearizabilityChecker$Parser" "secondNumbers" "[I" "LinearizabilityChecker",
  .fieldLinkNest "LinearizabilityChecker" 242 "LinearizabilityChecker$Parser" "position" "I" "LinearizabilityChecker",
  .methodLinkNest "LinearizabilityChecker$ObjectTable" 22 ⟨"LinearizabilityChecker", "isBetween", "(III)Z"⟩ "LinearizabilityChecker",
  .methodLinkNest "LinearizabilityChecker$History" 65 ⟨"LinearizabilityChecker", "isBetween", "(III)Z"⟩ "LinearizabilityChecker",
  .methodLinkNest "LinearizabilityChecker$Search" 165 ⟨"LinearizabilityChecker", "isBetween", "(III)Z"⟩ "LinearizabilityChecker",
  .methodLinkNest "LinearizabilityChecker$SharedState" 49 ⟨"LinearizabilityChecker", "isBetween", "(III)Z"⟩ "LinearizabilityChecker",
  .methodLinkNest "LinearizabilityChecker$SharedState" 45 ⟨"LinearizabilityChecker", "truth", "(Z)I"⟩ "LinearizabilityChecker",
  .methodLinkNest "LinearizabilityChecker$OrderBuffer" 19 ⟨"LinearizabilityChecker", "isBetween", "(III)Z"⟩ "LinearizabilityChecker",
  .methodLinkNest "LinearizabilityChecker$Parser" 113 ⟨"LinearizabilityChecker", "isBetween", "(III)Z"⟩ "LinearizabilityChecker",
  .methodLinkNest "LinearizabilityChecker$Parser" 79 ⟨"LinearizabilityChecker", "nameOf", "(I)Ljava/lang/String;"⟩ "LinearizabilityChecker",
  .methodLinkNest "LinearizabilityChecker$Parser" 75 ⟨"LinearizabilityChecker", "argumentCount", "(I)I"⟩ "LinearizabilityChecker"]
def ax_nk : Cond → Bool
  | .fieldLinkNest _ _ _ _ _ _ => true
  | .methodLinkNest _ _ _ _ => true
  | _ => false
theorem ax_nest_k : ∀ w ∈ ax_nest, ax_nk w = true := by decide +kernel
theorem ax_Nw_warm {w : Cond} {s U : State} (hW : s.WarmedH U.vm) (hk : ax_nk w = true) (h : va_Nw w s) : va_Nw w U := by
  cases w <;> first | exact va_Nw.warmF hW h | exact va_Nw.warmM hW h | cases hk
theorem ax_Nw_on {w : Cond} (hk : ax_nk w = true) : w.onTables = true := by
  cases w <;> first | rfl | cases hk
/-- what stays of the JDK's own cells: the ten texts, two statics -/
def ax_str (A : Nat → Prop) (ad : Nat → Nat) (U : State) (H : Heap) : Prop :=
  vk_S 10 ax_len ax_byt (fun i => ad (1000 + i)) (fun i => ad (2000 + i)) A U H ∧ (∀ i, i < 10 → vk_R "LinearizabilityChecker" (ax_pool i) (ax_tx.getD i "") (ad (1000 + i)) U) ∧ va_Z "java/lang/String" "COMPACT_STRINGS" "Z" (.int 1) A U H ∧ va_Zq "jdk/internal/util/Preconditions" "SIOOBE_FORMATTER" "Ljava/util/function/BiFunction;" A U H ∧ ∀ w ∈ ax_nest, va_Nw w U
theorem ax_str.kept {A : Nat → Prop} {ad : Nat → Nat} {U : State} {H H1 : Heap} (h : ax_str A ad U H) (hq : ∀ a : Nat, a < H.size → ¬ A a → H1[a]? = H[a]?) : ax_str A ad U H1 := ⟨h.1.kept hq, h.2.1, h.2.2.1.kept hq, h.2.2.2.1.kept hq, h.2.2.2.2⟩
theorem ax_str.narrow {A B : Nat → Prop} {ad : Nat → Nat} {U : State} {H : Heap} (h : ax_str A ad U H) (hAB : ∀ q, B q → A q) : ax_str B ad U H := ⟨h.1.narrow hAB, h.2.1, h.2.2.1.narrow hAB, h.2.2.2.1.narrow hAB, h.2.2.2.2⟩
theorem ax_str.warm {A : Nat → Prop} {ad : Nat → Nat} {s U : State} {H : Heap} (hW : s.WarmedH U.vm) (h : ax_str A ad s H) : ax_str A ad U H := ⟨h.1.moved hW.alike, fun i hi => (h.2.1 i hi).warm hW, h.2.2.1.moved hW.alike, h.2.2.2.1.moved hW.alike, fun w hw => ax_Nw_warm hW (ax_nest_k w hw) (h.2.2.2.2 w hw)⟩
theorem ax_str.same {A : Nat → Prop} {ad : Nat → Nat} {s U : State} {H : Heap} (hv : U.vm = s.vm) (h : ax_str A ad s H) : ax_str A ad U H := by
  have ha : s.vm.Alike U.vm := hv ▸ Vm.Alike.refl s.vm
  exact ⟨h.1.moved ha, fun i hi => (h.2.1 i hi).same hv, h.2.2.1.moved ha, h.2.2.2.1.moved ha, fun w hw => va_Nw.same (ax_Nw_on (ax_nest_k w hw)) hv.symm (h.2.2.2.2 w hw)⟩
def ax_rm (d : Nat) : Room := { frames := d, cells := 0, slots := 0, locals := 40 * d }
def ax_ret (ad : Nat → Nat) (rk : Nat) (r : Int32) : Option Value := if rk = 0 then none else if rk = 1 then some (.int r) else some (.ref (ad (1000 + r.toNatClampNeg)))
def ax_Q (L : ax_L) (D : va_G) (ad : Nat → Nat) (ca : Nat → ClassId) (A : Nat → Prop) (rk : Nat) (r : Int32) (st' : ax_S) : Array Value → State → Outcome → State → Prop := fun _ s0 oc t => oc = .returned (ax_ret ad rk r) ∧ va_P D vwCl (ax_W L ad ca st') t.heap ∧ va_F A s0 t
/-- a method's contract over the abstract states -/
def ax_M (L : ax_L) (y : MethodName) (cc : ByteArray) (nL : Nat) (rt : Option FieldType) (d : Nat) (avs : List ax_V) (st : ax_S) (rk : Nat) (r : Int32) (st' : ax_S) : Prop :=
  ∀ (l : Launch) (D : va_G) (ad : Nat → Nat) (ca : Nat → ClassId) (sz : Nat), Met l y (.code y cc nL rt :: wsL_law) (ax_rm d) (va_Pc (avs.map (ax_val ad)) (fun U => U.heap.size = sz ∧ va_P D vwCl (ax_W L ad ca st) U.heap ∧ ax_K D L ca U ∧ ax_inj L ad ∧ ax_str (ax_A L ad sz) ad U U.heap)) (ax_Q L D ad ca (ax_A L ad sz) rk r st') 0 0 (ax_A L ad sz)
/-- what a method's body knows -/
def ax_ok (C : ax_C) (X : ax_X) (L : ax_L) (cc : ByteArray) (own : String) (nL : Nat) (rt : Option FieldType) (d : Nat) : Prop := match C, X with
  | (p, _, _, R, s, m, args, _, meth, c), (D, ad, ca, A) => p.tables.exec = Jvm.exec ∧ c.code = cc ∧ c.maxLocals = nL ∧ s.vm.findClass own = some m.cls ∧ (∀ w ∈ wsL_law, w.before args s = true) ∧ ax_K D L ca s ∧ ax_inj L ad ∧ A = ax_A L ad s.heap.size ∧ R = ax_rm d ∧ meth.sig.returnType = rt ∧ meth.locks = false ∧ ax_str A ad s s.heap
/-- the locals -/
def ax_lv (ad : Nat → Nat) (lv : List (Option ax_V)) (nL : Nat) (ls : Array Slot) : Prop := ls.size = nL ∧ lv_wf ls ∧ ∀ (k : Nat) (v : ax_V), lv[k]? = some (some v) → ls[k]? = some (.val (ax_val ad v))
/-- the machine, from here on, comes to the end that res says -/
def AW (C : ax_C) (X : ax_X) (L : ax_L) (nL rk : Nat) (res : ax_R) (pc : Nat) (lv : List (Option ax_V)) (stk : List ax_V) (st : ax_S) : Prop := match C, X with
  | (p, l, e, R, s, m, args, below, meth, c), (D, ad, ca, A) => ∀ (r : Int32) (st' : ax_S), res = some (r, st') → ∀ (H : Heap) (locs : List Loc) (ls : Array Slot), va_P D vwCl (ax_W L ad ca st) H → va_S A s.heap H locs → ax_lv ad lv nL ls →
      W p l e R s m args below meth c H locs 0 0 (MQ below (ax_Q L D ad ca A rk r st') args s 0 0 A) (F0 m pc ls (stk.map (ax_val ad)))
