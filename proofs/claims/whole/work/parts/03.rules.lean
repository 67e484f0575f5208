/-! the pure side: what a step of a method does to an abstract state -/
def ax_then (st : ax_S) (g : ax_S → ax_R) : ax_R := g st
def ax_ld (st : ax_S) (o n : Nat) (i : Int32) (g : Int32 → ax_R) : ax_R := if 0 ≤ i ∧ i.toNatClampNeg < n then g (st.2 o i.toNatClampNeg) else none
def ax_sto (st : ax_S) (o n : Nat) (i x : Int32) (g : ax_S → ax_R) : ax_R := if 0 ≤ i ∧ i.toNatClampNeg < n then g (ax_sE st o i.toNatClampNeg x) else none
def ax_bind (f : ax_R) (g : Int32 → ax_S → ax_R) : ax_R := match f with
  | some q => g q.1 q.2
  | none => none
def ax_ldq (qs : List Nat) (i : Int32) (g : Nat → ax_R) : ax_R := if 0 ≤ i ∧ i.toNatClampNeg < qs.length then g (qs.getD i.toNatClampNeg 0) else none
def ax_rz (x : Int32) (st : ax_S) : ax_R := if x = 0 ∨ x = 1 then some (x, st) else none
def ax_putz (st : ax_S) (o k : Nat) (v : Int32) (g : ax_S → ax_R) : ax_R := if v = 0 ∨ v = 1 then g (ax_sI st o k v) else none
def ax_cpy (st : ax_S) (o1 n1 o2 n2 : Nat) (sp dp n : Int32) (g : ax_S → ax_R) : ax_R := if 0 ≤ sp ∧ 0 ≤ dp ∧ 0 ≤ n ∧ sp.toNatClampNeg + n.toNatClampNeg ≤ n1 ∧ dp.toNatClampNeg + n.toNatClampNeg ≤ n2 then g (ax_sA st o2 (va_cpy (st.2 o1) (st.2 o2) sp.toNatClampNeg dp.toNatClampNeg n.toNatClampNeg)) else none
def ax_mx (x y : Int32) : Int32 := if x < y then y else x
def ax_c16 (x : Int32) : Int32 := (x.toUInt32 % 65536).toInt32
theorem ax_vin {i : Int32} {n : Nat} (h : 0 ≤ i ∧ i.toNatClampNeg < n) : vp_in i n := fun q => q.elim (fun q => absurd h.1 (Int32.not_le.mpr q)) (fun q => absurd h.2 (Nat.not_lt.mpr q))
/-! the locals -/
def ax_l (ad : Nat → Nat) (lv : List (Option ax_V)) : List (Nat × Value) := lv.zipIdx.filterMap (fun q => q.1.map (fun v => (q.2, ax_val ad v)))
theorem ax_val_cat (ad : Nat → Nat) (v : ax_V) : (ax_val ad v).category = 1 := by cases v <;> rfl
theorem ax_l_in {ad : Nat → Nat} {lv : List (Option ax_V)} {k : Nat} {v : ax_V} (h : lv[k]? = some (some v)) : (k, ax_val ad v) ∈ ax_l ad lv := List.mem_filterMap.mpr ⟨(some v, k), List.mk_mem_zipIdx_iff_getElem?.mpr h, rfl⟩
theorem ax_lv.has {ad : Nat → Nat} {lv : List (Option ax_V)} {nL : Nat} {ls : Array Slot} (h : ax_lv ad lv nL ls) : lv_has ls nL (ax_l ad lv) := by
  refine ⟨h.1, h.2.1, fun q hq => ?_⟩
  obtain ⟨⟨w, k⟩, h1, h2⟩ := List.mem_filterMap.mp hq
  have h3 := List.mk_mem_zipIdx_iff_getElem?.mp h1
  cases w with
  | none => cases h2
  | some v => cases h2; exact h.2.2 k v h3
theorem ax_lv.stored {ad : Nat → Nat} {lv : List (Option ax_V)} {nL i : Nat} {ls' : Array Slot} {v : ax_V} (h : lv_has ls' nL ((i, ax_val ad v) :: (ax_l ad lv).filter (fun q => !(q.1 == i) && !(q.1 + 1 == i && q.2.category == 2)))) : ax_lv ad (lv.set i (some v)) nL ls' := by
  refine ⟨h.1, h.2.1, fun k w hk => ?_⟩
  rw [List.getElem?_set] at hk
  by_cases hi : i = k
  · rw [if_pos hi] at hk
    subst hi
    split at hk
    · cases hk; exact h.2.2 _ List.mem_cons_self
    · cases hk
  · rw [if_neg hi] at hk
    refine h.2.2 (k, ax_val ad w) (List.mem_cons_of_mem _ (List.mem_filter.mpr ⟨ax_l_in hk, ?_⟩))
    have h1 : (k == i) = false := by simpa using fun e => hi e.symm
    have h2 : ((ax_val ad w).category == 2) = false := by rw [ax_val_cat]; rfl
    simp [h1, h2]
theorem ax_lv.less {ad : Nat → Nat} {lv lv' : List (Option ax_V)} {nL : Nat} {ls : Array Slot} (h : ax_lv ad lv nL ls) (hs : ∀ (k : Nat) (v : ax_V), lv'[k]? = some (some v) → lv[k]? = some (some v)) : ax_lv ad lv' nL ls := ⟨h.1, h.2.1, fun k v hk => h.2.2 k v (hs k v hk)⟩
/-- lv' says nothing that lv doesn't say -/
def ax_le : List (Option ax_V) → List (Option ax_V) → Prop
  | [], _ => True
  | none :: a, _ :: b => ax_le a b
  | some v :: a, w :: b => w = some v ∧ ax_le a b
  | none :: a, [] => ax_le a []
  | some _ :: _, [] => False
theorem ax_le.at : ∀ {a b : List (Option ax_V)}, ax_le a b → ∀ (k : Nat) (v : ax_V), a[k]? = some (some v) → b[k]? = some (some v)
  | [], _, _, k, v, hk => by cases hk
  | none :: a, _ :: b, h, k, v, hk => by
    cases k with
    | zero => cases hk
    | succ k => exact ax_le.at (a := a) (b := b) h k v hk
  | some u :: a, w :: b, h, k, v, hk => by
    cases k with
    | zero => cases hk; exact congrArg some h.1
    | succ k => exact ax_le.at (a := a) (b := b) h.2 k v hk
  | none :: a, [], h, k, v, hk => by
    cases k with
    | zero => cases hk
    | succ k => exact absurd (ax_le.at (a := a) (b := []) h k v hk) (by simp)
  | some _ :: _, [], h, _, _, _ => h.elim
theorem ax_leS {v : ax_V} {a b : List (Option ax_V)} (h : ax_le a b) : ax_le (some v :: a) (some v :: b) := ⟨rfl, h⟩
theorem ax_leN {w : Option ax_V} {a b : List (Option ax_V)} (h : ax_le a b) : ax_le (none :: a) (w :: b) := h
theorem ax_le0 {b : List (Option ax_V)} : ax_le [] b := trivial
/-! the words -/
theorem wsL_good : ∀ w ∈ wsL_law, (w.onTables && w.keeps) = true ∨ ∃ ty, w = .arrayClass ty := by
  have h : wsL_law.all goodWord = true := by decide +kernel
  exact fun w hw => good_of_word (List.all_eq_true.mp h w hw)
def ax_lk (own : String) (idx ci k : Nat) : Prop := ∃ (Cn : String) (T : u_T) (N : Nat), vwCl[ci]? = some (Cn, T, N) ∧ k < N ∧ (Cond.fieldLink own idx Cn (T k).2.1 (T k).2.2.1 ∈ wsL_law ∨ ∃ host, Cond.fieldLinkNest own idx Cn (T k).2.1 (T k).2.2.1 host ∈ ax_nest) ∧ (∀ w ∈ u_ws Cn T N, w ∈ wsL_law) ∧ (T k).1 = Cn
def ax_lp (own : String) (idx ci k : Nat) (ty : FieldType) : Prop := ∃ (Cn : String) (T : u_T) (N : Nat) (ty0 : Nat → FieldType), vwCl[ci]? = some (Cn, T, N) ∧ k < N ∧ (Cond.fieldLink own idx Cn (T k).2.1 (T k).2.2.1 ∈ wsL_law ∨ ∃ host, Cond.fieldLinkNest own idx Cn (T k).2.1 (T k).2.2.1 host ∈ ax_nest) ∧ (∀ w ∈ u_ws Cn T N, w ∈ wsL_law) ∧ (T k).1 = Cn ∧ (∀ k, k < N → parseFieldDescriptor (T k).2.2.1 = some (ty0 k)) ∧ (∀ a, a < N → ∀ b, b < N → a ≠ b → (T a).2.1 ≠ (T b).2.1) ∧ (T k).2.2.2 = false ∧ parseFieldDescriptor (T k).2.2.1 = some ty
def ax_mlk (own : String) (idx : Nat) (y : MethodName) (cy : ByteArray) (nLy : Nat) (rty : Option FieldType) (n : Nat) : Prop := Cond.methodLink own idx y ∈ wsL_law ∧ Cond.initialized y.cls ∈ wsL_law ∧ Cond.code y cy nLy rty ∈ wsL_law ∧ (y.cls ≠ "java/lang/invoke/MethodHandle" ∧ y.cls ≠ "java/lang/invoke/VarHandle" ∧ (parseMethodDescriptor y.desc).map (fun d => d.parameters.length) = some n)
theorem ax_pay {args : Array Value} {s : State} {own : String} {idx : Nat} {y : MethodName} {cy : ByteArray} {nLy : Nat} {rty : Option FieldType} {n d dy : Nat} (hts : ∀ w ∈ wsL_law, w.before args s = true) (h : ax_mlk own idx y cy nLy rty n) (hd : dy + 1 ≤ d) (hn : nLy ≤ 21) : CallB (ax_rm d) s args own idx y cy nLy rty (.code y cy nLy rty :: wsL_law) (ax_rm dy) 0 0 n := by
  obtain ⟨h1, h2, h3, h4⟩ := h
  have hG : GoodIn wsL_law (.code y cy nLy rty :: wsL_law) := fun w hw => by
    have hw' : w ∈ wsL_law := by
      rcases List.mem_cons.mp hw with rfl | h
      · exact h3
      · exact h
    exact ⟨hw', wsL_good w hw'⟩
  exact callB_of n hts hG rfl rfl rfl (hts _ h2) (hts _ h1) h4 ⟨hd, by show 8 + (nLy + 11) + 40 * dy ≤ 40 * d; omega⟩
def ax_mln (own : String) (idx : Nat) (y : MethodName) (cy : ByteArray) (nLy : Nat) (rty : Option FieldType) (n : Nat) : Prop := (∃ host, Cond.methodLinkNest own idx y host ∈ ax_nest) ∧ Cond.initialized y.cls ∈ wsL_law ∧ Cond.code y cy nLy rty ∈ wsL_law ∧ (y.cls ≠ "java/lang/invoke/MethodHandle" ∧ y.cls ≠ "java/lang/invoke/VarHandle" ∧ (parseMethodDescriptor y.desc).map (fun d => d.parameters.length) = some n)
theorem ax_payN {args : Array Value} {s : State} {own : String} {idx : Nat} {y : MethodName} {cy : ByteArray} {nLy : Nat} {rty : Option FieldType} {n d dy : Nat} (hts : ∀ w ∈ wsL_law, w.before args s = true) (hnw : ∀ w ∈ ax_nest, va_Nw w s) (h : ax_mln own idx y cy nLy rty n) (hd : dy + 1 ≤ d) (hn : nLy ≤ 21) : ∃ host, va_CN (ax_rm d) s args own idx y host cy nLy rty (.code y cy nLy rty :: wsL_law) (ax_rm dy) 0 0 n := by
  obtain ⟨⟨host, h1⟩, h2, h3, h4⟩ := h
  have hG : GoodIn wsL_law (.code y cy nLy rty :: wsL_law) := fun w hw => by
    have hw' : w ∈ wsL_law := by
      rcases List.mem_cons.mp hw with rfl | h
      · exact h3
      · exact h
    exact ⟨hw', wsL_good w hw'⟩
  exact ⟨host, va_cnB n hts hG rfl rfl rfl (hnw _ h1) (hts _ h2) h4 ⟨hd, by show 8 + (nLy + 11) + 40 * dy ≤ 40 * d; omega⟩⟩
section AXR
variable {C : ax_C} {X : ax_X} {L : ax_L} {nL rk : Nat} {res : ax_R} {pc : Nat} {lv : List (Option ax_V)} {stk : List ax_V} {st : ax_S} {cc : ByteArray} {own : String} {rt : Option FieldType} {d : Nat}
theorem ax_none {res : ax_R} (h : res = none) : AW C X L nL rk res pc lv stk st := by
  obtain ⟨p, l, e, R, s, m, args, below, meth, c⟩ := C
  obtain ⟨D, ad, ca, A⟩ := X
  intro r st' hres
  rw [h] at hres; cases hres
theorem ax_sub {lv' : List (Option ax_V)} (hs : ax_le lv' lv) (kk : AW C X L nL rk res pc lv' stk st) : AW C X L nL rk res pc lv stk st := by
  obtain ⟨p, l, e, R, s, m, args, below, meth, c⟩ := C
  obtain ⟨D, ad, ca, A⟩ := X
  intro r st' hres H locs ls hP hS hl
  exact kk r st' hres H locs ls hP hS (hl.less (fun k v h => ax_le.at hs k v h))
theorem ax_iconst (hC : ax_ok C X L cc own nL rt d) {n : Int} {v : Int32} (hd : decode cc pc = .ok (.iconst n, 1)) (hv : Int32.ofInt n = v) (kk : AW C X L nL rk res (pc + 1) lv (.inl v :: stk) st) : AW C X L nL rk res pc lv stk st := by
  obtain ⟨p, l, e, R, s, m, args, below, meth, c⟩ := C
  obtain ⟨D, ad, ca, A⟩ := X
  obtain ⟨hx, hb, hml, hown, hts, hK, hi, hA, hR, hr, hlk, hstr⟩ := hC
  intro r st' hres H locs ls hP hS hl
  exact lv_iconst hx hb hd hv (kk r st' hres H locs ls hP hS hl)
theorem ax_bipush (hC : ax_ok C X L cc own nL rt d) {n : Int} {v : Int32} (hd : decode cc pc = .ok (.bipush n, 2)) (hv : (Int8.ofInt n).toInt32 = v) (kk : AW C X L nL rk res (pc + 2) lv (.inl v :: stk) st) : AW C X L nL rk res pc lv stk st := by
  obtain ⟨p, l, e, R, s, m, args, below, meth, c⟩ := C
  obtain ⟨D, ad, ca, A⟩ := X
  obtain ⟨hx, hb, hml, hown, hts, hK, hi, hA, hR, hr, hlk, hstr⟩ := hC
  intro r st' hres H locs ls hP hS hl
  exact lv_bipush hx hb hd hv (kk r st' hres H locs ls hP hS hl)
theorem ax_sipush (hC : ax_ok C X L cc own nL rt d) {n : Int} {v : Int32} (hd : decode cc pc = .ok (.sipush n, 3)) (hv : (Int16.ofInt n).toInt32 = v) (kk : AW C X L nL rk res (pc + 3) lv (.inl v :: stk) st) : AW C X L nL rk res pc lv stk st := by
  obtain ⟨p, l, e, R, s, m, args, below, meth, c⟩ := C
  obtain ⟨D, ad, ca, A⟩ := X
  obtain ⟨hx, hb, hml, hown, hts, hK, hi, hA, hR, hr, hlk, hstr⟩ := hC
  intro r st' hres H locs ls hP hS hl
  exact lv_sipush hx hb hd hv (kk r st' hres H locs ls hP hS hl)
theorem ax_iloadn (hC : ax_ok C X L cc own nL rt d) {k : Fin 4} {i : Nat} {x : Int32} (hd : decode cc pc = .ok (.iload_n k, 1)) (hi : (k : Nat) = i) (hv : lv[i]? = some (some (.inl x))) (kk : AW C X L nL rk res (pc + 1) lv (.inl x :: stk) st) : AW C X L nL rk res pc lv stk st := by
  obtain ⟨p, l, e, R, s, m, args, below, meth, c⟩ := C
  obtain ⟨D, ad, ca, A⟩ := X
  obtain ⟨hx, hb, hml, hown, hts, hK, hij, hA, hR, hr, hlk, hstr⟩ := hC
  intro r st' hres H locs ls hP hS hl
  exact lv_iload_n hx hb hd hi (hl.2.2 i _ hv) (kk r st' hres H locs ls hP hS hl)
theorem ax_iload (hC : ax_ok C X L cc own nL rt d) {i : Nat} {x : Int32} (hd : decode cc pc = .ok (.iload i, 2)) (hv : lv[i]? = some (some (.inl x))) (kk : AW C X L nL rk res (pc + 2) lv (.inl x :: stk) st) : AW C X L nL rk res pc lv stk st := by
  obtain ⟨p, l, e, R, s, m, args, below, meth, c⟩ := C
  obtain ⟨D, ad, ca, A⟩ := X
  obtain ⟨hx, hb, hml, hown, hts, hK, hij, hA, hR, hr, hlk, hstr⟩ := hC
  intro r st' hres H locs ls hP hS hl
  exact lv_iload hx hb hd (hl.2.2 i _ hv) (kk r st' hres H locs ls hP hS hl)
theorem ax_aloadn (hC : ax_ok C X L cc own nL rt d) {k : Fin 4} {i : Nat} {o : Nat} (hd : decode cc pc = .ok (.aload_n k, 1)) (hi : (k : Nat) = i) (hv : lv[i]? = some (some (.inr o))) (kk : AW C X L nL rk res (pc + 1) lv (.inr o :: stk) st) : AW C X L nL rk res pc lv stk st := by
  obtain ⟨p, l, e, R, s, m, args, below, meth, c⟩ := C
  obtain ⟨D, ad, ca, A⟩ := X
  obtain ⟨hx, hb, hml, hown, hts, hK, hij, hA, hR, hr, hlk, hstr⟩ := hC
  intro r st' hres H locs ls hP hS hl
  exact lv_aload_n hx hb hd hi (hl.2.2 i _ hv) (kk r st' hres H locs ls hP hS hl)
theorem ax_aload (hC : ax_ok C X L cc own nL rt d) {i : Nat} {o : Nat} (hd : decode cc pc = .ok (.aload i, 2)) (hv : lv[i]? = some (some (.inr o))) (kk : AW C X L nL rk res (pc + 2) lv (.inr o :: stk) st) : AW C X L nL rk res pc lv stk st := by
  obtain ⟨p, l, e, R, s, m, args, below, meth, c⟩ := C
  obtain ⟨D, ad, ca, A⟩ := X
  obtain ⟨hx, hb, hml, hown, hts, hK, hij, hA, hR, hr, hlk, hstr⟩ := hC
  intro r st' hres H locs ls hP hS hl
  exact lv_aload hx hb hd (hl.2.2 i _ hv) (kk r st' hres H locs ls hP hS hl)
theorem ax_istoren (hC : ax_ok C X L cc own nL rt d) {k : Fin 4} {i : Nat} {x : Int32} {lv' : List (Option ax_V)} (hd : decode cc pc = .ok (.istore_n k, 1)) (hi : (k : Nat) = i) (hn : i < nL) (hv : lv.set i (some (.inl x)) = lv') (kk : AW C X L nL rk res (pc + 1) lv' stk st) : AW C X L nL rk res pc lv (.inl x :: stk) st := by
  subst hv
  obtain ⟨p, l, e, R, s, m, args, below, meth, c⟩ := C
  obtain ⟨D, ad, ca, A⟩ := X
  obtain ⟨hx, hb, hml, hown, hts, hK, hij, hA, hR, hr, hlk, hstr⟩ := hC
  intro r st' hres H locs ls hP hS hl
  exact lv_istore_n hx hb hd hi hl.has hn rfl (fun ls' h => kk r st' hres H locs ls' hP hS (ax_lv.stored (v := .inl x) h))
theorem ax_istore (hC : ax_ok C X L cc own nL rt d) {i : Nat} {x : Int32} {lv' : List (Option ax_V)} (hd : decode cc pc = .ok (.istore i, 2)) (hn : i < nL) (hv : lv.set i (some (.inl x)) = lv') (kk : AW C X L nL rk res (pc + 2) lv' stk st) : AW C X L nL rk res pc lv (.inl x :: stk) st := by
  subst hv
  obtain ⟨p, l, e, R, s, m, args, below, meth, c⟩ := C
  obtain ⟨D, ad, ca, A⟩ := X
  obtain ⟨hx, hb, hml, hown, hts, hK, hij, hA, hR, hr, hlk, hstr⟩ := hC
  intro r st' hres H locs ls hP hS hl
  exact lv_istore hx hb hd hl.has hn rfl (fun ls' h => kk r st' hres H locs ls' hP hS (ax_lv.stored (v := .inl x) h))
theorem ax_astoren (hC : ax_ok C X L cc own nL rt d) {k : Fin 4} {i : Nat} {x : Nat} {lv' : List (Option ax_V)} (hd : decode cc pc = .ok (.astore_n k, 1)) (hi : (k : Nat) = i) (hn : i < nL) (hv : lv.set i (some (.inr x)) = lv') (kk : AW C X L nL rk res (pc + 1) lv' stk st) : AW C X L nL rk res pc lv (.inr x :: stk) st := by
  subst hv
  obtain ⟨p, l, e, R, s, m, args, below, meth, c⟩ := C
  obtain ⟨D, ad, ca, A⟩ := X
  obtain ⟨hx, hb, hml, hown, hts, hK, hij, hA, hR, hr, hlk, hstr⟩ := hC
  intro r st' hres H locs ls hP hS hl
  exact lv_astore_n hx hb hd hi hl.has hn rfl (fun ls' h => kk r st' hres H locs ls' hP hS (ax_lv.stored (v := .inr x) h))
theorem ax_astore (hC : ax_ok C X L cc own nL rt d) {i : Nat} {x : Nat} {lv' : List (Option ax_V)} (hd : decode cc pc = .ok (.astore i, 2)) (hn : i < nL) (hv : lv.set i (some (.inr x)) = lv') (kk : AW C X L nL rk res (pc + 2) lv' stk st) : AW C X L nL rk res pc lv (.inr x :: stk) st := by
  subst hv
  obtain ⟨p, l, e, R, s, m, args, below, meth, c⟩ := C
  obtain ⟨D, ad, ca, A⟩ := X
  obtain ⟨hx, hb, hml, hown, hts, hK, hij, hA, hR, hr, hlk, hstr⟩ := hC
  intro r st' hres H locs ls hP hS hl
  exact lv_astore hx hb hd hl.has hn rfl (fun ls' h => kk r st' hres H locs ls' hP hS (ax_lv.stored (v := .inr x) h))
theorem ax_iinc (hC : ax_ok C X L cc own nL rt d) {i : Nat} {n : Int} {x v : Int32} {lv' : List (Option ax_V)} (hd : decode cc pc = .ok (.iinc i n, 3)) (hg : lv[i]? = some (some (.inl x))) (hx2 : x + Int32.ofInt n = v) (hn : i < nL) (hv : lv.set i (some (.inl v)) = lv') (kk : AW C X L nL rk res (pc + 3) lv' stk st) : AW C X L nL rk res pc lv stk st := by
  subst hv
  obtain ⟨p, l, e, R, s, m, args, below, meth, c⟩ := C
  obtain ⟨D, ad, ca, A⟩ := X
  obtain ⟨hx, hb, hml, hown, hts, hK, hij, hA, hR, hr, hlk, hstr⟩ := hC
  intro r st' hres H locs ls hP hS hl
  obtain ⟨k, hk⟩ := List.getElem?_of_mem (ax_l_in (ad := ad) hg)
  exact lv_iinc hx hb hd hl.has hk hx2 hn rfl (fun ls' h => kk r st' hres H locs ls' hP hS (ax_lv.stored (v := .inl v) h))
theorem ax_iadd (hC : ax_ok C X L cc own nL rt d) {x y : Int32} (hd : decode cc pc = .ok (.iadd, 1)) (kk : AW C X L nL rk res (pc + 1) lv (.inl (x + y) :: stk) st) : AW C X L nL rk res pc lv (.inl y :: .inl x :: stk) st := by
  obtain ⟨p, l, e, R, s, m, args, below, meth, c⟩ := C
  obtain ⟨D, ad, ca, A⟩ := X
  obtain ⟨hx, hb, hml, hown, hts, hK, hij, hA, hR, hr, hlk, hstr⟩ := hC
  intro r st' hres H locs ls hP hS hl
  exact lv_iadd hx hb hd (kk r st' hres H locs ls hP hS hl)
theorem ax_isub (hC : ax_ok C X L cc own nL rt d) {x y : Int32} (hd : decode cc pc = .ok (.isub, 1)) (kk : AW C X L nL rk res (pc + 1) lv (.inl (x - y) :: stk) st) : AW C X L nL rk res pc lv (.inl y :: .inl x :: stk) st := by
  obtain ⟨p, l, e, R, s, m, args, below, meth, c⟩ := C
  obtain ⟨D, ad, ca, A⟩ := X
  obtain ⟨hx, hb, hml, hown, hts, hK, hij, hA, hR, hr, hlk, hstr⟩ := hC
  intro r st' hres H locs ls hP hS hl
  exact lv_isub hx hb hd (kk r st' hres H locs ls hP hS hl)
theorem ax_imul (hC : ax_ok C X L cc own nL rt d) {x y : Int32} (hd : decode cc pc = .ok (.imul, 1)) (kk : AW C X L nL rk res (pc + 1) lv (.inl (x * y) :: stk) st) : AW C X L nL rk res pc lv (.inl y :: .inl x :: stk) st := by
  obtain ⟨p, l, e, R, s, m, args, below, meth, c⟩ := C
  obtain ⟨D, ad, ca, A⟩ := X
  obtain ⟨hx, hb, hml, hown, hts, hK, hij, hA, hR, hr, hlk, hstr⟩ := hC
  intro r st' hres H locs ls hP hS hl
  exact lv_imul hx hb hd (kk r st' hres H locs ls hP hS hl)
theorem ax_iand (hC : ax_ok C X L cc own nL rt d) {x y : Int32} (hd : decode cc pc = .ok (.iand, 1)) (kk : AW C X L nL rk res (pc + 1) lv (.inl (x &&& y) :: stk) st) : AW C X L nL rk res pc lv (.inl y :: .inl x :: stk) st := by
  obtain ⟨p, l, e, R, s, m, args, below, meth, c⟩ := C
  obtain ⟨D, ad, ca, A⟩ := X
  obtain ⟨hx, hb, hml, hown, hts, hK, hij, hA, hR, hr, hlk, hstr⟩ := hC
  intro r st' hres H locs ls hP hS hl
  exact lv_iand hx hb hd (kk r st' hres H locs ls hP hS hl)
theorem ax_ior (hC : ax_ok C X L cc own nL rt d) {x y : Int32} (hd : decode cc pc = .ok (.ior, 1)) (kk : AW C X L nL rk res (pc + 1) lv (.inl (x ||| y) :: stk) st) : AW C X L nL rk res pc lv (.inl y :: .inl x :: stk) st := by
  obtain ⟨p, l, e, R, s, m, args, below, meth, c⟩ := C
  obtain ⟨D, ad, ca, A⟩ := X
  obtain ⟨hx, hb, hml, hown, hts, hK, hij, hA, hR, hr, hlk, hstr⟩ := hC
  intro r st' hres H locs ls hP hS hl
  exact lv_ior hx hb hd (kk r st' hres H locs ls hP hS hl)
theorem ax_ixor (hC : ax_ok C X L cc own nL rt d) {x y : Int32} (hd : decode cc pc = .ok (.ixor, 1)) (kk : AW C X L nL rk res (pc + 1) lv (.inl (x ^^^ y) :: stk) st) : AW C X L nL rk res pc lv (.inl y :: .inl x :: stk) st := by
  obtain ⟨p, l, e, R, s, m, args, below, meth, c⟩ := C
  obtain ⟨D, ad, ca, A⟩ := X
  obtain ⟨hx, hb, hml, hown, hts, hK, hij, hA, hR, hr, hlk, hstr⟩ := hC
  intro r st' hres H locs ls hP hS hl
  exact lv_ixor hx hb hd (kk r st' hres H locs ls hP hS hl)
theorem ax_ishl (hC : ax_ok C X L cc own nL rt d) {x y : Int32} (hd : decode cc pc = .ok (.ishl, 1)) (kk : AW C X L nL rk res (pc + 1) lv (.inl (x <<< (y &&& 31)) :: stk) st) : AW C X L nL rk res pc lv (.inl y :: .inl x :: stk) st := by
  obtain ⟨p, l, e, R, s, m, args, below, meth, c⟩ := C
  obtain ⟨D, ad, ca, A⟩ := X
  obtain ⟨hx, hb, hml, hown, hts, hK, hij, hA, hR, hr, hlk, hstr⟩ := hC
  intro r st' hres H locs ls hP hS hl
  exact lv_ishl hx hb hd (kk r st' hres H locs ls hP hS hl)
theorem ax_ishr (hC : ax_ok C X L cc own nL rt d) {x y : Int32} (hd : decode cc pc = .ok (.ishr, 1)) (kk : AW C X L nL rk res (pc + 1) lv (.inl (x >>> (y &&& 31)) :: stk) st) : AW C X L nL rk res pc lv (.inl y :: .inl x :: stk) st := by
  obtain ⟨p, l, e, R, s, m, args, below, meth, c⟩ := C
  obtain ⟨D, ad, ca, A⟩ := X
  obtain ⟨hx, hb, hml, hown, hts, hK, hij, hA, hR, hr, hlk, hstr⟩ := hC
  intro r st' hres H locs ls hP hS hl
  exact lv_ishr hx hb hd (kk r st' hres H locs ls hP hS hl)
theorem ax_ineg (hC : ax_ok C X L cc own nL rt d) {x : Int32} (hd : decode cc pc = .ok (.ineg, 1)) (kk : AW C X L nL rk res (pc + 1) lv (.inl (-x) :: stk) st) : AW C X L nL rk res pc lv (.inl x :: stk) st := by
  obtain ⟨p, l, e, R, s, m, args, below, meth, c⟩ := C
  obtain ⟨D, ad, ca, A⟩ := X
  obtain ⟨hx, hb, hml, hown, hts, hK, hij, hA, hR, hr, hlk, hstr⟩ := hC
  intro r st' hres H locs ls hP hS hl
  exact lv_ineg hx hb hd (kk r st' hres H locs ls hP hS hl)
theorem ax_i2c (hC : ax_ok C X L cc own nL rt d) {x : Int32} (hd : decode cc pc = .ok (.i2c, 1)) (kk : AW C X L nL rk res (pc + 1) lv (.inl (ax_c16 x) :: stk) st) : AW C X L nL rk res pc lv (.inl x :: stk) st := by
  obtain ⟨p, l, e, R, s, m, args, below, meth, c⟩ := C
  obtain ⟨D, ad, ca, A⟩ := X
  obtain ⟨hx, hb, hml, hown, hts, hK, hij, hA, hR, hr, hlk, hstr⟩ := hC
  intro r st' hres H locs ls hP hS hl
  exact lv_i2c hx hb hd rfl (kk r st' hres H locs ls hP hS hl)
theorem ax_dup (hC : ax_ok C X L cc own nL rt d) {v : ax_V} (hd : decode cc pc = .ok (.dup, 1)) (kk : AW C X L nL rk res (pc + 1) lv (v :: v :: stk) st) : AW C X L nL rk res pc lv (v :: stk) st := by
  obtain ⟨p, l, e, R, s, m, args, below, meth, c⟩ := C
  obtain ⟨D, ad, ca, A⟩ := X
  obtain ⟨hx, hb, hml, hown, hts, hK, hij, hA, hR, hr, hlk, hstr⟩ := hC
  intro r st' hres H locs ls hP hS hl
  exact lv_dup hx hb hd (ax_val_cat ad v) (kk r st' hres H locs ls hP hS hl)
theorem ax_dup2 (hC : ax_ok C X L cc own nL rt d) {v w : ax_V} (hd : decode cc pc = .ok (.dup2, 1)) (kk : AW C X L nL rk res (pc + 1) lv (v :: w :: v :: w :: stk) st) : AW C X L nL rk res pc lv (v :: w :: stk) st := by
  obtain ⟨p, l, e, R, s, m, args, below, meth, c⟩ := C
  obtain ⟨D, ad, ca, A⟩ := X
  obtain ⟨hx, hb, hml, hown, hts, hK, hij, hA, hR, hr, hlk, hstr⟩ := hC
  intro r st' hres H locs ls hP hS hl
  exact lv_dup2_11 hx hb hd (ax_val_cat ad v) (ax_val_cat ad w) (kk r st' hres H locs ls hP hS hl)
theorem ax_pop (hC : ax_ok C X L cc own nL rt d) {v : ax_V} (hd : decode cc pc = .ok (.pop, 1)) (kk : AW C X L nL rk res (pc + 1) lv stk st) : AW C X L nL rk res pc lv (v :: stk) st := by
  obtain ⟨p, l, e, R, s, m, args, below, meth, c⟩ := C
  obtain ⟨D, ad, ca, A⟩ := X
  obtain ⟨hx, hb, hml, hown, hts, hK, hij, hA, hR, hr, hlk, hstr⟩ := hC
  intro r st' hres H locs ls hP hS hl
  exact lv_pop hx hb hd (ax_val_cat ad v) (kk r st' hres H locs ls hP hS hl)
theorem ax_goto (hC : ax_ok C X L cc own nL rt d) {off : Int} {tgt : Nat} (hd : decode cc pc = .ok (.goto off, 3)) (ht : (pc : Int) + off = (tgt : Int)) (kk : AW C X L nL rk res tgt lv stk st) : AW C X L nL rk res pc lv stk st := by
  obtain ⟨p, l, e, R, s, m, args, below, meth, c⟩ := C
  obtain ⟨D, ad, ca, A⟩ := X
  obtain ⟨hx, hb, hml, hown, hts, hK, hij, hA, hR, hr, hlk, hstr⟩ := hC
  intro r st' hres H locs ls hP hS hl
  exact lv_goto hx hb hd ht (kk r st' hres H locs ls hP hS hl)
theorem ax_if_eq (hC : ax_ok C X L cc own nL rt d) {x : Int32} {off : Int} {tgt : Nat} {r1 r2 : ax_R} (hd : decode cc pc = .ok (.ifCond .eq off, 3)) (ht : (pc : Int) + off = (tgt : Int)) (kt : x = 0 → AW C X L nL rk r1 tgt lv stk st) (kf : ¬ x = 0 → AW C X L nL rk r2 (pc + 3) lv stk st) : AW C X L nL rk (if x = 0 then r1 else r2) pc lv (.inl x :: stk) st := by
  obtain ⟨p, l, e, R, s, m, args, below, meth, c⟩ := C
  obtain ⟨D, ad, ca, A⟩ := X
  obtain ⟨hx, hb, hml, hown, hts, hK, hij, hA, hR, hr, hlk, hstr⟩ := hC
  intro r st' hres H locs ls hP hS hl
  by_cases h : x = 0
  · rw [if_pos h] at hres
    exact lv_if_eq hx hb hd ht (fun _ => kt h r st' hres H locs ls hP hS hl) (fun q => absurd h q)
  · rw [if_neg h] at hres
    exact lv_if_eq hx hb hd ht (fun q => absurd q h) (fun _ => kf h r st' hres H locs ls hP hS hl)
theorem ax_if_ne (hC : ax_ok C X L cc own nL rt d) {x : Int32} {off : Int} {tgt : Nat} {r1 r2 : ax_R} (hd : decode cc pc = .ok (.ifCond .ne off, 3)) (ht : (pc : Int) + off = (tgt : Int)) (kt : x = 0 → AW C X L nL rk r1 (pc + 3) lv stk st) (kf : ¬ x = 0 → AW C X L nL rk r2 tgt lv stk st) : AW C X L nL rk (if x = 0 then r1 else r2) pc lv (.inl x :: stk) st := by
  obtain ⟨p, l, e, R, s, m, args, below, meth, c⟩ := C
  obtain ⟨D, ad, ca, A⟩ := X
  obtain ⟨hx, hb, hml, hown, hts, hK, hij, hA, hR, hr, hlk, hstr⟩ := hC
  intro r st' hres H locs ls hP hS hl
  by_cases h : x = 0
  · rw [if_pos h] at hres
    exact lv_if_ne hx hb hd ht (fun q => absurd h q) (fun _ => kt h r st' hres H locs ls hP hS hl)
  · rw [if_neg h] at hres
    exact lv_if_ne hx hb hd ht (fun q => kf h r st' hres H locs ls hP hS hl) (fun q => absurd q h)
theorem ax_if_lt (hC : ax_ok C X L cc own nL rt d) {x : Int32} {off : Int} {tgt : Nat} {r1 r2 : ax_R} (hd : decode cc pc = .ok (.ifCond .lt off, 3)) (ht : (pc : Int) + off = (tgt : Int)) (kt : x < 0 → AW C X L nL rk r1 tgt lv stk st) (kf : ¬ x < 0 → AW C X L nL rk r2 (pc + 3) lv stk st) : AW C X L nL rk (if x < 0 then r1 else r2) pc lv (.inl x :: stk) st := by
  obtain ⟨p, l, e, R, s, m, args, below, meth, c⟩ := C
  obtain ⟨D, ad, ca, A⟩ := X
  obtain ⟨hx, hb, hml, hown, hts, hK, hij, hA, hR, hr, hlk, hstr⟩ := hC
  intro r st' hres H locs ls hP hS hl
  by_cases h : x < 0
  · rw [if_pos h] at hres
    exact lv_if_lt hx hb hd ht (fun _ => kt h r st' hres H locs ls hP hS hl) (fun q => absurd h q)
  · rw [if_neg h] at hres
    exact lv_if_lt hx hb hd ht (fun q => absurd q h) (fun _ => kf h r st' hres H locs ls hP hS hl)
theorem ax_if_ge (hC : ax_ok C X L cc own nL rt d) {x : Int32} {off : Int} {tgt : Nat} {r1 r2 : ax_R} (hd : decode cc pc = .ok (.ifCond .ge off, 3)) (ht : (pc : Int) + off = (tgt : Int)) (kt : 0 ≤ x → AW C X L nL rk r1 tgt lv stk st) (kf : ¬ 0 ≤ x → AW C X L nL rk r2 (pc + 3) lv stk st) : AW C X L nL rk (if 0 ≤ x then r1 else r2) pc lv (.inl x :: stk) st := by
  obtain ⟨p, l, e, R, s, m, args, below, meth, c⟩ := C
  obtain ⟨D, ad, ca, A⟩ := X
  obtain ⟨hx, hb, hml, hown, hts, hK, hij, hA, hR, hr, hlk, hstr⟩ := hC
  intro r st' hres H locs ls hP hS hl
  by_cases h : 0 ≤ x
  · rw [if_pos h] at hres
    exact lv_if_ge hx hb hd ht (fun _ => kt h r st' hres H locs ls hP hS hl) (fun q => absurd h q)
  · rw [if_neg h] at hres
    exact lv_if_ge hx hb hd ht (fun q => absurd q h) (fun _ => kf h r st' hres H locs ls hP hS hl)
theorem ax_if_gt (hC : ax_ok C X L cc own nL rt d) {x : Int32} {off : Int} {tgt : Nat} {r1 r2 : ax_R} (hd : decode cc pc = .ok (.ifCond .gt off, 3)) (ht : (pc : Int) + off = (tgt : Int)) (kt : 0 < x → AW C X L nL rk r1 tgt lv stk st) (kf : ¬ 0 < x → AW C X L nL rk r2 (pc + 3) lv stk st) : AW C X L nL rk (if 0 < x then r1 else r2) pc lv (.inl x :: stk) st := by
  obtain ⟨p, l, e, R, s, m, args, below, meth, c⟩ := C
  obtain ⟨D, ad, ca, A⟩ := X
  obtain ⟨hx, hb, hml, hown, hts, hK, hij, hA, hR, hr, hlk, hstr⟩ := hC
  intro r st' hres H locs ls hP hS hl
  by_cases h : 0 < x
  · rw [if_pos h] at hres
    exact lv_if_gt hx hb hd ht (fun _ => kt h r st' hres H locs ls hP hS hl) (fun q => absurd h q)
  · rw [if_neg h] at hres
    exact lv_if_gt hx hb hd ht (fun q => absurd q h) (fun _ => kf h r st' hres H locs ls hP hS hl)
theorem ax_if_le (hC : ax_ok C X L cc own nL rt d) {x : Int32} {off : Int} {tgt : Nat} {r1 r2 : ax_R} (hd : decode cc pc = .ok (.ifCond .le off, 3)) (ht : (pc : Int) + off = (tgt : Int)) (kt : x ≤ 0 → AW C X L nL rk r1 tgt lv stk st) (kf : ¬ x ≤ 0 → AW C X L nL rk r2 (pc + 3) lv stk st) : AW C X L nL rk (if x ≤ 0 then r1 else r2) pc lv (.inl x :: stk) st := by
  obtain ⟨p, l, e, R, s, m, args, below, meth, c⟩ := C
  obtain ⟨D, ad, ca, A⟩ := X
  obtain ⟨hx, hb, hml, hown, hts, hK, hij, hA, hR, hr, hlk, hstr⟩ := hC
  intro r st' hres H locs ls hP hS hl
  by_cases h : x ≤ 0
  · rw [if_pos h] at hres
    exact lv_if_le hx hb hd ht (fun _ => kt h r st' hres H locs ls hP hS hl) (fun q => absurd h q)
  · rw [if_neg h] at hres
    exact lv_if_le hx hb hd ht (fun q => absurd q h) (fun _ => kf h r st' hres H locs ls hP hS hl)
theorem ax_icmp_eq (hC : ax_ok C X L cc own nL rt d) {x y : Int32} {off : Int} {tgt : Nat} {r1 r2 : ax_R} (hd : decode cc pc = .ok (.if_icmp .eq off, 3)) (ht : (pc : Int) + off = (tgt : Int)) (kt : x = y → AW C X L nL rk r1 tgt lv stk st) (kf : ¬ x = y → AW C X L nL rk r2 (pc + 3) lv stk st) : AW C X L nL rk (if x = y then r1 else r2) pc lv (.inl y :: .inl x :: stk) st := by
  obtain ⟨p, l, e, R, s, m, args, below, meth, c⟩ := C
  obtain ⟨D, ad, ca, A⟩ := X
  obtain ⟨hx, hb, hml, hown, hts, hK, hij, hA, hR, hr, hlk, hstr⟩ := hC
  intro r st' hres H locs ls hP hS hl
  by_cases h : x = y
  · rw [if_pos h] at hres
    exact lv_icmp_eq hx hb hd ht (fun _ => kt h r st' hres H locs ls hP hS hl) (fun q => absurd h q)
  · rw [if_neg h] at hres
    exact lv_icmp_eq hx hb hd ht (fun q => absurd q h) (fun _ => kf h r st' hres H locs ls hP hS hl)
theorem ax_icmp_ne (hC : ax_ok C X L cc own nL rt d) {x y : Int32} {off : Int} {tgt : Nat} {r1 r2 : ax_R} (hd : decode cc pc = .ok (.if_icmp .ne off, 3)) (ht : (pc : Int) + off = (tgt : Int)) (kt : x = y → AW C X L nL rk r1 (pc + 3) lv stk st) (kf : ¬ x = y → AW C X L nL rk r2 tgt lv stk st) : AW C X L nL rk (if x = y then r1 else r2) pc lv (.inl y :: .inl x :: stk) st := by
  obtain ⟨p, l, e, R, s, m, args, below, meth, c⟩ := C
  obtain ⟨D, ad, ca, A⟩ := X
  obtain ⟨hx, hb, hml, hown, hts, hK, hij, hA, hR, hr, hlk, hstr⟩ := hC
  intro r st' hres H locs ls hP hS hl
  by_cases h : x = y
  · rw [if_pos h] at hres
    exact lv_icmp_ne hx hb hd ht (fun q => absurd h q) (fun _ => kt h r st' hres H locs ls hP hS hl)
  · rw [if_neg h] at hres
    exact lv_icmp_ne hx hb hd ht (fun q => kf h r st' hres H locs ls hP hS hl) (fun q => absurd q h)
theorem ax_icmp_lt (hC : ax_ok C X L cc own nL rt d) {x y : Int32} {off : Int} {tgt : Nat} {r1 r2 : ax_R} (hd : decode cc pc = .ok (.if_icmp .lt off, 3)) (ht : (pc : Int) + off = (tgt : Int)) (kt : x < y → AW C X L nL rk r1 tgt lv stk st) (kf : ¬ x < y → AW C X L nL rk r2 (pc + 3) lv stk st) : AW C X L nL rk (if x < y then r1 else r2) pc lv (.inl y :: .inl x :: stk) st := by
  obtain ⟨p, l, e, R, s, m, args, below, meth, c⟩ := C
  obtain ⟨D, ad, ca, A⟩ := X
  obtain ⟨hx, hb, hml, hown, hts, hK, hij, hA, hR, hr, hlk, hstr⟩ := hC
  intro r st' hres H locs ls hP hS hl
  by_cases h : x < y
  · rw [if_pos h] at hres
    exact lv_icmp_lt hx hb hd ht (fun _ => kt h r st' hres H locs ls hP hS hl) (fun q => absurd h q)
  · rw [if_neg h] at hres
    exact lv_icmp_lt hx hb hd ht (fun q => absurd q h) (fun _ => kf h r st' hres H locs ls hP hS hl)
theorem ax_icmp_ge (hC : ax_ok C X L cc own nL rt d) {x y : Int32} {off : Int} {tgt : Nat} {r1 r2 : ax_R} (hd : decode cc pc = .ok (.if_icmp .ge off, 3)) (ht : (pc : Int) + off = (tgt : Int)) (kt : y ≤ x → AW C X L nL rk r1 tgt lv stk st) (kf : ¬ y ≤ x → AW C X L nL rk r2 (pc + 3) lv stk st) : AW C X L nL rk (if y ≤ x then r1 else r2) pc lv (.inl y :: .inl x :: stk) st := by
  obtain ⟨p, l, e, R, s, m, args, below, meth, c⟩ := C
  obtain ⟨D, ad, ca, A⟩ := X
  obtain ⟨hx, hb, hml, hown, hts, hK, hij, hA, hR, hr, hlk, hstr⟩ := hC
  intro r st' hres H locs ls hP hS hl
  by_cases h : y ≤ x
  · rw [if_pos h] at hres
    exact lv_icmp_ge hx hb hd ht (fun _ => kt h r st' hres H locs ls hP hS hl) (fun q => absurd h q)
  · rw [if_neg h] at hres
    exact lv_icmp_ge hx hb hd ht (fun q => absurd q h) (fun _ => kf h r st' hres H locs ls hP hS hl)
theorem ax_icmp_gt (hC : ax_ok C X L cc own nL rt d) {x y : Int32} {off : Int} {tgt : Nat} {r1 r2 : ax_R} (hd : decode cc pc = .ok (.if_icmp .gt off, 3)) (ht : (pc : Int) + off = (tgt : Int)) (kt : y < x → AW C X L nL rk r1 tgt lv stk st) (kf : ¬ y < x → AW C X L nL rk r2 (pc + 3) lv stk st) : AW C X L nL rk (if y < x then r1 else r2) pc lv (.inl y :: .inl x :: stk) st := by
  obtain ⟨p, l, e, R, s, m, args, below, meth, c⟩ := C
  obtain ⟨D, ad, ca, A⟩ := X
  obtain ⟨hx, hb, hml, hown, hts, hK, hij, hA, hR, hr, hlk, hstr⟩ := hC
  intro r st' hres H locs ls hP hS hl
  by_cases h : y < x
  · rw [if_pos h] at hres
    exact lv_icmp_gt hx hb hd ht (fun _ => kt h r st' hres H locs ls hP hS hl) (fun q => absurd h q)
  · rw [if_neg h] at hres
    exact lv_icmp_gt hx hb hd ht (fun q => absurd q h) (fun _ => kf h r st' hres H locs ls hP hS hl)
theorem ax_icmp_le (hC : ax_ok C X L cc own nL rt d) {x y : Int32} {off : Int} {tgt : Nat} {r1 r2 : ax_R} (hd : decode cc pc = .ok (.if_icmp .le off, 3)) (ht : (pc : Int) + off = (tgt : Int)) (kt : x ≤ y → AW C X L nL rk r1 tgt lv stk st) (kf : ¬ x ≤ y → AW C X L nL rk r2 (pc + 3) lv stk st) : AW C X L nL rk (if x ≤ y then r1 else r2) pc lv (.inl y :: .inl x :: stk) st := by
  obtain ⟨p, l, e, R, s, m, args, below, meth, c⟩ := C
  obtain ⟨D, ad, ca, A⟩ := X
  obtain ⟨hx, hb, hml, hown, hts, hK, hij, hA, hR, hr, hlk, hstr⟩ := hC
  intro r st' hres H locs ls hP hS hl
  by_cases h : x ≤ y
  · rw [if_pos h] at hres
    exact lv_icmp_le hx hb hd ht (fun _ => kt h r st' hres H locs ls hP hS hl) (fun q => absurd h q)
  · rw [if_neg h] at hres
    exact lv_icmp_le hx hb hd ht (fun q => absurd q h) (fun _ => kf h r st' hres H locs ls hP hS hl)
theorem ax_lkI (hC : ax_ok C X L cc own nL rt d) {idx o ci k : Nat} {fs : List (Option Nat)} (hk : ax_lk own idx ci k) (he : L[o]? = some (.inr (.inr (ci, fs)))) (hf : fs[k]? = some none) (hd : decode cc pc = .ok (.getfield idx, 3)) (kk : AW C X L nL rk res (pc + 3) lv (.inl (st.1 o k) :: stk) st) : AW C X L nL rk res pc lv (.inr o :: stk) st := by
  obtain ⟨p, l, e, R, s, m, args, below, meth, c⟩ := C
  obtain ⟨D, ad, ca, A⟩ := X
  obtain ⟨hx, hb, hml, hown, hts, hK, hij, hA, hR, hr, hlk, hstr⟩ := hC
  obtain ⟨Cn, T, N, h1, h2, h3, h4, h5⟩ := hk
  intro r st' hres H locs ls hP hS hl
  have hv9 : (fs.mapIdx (ax_fld ad st o))[k]? = some (.int (st.1 o k)) := by rw [List.getElem?_mapIdx, hf]; rfl
  rcases h3 with h3 | ⟨host, h3⟩
  · exact va_get (D := D) (ci := ci) (v := .int (st.1 o k)) (C := Cn) (T := T) (N := N) hx hb hts h4 hown hK.1 hP o (ax_W_of he) h1 k h2 (hts _ h3) (fun _ h9 => by rw [h5] at h9; exact h9) hv9 hd (kk r st' hres H locs ls hP hS hl)
  · exact va_getN (D := D) (ci := ci) (v := .int (st.1 o k)) (C := Cn) (T := T) (N := N) hx hb hts h4 hown hK.1 hP o (ax_W_of he) h1 k h2 ((hstr.2.2.2.2 _ h3).use rfl) (fun _ h9 => by rw [h5] at h9; exact h9) hv9 hd (kk r st' hres H locs ls hP hS hl)
theorem ax_lkR (hC : ax_ok C X L cc own nL rt d) {idx o ci k q : Nat} {fs : List (Option Nat)} (hk : ax_lk own idx ci k) (he : L[o]? = some (.inr (.inr (ci, fs)))) (hf : fs[k]? = some (some q)) (hd : decode cc pc = .ok (.getfield idx, 3)) (kk : AW C X L nL rk res (pc + 3) lv (.inr q :: stk) st) : AW C X L nL rk res pc lv (.inr o :: stk) st := by
  obtain ⟨p, l, e, R, s, m, args, below, meth, c⟩ := C
  obtain ⟨D, ad, ca, A⟩ := X
  obtain ⟨hx, hb, hml, hown, hts, hK, hij, hA, hR, hr, hlk, hstr⟩ := hC
  obtain ⟨Cn, T, N, h1, h2, h3, h4, h5⟩ := hk
  intro r st' hres H locs ls hP hS hl
  have hv9 : (fs.mapIdx (ax_fld ad st o))[k]? = some (.ref (ad q)) := by rw [List.getElem?_mapIdx, hf]; rfl
  rcases h3 with h3 | ⟨host, h3⟩
  · exact va_get (D := D) (ci := ci) (v := .ref (ad q)) (C := Cn) (T := T) (N := N) hx hb hts h4 hown hK.1 hP o (ax_W_of he) h1 k h2 (hts _ h3) (fun _ h9 => by rw [h5] at h9; exact h9) hv9 hd (kk r st' hres H locs ls hP hS hl)
  · exact va_getN (D := D) (ci := ci) (v := .ref (ad q)) (C := Cn) (T := T) (N := N) hx hb hts h4 hown hK.1 hP o (ax_W_of he) h1 k h2 ((hstr.2.2.2.2 _ h3).use rfl) (fun _ h9 => by rw [h5] at h9; exact h9) hv9 hd (kk r st' hres H locs ls hP hS hl)
theorem ax_AD {p : Program} {l : Launch} {e : Env} {R : Room} {s : State} {m : MethodId} {args : Array Value} {below : List Frame} {meth : Method} {c : Code} {D : va_G} {ad : Nat → Nat} {ca : Nat → ClassId} {A : Nat → Prop} (hC : ax_ok (p, l, e, R, s, m, args, below, meth, c) (D, ad, ca, A) L cc own nL rt d) (st : ax_S) : va_D A (ax_W L ad ca st) := by
  obtain ⟨hx, hb, hml, hown, hts, hK, hij, hA, hR, hr, hlk, hstr⟩ := hC
  exact ax_W_D st hij (fun o ho => by rw [hA]; exact Or.inl ⟨o, ho, rfl⟩)
theorem ax_put (hC : ax_ok C X L cc own nL rt d) {idx o ci k : Nat} {fs : List (Option Nat)} {v : Int32} {ty : FieldType} {res1 : ax_R} (hk : ax_lp own idx ci k ty) (he : L[o]? = some (.inr (.inr (ci, fs)))) (hf : fs[k]? = some none) (hn : narrow ty (.int v) = .int v) (hfit : fits ty (.int v) = true) (hd : decode cc pc = .ok (.putfield idx, 3)) (kk : AW C X L nL rk res1 (pc + 3) lv stk (ax_sI st o k v)) : AW C X L nL rk res1 pc lv (.inl v :: .inr o :: stk) st := by
  obtain ⟨p, l, e, R, s, m, args, below, meth, c⟩ := C
  obtain ⟨D, ad, ca, A⟩ := X
  have hD := ax_AD hC st
  obtain ⟨hx, hb, hml, hown, hts, hK, hij, hA, hR, hr, hlk, hstr⟩ := hC
  obtain ⟨Cn, T, N, ty0, h1, h2, h3, h4, h5, h6, h7, h8, h9⟩ := hk
  intro r st' hres H locs ls hP hS hl
  have hkl : k < (fs.mapIdx (ax_fld ad st o)).length := by
    rw [List.length_mapIdx]; exact (List.getElem?_eq_some_iff.mp hf).1
  rcases h3 with h3 | ⟨host, h3⟩
  · refine va_put (D := D) (ci := ci) (v := .int v) (ty := ty) (C := Cn) (T := T) (N := N) hx hb hts h4 ty0 h6 h7 hown hK.1 hP hD hS o (ax_W_of he) h1 k h2 (hts _ h3) (fun _ g9 => by rw [h5] at g9; exact g9) h8 h9 hn hfit hkl hd (fun H1 locs1 hP1 hD1 hS1 => ?_)
    rw [ax_setI he hf] at hP1
    exact kk r st' hres H1 locs1 ls hP1 hS1 hl
  · refine va_putN (D := D) (ci := ci) (v := .int v) (ty := ty) (C := Cn) (T := T) (N := N) hx hb hts h4 ty0 h6 h7 hown hK.1 hP hD hS o (ax_W_of he) h1 k h2 ((hstr.2.2.2.2 _ h3).use rfl) (fun _ g9 => by rw [h5] at g9; exact g9) h8 h9 hn hfit hkl hd (fun H1 locs1 hP1 hD1 hS1 => ?_)
    rw [ax_setI he hf] at hP1
    exact kk r st' hres H1 locs1 ls hP1 hS1 hl
theorem ax_putI (hC : ax_ok C X L cc own nL rt d) {idx o ci k : Nat} {fs : List (Option Nat)} {v : Int32} {g : ax_S → ax_R} (hk : ax_lp own idx ci k .int) (he : L[o]? = some (.inr (.inr (ci, fs)))) (hf : fs[k]? = some none) (hd : decode cc pc = .ok (.putfield idx, 3)) (kk : ∀ st1, AW C X L nL rk (g st1) (pc + 3) lv stk st1) : AW C X L nL rk (ax_then (ax_sI st o k v) g) pc lv (.inl v :: .inr o :: stk) st :=
  ax_put hC hk he hf rfl rfl hd (kk _)
theorem ax_bool {v : Int32} (h : v = 0 ∨ v = 1) : narrow .boolean (.int v) = .int v ∧ fits .boolean (.int v) = true := by
  rcases h with rfl | rfl <;> exact ⟨by decide +kernel, by decide +kernel⟩
theorem ax_putZ (hC : ax_ok C X L cc own nL rt d) {idx o ci k : Nat} {fs : List (Option Nat)} {v : Int32} {g : ax_S → ax_R} (hk : ax_lp own idx ci k .boolean) (he : L[o]? = some (.inr (.inr (ci, fs)))) (hf : fs[k]? = some none) (hd : decode cc pc = .ok (.putfield idx, 3)) (kk : ∀ st1, AW C X L nL rk (g st1) (pc + 3) lv stk st1) : AW C X L nL rk (ax_putz st o k v g) pc lv (.inl v :: .inr o :: stk) st := by
  by_cases h : v = 0 ∨ v = 1
  · rw [ax_putz, if_pos h]
    exact ax_put hC hk he hf (ax_bool h).1 (ax_bool h).2 hd (kk _)
  · rw [ax_putz, if_neg h]; exact ax_none rfl
theorem ax_iald (hC : ax_ok C X L cc own nL rt d) {o n : Nat} {i : Int32} {g : Int32 → ax_R} (he : L[o]? = some (.inl (.int, n))) (hd : decode cc pc = .ok (.iaload, 1)) (kk : ∀ v, AW C X L nL rk (g v) (pc + 1) lv (.inl v :: stk) st) : AW C X L nL rk (ax_ld st o n i g) pc lv (.inl i :: .inr o :: stk) st := by
  by_cases h : 0 ≤ i ∧ i.toNatClampNeg < n
  · rw [ax_ld, if_pos h]
    obtain ⟨p, l, e, R, s, m, args, below, meth, c⟩ := C
    obtain ⟨D, ad, ca, A⟩ := X
    obtain ⟨hx, hb, hml, hown, hts, hK, hij, hA, hR, hr, hlk, hstr⟩ := hC
    intro r st' hres H locs ls hP hS hl
    exact va_iald hx hb (hK.one he) hP o 0 (ax_W_of he) rfl (ax_vin h) hd (kk _ r st' hres H locs ls hP hS hl)
  · rw [ax_ld, if_neg h]; exact ax_none rfl
theorem ax_zald (hC : ax_ok C X L cc own nL rt d) {o n : Nat} {i : Int32} {g : Int32 → ax_R} (he : L[o]? = some (.inl (.boolean, n))) (hd : decode cc pc = .ok (.baload, 1)) (kk : ∀ v, AW C X L nL rk (g v) (pc + 1) lv (.inl v :: stk) st) : AW C X L nL rk (ax_ld st o n i g) pc lv (.inl i :: .inr o :: stk) st := by
  by_cases h : 0 ≤ i ∧ i.toNatClampNeg < n
  · rw [ax_ld, if_pos h]
    obtain ⟨p, l, e, R, s, m, args, below, meth, c⟩ := C
    obtain ⟨D, ad, ca, A⟩ := X
    obtain ⟨hx, hb, hml, hown, hts, hK, hij, hA, hR, hr, hlk, hstr⟩ := hC
    intro r st' hres H locs ls hP hS hl
    exact va_zald hx hb (hK.one he) hP o 0 (ax_W_of he) rfl (ax_vin h) hd (kk _ r st' hres H locs ls hP hS hl)
  · rw [ax_ld, if_neg h]; exact ax_none rfl
theorem ax_cald (hC : ax_ok C X L cc own nL rt d) {o n : Nat} {i : Int32} {g : Int32 → ax_R} (he : L[o]? = some (.inl (.char, n))) (hd : decode cc pc = .ok (.caload, 1)) (kk : ∀ v, AW C X L nL rk (g v) (pc + 1) lv (.inl v :: stk) st) : AW C X L nL rk (ax_ld st o n i g) pc lv (.inl i :: .inr o :: stk) st := by
  by_cases h : 0 ≤ i ∧ i.toNatClampNeg < n
  · rw [ax_ld, if_pos h]
    obtain ⟨p, l, e, R, s, m, args, below, meth, c⟩ := C
    obtain ⟨D, ad, ca, A⟩ := X
    obtain ⟨hx, hb, hml, hown, hts, hK, hij, hA, hR, hr, hlk, hstr⟩ := hC
    intro r st' hres H locs ls hP hS hl
    exact va_cald hx hb (hK.one he) hP o 0 (ax_W_of he) rfl (ax_vin h) hd (kk _ r st' hres H locs ls hP hS hl)
  · rw [ax_ld, if_neg h]; exact ax_none rfl
theorem ax_iast (hC : ax_ok C X L cc own nL rt d) {o n : Nat} {i x : Int32} {g : ax_S → ax_R} (he : L[o]? = some (.inl (.int, n))) (hd : decode cc pc = .ok (.iastore, 1)) (kk : ∀ st1, AW C X L nL rk (g st1) (pc + 1) lv stk st1) : AW C X L nL rk (ax_sto st o n i x g) pc lv (.inl x :: .inl i :: .inr o :: stk) st := by
  by_cases h : 0 ≤ i ∧ i.toNatClampNeg < n
  · rw [ax_sto, if_pos h]
    obtain ⟨p, l, e, R, s, m, args, below, meth, c⟩ := C
    obtain ⟨D, ad, ca, A⟩ := X
    have hD := ax_AD hC st
    obtain ⟨hx, hb, hml, hown, hts, hK, hij, hA, hR, hr, hlk, hstr⟩ := hC
    intro r st' hres H locs ls hP hS hl
    refine va_iast hx hb (hK.one he) hP hD hS o 0 (ax_W_of he) rfl (ax_vin h) hd (fun H1 locs1 hP1 hD1 hS1 => ?_)
    rw [ax_setA he] at hP1
    exact kk _ r st' hres H1 locs1 ls hP1 hS1 hl
  · rw [ax_sto, if_neg h]; exact ax_none rfl
theorem ax_zast (hC : ax_ok C X L cc own nL rt d) {o n : Nat} {i x : Int32} {g : ax_S → ax_R} (he : L[o]? = some (.inl (.boolean, n))) (hd : decode cc pc = .ok (.bastore, 1)) (kk : ∀ st1, AW C X L nL rk (g st1) (pc + 1) lv stk st1) : AW C X L nL rk (ax_sto st o n i (vp_nar .boolean x) g) pc lv (.inl x :: .inl i :: .inr o :: stk) st := by
  by_cases h : 0 ≤ i ∧ i.toNatClampNeg < n
  · rw [ax_sto, if_pos h]
    obtain ⟨p, l, e, R, s, m, args, below, meth, c⟩ := C
    obtain ⟨D, ad, ca, A⟩ := X
    have hD := ax_AD hC st
    obtain ⟨hx, hb, hml, hown, hts, hK, hij, hA, hR, hr, hlk, hstr⟩ := hC
    intro r st' hres H locs ls hP hS hl
    refine va_zast hx hb (hK.one he) hP hD hS o 0 (ax_W_of he) rfl (ax_vin h) hd (fun H1 locs1 hP1 hD1 hS1 => ?_)
    rw [ax_setA he] at hP1
    exact kk _ r st' hres H1 locs1 ls hP1 hS1 hl
  · rw [ax_sto, if_neg h]; exact ax_none rfl
theorem ax_cast (hC : ax_ok C X L cc own nL rt d) {o n : Nat} {i x : Int32} {g : ax_S → ax_R} (he : L[o]? = some (.inl (.char, n))) (hd : decode cc pc = .ok (.castore, 1)) (kk : ∀ st1, AW C X L nL rk (g st1) (pc + 1) lv stk st1) : AW C X L nL rk (ax_sto st o n i (vp_nar .char x) g) pc lv (.inl x :: .inl i :: .inr o :: stk) st := by
  by_cases h : 0 ≤ i ∧ i.toNatClampNeg < n
  · rw [ax_sto, if_pos h]
    obtain ⟨p, l, e, R, s, m, args, below, meth, c⟩ := C
    obtain ⟨D, ad, ca, A⟩ := X
    have hD := ax_AD hC st
    obtain ⟨hx, hb, hml, hown, hts, hK, hij, hA, hR, hr, hlk, hstr⟩ := hC
    intro r st' hres H locs ls hP hS hl
    refine va_cast hx hb (hK.one he) hP hD hS o 0 (ax_W_of he) rfl (ax_vin h) hd (fun H1 locs1 hP1 hD1 hS1 => ?_)
    rw [ax_setA he] at hP1
    exact kk _ r st' hres H1 locs1 ls hP1 hS1 hl
  · rw [ax_sto, if_neg h]; exact ax_none rfl
theorem ax_aald (hC : ax_ok C X L cc own nL rt d) {o : Nat} {Cn : String} {qs : List Nat} {i : Int32} {g : Nat → ax_R} (he : L[o]? = some (.inr (.inl (Cn, qs)))) (hd : decode cc pc = .ok (.aaload, 1)) (kk : ∀ q, q ∈ qs → AW C X L nL rk (g q) (pc + 1) lv (.inr q :: stk) st) : AW C X L nL rk (ax_ldq qs i g) pc lv (.inl i :: .inr o :: stk) st := by
  by_cases h : 0 ≤ i ∧ i.toNatClampNeg < qs.length
  · rw [ax_ldq, if_pos h]
    obtain ⟨p, l, e, R, s, m, args, below, meth, c⟩ := C
    obtain ⟨D, ad, ca, A⟩ := X
    obtain ⟨hx, hb, hml, hown, hts, hK, hij, hA, hR, hr, hlk, hstr⟩ := hC
    intro r st' hres H locs ls hP hS hl
    have hg : qs[i.toNatClampNeg]? = some (qs.getD i.toNatClampNeg 0) := by
      rw [List.getD_eq_getElem?_getD, List.getElem?_eq_getElem h.2]; rfl
    refine va_aldq hx hb (hK.ref he) hP o 0 (ax_W_of he) rfl (ax_vin h) hd ?_
    rw [hg]
    exact kk _ (List.mem_of_getElem? hg) r st' hres H locs ls hP hS hl
  · rw [ax_ldq, if_neg h]; exact ax_none rfl
theorem ax_alen (hC : ax_ok C X L cc own nL rt d) {o n : Nat} {ty : FieldType} {v : Int32} (he : L[o]? = some (.inl (ty, n))) (hv : Int32.ofNat n = v) (hd : decode cc pc = .ok (.arraylength, 1)) (kk : AW C X L nL rk res (pc + 1) lv (.inl v :: stk) st) : AW C X L nL rk res pc lv (.inr o :: stk) st := by
  obtain ⟨p, l, e, R, s, m, args, below, meth, c⟩ := C
  obtain ⟨D, ad, ca, A⟩ := X
  obtain ⟨hx, hb, hml, hown, hts, hK, hij, hA, hR, hr, hlk, hstr⟩ := hC
  intro r st' hres H locs ls hP hS hl
  exact va_alen hx hb (hK.one he) hP o 0 (ax_W_of he) (ty := ty) rfl hv hd (kk r st' hres H locs ls hP hS hl)
theorem ax_cats (ad : Nat → Nat) (stk : List ax_V) : ((stk.map (ax_val ad)).map fun v => v.category).sum = stk.length := by
  induction stk with
  | nil => rfl
  | cons v l ih =>
    show (ax_val ad v).category + ((l.map (ax_val ad)).map fun v => v.category).sum = _
    rw [ax_val_cat, ih, List.length_cons]; omega
theorem ax_mmax (hC : ax_ok C X L cc own nL rt d) {idx : Nat} {x y : Int32} (hk : Cond.methodLink own idx Lib.Math.max.name ∈ wsL_law ∧ Cond.static Lib.Math.max.name ∈ wsL_law ∧ Cond.initialized "java/lang/Math" ∈ wsL_law ∧ Cond.code Lib.Math.max.name Lib.Math.max.code 2 (some .int) ∈ wsL_law) (hdd : 1 ≤ d) (hst : stk.length ≤ 8) (hd : decode cc pc = .ok (.invokestatic idx, 3)) (kk : AW C X L nL rk res (pc + 3) lv (.inl (ax_mx x y) :: stk) st) : AW C X L nL rk res pc lv (.inl y :: .inl x :: stk) st := by
  obtain ⟨p, l, e, R, s, m, args, below, meth, c⟩ := C
  obtain ⟨D, ad, ca, A⟩ := X
  obtain ⟨hx, hb, hml, hown, hts, hK, hij, hA, hR, hr, hlk, hstr⟩ := hC
  intro r st' hres H locs ls hP hS hl
  refine va_mmax hx hb (hml.trans hl.1.symm) hown (hts _ hk.1) (hts _ hk.2.1) (hts _ hk.2.2.1) (hts _ hk.2.2.2) (by rw [hR]; exact hdd) ?_ (by rw [hR]; exact Nat.le_refl 0) (by rw [hR]; exact Nat.le_refl 0) hd (kk r st' hres H locs ls hP hS hl)
  rw [ax_cats, hR]
  show stk.length + 13 ≤ 40 * d
  omega
theorem ax_copy (hC : ax_ok C X L cc own nL rt d) {idx o1 n1 o2 n2 : Nat} {sp dp n : Int32} {g : ax_S → ax_R} (hk : Cond.methodLink own idx arraycopyName ∈ wsL_law ∧ Cond.native arraycopyName ∈ wsL_law ∧ Cond.static arraycopyName ∈ wsL_law ∧ Cond.initialized "java/lang/System" ∈ wsL_law) (h1 : L[o1]? = some (.inl (.int, n1))) (h2 : L[o2]? = some (.inl (.int, n2))) (hdd : 2 ≤ d) (hst : stk.length ≤ 8) (hd : decode cc pc = .ok (.invokestatic idx, 3)) (kk : ∀ st1, AW C X L nL rk (g st1) (pc + 3) lv stk st1) : AW C X L nL rk (ax_cpy st o1 n1 o2 n2 sp dp n g) pc lv (.inl n :: .inl dp :: .inr o2 :: .inl sp :: .inr o1 :: stk) st := by
  by_cases h : 0 ≤ sp ∧ 0 ≤ dp ∧ 0 ≤ n ∧ sp.toNatClampNeg + n.toNatClampNeg ≤ n1 ∧ dp.toNatClampNeg + n.toNatClampNeg ≤ n2
  · rw [ax_cpy, if_pos h]
    obtain ⟨p, l, e, R, s, m, args, below, meth, c⟩ := C
    obtain ⟨D, ad, ca, A⟩ := X
    have hD := ax_AD hC st
    obtain ⟨hx, hb, hml, hown, hts, hK, hij, hA, hR, hr, hlk, hstr⟩ := hC
    intro r st' hres H locs ls hP hS hl
    have hK2 : va_K D vwCl [(ca o1, .int), (ca o2, .int)] s := va_K.app (hK.one h1) (hK.one h2)
    refine va_copyi hx hb (hml.trans hl.1.symm) hown (hts _ hk.1) (hts _ hk.2.1) (hts _ hk.2.2.1) (hts _ hk.2.2.2) hK2 hP hD hS o1 o2 0 1 (ty := .int) (ax_W_of h1) (ax_W_of h2) rfl rfl rfl (Int32.not_lt.mpr h.1) (Int32.not_lt.mpr h.2.1) (Int32.not_lt.mpr h.2.2.1) h.2.2.2.1 h.2.2.2.2 (fun _ _ => rfl) (by rw [hR]; show 1 ≤ d; omega) ?_ hd (fun H1 locs1 hP1 hD1 hS1 => ?_)
    · rw [ax_cats, hR]
      show stk.length + (nativeFrameWords "java/lang/System" "arraycopy" 5 + 11) ≤ 40 * d
      have : nativeFrameWords "java/lang/System" "arraycopy" 5 ≤ 60 := by decide +kernel
      omega
    · rw [ax_setA h2] at hP1
      exact kk _ r st' hres H1 locs1 ls hP1 hS1 hl
  · rw [ax_cpy, if_neg h]; exact ax_none rfl
theorem ax_ldcS (hC : ax_ok C X L cc "LinearizabilityChecker" nL rt d) {idx i : Nat} (hi : i < 10) (hx2 : idx = ax_pool i) (hd : decode cc pc = .ok (.ldc_w idx, 3)) (kk : AW C X L nL rk res (pc + 3) lv (.inr (1000 + i) :: stk) st) : AW C X L nL rk res pc lv stk st := by
  subst hx2
  obtain ⟨p, l, e, R, s, m, args, below, meth, c⟩ := C
  obtain ⟨D, ad, ca, A⟩ := X
  obtain ⟨hx, hb, hml, hown, hts, hK, hij, hA, hR, hr, hlk, hstr⟩ := hC
  intro r st' hres H locs ls hP hS hl T hT XX
  obtain ⟨t, a1, b1⟩ := kk r st' hres H locs ls hP hS hl T hT XX
  have hZ := hstr.2.1 i hi
  exact ⟨t, XX.ldcStringW hx hown hZ.1 hZ.2 (g := F0 m pc ls (stk.map (ax_val ad))) rfl (by rw [hb]; exact hd) t a1, b1⟩
/-! switches: by the place that is gone to -/
theorem ax_tsIn (hC : ax_ok C X L cc own nL rt d) {dflt lo hi : Int} {offs : Array Int} {len : Nat} {x v : Int32} {off : Int} {tgt : Nat} {r1 r2 : ax_R} (hd : decode cc pc = .ok (.tableswitch dflt lo hi offs, len)) (h1 : ¬ v.toInt < lo) (h2 : ¬ hi < v.toInt) (ho : offs[(v.toInt - lo).toNat]? = some off) (ht : (pc : Int) + off = (tgt : Int)) (kt : AW C X L nL rk r1 tgt lv stk st) (kf : ¬ x = v → AW C X L nL rk r2 pc lv (.inl x :: stk) st) : AW C X L nL rk (if x = v then r1 else r2) pc lv (.inl x :: stk) st := by
  by_cases h : x = v
  · rw [if_pos h]
    subst h
    obtain ⟨p, l, e, R, s, m, args, below, meth, c⟩ := C
    obtain ⟨D, ad, ca, A⟩ := X
    obtain ⟨hx, hb, hml, hown, hts, hK, hij, hA, hR, hr, hlk, hstr⟩ := hC
    intro r st' hres H locs ls hP hS hl
    exact lv_tableIn hx hb hd h1 h2 ho ht (kt r st' hres H locs ls hP hS hl)
  · rw [if_neg h]; exact kf h
theorem ax_tsOut (hC : ax_ok C X L cc own nL rt d) {dflt lo hi : Int} {offs : Array Int} {len : Nat} {x : Int32} {tgt : Nat} (hd : decode cc pc = .ok (.tableswitch dflt lo hi offs, len)) (h : x.toInt < lo ∨ hi < x.toInt) (ht : (pc : Int) + dflt = (tgt : Int)) (kk : AW C X L nL rk res tgt lv stk st) : AW C X L nL rk res pc lv (.inl x :: stk) st := by
  obtain ⟨p, l, e, R, s, m, args, below, meth, c⟩ := C
  obtain ⟨D, ad, ca, A⟩ := X
  obtain ⟨hx, hb, hml, hown, hts, hK, hij, hA, hR, hr, hlk, hstr⟩ := hC
  intro r st' hres H locs ls hP hS hl
  exact lv_tableOut hx hb hd h ht (kk r st' hres H locs ls hP hS hl)
theorem ax_ls (hC : ax_ok C X L cc own nL rt d) {dflt : Int} {ps : Array (Int × Int)} {len : Nat} {x : Int32} {off : Int} {tgt : Nat} (hd : decode cc pc = .ok (.lookupswitch dflt ps, len)) (hp : (ps.toList.zip (ps.toList.drop 1)).all (fun (a, next) => a.1 < next.1) = true) (ho : Op.lookupswitch.offset ps.toList dflt x.toInt = off) (ht : (pc : Int) + off = (tgt : Int)) (kk : AW C X L nL rk res tgt lv stk st) : AW C X L nL rk res pc lv (.inl x :: stk) st := by
  obtain ⟨p, l, e, R, s, m, args, below, meth, c⟩ := C
  obtain ⟨D, ad, ca, A⟩ := X
  obtain ⟨hx, hb, hml, hown, hts, hK, hij, hA, hR, hr, hlk, hstr⟩ := hC
  intro r st' hres H locs ls hP hS hl
  exact lv_lookup hx hb hd hp ho ht (kk r st' hres H locs ls hP hS hl)
theorem ax_lsIn (hC : ax_ok C X L cc own nL rt d) {dflt : Int} {ps : Array (Int × Int)} {len : Nat} {x v : Int32} {off : Int} {tgt : Nat} {r1 r2 : ax_R} (hd : decode cc pc = .ok (.lookupswitch dflt ps, len)) (hp : (ps.toList.zip (ps.toList.drop 1)).all (fun (a, next) => a.1 < next.1) = true) (ho : Op.lookupswitch.offset ps.toList dflt v.toInt = off) (ht : (pc : Int) + off = (tgt : Int)) (kt : AW C X L nL rk r1 tgt lv stk st) (kf : ¬ x = v → AW C X L nL rk r2 pc lv (.inl x :: stk) st) : AW C X L nL rk (if x = v then r1 else r2) pc lv (.inl x :: stk) st := by
  by_cases h : x = v
  · rw [if_pos h]; subst h; exact ax_ls hC hd hp ho ht kt
  · rw [if_neg h]; exact kf h
/-! ends -/
theorem ax_iret (hC : ax_ok C X L cc own nL (some .int) d) {x : Int32} (hd : decode cc pc = .ok (.ireturn, 1)) : AW C X L nL 1 (some (x, st)) pc lv [.inl x] st := by
  obtain ⟨p, l, e, R, s, m, args, below, meth, c⟩ := C
  obtain ⟨D, ad, ca, A⟩ := X
  obtain ⟨hx, hb, hml, hown, hts, hK, hij, hA, hR, hr, hlk, hstr⟩ := hC
  intro r st' hres H locs ls hP hS hl
  cases hres
  exact W.iret (v := x) hx hb hr (fun t ht hW => ⟨rfl, by rw [ht]; exact hP, hS.F ht⟩) hS.2.2 hd hlk
theorem ax_zret (hC : ax_ok C X L cc own nL (some .boolean) d) {x : Int32} (hd : decode cc pc = .ok (.ireturn, 1)) : AW C X L nL 1 (ax_rz x st) pc lv [.inl x] st := by
  by_cases h : x = 0 ∨ x = 1
  · rw [ax_rz, if_pos h]
    obtain ⟨p, l, e, R, s, m, args, below, meth, c⟩ := C
    obtain ⟨D, ad, ca, A⟩ := X
    obtain ⟨hx, hb, hml, hown, hts, hK, hij, hA, hR, hr, hlk, hstr⟩ := hC
    intro r st' hres H locs ls hP hS hl
    cases hres
    exact W.zret (v := x) hx hb hr (ax_bool h).1 (fun t ht hW => ⟨rfl, by rw [ht]; exact hP, hS.F ht⟩) hS.2.2 hd hlk
  · rw [ax_rz, if_neg h]; exact ax_none rfl
theorem ax_vret (hC : ax_ok C X L cc own nL none d) (hd : decode cc pc = .ok (.return_, 1)) : AW C X L nL 0 (some (0, st)) pc lv [] st := by
  obtain ⟨p, l, e, R, s, m, args, below, meth, c⟩ := C
  obtain ⟨D, ad, ca, A⟩ := X
  obtain ⟨hx, hb, hml, hown, hts, hK, hij, hA, hR, hr, hlk, hstr⟩ := hC
  intro r st' hres H locs ls hP hS hl
  cases hres
  exact W.vret hx hb hr (fun t ht hW => ⟨rfl, by rw [ht]; exact hP, hS.F ht⟩) hS.2.2 hd hlk
theorem ax_sret (hC : ax_ok C X L cc own nL (some (.object "java/lang/String")) d) {i : Int32} {q : Nat} (hq : q = 1000 + i.toNatClampNeg) (hd : decode cc pc = .ok (.areturn, 1)) : AW C X L nL 2 (some (i, st)) pc lv [.inr q] st := by
  subst hq
  obtain ⟨p, l, e, R, s, m, args, below, meth, c⟩ := C
  obtain ⟨D, ad, ca, A⟩ := X
  obtain ⟨hx, hb, hml, hown, hts, hK, hij, hA, hR, hr, hlk, hstr⟩ := hC
  intro r st' hres H locs ls hP hS hl
  cases hres
  exact W.aret (v := .ref (ad (1000 + i.toNatClampNeg))) hx hb hr (Or.inl ⟨_, rfl⟩) (Or.inr ⟨_, rfl⟩) (fun t ht hW => ⟨rfl, by rw [ht]; exact hP, hS.F ht⟩) hS.2.2 hd hlk
/-! calls -/
theorem ax_blind {ad : Nat → Nat} {ca : Nat → ClassId} {D : va_G} {avs : List ax_V} {sz : Nat} {A : Nat → Prop} : FrameBlind (va_Pc (avs.map (ax_val ad)) (fun U => U.heap.size = sz ∧ va_P D vwCl (ax_W L ad ca st) U.heap ∧ ax_K D L ca U ∧ ax_inj L ad ∧ ax_str A ad U U.heap)) := by
  intro a U g mk q
  obtain ⟨q0, q1, q2, q3, q4, q5⟩ := q
  exact ⟨q0, q1, q2, ax_K.moved (u := U) (U := U.calling g mk a) (Vm.Alike.refl U.vm) q3, q4, ax_str.same (s := U) (U := U.calling g mk a) rfl q5⟩
theorem ax_A_le {L : ax_L} {ad : Nat → Nat} {sz sz' : Nat} (h : sz ≤ sz') : ∀ q, ax_A L ad sz' q → ax_A L ad sz q := fun q hq => hq.elim Or.inl (fun g => Or.inr (Nat.le_trans h g))
theorem ax_callee {p : Program} {l : Launch} {e : Env} {R : Room} {s : State} {m : MethodId} {args : Array Value} {below : List Frame} {meth : Method} {c : Code} {D : va_G} {ad : Nat → Nat} {ca : Nat → ClassId} {A : Nat → Prop} {H : Heap} {locs : List Loc} (hC : ax_ok (p, l, e, R, s, m, args, below, meth, c) (D, ad, ca, A) L cc own nL rt d) (hP : va_P D vwCl (ax_W L ad ca st) H) (hS : va_S A s.heap H locs) (avs : List ax_V) (U : State) (hU : U.heap = H) (hW : s.WarmedH U.vm) :
    va_Pc (avs.map (ax_val ad)) (fun U => U.heap.size = H.size ∧ va_P D vwCl (ax_W L ad ca st) U.heap ∧ ax_K D L ca U ∧ ax_inj L ad ∧ ax_str (ax_A L ad H.size) ad U U.heap) (avs.map (ax_val ad)).toArray U := by
  obtain ⟨hx, hb, hml, hown, hts, hK, hij, hA, hR, hr, hlk, hstr⟩ := hC
  subst hA
  exact ⟨rfl, by rw [hU], by rw [hU]; exact hP, hK.moved hW.alike, hij, by rw [hU]; exact ((hstr.kept hS.2.1).narrow (ax_A_le hS.1)).warm hW⟩
def ax_push (rky : Nat) (r : Int32) : List ax_V := if rky = 0 then [] else if rky = 1 then [.inl r] else [.inr (1000 + r.toNatClampNeg)]
theorem ax_push_ret (ad : Nat → Nat) (rky : Nat) (r : Int32) : (ax_push rky r).map (ax_val ad) = (ax_ret ad rky r).toList := by
  unfold ax_push ax_ret
  split
  · rfl
  · split <;> rfl
theorem ax_after {p : Program} {l : Launch} {e : Env} {R : Room} {s : State} {m : MethodId} {args : Array Value} {below : List Frame} {meth : Method} {c : Code} {D : va_G} {ad : Nat → Nat} {ca : Nat → ClassId} {A : Nat → Prop} {H : Heap} {locs : List Loc} {Q : State → Prop} {ls : Array Slot} {st0 : List Value} {rky : Nat} {r1 : Int32} {st1 : ax_S} {a : Array Value} (hA : A = ax_A L ad s.heap.size) (hS : va_S A s.heap H locs)
    (hr : va_Run p l e R s m args below meth c H locs 0 0 0 0 (F0 m pc ls st0) (stk.map (ax_val ad)) (ax_Q L D ad ca (ax_A L ad H.size) rky r1 st1 a) (ax_A L ad H.size))
    (kk : ∀ (H1 : Heap) (locs1 : List Loc), va_P D vwCl (ax_W L ad ca st1) H1 → va_S A s.heap H1 locs1 → W p l e R s m args below meth c H1 locs1 0 0 Q (F0 m (pc + 3) ls ((ax_push rky r1 ++ stk).map (ax_val ad)))) : W p l e R s m args below meth c H locs 0 0 Q (F0 m pc ls st0) := by
  intro T hT XX
  obtain ⟨v, st₀, t, T', L', h0, X', hL, e1, e2, ⟨hv, hp, hF⟩, hst⟩ := hr T hT XX
  cases hv
  subst hA
  have hk : ∀ q : Nat, q < H.size → ¬ ax_A L ad H.size q → t.heap[q]? = H[q]? := fun q h1 h2 => by
    have h3 := hF.2 q (by rw [h0]; exact h1) h2
    rw [h0] at h3; exact h3
  have hz : H.size ≤ t.heap.size := by
    have h3 := hF.1
    rw [h0] at h3; exact h3
  obtain ⟨t2, a1, b1⟩ := kk T'.heap (locs ++ L') (by rw [e1]; exact hp)
    ⟨Nat.le_trans hS.1 (by rw [e1]; exact hz), fun q h1 h2 => by rw [e1, hk q (Nat.lt_of_lt_of_le h1 hS.1) (fun z => h2 (ax_A_le hS.1 q z))]; exact hS.2.1 q h1 h2, fun q hq => by
      rcases List.mem_append.mp hq with h | h
      · exact hS.2.2 q h
      · exact ax_A_le hS.1 _ (hL q h)⟩ T' rfl X'
  refine ⟨t2, hst t2 ?_, b1⟩
  rw [List.map_append, ax_push_ret] at a1
  exact a1
theorem ax_callS {rky idx nLy n dy : Nat} {y : MethodName} {cy : ByteArray} {rty : Option FieldType} {stk0 : List ax_V} {f : ax_R} {g : Int32 → ax_S → ax_R} (hC : ax_ok C X L cc own nL rt d) (hk : ax_mlk own idx y cy nLy rty n) (hs : Cond.static y ∈ wsL_law) (As : List ax_V) (hst : stk0 = As.reverse ++ stk) (hn : As.length = n) (hd2 : dy + 1 ≤ d) (hnl : nLy ≤ 21) (hl8 : stk.length ≤ 8) (hd : decode cc pc = .ok (.invokestatic idx, 3))
    (hM : ∀ r st1, f = some (r, st1) → ax_M L y cy nLy rty dy As st rky r st1) (kk : ∀ r st1, AW C X L nL rk (g r st1) (pc + 3) lv (ax_push rky r ++ stk) st1) : AW C X L nL rk (ax_bind f g) pc lv stk0 st := by
  subst hst
  cases f with
  | none => exact ax_none rfl
  | some q =>
    obtain ⟨r1, st1⟩ := q
    obtain ⟨p, l, e, R, s, m, args, below, meth, c⟩ := C
    obtain ⟨D, ad, ca, A⟩ := X
    have hC0 := hC
    obtain ⟨hx, hb, hml, hown, hts, hK, hij, hA, hR, hr, hlk, hstr⟩ := hC
    intro r st' hres H locs ls hP hS hl
    subst hR
    refine ax_after (r1 := r1) (st1 := st1) (rky := rky) hA hS (va_runS (As := As.map (ax_val ad)) ⟨hx, hb, hml, hown, hts⟩ (hM r1 st1 rfl l D ad ca H.size) ⟨ax_pay hts hk hd2 hnl, hts _ hs⟩ ⟨ax_blind, fun U hU hW => ax_callee hC0 hP hS As U hU hW⟩ rfl (by rw [List.length_map]; exact hn) hl.1 (by show (As.reverse ++ stk).map (ax_val ad) = _; rw [List.map_append, List.map_reverse]) (lv_room (by rw [ax_cats]; exact hl8)) hd ⟨Nat.le_refl 0, Nat.le_refl 0⟩) (fun H1 locs1 hP1 hS1 => kk r1 st1 r st' hres H1 locs1 ls hP1 hS1 hl)
theorem ax_callV {rky idx nLy n dy o ci : Nat} {fs : List (Option Nat)} {y : MethodName} {cy : ByteArray} {rty : Option FieldType} {stk0 : List ax_V} {f : ax_R} {g : Int32 → ax_S → ax_R} (hC : ax_ok C X L cc own nL rt d) (hk : ax_mlk own idx y cy nLy rty n) (hs : Cond.instanceMethod y ∈ wsL_law ∧ Cond.selects y.cls y y ∈ wsL_law ∧ ∃ (T : u_T) (N : Nat), vwCl[ci]? = some (y.cls, T, N)) (he : L[o]? = some (.inr (.inr (ci, fs)))) (As : List ax_V) (hst : stk0 = As.reverse ++ .inr o :: stk) (hn : As.length = n) (hd2 : dy + 1 ≤ d) (hnl : nLy ≤ 21) (hl8 : stk.length ≤ 8) (hd : decode cc pc = .ok (.invokevirtual idx, 3))
    (hM : ∀ r st1, f = some (r, st1) → ax_M L y cy nLy rty dy (.inr o :: As) st rky r st1) (kk : ∀ r st1, AW C X L nL rk (g r st1) (pc + 3) lv (ax_push rky r ++ stk) st1) : AW C X L nL rk (ax_bind f g) pc lv stk0 st := by
  subst hst
  cases f with
  | none => exact ax_none rfl
  | some q =>
    obtain ⟨r1, st1⟩ := q
    obtain ⟨p, l, e, R, s, m, args, below, meth, c⟩ := C
    obtain ⟨D, ad, ca, A⟩ := X
    have hC0 := hC
    obtain ⟨hx, hb, hml, hown, hts, hK, hij, hA, hR, hr, hlk, hstr⟩ := hC
    obtain ⟨hs1, hs2, T9, N9, hs3⟩ := hs
    intro r st' hres H locs ls hP hS hl
    subst hR
    refine ax_after (r1 := r1) (st1 := st1) (rky := rky) hA hS (va_runV (C := y.cls) (b := ad o) (As := As.map (ax_val ad)) ⟨hx, hb, hml, hown, hts⟩ (hM r1 st1 rfl l D ad ca H.size) ⟨ax_pay hts hk hd2 hnl, hts _ hs1, hts _ hs2⟩ ⟨ax_blind, va_recv (q := (y.cls, T9, N9)) (q0 := o) hK.1 hP hs3 (ax_W_of he), fun U hU hW => ax_callee hC0 hP hS (.inr o :: As) U hU hW⟩ rfl (by rw [List.length_map]; exact hn) hl.1 (by show (As.reverse ++ .inr o :: stk).map (ax_val ad) = _; rw [List.map_append, List.map_reverse]; rfl) (lv_room (by rw [ax_cats]; exact hl8)) hd ⟨Nat.le_refl 0, Nat.le_refl 0⟩) (fun H1 locs1 hP1 hS1 => kk r1 st1 r st' hres H1 locs1 ls hP1 hS1 hl)
theorem ax_callSn {rky idx nLy n dy : Nat} {y : MethodName} {cy : ByteArray} {rty : Option FieldType} {stk0 : List ax_V} {f : ax_R} {g : Int32 → ax_S → ax_R} (hC : ax_ok C X L cc own nL rt d) (hk : ax_mln own idx y cy nLy rty n) (hs : Cond.static y ∈ wsL_law) (As : List ax_V) (hst : stk0 = As.reverse ++ stk) (hn : As.length = n) (hd2 : dy + 1 ≤ d) (hnl : nLy ≤ 21) (hl8 : stk.length ≤ 8) (hd : decode cc pc = .ok (.invokestatic idx, 3))
    (hM : ∀ r st1, f = some (r, st1) → ax_M L y cy nLy rty dy As st rky r st1) (kk : ∀ r st1, AW C X L nL rk (g r st1) (pc + 3) lv (ax_push rky r ++ stk) st1) : AW C X L nL rk (ax_bind f g) pc lv stk0 st := by
  subst hst
  cases f with
  | none => exact ax_none rfl
  | some q =>
    obtain ⟨r1, st1⟩ := q
    obtain ⟨p, l, e, R, s, m, args, below, meth, c⟩ := C
    obtain ⟨D, ad, ca, A⟩ := X
    have hC0 := hC
    obtain ⟨hx, hb, hml, hown, hts, hK, hij, hA, hR, hr, hlk, hstr⟩ := hC
    intro r st' hres H locs ls hP hS hl
    subst hR
    obtain ⟨host, hcn⟩ := ax_payN hts hstr.2.2.2.2 hk hd2 hnl
    refine ax_after (r1 := r1) (st1 := st1) (rky := rky) hA hS (va_runSN (As := As.map (ax_val ad)) ⟨hx, hb, hml, hown, hts⟩ (hM r1 st1 rfl l D ad ca H.size) ⟨hcn, hts _ hs, trivial⟩ ⟨ax_blind, fun U hU hW => ax_callee hC0 hP hS As U hU hW⟩ rfl (by rw [List.length_map]; exact hn) hl.1 (by show (As.reverse ++ stk).map (ax_val ad) = _; rw [List.map_append, List.map_reverse]) (lv_room (by rw [ax_cats]; exact hl8)) hd ⟨Nat.le_refl 0, Nat.le_refl 0⟩) (fun H1 locs1 hP1 hS1 => kk r1 st1 r st' hres H1 locs1 ls hP1 hS1 hl)
theorem ax_callVn {rky idx nLy n dy o ci : Nat} {fs : List (Option Nat)} {y : MethodName} {cy : ByteArray} {rty : Option FieldType} {stk0 : List ax_V} {f : ax_R} {g : Int32 → ax_S → ax_R} (hC : ax_ok C X L cc own nL rt d) (hk : ax_mln own idx y cy nLy rty n) (hs : Cond.instanceMethod y ∈ wsL_law ∧ Cond.selects y.cls y y ∈ wsL_law ∧ ∃ (T : u_T) (N : Nat), vwCl[ci]? = some (y.cls, T, N)) (he : L[o]? = some (.inr (.inr (ci, fs)))) (As : List ax_V) (hst : stk0 = As.reverse ++ .inr o :: stk) (hn : As.length = n) (hd2 : dy + 1 ≤ d) (hnl : nLy ≤ 21) (hl8 : stk.length ≤ 8) (hd : decode cc pc = .ok (.invokevirtual idx, 3))
    (hM : ∀ r st1, f = some (r, st1) → ax_M L y cy nLy rty dy (.inr o :: As) st rky r st1) (kk : ∀ r st1, AW C X L nL rk (g r st1) (pc + 3) lv (ax_push rky r ++ stk) st1) : AW C X L nL rk (ax_bind f g) pc lv stk0 st := by
  subst hst
  cases f with
  | none => exact ax_none rfl
  | some q =>
    obtain ⟨r1, st1⟩ := q
    obtain ⟨p, l, e, R, s, m, args, below, meth, c⟩ := C
    obtain ⟨D, ad, ca, A⟩ := X
    have hC0 := hC
    obtain ⟨hx, hb, hml, hown, hts, hK, hij, hA, hR, hr, hlk, hstr⟩ := hC
    obtain ⟨hs1, hs2, T9, N9, hs3⟩ := hs
    intro r st' hres H locs ls hP hS hl
    subst hR
    obtain ⟨host, hcn⟩ := ax_payN hts hstr.2.2.2.2 hk hd2 hnl
    refine ax_after (r1 := r1) (st1 := st1) (rky := rky) hA hS (va_runVN (C := y.cls) (b := ad o) (As := As.map (ax_val ad)) ⟨hx, hb, hml, hown, hts⟩ (hM r1 st1 rfl l D ad ca H.size) ⟨hcn, hts _ hs1, hts _ hs2⟩ ⟨ax_blind, va_recv (q := (y.cls, T9, N9)) (q0 := o) hK.1 hP hs3 (ax_W_of he), fun U hU hW => ax_callee hC0 hP hS (.inr o :: As) U hU hW⟩ rfl (by rw [List.length_map]; exact hn) hl.1 (by show (As.reverse ++ .inr o :: stk).map (ax_val ad) = _; rw [List.map_append, List.map_reverse]; rfl) (lv_room (by rw [ax_cats]; exact hl8)) hd ⟨Nat.le_refl 0, Nat.le_refl 0⟩) (fun H1 locs1 hP1 hS1 => kk r1 st1 r st' hres H1 locs1 ls hP1 hS1 hl)
theorem ax_callS0 {idx nLy n dy : Nat} {y : MethodName} {cy : ByteArray} {rty : Option FieldType} {stk0 : List ax_V} {f : ax_R} {g : Int32 → ax_S → ax_R} (hC : ax_ok C X L cc own nL rt d) (hk : ax_mlk own idx y cy nLy rty n) (hs : Cond.static y ∈ wsL_law) (As : List ax_V) (hst : stk0 = As.reverse ++ stk) (hn : As.length = n) (hd2 : dy + 1 ≤ d) (hnl : nLy ≤ 21) (hl8 : stk.length ≤ 8) (hd : decode cc pc = .ok (.invokestatic idx, 3))
    (hM : ∀ r st1, f = some (r, st1) → ax_M L y cy nLy rty dy As st 0 r st1) (kk : ∀ r st1, AW C X L nL rk (g r st1) (pc + 3) lv stk st1) : AW C X L nL rk (ax_bind f g) pc lv stk0 st := ax_callS (rky := 0) hC hk hs As hst hn hd2 hnl hl8 hd hM kk
theorem ax_callS1 {idx nLy n dy : Nat} {y : MethodName} {cy : ByteArray} {rty : Option FieldType} {stk0 : List ax_V} {f : ax_R} {g : Int32 → ax_S → ax_R} (hC : ax_ok C X L cc own nL rt d) (hk : ax_mlk own idx y cy nLy rty n) (hs : Cond.static y ∈ wsL_law) (As : List ax_V) (hst : stk0 = As.reverse ++ stk) (hn : As.length = n) (hd2 : dy + 1 ≤ d) (hnl : nLy ≤ 21) (hl8 : stk.length ≤ 8) (hd : decode cc pc = .ok (.invokestatic idx, 3))
    (hM : ∀ r st1, f = some (r, st1) → ax_M L y cy nLy rty dy As st 1 r st1) (kk : ∀ r st1, AW C X L nL rk (g r st1) (pc + 3) lv (.inl r :: stk) st1) : AW C X L nL rk (ax_bind f g) pc lv stk0 st := ax_callS (rky := 1) hC hk hs As hst hn hd2 hnl hl8 hd hM kk
theorem ax_callS2 {idx nLy n dy : Nat} {y : MethodName} {cy : ByteArray} {rty : Option FieldType} {stk0 : List ax_V} {f : ax_R} {g : Int32 → ax_S → ax_R} (hC : ax_ok C X L cc own nL rt d) (hk : ax_mlk own idx y cy nLy rty n) (hs : Cond.static y ∈ wsL_law) (As : List ax_V) (hst : stk0 = As.reverse ++ stk) (hn : As.length = n) (hd2 : dy + 1 ≤ d) (hnl : nLy ≤ 21) (hl8 : stk.length ≤ 8) (hd : decode cc pc = .ok (.invokestatic idx, 3))
    (hM : ∀ r st1, f = some (r, st1) → ax_M L y cy nLy rty dy As st 2 r st1) (kk : ∀ r st1, AW C X L nL rk (g r st1) (pc + 3) lv (.inr (1000 + r.toNatClampNeg) :: stk) st1) : AW C X L nL rk (ax_bind f g) pc lv stk0 st := ax_callS (rky := 2) hC hk hs As hst hn hd2 hnl hl8 hd hM kk
theorem ax_callV0 {idx nLy n dy o ci : Nat} {fs : List (Option Nat)} {y : MethodName} {cy : ByteArray} {rty : Option FieldType} {stk0 : List ax_V} {f : ax_R} {g : Int32 → ax_S → ax_R} (hC : ax_ok C X L cc own nL rt d) (hk : ax_mlk own idx y cy nLy rty n) (hs : Cond.instanceMethod y ∈ wsL_law ∧ Cond.selects y.cls y y ∈ wsL_law ∧ ∃ (T : u_T) (N : Nat), vwCl[ci]? = some (y.cls, T, N)) (he : L[o]? = some (.inr (.inr (ci, fs)))) (As : List ax_V) (hst : stk0 = As.reverse ++ .inr o :: stk) (hn : As.length = n) (hd2 : dy + 1 ≤ d) (hnl : nLy ≤ 21) (hl8 : stk.length ≤ 8) (hd : decode cc pc = .ok (.invokevirtual idx, 3))
    (hM : ∀ r st1, f = some (r, st1) → ax_M L y cy nLy rty dy (.inr o :: As) st 0 r st1) (kk : ∀ r st1, AW C X L nL rk (g r st1) (pc + 3) lv stk st1) : AW C X L nL rk (ax_bind f g) pc lv stk0 st := ax_callV (rky := 0) hC hk hs he As hst hn hd2 hnl hl8 hd hM kk
theorem ax_callV1 {idx nLy n dy o ci : Nat} {fs : List (Option Nat)} {y : MethodName} {cy : ByteArray} {rty : Option FieldType} {stk0 : List ax_V} {f : ax_R} {g : Int32 → ax_S → ax_R} (hC : ax_ok C X L cc own nL rt d) (hk : ax_mlk own idx y cy nLy rty n) (hs : Cond.instanceMethod y ∈ wsL_law ∧ Cond.selects y.cls y y ∈ wsL_law ∧ ∃ (T : u_T) (N : Nat), vwCl[ci]? = some (y.cls, T, N)) (he : L[o]? = some (.inr (.inr (ci, fs)))) (As : List ax_V) (hst : stk0 = As.reverse ++ .inr o :: stk) (hn : As.length = n) (hd2 : dy + 1 ≤ d) (hnl : nLy ≤ 21) (hl8 : stk.length ≤ 8) (hd : decode cc pc = .ok (.invokevirtual idx, 3))
    (hM : ∀ r st1, f = some (r, st1) → ax_M L y cy nLy rty dy (.inr o :: As) st 1 r st1) (kk : ∀ r st1, AW C X L nL rk (g r st1) (pc + 3) lv (.inl r :: stk) st1) : AW C X L nL rk (ax_bind f g) pc lv stk0 st := ax_callV (rky := 1) hC hk hs he As hst hn hd2 hnl hl8 hd hM kk
theorem ax_callV2 {idx nLy n dy o ci : Nat} {fs : List (Option Nat)} {y : MethodName} {cy : ByteArray} {rty : Option FieldType} {stk0 : List ax_V} {f : ax_R} {g : Int32 → ax_S → ax_R} (hC : ax_ok C X L cc own nL rt d) (hk : ax_mlk own idx y cy nLy rty n) (hs : Cond.instanceMethod y ∈ wsL_law ∧ Cond.selects y.cls y y ∈ wsL_law ∧ ∃ (T : u_T) (N : Nat), vwCl[ci]? = some (y.cls, T, N)) (he : L[o]? = some (.inr (.inr (ci, fs)))) (As : List ax_V) (hst : stk0 = As.reverse ++ .inr o :: stk) (hn : As.length = n) (hd2 : dy + 1 ≤ d) (hnl : nLy ≤ 21) (hl8 : stk.length ≤ 8) (hd : decode cc pc = .ok (.invokevirtual idx, 3))
    (hM : ∀ r st1, f = some (r, st1) → ax_M L y cy nLy rty dy (.inr o :: As) st 2 r st1) (kk : ∀ r st1, AW C X L nL rk (g r st1) (pc + 3) lv (.inr (1000 + r.toNatClampNeg) :: stk) st1) : AW C X L nL rk (ax_bind f g) pc lv stk0 st := ax_callV (rky := 2) hC hk hs he As hst hn hd2 hnl hl8 hd hM kk
theorem ax_callS0n {idx nLy n dy : Nat} {y : MethodName} {cy : ByteArray} {rty : Option FieldType} {stk0 : List ax_V} {f : ax_R} {g : Int32 → ax_S → ax_R} (hC : ax_ok C X L cc own nL rt d) (hk : ax_mln own idx y cy nLy rty n) (hs : Cond.static y ∈ wsL_law) (As : List ax_V) (hst : stk0 = As.reverse ++ stk) (hn : As.length = n) (hd2 : dy + 1 ≤ d) (hnl : nLy ≤ 21) (hl8 : stk.length ≤ 8) (hd : decode cc pc = .ok (.invokestatic idx, 3))
    (hM : ∀ r st1, f = some (r, st1) → ax_M L y cy nLy rty dy As st 0 r st1) (kk : ∀ r st1, AW C X L nL rk (g r st1) (pc + 3) lv stk st1) : AW C X L nL rk (ax_bind f g) pc lv stk0 st := ax_callSn (rky := 0) hC hk hs As hst hn hd2 hnl hl8 hd hM kk
theorem ax_callS1n {idx nLy n dy : Nat} {y : MethodName} {cy : ByteArray} {rty : Option FieldType} {stk0 : List ax_V} {f : ax_R} {g : Int32 → ax_S → ax_R} (hC : ax_ok C X L cc own nL rt d) (hk : ax_mln own idx y cy nLy rty n) (hs : Cond.static y ∈ wsL_law) (As : List ax_V) (hst : stk0 = As.reverse ++ stk) (hn : As.length = n) (hd2 : dy + 1 ≤ d) (hnl : nLy ≤ 21) (hl8 : stk.length ≤ 8) (hd : decode cc pc = .ok (.invokestatic idx, 3))
    (hM : ∀ r st1, f = some (r, st1) → ax_M L y cy nLy rty dy As st 1 r st1) (kk : ∀ r st1, AW C X L nL rk (g r st1) (pc + 3) lv (.inl r :: stk) st1) : AW C X L nL rk (ax_bind f g) pc lv stk0 st := ax_callSn (rky := 1) hC hk hs As hst hn hd2 hnl hl8 hd hM kk
theorem ax_callS2n {idx nLy n dy : Nat} {y : MethodName} {cy : ByteArray} {rty : Option FieldType} {stk0 : List ax_V} {f : ax_R} {g : Int32 → ax_S → ax_R} (hC : ax_ok C X L cc own nL rt d) (hk : ax_mln own idx y cy nLy rty n) (hs : Cond.static y ∈ wsL_law) (As : List ax_V) (hst : stk0 = As.reverse ++ stk) (hn : As.length = n) (hd2 : dy + 1 ≤ d) (hnl : nLy ≤ 21) (hl8 : stk.length ≤ 8) (hd : decode cc pc = .ok (.invokestatic idx, 3))
    (hM : ∀ r st1, f = some (r, st1) → ax_M L y cy nLy rty dy As st 2 r st1) (kk : ∀ r st1, AW C X L nL rk (g r st1) (pc + 3) lv (.inr (1000 + r.toNatClampNeg) :: stk) st1) : AW C X L nL rk (ax_bind f g) pc lv stk0 st := ax_callSn (rky := 2) hC hk hs As hst hn hd2 hnl hl8 hd hM kk
theorem ax_callV0n {idx nLy n dy o ci : Nat} {fs : List (Option Nat)} {y : MethodName} {cy : ByteArray} {rty : Option FieldType} {stk0 : List ax_V} {f : ax_R} {g : Int32 → ax_S → ax_R} (hC : ax_ok C X L cc own nL rt d) (hk : ax_mln own idx y cy nLy rty n) (hs : Cond.instanceMethod y ∈ wsL_law ∧ Cond.selects y.cls y y ∈ wsL_law ∧ ∃ (T : u_T) (N : Nat), vwCl[ci]? = some (y.cls, T, N)) (he : L[o]? = some (.inr (.inr (ci, fs)))) (As : List ax_V) (hst : stk0 = As.reverse ++ .inr o :: stk) (hn : As.length = n) (hd2 : dy + 1 ≤ d) (hnl : nLy ≤ 21) (hl8 : stk.length ≤ 8) (hd : decode cc pc = .ok (.invokevirtual idx, 3))
    (hM : ∀ r st1, f = some (r, st1) → ax_M L y cy nLy rty dy (.inr o :: As) st 0 r st1) (kk : ∀ r st1, AW C X L nL rk (g r st1) (pc + 3) lv stk st1) : AW C X L nL rk (ax_bind f g) pc lv stk0 st := ax_callVn (rky := 0) hC hk hs he As hst hn hd2 hnl hl8 hd hM kk
theorem ax_callV1n {idx nLy n dy o ci : Nat} {fs : List (Option Nat)} {y : MethodName} {cy : ByteArray} {rty : Option FieldType} {stk0 : List ax_V} {f : ax_R} {g : Int32 → ax_S → ax_R} (hC : ax_ok C X L cc own nL rt d) (hk : ax_mln own idx y cy nLy rty n) (hs : Cond.instanceMethod y ∈ wsL_law ∧ Cond.selects y.cls y y ∈ wsL_law ∧ ∃ (T : u_T) (N : Nat), vwCl[ci]? = some (y.cls, T, N)) (he : L[o]? = some (.inr (.inr (ci, fs)))) (As : List ax_V) (hst : stk0 = As.reverse ++ .inr o :: stk) (hn : As.length = n) (hd2 : dy + 1 ≤ d) (hnl : nLy ≤ 21) (hl8 : stk.length ≤ 8) (hd : decode cc pc = .ok (.invokevirtual idx, 3))
    (hM : ∀ r st1, f = some (r, st1) → ax_M L y cy nLy rty dy (.inr o :: As) st 1 r st1) (kk : ∀ r st1, AW C X L nL rk (g r st1) (pc + 3) lv (.inl r :: stk) st1) : AW C X L nL rk (ax_bind f g) pc lv stk0 st := ax_callVn (rky := 1) hC hk hs he As hst hn hd2 hnl hl8 hd hM kk
theorem ax_callV2n {idx nLy n dy o ci : Nat} {fs : List (Option Nat)} {y : MethodName} {cy : ByteArray} {rty : Option FieldType} {stk0 : List ax_V} {f : ax_R} {g : Int32 → ax_S → ax_R} (hC : ax_ok C X L cc own nL rt d) (hk : ax_mln own idx y cy nLy rty n) (hs : Cond.instanceMethod y ∈ wsL_law ∧ Cond.selects y.cls y y ∈ wsL_law ∧ ∃ (T : u_T) (N : Nat), vwCl[ci]? = some (y.cls, T, N)) (he : L[o]? = some (.inr (.inr (ci, fs)))) (As : List ax_V) (hst : stk0 = As.reverse ++ .inr o :: stk) (hn : As.length = n) (hd2 : dy + 1 ≤ d) (hnl : nLy ≤ 21) (hl8 : stk.length ≤ 8) (hd : decode cc pc = .ok (.invokevirtual idx, 3))
    (hM : ∀ r st1, f = some (r, st1) → ax_M L y cy nLy rty dy (.inr o :: As) st 2 r st1) (kk : ∀ r st1, AW C X L nL rk (g r st1) (pc + 3) lv (.inr (1000 + r.toNatClampNeg) :: stk) st1) : AW C X L nL rk (ax_bind f g) pc lv stk0 st := ax_callVn (rky := 2) hC hk hs he As hst hn hd2 hnl hl8 hd hM kk
/-! starts -/
theorem ax_sl (ad : Nat → Nat) (avs : List ax_V) : (lg_sl (avs.map (ax_val ad))).length = avs.length := by
  induction avs with
  | nil => rfl
  | cons v l ih =>
    have h : lg_sl ((v :: l).map (ax_val ad)) = Slot.val (ax_val ad v) :: lg_sl (l.map (ax_val ad)) := by
      show (if (ax_val ad v).category = 2 then [Slot.val (ax_val ad v), .second] else [Slot.val (ax_val ad v)]) ++ lg_sl (l.map (ax_val ad)) = _
      rw [if_neg (by rw [ax_val_cat]; decide)]; rfl
    rw [h, List.length_cons, ih, List.length_cons]
theorem ax_args (ad : Nat → Nat) : ∀ (avs : List ax_V) (i k : Nat) (v : ax_V), avs[k]? = some v → (i + k, ax_val ad v) ∈ lv_args i (avs.map (ax_val ad))
  | [], _, _, _, h => by cases h
  | w :: l, i, k, v, h => by
    show _ ∈ (i, ax_val ad w) :: lv_args (if (ax_val ad w).category = 2 then i + 2 else i + 1) (l.map (ax_val ad))
    rw [if_neg (by rw [ax_val_cat]; decide)]
    cases k with
    | zero => cases h; exact List.mem_cons_self
    | succ k =>
      have := ax_args ad l (i + 1) k v h
      rw [Nat.add_assoc, Nat.add_comm 1 k] at this
      exact List.mem_cons_of_mem _ this
theorem ax_entry (ad : Nat → Nat) (avs : List ax_V) {nL : Nat} (hn : avs.length ≤ nL) : ax_lv ad (avs.map some ++ List.replicate (nL - avs.length) none) nL ((lg_sl (avs.map (ax_val ad)) ++ List.replicate (nL - (lg_sl (avs.map (ax_val ad))).length) Slot.unset).toArray) := by
  obtain ⟨h1, h2, h3⟩ := lv_entry (avs.map (ax_val ad)) (n := nL) (by rw [ax_sl]; exact hn)
  refine ⟨h1, h2, fun k v hk => ?_⟩
  have hk2 : avs[k]? = some v := by
    by_cases hkl : k < avs.length
    · rw [List.getElem?_append_left (by simpa using hkl), List.getElem?_map] at hk
      cases h : avs[k]? with
      | none => rw [h] at hk; cases hk
      | some w => rw [h] at hk; cases hk; rfl
    · rw [List.getElem?_append_right (by simpa using hkl), List.getElem?_replicate] at hk
      split at hk <;> cases hk
  have := ax_args ad avs 0 k v hk2
  rw [Nat.zero_add] at this
  exact h3 _ this
theorem ax_start {y : MethodName} {avs : List ax_V} {r : Int32} {st' : ax_S} {lv0 : List (Option ax_V)} (hy : plainName y.cls = true) (hn : avs.length ≤ nL) (hlv : avs.map some ++ List.replicate (nL - avs.length) none = lv0) (body : ∀ (C : ax_C) (X : ax_X), ax_ok C X L cc y.cls nL rt d → AW C X L nL rk (some (r, st')) 0 lv0 [] st) : ax_M L y cc nL rt d avs st rk r st' := by
  intro l D ad ca sz
  refine Met.ofW (cc := cc) (maxL := nL) (ret := rt) hy rfl ?_
  intro p e s m args below meth c s₁ B hml hv
  obtain ⟨rfl, hsz, hP, hK, hi, hstr⟩ := hv
  subst hsz
  have hts0 := atoms_spec (ws := .code y cc nL rt :: wsL_law) B.pre
  have h := body (p, l, e, ax_rm d, s, m, (avs.map (ax_val ad)).toArray, below, meth, c) (D, ad, ca, ax_A L ad s.heap.size) ⟨B.exec, B.bytes, hml, findClass_of_methodNamed B.named, fun w hw => hts0 w (List.mem_cons_of_mem _ hw), hK, hi, rfl, rfl, B.returns, B.notSynchronized, hstr⟩
  rw [lg_entry_eq]
  subst hlv
  exact h r st' rfl s.heap [] _ hP va_S.rf (ax_entry ad avs hn)
end AXR
