/-! The ground that all contracts here stand on: one list of words for all methods, one form of contract, locals by their places. -/
def x_us (w : Cond) : Bool := goodWord w || (match w with
  | .fieldLinkNest _ _ _ _ _ _ => true
  | .methodLinkNest _ _ _ _ => true
  | .castable _ _ => true
  | .arrayOver (.object _) => true
  | _ => false)
theorem x_mv {w : Cond} (hu : x_us w = true) {s U : State} (hW : s.WarmedH U.vm) (h : ∀ A, w.before A s = true) : ∀ A, w.before A U = true := by
  intro A
  by_cases hg : goodWord w = true
  · exact word_at hW (good_of_word hg) (h A)
  · unfold x_us at hu
    rw [Bool.or_eq_true] at hu
    rcases hu with hu | hu
    · exact absurd hu hg
    · split at hu
      · exact va_Nw.use rfl (va_Nw.warmF hW (va_Nw.of rfl (h #[])))
      · exact va_Nw.use rfl (va_Nw.warmM hW (va_Nw.of rfl (h #[])))
      · exact va_Nw.use rfl (va_Nw.warmC hW (va_Nw.of rfl (h #[])))
      · exact va_AO.use (va_AO.moved hW.alike (va_AO.of (h #[])))
      · cases hu
/-- the words of the tables hold -/
def xT (U : State) : Prop := ∀ w ∈ lw_tbl, x_us w = true → ∀ A, w.before A U = true
theorem xT.mv {s U : State} (h : xT s) (hW : s.WarmedH U.vm) : xT U := fun w hw hu => x_mv hu hW (h w hw hu)
/-- the array classes: of int, byte, long, Item, Tree -/
abbrev x_ty (A : Nat → ClassId) : List (ClassId × FieldType) := [(A 0, .int), (A 1, .byte), (A 2, .long), (A 3, .object R_I), (A 4, .object R_T)]
abbrev x_rm (d mc ms : Nat) : Room := { frames := d, cells := mc, slots := ms, locals := 64 * d }
/-- what a contract asks of the state: the heap, the classes, the words -/
def xP (D : va_G) (A : Nat → ClassId) (H0 : Heap) (av : List Value) : Array Value → State → Prop := va_Pc av (fun U => U.heap = H0 ∧ va_K D vwCl (x_ty A) U ∧ xT U)
/-- what it gives: an answer with its heap; nothing but what 'fr' names has changed -/
def xQ (fr : Nat → Prop) (post : Option Value → Heap → Prop) : Array Value → State → Outcome → State → Prop := fun _ st oc t => (∃ v, oc = .returned v ∧ post v t.heap) ∧ va_F fr st t
def xC (l : Launch) (y : MethodName) (cc : ByteArray) (nL : Nat) (ret : Option FieldType) (d : Nat) (D : va_G) (A : Nat → ClassId) (H0 : Heap) (av : List Value) (fr : Nat → Prop) (post : Option Value → Heap → Prop) (mc ms : Nat) : Prop :=
  Met l y [Cond.code y cc nL ret] (x_rm d mc ms) (xP D A H0 av) (xQ fr post) mc ms fr
/-- an answer x, and P of the heap -/
abbrev q1 (x : Value) (P : Heap → Prop) : Option Value → Heap → Prop := fun v H => v = some x ∧ P H
abbrev q0 (P : Heap → Prop) : Option Value → Heap → Prop := fun v H => v = none ∧ P H
abbrev qr (P : Nat → Heap → Prop) : Option Value → Heap → Prop := fun v H => ∃ a, v = some (.ref a) ∧ P a H
/-- inside a method -/
def xx (p : Program) (s : State) (m : MethodId) (args : Array Value) (meth : Method) (c : Code) (cc : ByteArray) (nL : Nat) (own : String) (ret : Option FieldType) (D : va_G) (A : Nat → ClassId) (H0 : Heap) : Prop :=
  p.tables.exec = Jvm.exec ∧ c.code = cc ∧ c.maxLocals = nL ∧ s.vm.findClass own = some m.cls ∧ meth.sig.returnType = ret ∧ meth.locks = false ∧ va_K D vwCl (x_ty A) s ∧ xT s ∧ s.heap = H0
/-- locals by their places -/
def lz (ls : Array Slot) (nL : Nat) (L : List (Option Value)) : Prop := ls.size = nL ∧ lv_wf ls ∧ ∀ (i : Nat) (v : Value), L[i]? = some (some v) → ls[i]? = some (.val v)
def lz_l : Nat → List (Option Value) → List (Nat × Value)
  | _, [] => []
  | i, none :: L => lz_l (i + 1) L
  | i, some v :: L => (i, v) :: lz_l (i + 1) L
theorem lz_l_mem {L : List (Option Value)} {i j : Nat} {v : Value} : (j, v) ∈ lz_l i L ↔ i ≤ j ∧ L[j - i]? = some (some v) := by
  induction L generalizing i with
  | nil => simp [lz_l]
  | cons o L ih =>
    have hs : ∀ k, i + 1 ≤ k → (o :: L)[k - i]? = L[k - (i + 1)]? := fun k hk => by
      rw [show k - i = (k - (i + 1)) + 1 from by omega, List.getElem?_cons_succ]
    cases o with
    | none =>
      simp only [lz_l, ih]
      constructor
      · intro ⟨h1, h2⟩; exact ⟨by omega, by rw [hs j h1]; exact h2⟩
      · intro ⟨h1, h2⟩
        rcases Nat.lt_or_ge i j with h | h
        · exact ⟨h, by rw [← hs j h]; exact h2⟩
        · rw [show j - i = 0 from by omega] at h2; simp at h2
    | some w =>
      simp only [lz_l, List.mem_cons, ih, Prod.mk.injEq]
      constructor
      · intro h
        rcases h with ⟨rfl, rfl⟩ | ⟨h1, h2⟩
        · exact ⟨Nat.le_refl _, by simp⟩
        · exact ⟨by omega, by rw [hs j h1]; exact h2⟩
      · intro ⟨h1, h2⟩
        rcases Nat.lt_or_ge i j with h | h
        · exact Or.inr ⟨h, by rw [← hs j h]; exact h2⟩
        · have : j = i := by omega
          subst this
          simp at h2
          exact Or.inl ⟨rfl, h2.symm⟩
theorem lz_has {ls : Array Slot} {nL : Nat} {L : List (Option Value)} (h : lz ls nL L) : lv_has ls nL (lz_l 0 L) :=
  ⟨h.1, h.2.1, fun q hq => h.2.2 q.1 q.2 (by have := (lz_l_mem (i := 0) (j := q.1) (v := q.2)).1 hq; simpa using this.2)⟩
/-- no value of two slots begins at the slot before i -/
def lz_c (L : List (Option Value)) (i : Nat) : Bool := match i with
  | 0 => true
  | j + 1 => match L[j]? with
    | some (some v) => v.category != 2
    | _ => true
theorem lz_store {ls' : Array Slot} {nL i : Nat} {L : List (Option Value)} {x : Value} (hc : lz_c L i = true) (h : lv_has ls' nL ((i, x) :: (lz_l 0 L).filter (fun q => !(q.1 == i) && !(q.1 + 1 == i && q.2.category == 2)))) : lz ls' nL (L.set i (some x)) := by
  refine ⟨h.1, h.2.1, fun j v hj => ?_⟩
  rw [List.getElem?_set] at hj
  split at hj
  · rename_i e
    split at hj
    · cases hj; subst e; exact h.2.2 (i, x) (by simp)
    · cases hj
  · rename_i e
    refine h.2.2 (j, v) (List.mem_cons_of_mem _ (List.mem_filter.2 ⟨(lz_l_mem (i := 0)).2 ⟨Nat.zero_le _, by simpa using hj⟩, ?_⟩))
    simp only [Bool.and_eq_true, Bool.not_eq_true', beq_eq_false_iff_ne, ne_eq, Bool.and_eq_false_imp, beq_iff_eq]
    refine ⟨fun e2 => e e2.symm, fun e2 => ?_⟩
    subst e2
    simp only [lz_c, hj, bne_iff_ne, ne_eq] at hc
    exact hc
theorem lz_store2 {ls' : Array Slot} {nL i : Nat} {L : List (Option Value)} {x : Value} (hc : lz_c L i = true) (h : lv_has ls' nL ((i, x) :: (lz_l 0 L).filter (fun q => !(q.1 == i) && (!(q.1 == i + 1) && !(q.1 + 1 == i && q.2.category == 2))))) : lz ls' nL ((L.set i (some x)).set (i + 1) none) := by
  refine ⟨h.1, h.2.1, fun j v hj => ?_⟩
  rw [List.getElem?_set] at hj
  split at hj
  · split at hj <;> cases hj
  · rename_i e1
    rw [List.getElem?_set] at hj
    split at hj
    · rename_i e
      split at hj
      · cases hj; subst e; exact h.2.2 (i, x) (by simp)
      · cases hj
    · rename_i e
      refine h.2.2 (j, v) (List.mem_cons_of_mem _ (List.mem_filter.2 ⟨(lz_l_mem (i := 0)).2 ⟨Nat.zero_le _, by simpa using hj⟩, ?_⟩))
      simp only [Bool.and_eq_true, Bool.not_eq_true', beq_eq_false_iff_ne, ne_eq, Bool.and_eq_false_imp, beq_iff_eq]
      refine ⟨fun e2 => e e2.symm, fun e2 => e1 e2.symm, fun e2 => ?_⟩
      subst e2
      simp only [lz_c, hj, bne_iff_ne, ne_eq] at hc
      exact hc
/-- the locals at a method's entry -/
def x_in : List Value → List (Option Value)
  | [] => []
  | v :: av => if v.category = 2 then some v :: none :: x_in av else some v :: x_in av
theorem x_in_args {av : List Value} {i j : Nat} {v : Value} (h : (x_in av)[j]? = some (some v)) : (i + j, v) ∈ lv_args i av := by
  induction av generalizing i j with
  | nil => simp [x_in] at h
  | cons w av ih =>
    unfold x_in at h
    unfold lv_args
    split at h
    · rename_i hc
      cases j with
      | zero => simp at h; simp [h]
      | succ j =>
        cases j with
        | zero => simp at h
        | succ j =>
          simp only [List.getElem?_cons_succ] at h
          have := ih (i := i + 2) h
          rw [show i + 2 + j = i + (j + 1 + 1) from by omega] at this
          simp [hc, this]
    · rename_i hc
      cases j with
      | zero => simp at h; simp [h]
      | succ j =>
        simp only [List.getElem?_cons_succ] at h
        have := ih (i := i + 1) h
        rw [show i + 1 + j = i + (j + 1) from by omega] at this
        simp [hc, this]
