/-! The class's cells: items, rows, trees, by their pictures. S: the cells that calls write (all others stay as they are); rh: the class's number for a node's number of the picture (replace numbers inner nodes first); E: the entries. -/
abbrev cArr (A : Nat → ClassId) (k n : Nat) (f : Nat → Option Nat) : va_E := .inl (A k, n, .inr (.inr (.inr (.inr f))))
def cAt (D : va_G) (S : Nat → Prop) (q : Nat × va_E) (H : Heap) : Prop := ¬ S q.1 ∧ va_at D vwCl q H
/-- an array of items: these -/
def cRw (D : va_G) (A : Nat → ClassId) (S : Nat → Prop) (as : List Nat) (r : Nat) (H : Heap) : Prop := cAt D S (r, cArr A 3 as.length (fun i => as[i]?)) H
def cI (D : va_G) (A : Nat → ClassId) (S : Nat → Prop) (rh : Nat → Nat) (E : ft_E) : ft_I → List Nat → Heap → Prop
  | .num e, as, H => ∃ (a r : Nat) (lo hi : Int32), as = [a] ∧ E[e]? = some (lo, hi) ∧ cAt D S (a, .inr (0, [.int (nI 0), .int lo, .int hi, .ref r, .int (nI 1)])) H ∧ cRw D A S [] r H
  | .mulL n row, as, H => ∃ (a r : Nat) (bs : List Nat), as = [a] ∧ cAt D S (a, .inr (0, [.int (nI (rh n)), .int (nI 0), .int (nI 0), .ref r, .int (nI (ft_z row))])) H ∧ cRw D A S bs r H ∧ cI D A S rh E row bs H
  | .add x row, as, H => ∃ (a : Nat) (bs : List Nat), as = a :: bs ∧ cI D A S rh E x [a] H ∧ cI D A S rh E row bs H
  | .var _, as, _ => as = []
  | .mulR _ _, _, _ => False
/-- the items of a row -/
def cL (D : va_G) (A : Nat → ClassId) (S : Nat → Prop) (rh : Nat → Nat) (E : ft_E) (l : List ft_I) (as : List Nat) (H : Heap) : Prop := cI D A S rh E (ft_mk l) as H
def cT (D : va_G) (A : Nat → ClassId) (S : Nat → Prop) (rh : Nat → Nat) (E : ft_E) : ft_S → Option ft_I → Nat → Heap → Prop
  | [], o, a, H => ∃ (l r : Nat) (as : List Nat), cAt D S (a, .inr (3, [.ref l, .null, .ref r, .int (nI (ft_zT [] o)), .int (nI (ft_zT [] o))])) H ∧ cRw D A S as l H ∧ cRw D A S [] r H ∧ cL D A S rh E o.toList as H
  | d :: sp, o, a, H => ∃ (l m r : Nat) (as bs : List Nat), cAt D S (a, .inr (3, [.ref l, .ref m, .ref r, .int (nI (ft_zR d.1 + ft_zT sp o)), .int (nI (ft_zT (d :: sp) o))])) H ∧ cRw D A S as l H ∧ cRw D A S bs r H ∧ cL D A S rh E d.1 as H ∧ cL D A S rh E d.2 bs H ∧ cT D A S rh E sp o m H
section CT
variable {D : va_G} {A : Nat → ClassId} {S S1 : Nat → Prop} {rh rh1 : Nat → Nat} {E E1 : ft_E} {H H1 : Heap}
/-- the cells that aren't written stay, and aren't written later -/
def cTr (S S1 : Nat → Prop) (H H1 : Heap) : Prop := ∀ q : Nat, q < H.size → ¬ S q → H1[q]? = H[q]? ∧ ¬ S1 q
theorem cTr.rf (S : Nat → Prop) (H : Heap) : cTr S S H H := fun _ _ h => ⟨rfl, h⟩
theorem cTr.of {fr : Nat → Prop} (h : x_fr fr H H1) (hs : ∀ q, q < H.size → fr q → S q) : cTr S S H H1 := fun q h1 h2 => ⟨h.2 q h1 (fun h3 => h2 (hs q h1 h3)), h2⟩
theorem c_lt {q : Nat × va_E} (h : va_at D vwCl q H) : q.1 < H.size := va_at.lt h
theorem c_keep {q : Nat × va_E} (h : va_at D vwCl q H) (e : H1[q.1]? = H[q.1]?) : va_at D vwCl q H1 := by
  obtain ⟨a, e' | ⟨ci, fs⟩⟩ := q
  · show H1[a]? = _
    rw [show H1[a]? = H[a]? from e]; exact h
  · obtain ⟨r, h1, h2⟩ := h
    exact ⟨r, h1, h2.kept e⟩
theorem cAt.tr {q : Nat × va_E} (h : cAt D S q H) (t : cTr S S1 H H1) : cAt D S1 q H1 := by
  have := t q.1 (c_lt h.2) h.1
  exact ⟨this.2, c_keep h.2 this.1⟩
theorem cRw.tr {as : List Nat} {r : Nat} (h : cRw D A S as r H) (t : cTr S S1 H H1) : cRw D A S1 as r H1 := cAt.tr h t
/-- what an item is, stays; more entries may come -/
theorem cI.tr (t : cTr S S1 H H1) (hE : ∀ (e : Nat) (x : Int32 × Int32), E[e]? = some x → E1[e]? = some x) : ∀ {x : ft_I} {as : List Nat}, cI D A S rh E x as H → cI D A S1 rh E1 x as H1 := by
  intro x
  induction x with
  | num e =>
    intro as h
    obtain ⟨a, r, lo, hi, h1, h2, h3, h4⟩ := h
    exact ⟨a, r, lo, hi, h1, hE _ _ h2, h3.tr t, h4.tr t⟩
  | var i => intro as h; exact h
  | add x r hx hr =>
    intro as h
    obtain ⟨a, bs, h1, h2, h3⟩ := h
    exact ⟨a, bs, h1, hx h2, hr h3⟩
  | mulL n r hr =>
    intro as h
    obtain ⟨a, q, bs, h1, h2, h3, h4⟩ := h
    exact ⟨a, q, bs, h1, h2.tr t, h3.tr t, hr h4⟩
  | mulR a k _ => intro as h; exact h.elim
theorem cL.tr (t : cTr S S1 H H1) (hE : ∀ (e : Nat) (x : Int32 × Int32), E[e]? = some x → E1[e]? = some x) {l : List ft_I} {as : List Nat} (h : cL D A S rh E l as H) : cL D A S1 rh E1 l as H1 := cI.tr t hE h
theorem cT.tr (t : cTr S S1 H H1) (hE : ∀ (e : Nat) (x : Int32 × Int32), E[e]? = some x → E1[e]? = some x) {o : Option ft_I} : ∀ {sp : ft_S} {a : Nat}, cT D A S rh E sp o a H → cT D A S1 rh E1 sp o a H1 := by
  intro sp
  induction sp with
  | nil =>
    intro a h
    obtain ⟨l, r, as, h1, h2, h3, h4⟩ := h
    exact ⟨l, r, as, h1.tr t, h2.tr t, h3.tr t, h4.tr t hE⟩
  | cons d sp ih =>
    intro a h
    obtain ⟨l, m, r, as, bs, h1, h2, h3, h4, h5, h6⟩ := h
    exact ⟨l, m, r, as, bs, h1.tr t, h2.tr t, h3.tr t, h4.tr t hE, h5.tr t hE, ih h6⟩
theorem cL_nil {as : List Nat} : cL D A S rh E [] as H ↔ as = [] := Iff.rfl
theorem cL_cons {x : ft_I} {l : List ft_I} {as : List Nat} : cL D A S rh E (x :: l) as H ↔ ∃ (a : Nat) (bs : List Nat), as = a :: bs ∧ cI D A S rh E x [a] H ∧ cL D A S rh E l bs H := Iff.rfl
theorem cL_one {x : ft_I} {a : Nat} : cL D A S rh E [x] [a] H ↔ cI D A S rh E x [a] H := by
  rw [cL_cons]
  constructor
  · rintro ⟨b, bs, h1, h2, h3⟩; cases h1; exact h2
  · intro h; exact ⟨a, [], rfl, h, rfl⟩
theorem cL_len : ∀ {l : List ft_I} {as : List Nat}, cL D A S rh E l as H → as.length = l.length := by
  intro l
  induction l with
  | nil => intro as h; rw [cL_nil.1 h]; rfl
  | cons x l ih =>
    intro as h
    obtain ⟨a, bs, rfl, h2, h3⟩ := cL_cons.1 h
    simp [ih h3]
theorem cL_app : ∀ {l l' : List ft_I} {as as' : List Nat}, cL D A S rh E l as H → cL D A S rh E l' as' H → cL D A S rh E (l ++ l') (as ++ as') H := by
  intro l
  induction l with
  | nil => intro l' as as' h h'; rw [cL_nil.1 h]; exact h'
  | cons x l ih =>
    intro l' as as' h h'
    obtain ⟨a, bs, rfl, h2, h3⟩ := cL_cons.1 h
    exact cL_cons.2 ⟨a, bs ++ as', rfl, h2, ih h3 h'⟩
theorem cL_take : ∀ {l : List ft_I} {as : List Nat} (n : Nat), cL D A S rh E l as H → cL D A S rh E (l.take n) (as.take n) H := by
  intro l
  induction l with
  | nil => intro as n h; rw [cL_nil.1 h]; simp only [List.take_nil]; exact cL_nil.2 rfl
  | cons x l ih =>
    intro as n h
    obtain ⟨a, bs, rfl, h2, h3⟩ := cL_cons.1 h
    cases n with
    | zero => exact cL_nil.2 rfl
    | succ n => exact cL_cons.2 ⟨a, bs.take n, rfl, h2, ih n h3⟩
theorem cL_drop : ∀ {l : List ft_I} {as : List Nat} (n : Nat), cL D A S rh E l as H → cL D A S rh E (l.drop n) (as.drop n) H := by
  intro l
  induction l with
  | nil => intro as n h; rw [cL_nil.1 h]; simp only [List.drop_nil]; exact cL_nil.2 rfl
  | cons x l ih =>
    intro as n h
    obtain ⟨a, bs, rfl, h2, h3⟩ := cL_cons.1 h
    cases n with
    | zero => exact h
    | succ n => exact ih n h3
theorem cL_get : ∀ {l : List ft_I} {as : List Nat} {i : Nat} {x : ft_I}, cL D A S rh E l as H → l[i]? = some x → ∃ a, as[i]? = some a ∧ cI D A S rh E x [a] H := by
  intro l
  induction l with
  | nil => intro as i x h hx; simp at hx
  | cons y l ih =>
    intro as i x h hx
    obtain ⟨a, bs, rfl, h2, h3⟩ := cL_cons.1 h
    cases i with
    | zero => simp at hx; subst hx; exact ⟨a, rfl, h2⟩
    | succ i =>
      obtain ⟨b, h4, h5⟩ := ih (i := i) h3 (by simpa using hx)
      exact ⟨b, by simpa using h4, h5⟩
theorem cL_set : ∀ {l : List ft_I} {as : List Nat} {i a : Nat} {x : ft_I}, cL D A S rh E l as H → cI D A S rh E x [a] H → cL D A S rh E (l.set i x) (as.set i a) H := by
  intro l
  induction l with
  | nil => intro as i a x h hx; rw [cL_nil.1 h]; simp only [List.set_nil]; exact cL_nil.2 rfl
  | cons y l ih =>
    intro as i a x h hx
    obtain ⟨b, bs, rfl, h2, h3⟩ := cL_cons.1 h
    cases i with
    | zero => exact cL_cons.2 ⟨a, bs, rfl, hx, h3⟩
    | succ i => exact cL_cons.2 ⟨b, bs.set i a, rfl, h2, ih h3 hx⟩
/-- the numbers of an item's nodes are those made so far: another map of the later ones does no harm -/
theorem cI.rho {ne mm : Nat} {zf : Nat → Nat} (hr : ∀ n, 1 ≤ n → n ≤ mm → rh1 n = rh n) : ∀ (k : Nat) {x : ft_I} {as : List Nat}, ft_ok ne mm zf k x → cI D A S rh E x as H → cI D A S rh1 E x as H := by
  intro k
  induction k with
  | zero =>
    intro x as ok h
    obtain ⟨e, rfl, he⟩ := ok
    exact h
  | succ k ih =>
    intro x as ok h
    obtain ⟨n, l, rfl, h1, h2, h3, h4, h5⟩ := ok
    obtain ⟨a, q, bs, g1, g2, g3, g4⟩ := h
    refine ⟨a, q, bs, g1, by rw [hr n h2 h3]; exact g2, g3, ?_⟩
    clear h1 h4 g3 g2 g1
    have row : ∀ (l : List ft_I) (bs : List Nat), (∀ y ∈ l, ft_ok ne mm zf k y) → cI D A S rh E (ft_mk l) bs H → cI D A S rh1 E (ft_mk l) bs H := by
      intro l
      induction l with
      | nil => intro bs _ h; exact h
      | cons y l ih2 =>
        intro bs ok h
        obtain ⟨b, cs, e, h1, h2⟩ := h
        exact ⟨b, cs, e, ih (ok y (by simp)) h1, ih2 cs (fun z hz => ok z (by simp [hz])) h2⟩
    exact row l bs h5 g4
theorem cL.rho {ne mm : Nat} {zf : Nat → Nat} (hr : ∀ n, 1 ≤ n → n ≤ mm → rh1 n = rh n) {k : Nat} : ∀ {l : List ft_I} {as : List Nat}, ft_okR ne mm zf k l → cL D A S rh E l as H → cL D A S rh1 E l as H := by
  intro l
  induction l with
  | nil => intro as _ h; exact h
  | cons y l ih =>
    intro as ok h
    obtain ⟨b, cs, e, h1, h2⟩ := cL_cons.1 h
    exact cL_cons.2 ⟨b, cs, e, cI.rho hr k (ok y (by simp)) h1, ih (fun z hz => ok z (by simp [hz])) h2⟩
theorem cT.rho {ne mm : Nat} {zf : Nat → Nat} {o : Option ft_I} (hr : ∀ n, 1 ≤ n → n ≤ mm → rh1 n = rh n) : ∀ {sp : ft_S} {k a : Nat}, ft_okT ne mm zf k sp o → cT D A S rh E sp o a H → cT D A S rh1 E sp o a H := by
  intro sp
  induction sp with
  | nil =>
    intro k a ok h
    obtain ⟨l, r, as, h1, h2, h3, h4⟩ := h
    refine ⟨l, r, as, h1, h2, h3, ?_⟩
    cases o with
    | none => exact h4
    | some x => exact cL.rho hr (k := k) (fun y hy => by simp at hy; rw [hy]; exact ok) h4
  | cons d sp ih =>
    intro k a ok h
    obtain ⟨l, m, r, as, bs, h1, h2, h3, h4, h5, h6⟩ := h
    exact ⟨l, m, r, as, bs, h1, h2, h3, cL.rho hr ok.1.2.2 h4, cL.rho hr ok.2.1.2.2 h5, ih ok.2.2 h6⟩
/-- an item's entries, and whether it is a node -/
theorem cI_has {ne mm : Nat} {zf : Nat → Nat} {k : Nat} {x : ft_I} {a : Nat} (ok : ft_ok ne mm zf k x) (h : cI D A S rh E x [a] H) : ∃ (nu lo hi : Int32) (r : Nat) (bs : List Nat), cAt D S (a, .inr (0, [.int nu, .int lo, .int hi, .ref r, .int (nI (ft_z x))])) H ∧ cRw D A S bs r H ∧ cL D A S rh E (ft_ps x) bs H ∧ (k = 0 → bs = [] ∧ ∃ e, x = .num e ∧ E[e]? = some (lo, hi)) ∧ (∀ j, k = j + 1 → ∃ n, x = ft_nd n (ft_ps x) ∧ 1 ≤ n ∧ n ≤ mm ∧ nu = nI (rh n)) := by
  cases k with
  | zero =>
    obtain ⟨e, rfl, he⟩ := ok
    obtain ⟨a', r, lo, hi, h1, h2, h3, h4⟩ := h
    cases h1
    exact ⟨nI 0, lo, hi, r, [], h3, h4, cL_nil.2 rfl, fun _ => ⟨rfl, e, rfl, h2⟩, fun j hj => by omega⟩
  | succ k =>
    obtain ⟨n, l, rfl, h1, h2, h3, h4, h5⟩ := ok
    obtain ⟨a', q, bs, g1, g2, g3, g4⟩ := h
    cases g1
    rw [ft_ps_nd]
    exact ⟨_, _, _, q, bs, g2, g3, g4, fun h => by omega, fun j _ => ⟨n, rfl, h2, h3, rfl⟩⟩
end CT
