/-! The class: marks (shared). -/
/-- the numbers of the nodes of an item, a row, a tree -/
def ft_nn : ft_I → List Nat
  | .mulL n r => n :: ft_nn r
  | .add x r => ft_nn x ++ ft_nn r
  | _ => []
def ft_nR (l : List ft_I) : List Nat := ft_nn (ft_mk l)
def ft_nT : ft_S → Option ft_I → List Nat
  | [], o => ft_nR o.toList
  | d :: sp, o => ft_nR d.1 ++ ft_nR d.2 ++ ft_nT sp o
theorem ft_nR_cons (x : ft_I) (l : List ft_I) : ft_nR (x :: l) = ft_nn x ++ ft_nR l := rfl
theorem ft_nn_nd (n : Nat) (l : List ft_I) : ft_nn (ft_nd n l) = n :: ft_nR l := rfl
theorem ft_nR_app (a b : List ft_I) : ft_nR (a ++ b) = ft_nR a ++ ft_nR b := by
  induction a with
  | nil => rfl
  | cons x a ih => rw [List.cons_append, ft_nR_cons, ft_nR_cons, ih, List.append_assoc]
theorem ft_nR_one (x : ft_I) : ft_nR [x] = ft_nn x := List.append_nil _
theorem ft_nn_mem {ne mm : Nat} {zf : Nat → Nat} : ∀ {k : Nat} {x : ft_I}, ft_ok ne mm zf k x → ∀ d, d ∈ ft_nn x ↔ ∃ q ∈ ft_lv x, d ∈ q.2 := by
  intro k
  induction k with
  | zero =>
    intro x h d
    obtain ⟨e, rfl, he⟩ := h
    simp [ft_nn, ft_lv]
  | succ k ih =>
    intro x h d
    obtain ⟨n, l, rfl, h1, h2, h3, h4, h5⟩ := h
    have row : ∀ l : List ft_I, (∀ y ∈ l, ft_ok ne mm zf k y) → (d ∈ ft_nR l ↔ ∃ q ∈ ft_lR l, d ∈ q.2) := by
      intro l
      induction l with
      | nil => intro _; simp [ft_nR, ft_mk, ft_nn, ft_lR]
      | cons y l ih2 =>
        intro hy
        rw [ft_nR_cons, List.mem_append, ih (hy y (by simp)) d, ih2 (fun z hz => hy z (by simp [hz]))]
        simp only [ft_lR, List.mem_append]
        constructor
        · rintro (⟨q, h6, h7⟩ | ⟨q, h6, h7⟩)
          · exact ⟨q, Or.inl h6, h7⟩
          · exact ⟨q, Or.inr h6, h7⟩
        · rintro ⟨q, h6 | h6, h7⟩
          · exact Or.inl ⟨q, h6, h7⟩
          · exact Or.inr ⟨q, h6, h7⟩
    rw [ft_nn_nd, ft_lv_nd, List.mem_cons, row l h5]
    constructor
    · rintro (rfl | ⟨q, h6, h7⟩)
      · cases hl : ft_lR l with
        | nil =>
          have h8 := ft_lR_len l
          rw [hl] at h8
          have h9 := ft_okR_c (ne := ne) (mm := mm) (zf := zf) (k := k) (l := l) h5
          simp at h8
          omega
        | cons q Q => exact ⟨(q.1, q.2 ++ [d]), by simp, by simp⟩
      · exact ⟨(q.1, q.2 ++ [n]), List.mem_map.2 ⟨q, h6, rfl⟩, by simp [h7]⟩
    · rintro ⟨q, h6, h7⟩
      obtain ⟨q', h8, rfl⟩ := List.mem_map.1 h6
      simp only [List.mem_append, List.mem_singleton] at h7
      rcases h7 with h7 | h7
      · exact Or.inr ⟨q', h8, h7⟩
      · exact Or.inl h7
theorem ft_nR_mem {ne mm : Nat} {zf : Nat → Nat} {k : Nat} {l : List ft_I} (h : ft_okR ne mm zf k l) (d : Nat) : d ∈ ft_nR l ↔ ∃ q ∈ ft_lR l, d ∈ q.2 := by
  induction l with
  | nil => simp [ft_nR, ft_mk, ft_nn, ft_lR]
  | cons y l ih2 =>
    rw [ft_nR_cons, List.mem_append, ft_nn_mem (h y (by simp)) d, ih2 (fun z hz => h z (by simp [hz]))]
    simp only [ft_lR, List.mem_append]
    constructor
    · rintro (⟨q, h6, h7⟩ | ⟨q, h6, h7⟩)
      · exact ⟨q, Or.inl h6, h7⟩
      · exact ⟨q, Or.inr h6, h7⟩
    · rintro ⟨q, h6 | h6, h7⟩
      · exact Or.inl ⟨q, h6, h7⟩
      · exact Or.inr ⟨q, h6, h7⟩
theorem ft_nT_mem {ne mm : Nat} {zf : Nat → Nat} {o : Option ft_I} : ∀ {sp : ft_S} {k : Nat}, ft_okT ne mm zf k sp o → ∀ d, d ∈ ft_nT sp o ↔ ∃ q ∈ ft_lT sp o, d ∈ q.2 := by
  intro sp
  induction sp with
  | nil =>
    intro k h d
    cases o with
    | none => simp [ft_nT, ft_nR, ft_mk, ft_nn, ft_lT]
    | some x =>
      show d ∈ ft_nR [x] ↔ ∃ q ∈ ft_lv x, d ∈ q.2
      rw [ft_nR_one]
      exact ft_nn_mem h d
  | cons c sp ih =>
    intro k h d
    show d ∈ ft_nR c.1 ++ ft_nR c.2 ++ ft_nT sp o ↔ ∃ q ∈ ft_lR c.1 ++ ft_lT sp o ++ ft_lR c.2, d ∈ q.2
    rw [List.mem_append, List.mem_append, ft_nR_mem h.1.2.2, ft_nR_mem h.2.1.2.2, ih h.2.2]
    simp only [List.mem_append]
    constructor
    · rintro ((⟨q, h6, h7⟩ | ⟨q, h6, h7⟩) | ⟨q, h6, h7⟩)
      · exact ⟨q, Or.inl (Or.inl h6), h7⟩
      · exact ⟨q, Or.inr h6, h7⟩
      · exact ⟨q, Or.inl (Or.inr h6), h7⟩
    · rintro ⟨q, (h6 | h6) | h6, h7⟩
      · exact Or.inl (Or.inl ⟨q, h6, h7⟩)
      · exact Or.inr ⟨q, h6, h7⟩
      · exact Or.inl (Or.inr ⟨q, h6, h7⟩)
theorem ft_nT_ns {ne mm : Nat} {zf : Nat → Nat} {t : ft_T} (h : ft_okT ne mm zf 0 t.1 t.2) (d : Nat) : d ∈ sp_ns t ↔ d ∈ ft_nT t.1 t.2 := by
  rw [ft_nT_mem h]
  exact List.mem_flatMap
theorem ft_nn_in {ne mm : Nat} {zf : Nat → Nat} {k : Nat} {x : ft_I} (h : ft_ok ne mm zf k x) : ∀ d ∈ ft_nn x, 1 ≤ d ∧ d ≤ mm := fun d hd => by
  obtain ⟨q, h1, h2⟩ := (ft_nn_mem h d).1 hd
  exact (ft_ok_leaf h q h1).2.2 d h2
theorem ft_nR_in {ne mm : Nat} {zf : Nat → Nat} {k : Nat} {l : List ft_I} (h : ft_okR ne mm zf k l) : ∀ d ∈ ft_nR l, 1 ≤ d ∧ d ≤ mm := fun d hd => by
  obtain ⟨q, h1, h2⟩ := (ft_nR_mem h d).1 hd
  obtain ⟨y, h3, h4⟩ := ft_lR_mem.1 h1
  exact (ft_ok_leaf (h y h3) q h4).2.2 d h2
theorem ft_nT_in {ne mm : Nat} {zf : Nat → Nat} {o : Option ft_I} : ∀ {sp : ft_S} {k : Nat}, ft_okT ne mm zf k sp o → ∀ d ∈ ft_nT sp o, 1 ≤ d ∧ d ≤ mm := by
  intro sp
  induction sp with
  | nil =>
    intro k h d hd
    cases o with
    | none => simp [ft_nT, ft_nR, ft_mk, ft_nn] at hd
    | some x => exact ft_nR_in (ft_okR_one h) d hd
  | cons c sp ih =>
    intro k h d hd
    rcases List.mem_append.1 hd with hd | hd
    · rcases List.mem_append.1 hd with hd | hd
      · exact ft_nR_in h.1.2.2 d hd
      · exact ft_nR_in h.2.1.2.2 d hd
    · exact ih h.2.2 d hd
/-- all numbers of a list get the mark f -/
def ft_ma (f : Nat) (mv : Nat → Nat) (ns : List Nat) : Nat → Nat := fun d => if d ∈ ns then f else mv d
theorem ft_ma_app (f : Nat) (mv : Nat → Nat) (a b : List Nat) : ft_ma f (ft_ma f mv a) b = ft_ma f mv (a ++ b) := funext fun d => by
  unfold ft_ma
  by_cases h1 : d ∈ b
  · rw [if_pos h1, if_pos (List.mem_append.2 (Or.inr h1))]
  · rw [if_neg h1]
    by_cases h2 : d ∈ a
    · rw [if_pos h2, if_pos (List.mem_append.2 (Or.inl h2))]
    · rw [if_neg h2, if_neg (fun h => (List.mem_append.1 h).elim h2 h1)]
theorem ft_ma_nil (f : Nat) (mv : Nat → Nat) : ft_ma f mv [] = mv := funext fun d => by unfold ft_ma; rw [if_neg (by simp)]
theorem ft_ma_one (f d : Nat) (mv : Nat → Nat) : va_up mv d f = ft_ma f mv [d] := funext fun x => by
  unfold ft_ma va_up
  by_cases h : x = d
  · rw [if_pos h, if_pos (by simp [h])]
  · rw [if_neg h, if_neg (by simp [h])]
theorem ft_pn_c (f g d : Nat) (ns : List Nat) (mk : Nat → Nat) (cn : Nat) : ft_pn f g mk cn (d :: ns) = if mk d = f then ft_pn f g (va_up mk d g) (cn + 1) ns else ft_pn f g mk cn ns := rfl
theorem ft_pn_app (f g : Nat) : ∀ (a b : List Nat) (mk : Nat → Nat) (cn : Nat), ft_pn f g mk cn (a ++ b) = ft_pn f g (ft_pn f g mk cn a).1 (ft_pn f g mk cn a).2 b := by
  intro a
  induction a with
  | nil => intro b mk cn; rfl
  | cons d a ih =>
    intro b mk cn
    rw [List.cons_append, ft_pn_c, ft_pn_c]
    by_cases h : mk d = f
    · rw [if_pos h, if_pos h, ih]
    · rw [if_neg h, if_neg h, ih]
theorem ft_pn_add (f g : Nat) : ∀ (ns : List Nat) (mk : Nat → Nat) (cn : Nat), ft_pn f g mk cn ns = ((ft_pn f g mk 0 ns).1, cn + (ft_pn f g mk 0 ns).2) := by
  intro ns
  induction ns with
  | nil => intro mk cn; rfl
  | cons d ns ih =>
    intro mk cn
    unfold ft_pn
    by_cases h : mk d = f
    · rw [if_pos h, if_pos h, ih _ (cn + 1), ih _ (0 + 1)]
      dsimp only
      rw [show cn + 1 + (ft_pn f g (va_up mk d g) 0 ns).2 = cn + (0 + 1 + (ft_pn f g (va_up mk d g) 0 ns).2) from by omega]
    · rw [if_neg h, if_neg h, ih]
theorem ft_pn_lt {f g B : Nat} (hg : g < B) : ∀ (ns : List Nat) (mk : Nat → Nat) (cn : Nat), (∀ d, mk d < B) → ∀ d, (ft_pn f g mk cn ns).1 d < B := by
  intro ns
  induction ns with
  | nil => intro mk cn h; exact h
  | cons x ns ih =>
    intro mk cn h
    unfold ft_pn
    by_cases h1 : mk x = f
    · rw [if_pos h1]
      exact ih _ _ (fun d => by unfold va_up; split; exact hg; exact h d)
    · rw [if_neg h1]
      exact ih _ _ h
theorem ft_updI (mv : Nat → Nat) (d f : Nat) : upd (fun i => nI (mv i)) d (nI f) = fun i => nI (va_up mv d f i) := funext fun i => by
  unfold upd va_up
  by_cases h : i = d <;> simp [h]
section XMA
variable {p : Program} {l : Launch} {e : Env} {R : Room} {s : State} {m : MethodId} {args : Array Value} {below : List Frame} {meth : Method} {c : Code} {H : Heap} {locs : List Loc} {cells slots : Nat} {Q : State → Prop}
variable {cc : ByteArray} {nL : Nat} {own : String} {ret : Option FieldType} {D : va_G} {A : Nat → ClassId} {H0 : Heap} {pc : Nat} {ls : Array Slot} {rest : List Value} {fr : Nat → Prop}
theorem x_iast (X : xx p s m args meth c cc nL own ret D A H0) {a n : Nat} {mv : Nat → Nat} (h : va_at D vwCl (a, .inl (A 0, n, .inl (fun i => nI (mv i)))) H) (hS : va_S fr H0 H locs) (ha : fr a) {i x : Nat} (hi : i < n) (h31 : n < 2 ^ 31) (hdg : decode cc pc = .ok (.iastore, 1))
    (kk : ∀ (H1 : Heap) (locs1 : List Loc), va_at D vwCl (a, .inl (A 0, n, .inl (fun j => nI (va_up mv i x j)))) H1 → va_S fr H0 H1 locs1 → W p l e R s m args below meth c H1 locs1 cells slots Q (F0 m (pc + 1) ls rest)) : W p l e R s m args below meth c H locs cells slots Q (F0 m pc ls (.int (nI x) :: .int (nI i) :: .ref a :: rest)) := by
  refine va_iast (cl := vwCl) X.1 X.2.1 X.2.2.2.2.2.2.1 (va_P1 h) (va_D1 ha) hS 0 0 rfl rfl (vp_in_nI hi h31) hdg (fun H1 locs1 h1 _ h3 => kk H1 locs1 ?_ h3)
  rw [nI_clamp (Nat.lt_trans hi h31), ft_updI] at h1
  exact h1 0 _ rfl
theorem x_iald (X : xx p s m args meth c cc nL own ret D A H0) {a n : Nat} {mv : Nat → Nat} (h : va_at D vwCl (a, .inl (A 0, n, .inl (fun i => nI (mv i)))) H) {i : Nat} (hi : i < n) (h31 : n < 2 ^ 31) (hdg : decode cc pc = .ok (.iaload, 1))
    (kk : W p l e R s m args below meth c H locs cells slots Q (F0 m (pc + 1) ls (.int (nI (mv i)) :: rest))) : W p l e R s m args below meth c H locs cells slots Q (F0 m pc ls (.int (nI i) :: .ref a :: rest)) := by
  refine va_iald (cl := vwCl) X.1 X.2.1 X.2.2.2.2.2.2.1 (va_P1 h) 0 0 rfl rfl (vp_in_nI hi h31) hdg ?_
  rw [nI_clamp (Nat.lt_trans hi h31)]
  exact kk
theorem va_S.kp {q : Nat × va_E} (h : va_S fr H0 H locs) (ha : va_at D vwCl q H0) (hs : ¬ fr q.1) : va_at D vwCl q H := c_keep ha (h.2.1 q.1 (c_lt ha) hs)
end XMA
