/-! LINE, REST, LEAD, OPEN, GROUPS, JOIN, CUT, HALVES and the change of an entry keep form and size. -/
theorem ft_zR_tg (l : List ft_I) {i : Nat} (hi : i < l.length) : ft_zR (l.take i) + ft_z (l.getD i ft_no) + ft_zR (l.drop (i + 1)) = ft_zR l := by
  induction l generalizing i with
  | nil => simp at hi
  | cons x l ih =>
    cases i with
    | zero => simp [ft_zR]
    | succ i =>
      have := ih (i := i) (by simpa using hi)
      simp only [List.take_succ_cons, List.getD_cons_succ, List.drop_succ_cons, ft_zR] at this ⊢
      omega
theorem ft_getD_mem {l : List ft_I} {i : Nat} (hi : i < l.length) : l.getD i ft_no ∈ l := by
  rw [List.getD_eq_getElem?_getD, List.getElem?_eq_getElem hi]
  exact List.getElem_mem hi
theorem ft_ix_lt {l : List ft_I} (p : Nat) (hl : 0 < l.length) : ft_ix l p < l.length := by
  induction l generalizing p with
  | nil => simp at hl
  | cons x l ih =>
    unfold ft_ix
    split
    · simp
    · rename_i h
      have := ih (p - ft_z x) (by omega)
      simp; omega
theorem ft_ix_sp {l : List ft_I} {p : Nat} (hp : p < ft_zR l) : ft_zR (l.take (ft_ix l p)) ≤ p ∧ p < ft_zR (l.take (ft_ix l p)) + ft_z (l.getD (ft_ix l p) ft_no) := by
  induction l generalizing p with
  | nil => simp [ft_zR] at hp
  | cons x l ih =>
    unfold ft_ix
    split
    · rename_i h
      simp only [List.take_zero, ft_zR, List.getD_cons_zero]
      rcases h with h | h
      · have : l = [] := List.length_eq_zero_iff.1 h
        subst this
        simp [ft_zR] at hp
        omega
      · omega
    · rename_i h
      simp only [ft_zR] at hp
      have := ih (p := p - ft_z x) (by omega)
      rw [Nat.add_comm 1]
      simp only [List.take_succ_cons, List.getD_cons_succ, ft_zR]
      omega
theorem ft_ln_ok {ne mm : Nat} {zf : Nat → Nat} {k : Nat} {l : List ft_I} (h : ft_okR ne mm zf k l) (hl : l.length ≤ 8) : ft_okT ne mm zf k (ft_ln l).1 (ft_ln l).2 := by
  match l, h, hl with
  | [], _, _ => trivial
  | [x], h, _ => exact h x (by simp)
  | x :: y :: l, h, hl =>
    simp only [List.length_cons] at hl
    refine ⟨⟨?_, ?_, ft_okR_take h _⟩, ⟨?_, ?_, ft_okR_drop h _⟩, trivial⟩
    · simp [List.length_take]; omega
    · simp [List.length_take]; omega
    · simp [List.length_drop]; omega
    · simp [List.length_drop]; omega
theorem ft_ln_z (l : List ft_I) : ft_zT (ft_ln l).1 (ft_ln l).2 = ft_zR l := by
  match l with
  | [] => rfl
  | [x] => simp [ft_ln, ft_zT, ft_zR]
  | x :: y :: l =>
    simp only [ft_ln, ft_zT, Nat.add_zero]
    exact ft_zR_td _ _
theorem ft_fi_ok {ne mm : Nat} {zf : Nat → Nat} {o : Option ft_I} {sp : ft_S} {k : Nat} (h : ft_okT ne mm zf k sp o) (he : ft_em sp o = false) : ft_ok ne mm zf k (ft_fi sp o) := by
  cases sp with
  | nil => cases o with
    | none => simp [ft_em] at he
    | some x => exact h
  | cons d sp =>
    obtain ⟨⟨h1, _, h3⟩, _, _⟩ := h
    cases hd : d.1 with
    | nil => rw [hd] at h1; simp at h1
    | cons x l => simp only [ft_fi, hd, List.headD_cons]; exact h3 x (by simp [hd])
theorem ft_la_ok {ne mm : Nat} {zf : Nat → Nat} {o : Option ft_I} {sp : ft_S} {k : Nat} (h : ft_okT ne mm zf k sp o) (he : ft_em sp o = false) : ft_ok ne mm zf k (ft_la sp o) := by
  cases sp with
  | nil => cases o with
    | none => simp [ft_em] at he
    | some x => exact h
  | cons d sp =>
    obtain ⟨_, ⟨h1, _, h3⟩, _⟩ := h
    have hne : d.2 ≠ [] := fun e => by rw [e] at h1; simp at h1
    simp only [ft_la]
    rw [List.getLastD_eq_getLast?, List.getLast?_eq_some_getLast hne]
    exact h3 _ (List.getLast_mem hne)
theorem ft_re_ok {ne mm : Nat} {zf : Nat → Nat} {o : Option ft_I} : ∀ {sp : ft_S} {k : Nat}, ft_okT ne mm zf k sp o → ft_okT ne mm zf k (ft_re sp o).1 (ft_re sp o).2 ∧ (ft_em sp o = false → ft_zT (ft_re sp o).1 (ft_re sp o).2 + ft_z (ft_fi sp o) = ft_zT sp o) := by
  intro sp
  induction sp with
  | nil =>
    intro k h
    refine ⟨trivial, fun he => ?_⟩
    cases o with
    | none => simp [ft_em] at he
    | some x => simp [ft_re, ft_zT, ft_fi]
  | cons d sp ih =>
    intro k h
    obtain ⟨hd1, hd2, hm⟩ := h
    have hz1 : ft_z (ft_fi (d :: sp) o) + ft_zR (d.1.drop 1) = ft_zR d.1 := by
      cases hd : d.1 with
      | nil => rw [hd] at hd1; simp at hd1
      | cons x l => simp [ft_fi, hd, ft_zR]
    unfold ft_re
    split
    · rename_i h1
      refine ⟨⟨⟨?_, ?_, ft_okR_drop hd1.2.2 1⟩, hd2, hm⟩, fun _ => ?_⟩
      · simp; omega
      · simp; omega
      · simp only [ft_zT]; omega
    · rename_i h1
      have h0 : ft_zR (d.1.drop 1) = 0 := by rw [List.drop_of_length_le (by omega)]; rfl
      split
      · rename_i he
        refine ⟨ft_ln_ok hd2.2.2 (by omega), fun _ => ?_⟩
        rw [ft_ln_z]
        have := (ft_em_z hm).1 he
        simp only [ft_zT]; omega
      · rename_i he
        have he : ft_em sp o = false := by simpa using he
        obtain ⟨i1, i2⟩ := ih hm
        have hp := ft_okR_ps (ft_fi_ok hm he)
        refine ⟨⟨⟨by (try dsimp only); omega, by (try dsimp only); omega, hp.1⟩, hd2, i1⟩, fun _ => ?_⟩
        have := i2 he
        simp only [ft_zT]; omega
theorem ft_le_ok {ne mm : Nat} {zf : Nat → Nat} {o : Option ft_I} : ∀ {sp : ft_S} {k : Nat}, ft_okT ne mm zf k sp o → ft_okT ne mm zf k (ft_le sp o).1 (ft_le sp o).2 ∧ (ft_em sp o = false → ft_zT (ft_le sp o).1 (ft_le sp o).2 + ft_z (ft_la sp o) = ft_zT sp o) := by
  intro sp
  induction sp with
  | nil =>
    intro k h
    refine ⟨trivial, fun he => ?_⟩
    cases o with
    | none => simp [ft_em] at he
    | some x => simp [ft_le, ft_zT, ft_la]
  | cons d sp ih =>
    intro k h
    obtain ⟨hd1, hd2, hm⟩ := h
    have hne : d.2 ≠ [] := fun e => by rw [e] at hd2; simp at hd2
    have hz1 : ft_zR (d.2.take (d.2.length - 1)) + ft_z (ft_la (d :: sp) o) = ft_zR d.2 := by
      have e : d.2 = d.2.take (d.2.length - 1) ++ [d.2.getLast hne] := by
        rw [← List.dropLast_eq_take, List.dropLast_concat_getLast]
      have e2 : ft_la (d :: sp) o = d.2.getLast hne := by
        simp only [ft_la]
        rw [List.getLastD_eq_getLast?, List.getLast?_eq_some_getLast hne]
        rfl
      rw [e2]
      conv => rhs; rw [e]
      rw [ft_zR_app]
      simp [ft_zR]
    unfold ft_le
    split
    · rename_i h1
      refine ⟨⟨hd1, ⟨?_, ?_, ft_okR_take hd2.2.2 _⟩, hm⟩, fun _ => ?_⟩
      · simp; omega
      · simp; omega
      · simp only [ft_zT]; omega
    · rename_i h1
      have h0 : ft_zR (d.2.take (d.2.length - 1)) = 0 := by rw [show d.2.length - 1 = 0 from by omega]; rfl
      split
      · rename_i he
        refine ⟨ft_ln_ok hd1.2.2 (by omega), fun _ => ?_⟩
        rw [ft_ln_z]
        have := (ft_em_z hm).1 he
        simp only [ft_zT]; omega
      · rename_i he
        have he : ft_em sp o = false := by simpa using he
        obtain ⟨i1, i2⟩ := ih hm
        have hp := ft_okR_ps (ft_la_ok hm he)
        refine ⟨⟨hd1, ⟨by (try dsimp only); omega, by (try dsimp only); omega, hp.1⟩, i1⟩, fun _ => ?_⟩
        have := i2 he
        simp only [ft_zT]; omega
theorem ft_op_ok {ne mm : Nat} {zf : Nat → Nat} {o : Option ft_I} {sp : ft_S} {k : Nat} {l r : List ft_I} (hm : ft_okT ne mm zf (k + 1) sp o) (hl : ft_okR ne mm zf k l) (hr : ft_okR ne mm zf k r) (hl4 : l.length ≤ 4) (hr4 : r.length ≤ 4) (h0 : 0 < l.length ∨ 0 < r.length) : ft_okT ne mm zf k (ft_op l sp o r).1 (ft_op l sp o r).2 ∧ ft_zT (ft_op l sp o r).1 (ft_op l sp o r).2 = ft_zR l + ft_zT sp o + ft_zR r := by
  unfold ft_op
  split
  · rename_i h
    exact ⟨⟨⟨by (try dsimp only); omega, hl4, hl⟩, ⟨by (try dsimp only); omega, hr4, hr⟩, hm⟩, rfl⟩
  · rename_i h
    split
    · rename_i he
      have hz := (ft_em_z hm).1 he
      rw [ft_ln_z]
      split
      · rename_i hl0
        have : l = [] := List.length_eq_zero_iff.1 hl0
        subst this
        exact ⟨ft_ln_ok hr (by omega), by simp only [ft_zR]; omega⟩
      · rename_i hl0
        have : r = [] := List.length_eq_zero_iff.1 (by omega)
        subst this
        exact ⟨ft_ln_ok hl (by omega), by simp only [ft_zR]; omega⟩
    · rename_i he
      have he : ft_em sp o = false := by simpa using he
      split
      · rename_i hl0
        have : l = [] := List.length_eq_zero_iff.1 hl0
        subst this
        have hp := ft_okR_ps (ft_fi_ok hm he)
        have hre := ft_re_ok hm
        refine ⟨⟨⟨by (try dsimp only); omega, by (try dsimp only); omega, hp.1⟩, ⟨by (try dsimp only); omega, hr4, hr⟩, hre.1⟩, ?_⟩
        have := hre.2 he
        simp only [ft_zT, ft_zR]; omega
      · rename_i hl0
        have : r = [] := List.length_eq_zero_iff.1 (by omega)
        subst this
        have hp := ft_okR_ps (ft_la_ok hm he)
        have hle := ft_le_ok hm
        refine ⟨⟨⟨by (try dsimp only); omega, hl4, hl⟩, ⟨by (try dsimp only); omega, by (try dsimp only); omega, hp.1⟩, hle.1⟩, ?_⟩
        have := hle.2 he
        simp only [ft_zT, ft_zR]; omega
