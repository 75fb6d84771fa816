/-! GROUPS, JOIN, CUT, HALVES, the change of an entry: form and size; and how many nodes there are. -/
theorem ft_tk_le {n : Nat} (h : n ≠ 1) (h0 : n ≠ 0) : 2 ≤ ft_tk n ∧ ft_tk n ≤ 3 ∧ ft_tk n ≤ n ∧ n - ft_tk n ≠ 1 := by
  unfold ft_tk
  split <;> omega
theorem ft_gr_ok {ne : Nat} {k : Nat} : ∀ (f : Nat) (l : List ft_I) (c : ft_C), l.length ≠ 1 → l.length ≤ f → ft_okR ne c.1 c.2 k l → ft_ex c (ft_gr f l c).2 ∧ ft_okR ne (ft_gr f l c).2.1 (ft_gr f l c).2.2 (k + 1) (ft_gr f l c).1 ∧ (ft_gr f l c).1.length = (l.length + 2) / 3 ∧ ft_zR (ft_gr f l c).1 = ft_zR l ∧ (ft_gr f l c).2.1 = c.1 + (l.length + 2) / 3 := by
  intro f
  induction f with
  | zero =>
    intro l c h1 h2 h
    have : l = [] := List.length_eq_zero_iff.1 (by omega)
    subst this
    exact ⟨ft_ex_rf c, fun y hy => by simp [ft_gr] at hy, rfl, rfl, rfl⟩
  | succ f ih =>
    intro l c h1 h2 h
    unfold ft_gr
    split
    · rename_i h0
      have : l = [] := List.length_eq_zero_iff.1 h0
      subst this
      exact ⟨ft_ex_rf c, fun y hy => by simp at hy, rfl, rfl, rfl⟩
    · rename_i h0
      obtain ⟨t1, t2, t3, t4⟩ := ft_tk_le h1 h0
      have hex := ft_ex_nw c (l.take (ft_tk l.length))
      have hnd := ft_ok_nw (c := c) (ft_okR_take h (ft_tk l.length)) (by rw [List.length_take]; omega)
      obtain ⟨i1, i2, i3, i4, i5⟩ := ih (l.drop (ft_tk l.length)) (ft_nw c (l.take (ft_tk l.length))) (by rw [List.length_drop]; exact t4) (by rw [List.length_drop]; omega) (ft_okR_ex hex (ft_okR_drop h _))
      rw [List.length_drop] at i3 i5
      have hd : (l.length - ft_tk l.length + 2) / 3 + 1 = (l.length + 2) / 3 := by
        unfold ft_tk at *
        split <;> omega
      refine ⟨ft_ex_tr hex i1, ft_okR_cons (ft_ok_ex i1 hnd) i2, ?_, ?_, ?_⟩
      · simp only [List.length_cons, i3]; exact hd
      · simp only [ft_zR, ft_z_nd, i4]; exact ft_zR_td _ _
      · rw [i5]; simp only [ft_nw]; omega
theorem ft_af_ok {ne : Nat} {k : Nat} : ∀ (row : List ft_I) (a : ft_T × ft_C), ft_okR ne a.2.1 a.2.2 k row → ft_okT ne a.2.1 a.2.2 k a.1.1 a.1.2 → ft_ex a.2 (ft_af row a).2 ∧ ft_okT ne (ft_af row a).2.1 (ft_af row a).2.2 k (ft_af row a).1.1 (ft_af row a).1.2 ∧ ft_zT (ft_af row a).1.1 (ft_af row a).1.2 = ft_zR row + ft_zT a.1.1 a.1.2 := by
  intro row
  induction row with
  | nil => intro a h1 h2; exact ⟨ft_ex_rf _, h2, by simp [ft_af, ft_zR]⟩
  | cons x row ih =>
    intro a h1 h2
    obtain ⟨i1, i2, i3⟩ := ih a (fun y hy => h1 y (by simp [hy])) h2
    have h := ft_fr_ok (ft_af row a).1.1 x (ft_af row a).1.2 (ft_af row a).2 k (ft_ok_ex i1 (h1 x (by simp))) i2
    have hz := ft_fr_z (ft_af row a).1.1 x (ft_af row a).1.2 (ft_af row a).2
    refine ⟨ft_ex_tr i1 h.1, h.2, ?_⟩
    show ft_zT (ft_fr x (ft_af row a).1.1 (ft_af row a).1.2 (ft_af row a).2).1.1 (ft_fr x (ft_af row a).1.1 (ft_af row a).1.2 (ft_af row a).2).1.2 = _
    rw [hz, i3]
    simp only [ft_zR]; omega
theorem ft_ab_ok {ne : Nat} {k : Nat} : ∀ (row : List ft_I) (a : ft_T × ft_C), ft_okR ne a.2.1 a.2.2 k row → ft_okT ne a.2.1 a.2.2 k a.1.1 a.1.2 → ft_ex a.2 (ft_ab row a).2 ∧ ft_okT ne (ft_ab row a).2.1 (ft_ab row a).2.2 k (ft_ab row a).1.1 (ft_ab row a).1.2 ∧ ft_zT (ft_ab row a).1.1 (ft_ab row a).1.2 = ft_zT a.1.1 a.1.2 + ft_zR row := by
  intro row
  induction row with
  | nil => intro a h1 h2; exact ⟨ft_ex_rf _, h2, by simp [ft_ab, ft_zR]⟩
  | cons x row ih =>
    intro a h1 h2
    have h := ft_bk_ok a.1.1 x a.1.2 a.2 k (h1 x (by simp)) h2
    have hz := ft_bk_z a.1.1 x a.1.2 a.2
    obtain ⟨i1, i2, i3⟩ := ih (ft_bk a.1.1 a.1.2 x a.2) (ft_okR_ex h.1 (fun y hy => h1 y (by simp [hy]))) h.2
    refine ⟨ft_ex_tr h.1 i1, i2, ?_⟩
    show ft_zT (ft_ab row (ft_bk a.1.1 a.1.2 x a.2)).1.1 (ft_ab row (ft_bk a.1.1 a.1.2 x a.2)).1.2 = _
    rw [i3, hz]
    simp only [ft_zR]; omega
theorem ft_jn_ok {ne : Nat} : ∀ (sp : ft_S) (o : Option ft_I) (row : List ft_I) (sp2 : ft_S) (o2 : Option ft_I) (c : ft_C) (k : Nat), row.length ≤ 4 → ft_okR ne c.1 c.2 k row → ft_okT ne c.1 c.2 k sp o → ft_okT ne c.1 c.2 k sp2 o2 → ft_ex c (ft_jn sp o row sp2 o2 c).2 ∧ ft_okT ne (ft_jn sp o row sp2 o2 c).2.1 (ft_jn sp o row sp2 o2 c).2.2 k (ft_jn sp o row sp2 o2 c).1.1 (ft_jn sp o row sp2 o2 c).1.2 ∧ ft_zT (ft_jn sp o row sp2 o2 c).1.1 (ft_jn sp o row sp2 o2 c).1.2 = ft_zT sp o + ft_zR row + ft_zT sp2 o2 := by
  intro sp
  induction sp with
  | nil =>
    intro o row sp2 o2 c k h4 hr h1 h2
    cases o with
    | none =>
      have h := ft_af_ok (k := k) row ((sp2, o2), c) hr h2
      refine ⟨h.1, h.2.1, ?_⟩
      show ft_zT (ft_af row ((sp2, o2), c)).1.1 (ft_af row ((sp2, o2), c)).1.2 = _
      rw [h.2.2]; simp [ft_zT]
    | some x =>
      cases he : ft_em sp2 o2 with
      | true =>
        have h := ft_ab_ok (k := k) row (([], some x), c) hr h1
        have hz := (ft_em_z h2).1 he
        simp only [ft_jn, he, if_true]
        refine ⟨h.1, h.2.1, ?_⟩
        rw [h.2.2, hz]; rfl
      | false =>
        have h := ft_af_ok (k := k) row ((sp2, o2), c) hr h2
        have h' := ft_fr_ok (ft_af row ((sp2, o2), c)).1.1 x (ft_af row ((sp2, o2), c)).1.2 (ft_af row ((sp2, o2), c)).2 k (ft_ok_ex h.1 h1) h.2.1
        have hz := ft_fr_z (ft_af row ((sp2, o2), c)).1.1 x (ft_af row ((sp2, o2), c)).1.2 (ft_af row ((sp2, o2), c)).2
        simp only [ft_jn, he, Bool.false_eq_true, if_false]
        refine ⟨ft_ex_tr h.1 h'.1, h'.2, ?_⟩
        rw [hz, h.2.2]
        simp only [ft_zT]; omega
  | cons d sp ih =>
    intro o row sp2 o2 c k h4 hr h1 h2
    cases sp2 with
    | nil =>
      have h := ft_ab_ok (k := k) row ((d :: sp, o), c) hr h1
      cases o2 with
      | none => exact ⟨h.1, h.2.1, h.2.2⟩
      | some y =>
        have h' := ft_bk_ok (ft_ab row ((d :: sp, o), c)).1.1 y (ft_ab row ((d :: sp, o), c)).1.2 (ft_ab row ((d :: sp, o), c)).2 k (ft_ok_ex h.1 h2) h.2.1
        have hz := ft_bk_z (ft_ab row ((d :: sp, o), c)).1.1 y (ft_ab row ((d :: sp, o), c)).1.2 (ft_ab row ((d :: sp, o), c)).2
        simp only [ft_jn]
        refine ⟨ft_ex_tr h.1 h'.1, h'.2, ?_⟩
        rw [hz, h.2.2]
        rfl
    | cons d2 sp2 =>
      obtain ⟨a1, a2, a3⟩ := h1
      obtain ⟨b1, b2, b3⟩ := h2
      have hrow := ft_okR_app (ft_okR_app a2.2.2 hr) b1.2.2
      have g := ft_gr_ok (ne := ne) (k := k) 16 (d.2 ++ row ++ d2.1) c (by simp; omega) (by simp; omega) hrow
      obtain ⟨g1, g2, g3, g4, g5⟩ := g
      have i := ih o (ft_gr 16 (d.2 ++ row ++ d2.1) c).1 sp2 o2 (ft_gr 16 (d.2 ++ row ++ d2.1) c).2 (k + 1) (by rw [g3]; simp; omega) g2 (ft_okT_ex g1 a3) (ft_okT_ex g1 b3)
      obtain ⟨i1, i2, i3⟩ := i
      have hall := ft_ex_tr g1 i1
      simp only [ft_jn]
      refine ⟨hall, ⟨⟨a1.1, a1.2.1, ft_okR_ex hall a1.2.2⟩, ⟨b2.1, b2.2.1, ft_okR_ex hall b2.2.2⟩, i2⟩, ?_⟩
      simp only [ft_zT]
      rw [i3, g4, ft_zR_app, ft_zR_app]
      omega
/-- what CUT gives at a place p of a tree of rank k -/
def ft_cok (ne mm : Nat) (zf : Nat → Nat) (k : Nat) (sp : ft_S) (o : Option ft_I) (p : Nat) (c : ft_T × ft_I × ft_T) : Prop :=
  ft_okT ne mm zf k c.1.1 c.1.2 ∧ ft_ok ne mm zf k c.2.1 ∧ ft_okT ne mm zf k c.2.2.1 c.2.2.2 ∧ ft_zT c.1.1 c.1.2 + ft_z c.2.1 + ft_zT c.2.2.1 c.2.2.2 = ft_zT sp o ∧ ft_zT c.1.1 c.1.2 ≤ p ∧ p < ft_zT c.1.1 c.1.2 + ft_z c.2.1
theorem ft_cu_ok {ne mm : Nat} {zf : Nat → Nat} {o : Option ft_I} : ∀ {sp : ft_S} {k p : Nat}, ft_okT ne mm zf k sp o → p < ft_zT sp o → ft_cok ne mm zf k sp o p (ft_cu sp o p) := by
  intro sp
  induction sp with
  | nil =>
    intro k p h hp
    cases o with
    | none => simp [ft_zT] at hp
    | some x =>
      simp only [ft_zT] at hp
      exact ⟨trivial, h, trivial, by simp [ft_cu, ft_zT], by simp [ft_cu, ft_zT], by simpa [ft_cu, ft_zT] using hp⟩
  | cons d sp ih =>
    intro k p h hp
    obtain ⟨a1, a2, a3⟩ := h
    simp only [ft_zT] at hp
    unfold ft_cu
    split
    · rename_i h1
      have hlt := ft_ix_lt (l := d.2) (p - (ft_zR d.1 + ft_zT sp o)) (by omega)
      have hs := ft_ix_sp (l := d.2) (p := p - (ft_zR d.1 + ft_zT sp o)) (by omega)
      generalize ft_ix d.2 (p - (ft_zR d.1 + ft_zT sp o)) = i at hlt hs ⊢
      have htg := ft_zR_tg d.2 hlt
      have ho := ft_op_ok (r := d.2.take i) a3 a1.2.2 (ft_okR_take a2.2.2 i) a1.2.1 (by rw [List.length_take]; omega) (Or.inl (by omega))
      refine ⟨ho.1, a2.2.2 _ (ft_getD_mem hlt), ft_ln_ok (ft_okR_drop a2.2.2 _) (by rw [List.length_drop]; omega), ?_, ?_, ?_⟩
      · rw [ho.2, ft_ln_z]; simp only [ft_zT]; omega
      · rw [ho.2]; (try dsimp only); omega
      · rw [ho.2]; (try dsimp only); omega
    · rename_i h1
      split
      · rename_i h2
        have hlt := ft_ix_lt (l := d.1) p (by omega)
        have hs := ft_ix_sp (l := d.1) (p := p) h2
        generalize ft_ix d.1 p = i at hlt hs ⊢
        have htg := ft_zR_tg d.1 hlt
        have ho := ft_op_ok (l := d.1.drop (i + 1)) a3 (ft_okR_drop a1.2.2 _) a2.2.2 (by rw [List.length_drop]; omega) a2.2.1 (Or.inr (by omega))
        refine ⟨ft_ln_ok (ft_okR_take a1.2.2 _) (by rw [List.length_take]; omega), a1.2.2 _ (ft_getD_mem hlt), ho.1, ?_, ?_, ?_⟩
        · rw [ho.2, ft_ln_z]; simp only [ft_zT]; omega
        · rw [ft_ln_z]; (try dsimp only); omega
        · rw [ft_ln_z]; (try dsimp only); omega
      · rename_i h2
        have hc := ih (p := p - ft_zR d.1) a3 (by omega)
        generalize ft_cu sp o (p - ft_zR d.1) = c at hc ⊢
        obtain ⟨c1, c2, c3, c4, c5, c6⟩ := hc
        obtain ⟨p1, p2, p3, p4⟩ := ft_okR_ps c2
        have hlt := ft_ix_lt (l := ft_ps c.2.1) (p - ft_zR d.1 - ft_zT c.1.1 c.1.2) (by omega)
        have hs := ft_ix_sp (l := ft_ps c.2.1) (p := p - ft_zR d.1 - ft_zT c.1.1 c.1.2) (by omega)
        unfold ft_cs
        generalize ft_ix (ft_ps c.2.1) (p - ft_zR d.1 - ft_zT c.1.1 c.1.2) = i at hlt hs ⊢
        have htg := ft_zR_tg (ft_ps c.2.1) hlt
        have o1 := ft_op_ok (r := (ft_ps c.2.1).take i) c1 a1.2.2 (ft_okR_take p1 i) a1.2.1 (by rw [List.length_take]; omega) (Or.inl (by omega))
        have o2 := ft_op_ok (l := (ft_ps c.2.1).drop (i + 1)) c3 (ft_okR_drop p1 _) a2.2.2 (by rw [List.length_drop]; omega) a2.2.1 (Or.inr (by omega))
        refine ⟨o1.1, p1 _ (ft_getD_mem hlt), o2.1, ?_, ?_, ?_⟩
        · rw [o1.2, o2.2]; simp only [ft_zT]; omega
        · rw [o1.2]; (try dsimp only); omega
        · rw [o1.2]; (try dsimp only); omega
