/-! The change of an entry; how many nodes a tree has. -/
theorem ft_zR_set {l : List ft_I} {i : Nat} {r : ft_I} (hi : i < l.length) (hz : ft_z r = ft_z (l.getD i ft_no)) : ft_zR (l.set i r) = ft_zR l := by
  induction l generalizing i with
  | nil => simp at hi
  | cons x l ih =>
    cases i with
    | zero => simp only [List.set_cons_zero, ft_zR]; simp at hz; omega
    | succ i =>
      have := ih (i := i) (by simpa using hi) (by simpa using hz)
      simp only [List.set_cons_succ, ft_zR, this]
theorem ft_okR_set {ne mm : Nat} {zf : Nat → Nat} {k i : Nat} {l : List ft_I} {r : ft_I} (h : ft_okR ne mm zf k l) (hr : ft_ok ne mm zf k r) : ft_okR ne mm zf k (l.set i r) := fun y hy => by
  rcases List.mem_or_eq_of_mem_set hy with h1 | h1
  · exact h y h1
  · rw [h1]; exact hr
theorem ft_rp_ok {ne : Nat} {y : ft_I} : ∀ (k : Nat) (x : ft_I) (p : Nat) (c : ft_C), ft_ok ne c.1 c.2 0 y → ft_ok ne c.1 c.2 k x → p < ft_z x → ft_ex c (ft_rp k x p y c).2 ∧ ft_ok ne (ft_rp k x p y c).2.1 (ft_rp k x p y c).2.2 k (ft_rp k x p y c).1 ∧ ft_z (ft_rp k x p y c).1 = ft_z x ∧ (ft_rp k x p y c).2.1 = c.1 + k := by
  intro k
  induction k with
  | zero =>
    intro x p c hy hx hp
    exact ⟨ft_ex_rf c, hy, by rw [show (ft_rp 0 x p y c).1 = y from rfl, ft_ok_z0 hy, ft_ok_z0 hx], rfl⟩
  | succ k ih =>
    intro x p c hy hx hp
    obtain ⟨p1, p2, p3, p4⟩ := ft_okR_ps hx
    have hlt := ft_ix_lt (l := ft_ps x) p (by omega)
    have hs := ft_ix_sp (l := ft_ps x) (p := p) (by omega)
    have hex := ft_ex_up c (ft_z x)
    unfold ft_rp
    generalize ft_ix (ft_ps x) p = i at hlt hs ⊢
    obtain ⟨i1, i2, i3, i4⟩ := ih ((ft_ps x).getD i ft_no) (p - ft_zR ((ft_ps x).take i)) (c.1 + 1, va_up c.2 (c.1 + 1) (ft_z x)) (ft_ok_ex hex hy) (ft_ok_ex hex (p1 _ (ft_getD_mem hlt))) (by omega)
    generalize ft_rp k ((ft_ps x).getD i ft_no) (p - ft_zR ((ft_ps x).take i)) y (c.1 + 1, va_up c.2 (c.1 + 1) (ft_z x)) = r at i1 i2 i3 i4 ⊢
    have hall := ft_ex_tr hex i1
    have hzs := ft_zR_set hlt i3
    refine ⟨hall, ⟨c.1 + 1, _, rfl, by simp only [List.length_set]; omega, by omega, i1.1, ?_, ft_okR_set (ft_okR_ex hall p1) i2⟩, ?_, ?_⟩
    · rw [i1.2 (c.1 + 1) (by omega) (Nat.le_refl _)]
      show va_up c.2 (c.1 + 1) (ft_z x) (c.1 + 1) = _
      rw [va_up_self, hzs, p2]
    · rw [ft_z_nd, hzs, p2]
    · rw [i4]; show c.1 + 1 + k = c.1 + (k + 1); omega
theorem ft_rR_ok {ne : Nat} {y : ft_I} {k : Nat} {l : List ft_I} {p : Nat} {c : ft_C} (hy : ft_ok ne c.1 c.2 0 y) (h : ft_okR ne c.1 c.2 k l) (hp : p < ft_zR l) (hl : 0 < l.length) : ft_ex c (ft_rR k l p y c).2 ∧ ft_okR ne (ft_rR k l p y c).2.1 (ft_rR k l p y c).2.2 k (ft_rR k l p y c).1 ∧ ft_zR (ft_rR k l p y c).1 = ft_zR l ∧ (ft_rR k l p y c).2.1 = c.1 + k ∧ (ft_rR k l p y c).1.length = l.length := by
  have hlt := ft_ix_lt (l := l) p hl
  have hs := ft_ix_sp (l := l) (p := p) hp
  unfold ft_rR
  generalize ft_ix l p = i at hlt hs ⊢
  obtain ⟨i1, i2, i3, i4⟩ := ft_rp_ok k (l.getD i ft_no) (p - ft_zR (l.take i)) c hy (h _ (ft_getD_mem hlt)) (by omega)
  exact ⟨i1, ft_okR_set (ft_okR_ex i1 h) i2, ft_zR_set hlt i3, i4, by simp⟩
theorem ft_rT_ok {ne : Nat} {y : ft_I} {o : Option ft_I} {c : ft_C} : ∀ (sp : ft_S) (k p : Nat), ft_ok ne c.1 c.2 0 y → ft_okT ne c.1 c.2 k sp o → p < ft_zT sp o → ft_ex c (ft_rT k sp o p y c).2 ∧ ft_okT ne (ft_rT k sp o p y c).2.1 (ft_rT k sp o p y c).2.2 k (ft_rT k sp o p y c).1.1 (ft_rT k sp o p y c).1.2 ∧ ft_zT (ft_rT k sp o p y c).1.1 (ft_rT k sp o p y c).1.2 = ft_zT sp o := by
  intro sp
  induction sp with
  | nil =>
    intro k p hy h hp
    cases o with
    | none => simp [ft_zT] at hp
    | some x =>
      obtain ⟨i1, i2, i3, i4⟩ := ft_rp_ok k x p c hy h hp
      exact ⟨i1, i2, i3⟩
  | cons d sp ih =>
    intro k p hy h hp
    obtain ⟨a1, a2, a3⟩ := h
    simp only [ft_zT] at hp
    unfold ft_rT
    split
    · rename_i h1
      obtain ⟨i1, i2, i3, i4, i5⟩ := ft_rR_ok (p := p - (ft_zR d.1 + ft_zT sp o)) hy a2.2.2 (by omega) (by omega)
      exact ⟨i1, ⟨⟨a1.1, a1.2.1, ft_okR_ex i1 a1.2.2⟩, ⟨by rw [i5]; exact a2.1, by rw [i5]; exact a2.2.1, i2⟩, ft_okT_ex i1 a3⟩, by simp only [ft_zT]; omega⟩
    · rename_i h1
      split
      · rename_i h2
        obtain ⟨i1, i2, i3, i4, i5⟩ := ft_rR_ok (p := p) hy a1.2.2 h2 (by omega)
        exact ⟨i1, ⟨⟨by rw [i5]; exact a1.1, by rw [i5]; exact a1.2.1, i2⟩, ⟨a2.1, a2.2.1, ft_okR_ex i1 a2.2.2⟩, ft_okT_ex i1 a3⟩, by simp only [ft_zT]; omega⟩
      · rename_i h2
        obtain ⟨i1, i2, i3⟩ := ih (k + 1) (p - ft_zR d.1) hy a3 (by omega)
        exact ⟨i1, ⟨⟨a1.1, a1.2.1, ft_okR_ex i1 a1.2.2⟩, ⟨a2.1, a2.2.1, ft_okR_ex i1 a2.2.2⟩, i2⟩, by simp only [ft_zT]; omega⟩
/-- how many nodes -/
def ft_cn : ft_I → Nat
  | .mulL _ r => 1 + ft_cn r
  | .add x r => ft_cn x + ft_cn r
  | _ => 0
def ft_cR : List ft_I → Nat
  | [] => 0
  | x :: l => ft_cn x + ft_cR l
def ft_cT : ft_S → Option ft_I → Nat
  | [], none => 0
  | [], some x => ft_cn x
  | d :: sp, o => ft_cR d.1 + ft_cT sp o + ft_cR d.2
theorem ft_cn_nd (n : Nat) (l : List ft_I) : ft_cn (ft_nd n l) = 1 + ft_cR l := by
  show 1 + ft_cn (ft_mk l) = _
  congr 1
  induction l with
  | nil => rfl
  | cons x l ih => simp [ft_mk, ft_cn, ft_cR, ih]
theorem ft_cR_app (a b : List ft_I) : ft_cR (a ++ b) = ft_cR a + ft_cR b := by
  induction a with
  | nil => simp [ft_cR]
  | cons x l ih => simp [ft_cR, ih]; omega
theorem ft_cR_td (l : List ft_I) (n : Nat) : ft_cR (l.take n) + ft_cR (l.drop n) = ft_cR l := by
  rw [← ft_cR_app, List.take_append_drop]
theorem ft_fr_c : ∀ (sp : ft_S) (x : ft_I) (o : Option ft_I) (c : ft_C), ft_cT (ft_fr x sp o c).1.1 (ft_fr x sp o c).1.2 + c.1 = ft_cn x + ft_cT sp o + (ft_fr x sp o c).2.1 := by
  intro sp
  induction sp with
  | nil => intro x o c; cases o <;> simp [ft_fr, ft_cT, ft_cR]
  | cons d sp ih =>
    intro x o c
    unfold ft_fr
    split
    · simp only [ft_cT, ft_cR]; omega
    · have h1 := ih (ft_nd (c.1 + 1) (d.1.drop 1)) o (ft_nw c (d.1.drop 1))
      have h2 := ft_cR_td d.1 1
      rw [ft_cn_nd] at h1
      have h3 : (ft_nw c (d.1.drop 1)).1 = c.1 + 1 := rfl
      simp only [ft_cT, ft_cR]
      omega
theorem ft_bk_c : ∀ (sp : ft_S) (x : ft_I) (o : Option ft_I) (c : ft_C), ft_cT (ft_bk sp o x c).1.1 (ft_bk sp o x c).1.2 + c.1 = ft_cn x + ft_cT sp o + (ft_bk sp o x c).2.1 := by
  intro sp
  induction sp with
  | nil => intro x o c; cases o <;> simp [ft_bk, ft_cT, ft_cR] <;> omega
  | cons d sp ih =>
    intro x o c
    unfold ft_bk
    split
    · simp only [ft_cT, ft_cR, ft_cR_app]; omega
    · have h1 := ih (ft_nd (c.1 + 1) (d.2.take 3)) o (ft_nw c (d.2.take 3))
      have h2 := ft_cR_td d.2 3
      rw [ft_cn_nd] at h1
      have h3 : (ft_nw c (d.2.take 3)).1 = c.1 + 1 := rfl
      simp only [ft_cT, ft_cR, ft_cR_app]
      omega
theorem ft_gr_c : ∀ (f : Nat) (l : List ft_I) (c : ft_C), l.length ≤ f → l.length ≠ 1 → ft_cR (ft_gr f l c).1 + c.1 = ft_cR l + (ft_gr f l c).2.1 := by
  intro f
  induction f with
  | zero =>
    intro l c h h1
    have : l = [] := List.length_eq_zero_iff.1 (by omega)
    subst this
    simp [ft_gr, ft_cR]
  | succ f ih =>
    intro l c h h1
    unfold ft_gr
    split
    · rename_i h0
      have : l = [] := List.length_eq_zero_iff.1 h0
      subst this
      simp [ft_cR]
    · rename_i h0
      obtain ⟨t1, t2, t3, t4⟩ := ft_tk_le h1 h0
      have i := ih (l.drop (ft_tk l.length)) (ft_nw c (l.take (ft_tk l.length))) (by rw [List.length_drop]; omega) (by rw [List.length_drop]; exact t4)
      have h2 := ft_cR_td l (ft_tk l.length)
      have h3 : (ft_nw c (l.take (ft_tk l.length))).1 = c.1 + 1 := rfl
      simp only [ft_cR, ft_cn_nd]
      omega
theorem ft_af_c (row : List ft_I) (a : ft_T × ft_C) : ft_cT (ft_af row a).1.1 (ft_af row a).1.2 + a.2.1 = ft_cR row + ft_cT a.1.1 a.1.2 + (ft_af row a).2.1 := by
  induction row with
  | nil => simp [ft_af, ft_cR]
  | cons x row ih =>
    have h := ft_fr_c (ft_af row a).1.1 x (ft_af row a).1.2 (ft_af row a).2
    show ft_cT (ft_fr x (ft_af row a).1.1 (ft_af row a).1.2 (ft_af row a).2).1.1 (ft_fr x (ft_af row a).1.1 (ft_af row a).1.2 (ft_af row a).2).1.2 + a.2.1 = _ + (ft_fr x (ft_af row a).1.1 (ft_af row a).1.2 (ft_af row a).2).2.1
    simp only [ft_cR]
    omega
theorem ft_ab_c : ∀ (row : List ft_I) (a : ft_T × ft_C), ft_cT (ft_ab row a).1.1 (ft_ab row a).1.2 + a.2.1 = ft_cR row + ft_cT a.1.1 a.1.2 + (ft_ab row a).2.1 := by
  intro row
  induction row with
  | nil => intro a; simp [ft_ab, ft_cR]
  | cons x row ih =>
    intro a
    have h := ft_bk_c a.1.1 x a.1.2 a.2
    have i := ih (ft_bk a.1.1 a.1.2 x a.2)
    show ft_cT (ft_ab row (ft_bk a.1.1 a.1.2 x a.2)).1.1 (ft_ab row (ft_bk a.1.1 a.1.2 x a.2)).1.2 + a.2.1 = _ + (ft_ab row (ft_bk a.1.1 a.1.2 x a.2)).2.1
    simp only [ft_cR]
    omega
theorem ft_em_c {o : Option ft_I} {sp : ft_S} (h : ft_em sp o = true) : ft_cT sp o = 0 := by
  cases sp with
  | nil => cases o with
    | none => rfl
    | some x => simp [ft_em] at h
  | cons d sp => simp [ft_em] at h
theorem ft_jn_c {ne : Nat} : ∀ (sp : ft_S) (o : Option ft_I) (row : List ft_I) (sp2 : ft_S) (o2 : Option ft_I) (c : ft_C) (k : Nat), row.length ≤ 4 → ft_okR ne c.1 c.2 k row → ft_okT ne c.1 c.2 k sp o → ft_okT ne c.1 c.2 k sp2 o2 → ft_cT (ft_jn sp o row sp2 o2 c).1.1 (ft_jn sp o row sp2 o2 c).1.2 + c.1 = ft_cT sp o + ft_cR row + ft_cT sp2 o2 + (ft_jn sp o row sp2 o2 c).2.1 := by
  intro sp
  induction sp with
  | nil =>
    intro o row sp2 o2 c k h4 hr h1 h2
    cases o with
    | none =>
      have h := ft_af_c row ((sp2, o2), c)
      simp only [ft_jn, ft_cT] at h ⊢
      omega
    | some x =>
      cases he : ft_em sp2 o2 with
      | true =>
        have h := ft_ab_c row (([], some x), c)
        have hz := ft_em_c he
        simp only [ft_jn, he, if_true, ft_cT] at h ⊢
        omega
      | false =>
        have h := ft_af_c row ((sp2, o2), c)
        have hf := ft_fr_c (ft_af row ((sp2, o2), c)).1.1 x (ft_af row ((sp2, o2), c)).1.2 (ft_af row ((sp2, o2), c)).2
        simp only [ft_jn, he, Bool.false_eq_true, if_false, ft_cT] at h ⊢
        omega
  | cons d sp ih =>
    intro o row sp2 o2 c k h4 hr h1 h2
    cases sp2 with
    | nil =>
      have h := ft_ab_c row ((d :: sp, o), c)
      cases o2 with
      | none => simp only [ft_jn, ft_cT] at h ⊢; omega
      | some y =>
        have hf := ft_bk_c (ft_ab row ((d :: sp, o), c)).1.1 y (ft_ab row ((d :: sp, o), c)).1.2 (ft_ab row ((d :: sp, o), c)).2
        simp only [ft_jn, ft_cT] at h ⊢
        omega
    | cons d2 sp2 =>
      obtain ⟨a1, a2, a3⟩ := h1
      obtain ⟨b1, b2, b3⟩ := h2
      have hrow := ft_okR_app (ft_okR_app a2.2.2 hr) b1.2.2
      obtain ⟨g1, g2, g3, g4, g5⟩ := ft_gr_ok (ne := ne) (k := k) 16 (d.2 ++ row ++ d2.1) c (by simp; omega) (by simp; omega) hrow
      have hg := ft_gr_c 16 (d.2 ++ row ++ d2.1) c (by simp; omega) (by simp; omega)
      have i := ih o (ft_gr 16 (d.2 ++ row ++ d2.1) c).1 sp2 o2 (ft_gr 16 (d.2 ++ row ++ d2.1) c).2 (k + 1) (by rw [g3]; simp; omega) g2 (ft_okT_ex g1 a3) (ft_okT_ex g1 b3)
      rw [ft_cR_app, ft_cR_app] at hg
      simp only [ft_jn, ft_cT]
      omega
theorem ft_ok_c {ne mm : Nat} {zf : Nat → Nat} : ∀ {k : Nat} {x : ft_I}, ft_ok ne mm zf k x → ft_cn x + 1 ≤ ft_z x
  | 0, x, h => by
    obtain ⟨e, rfl, _⟩ := h
    simp [ft_cn, ft_z]
  | k + 1, x, h => by
    obtain ⟨n, l, rfl, hl, _, _, _, hy⟩ := h
    rw [ft_cn_nd, ft_z_nd]
    have : ∀ l' : List ft_I, (∀ y ∈ l', ft_ok ne mm zf k y) → ft_cR l' + l'.length ≤ ft_zR l' := by
      intro l'
      induction l' with
      | nil => intro _; simp [ft_cR, ft_zR]
      | cons a l' ih =>
        intro h
        have h1 := ft_ok_c (h a (by simp))
        have h2 := ih (fun y hy => h y (by simp [hy]))
        simp only [ft_cR, ft_zR, List.length_cons]
        omega
    have := this l hy
    omega
theorem ft_okR_c {ne mm : Nat} {zf : Nat → Nat} {k : Nat} {l : List ft_I} (h : ft_okR ne mm zf k l) : ft_cR l + l.length ≤ ft_zR l := by
  induction l with
  | nil => simp [ft_cR, ft_zR]
  | cons a l ih =>
    have h1 := ft_ok_c (h a (by simp))
    have h2 := ih (fun y hy => h y (by simp [hy]))
    simp only [ft_cR, ft_zR, List.length_cons]
    omega
theorem ft_okR_c0 {ne mm : Nat} {zf : Nat → Nat} {l : List ft_I} (h : ft_okR ne mm zf 0 l) : ft_cR l = 0 := by
  induction l with
  | nil => rfl
  | cons a l ih =>
    obtain ⟨e, rfl, _⟩ := h a (by simp)
    have h2 := ih (fun y hy => h y (by simp [hy]))
    simp only [ft_cR, ft_cn, h2]
theorem ft_ok_c1 {ne mm : Nat} {zf : Nat → Nat} {x : ft_I} (h : ft_ok ne mm zf 1 x) : ft_cn x = 1 := by
  obtain ⟨n, l, rfl, hl, _, _, _, hy⟩ := h
  rw [ft_cn_nd, ft_okR_c0 (ne := ne) (mm := mm) (zf := zf) hy]
theorem ft_okR_c1 {ne mm : Nat} {zf : Nat → Nat} {l : List ft_I} (h : ft_okR ne mm zf 1 l) : ft_cR l = l.length := by
  induction l with
  | nil => rfl
  | cons a l ih =>
    have h1 := ft_ok_c1 (h a (by simp))
    have h2 := ih (fun y hy => h y (by simp [hy]))
    simp only [ft_cR, h1, h2, List.length_cons]
    omega
theorem ft_cT_z {ne mm : Nat} {zf : Nat → Nat} {o : Option ft_I} : ∀ {sp : ft_S} {k : Nat}, ft_okT ne mm zf k sp o → ft_cT sp o ≤ ft_zT sp o - 1 := by
  intro sp
  induction sp with
  | nil =>
    intro k h
    cases o with
    | none => simp [ft_cT]
    | some x => have := ft_ok_c h; simp only [ft_cT, ft_zT]; omega
  | cons d sp ih =>
    intro k h
    have h1 := ft_okR_c h.1.2.2
    have h2 := ft_okR_c h.2.1.2.2
    have h3 := ih h.2.2
    have h4 := h.1.1
    have h5 := h.2.1.1
    simp only [ft_cT, ft_zT]
    omega
/-- a tree of at most 40 entries has at most 35 nodes -/
theorem ft_c35 {ne mm : Nat} {zf : Nat → Nat} {o : Option ft_I} {sp : ft_S} (h : ft_okT ne mm zf 0 sp o) (hz : ft_zT sp o ≤ 40) : ft_cT sp o ≤ 35 := by
  cases sp with
  | nil => cases o with
    | none => simp [ft_cT]
    | some x => obtain ⟨e, rfl, _⟩ := h; simp [ft_cT, ft_cn]
  | cons d sp =>
    obtain ⟨a1, a2, a3⟩ := h
    have e1 := ft_okR_c0 a1.2.2
    have e2 := ft_okR_c0 a2.2.2
    have z1 := ft_okR_z a1.2.2
    have z2 := ft_okR_z a2.2.2
    simp only [ft_zT] at hz
    simp only [ft_cT, e1, e2]
    cases sp with
    | nil => cases o with
      | none => simp [ft_cT]
      | some x => have := ft_ok_c1 a3; simp only [ft_cT]; omega
    | cons d2 sp =>
      obtain ⟨b1, b2, b3⟩ := a3
      have f1 := ft_okR_c1 b1.2.2
      have f2 := ft_okR_c1 b2.2.2
      have y1 := ft_okR_z b1.2.2
      have y2 := ft_okR_z b2.2.2
      have y3 := ft_cT_z b3
      simp only [ft_zT] at hz
      simp only [ft_cT, f1, f2]
      omega
