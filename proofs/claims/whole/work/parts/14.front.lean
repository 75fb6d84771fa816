/-! FRONT and BACK keep the order and the form. 'ft_ex c c'' : c' has c's nodes and perhaps more. -/
def ft_ex (c c' : ft_C) : Prop := c.1 ≤ c'.1 ∧ ∀ n, 1 ≤ n → n ≤ c.1 → c'.2 n = c.2 n
theorem ft_ex_rf (c : ft_C) : ft_ex c c := ⟨Nat.le_refl _, fun _ _ _ => rfl⟩
theorem ft_ex_tr {a b c : ft_C} (h1 : ft_ex a b) (h2 : ft_ex b c) : ft_ex a c := ⟨Nat.le_trans h1.1 h2.1, fun n hn hm => (h2.2 n hn (Nat.le_trans hm h1.1)).trans (h1.2 n hn hm)⟩
theorem ft_ex_up (c : ft_C) (v : Nat) : ft_ex c (c.1 + 1, va_up c.2 (c.1 + 1) v) := ⟨Nat.le_succ _, fun n _ hm => by
  have h : n ≠ c.1 + 1 := by omega
  simp [va_up, h]⟩
theorem ft_ex_nw (c : ft_C) (l : List ft_I) : ft_ex c (ft_nw c l) := ft_ex_up c _
theorem ft_ok_ex {ne : Nat} {c c' : ft_C} (h : ft_ex c c') {k : Nat} {x : ft_I} (ok : ft_ok ne c.1 c.2 k x) : ft_ok ne c'.1 c'.2 k x := ft_ok_mono (Nat.le_refl _) h.1 h.2 ok
theorem ft_okR_ex {ne : Nat} {c c' : ft_C} (h : ft_ex c c') {k : Nat} {l : List ft_I} (ok : ft_okR ne c.1 c.2 k l) : ft_okR ne c'.1 c'.2 k l := ft_okR_mono (Nat.le_refl _) h.1 h.2 ok
theorem ft_okT_ex {ne : Nat} {c c' : ft_C} (h : ft_ex c c') {k : Nat} {sp : ft_S} {o : Option ft_I} (ok : ft_okT ne c.1 c.2 k sp o) : ft_okT ne c'.1 c'.2 k sp o := ft_okT_mono (Nat.le_refl _) h.1 h.2 ok
theorem ft_ok_nw {ne : Nat} {c : ft_C} {k : Nat} {l : List ft_I} (ok : ft_okR ne c.1 c.2 k l) (hl : l.length = 2 ∨ l.length = 3) : ft_ok ne (ft_nw c l).1 (ft_nw c l).2 (k + 1) (ft_nd (c.1 + 1) l) :=
  ft_ok_nd ok hl (Nat.lt_succ_self _) (by simp [ft_nw, va_up_self]) (ft_ex_nw c l).2
theorem ft_zR_td (l : List ft_I) (n : Nat) : ft_zR (l.take n) + ft_zR (l.drop n) = ft_zR l := by
  rw [← ft_zR_app, List.take_append_drop]
theorem ft_fr_z : ∀ (sp : ft_S) (x : ft_I) (o : Option ft_I) (c : ft_C), ft_zT (ft_fr x sp o c).1.1 (ft_fr x sp o c).1.2 = ft_z x + ft_zT sp o := by
  intro sp
  induction sp with
  | nil => intro x o c; cases o <;> simp [ft_fr, ft_zT, ft_zR]
  | cons d sp ih =>
    intro x o c
    unfold ft_fr
    split
    · simp only [ft_zT, ft_zR]; omega
    · simp only [ft_zT, ft_zR, ih, ft_z_nd]
      have := ft_zR_td d.1 1
      omega
theorem ft_bk_z : ∀ (sp : ft_S) (x : ft_I) (o : Option ft_I) (c : ft_C), ft_zT (ft_bk sp o x c).1.1 (ft_bk sp o x c).1.2 = ft_zT sp o + ft_z x := by
  intro sp
  induction sp with
  | nil => intro x o c; cases o <;> simp [ft_bk, ft_zT, ft_zR]
  | cons d sp ih =>
    intro x o c
    unfold ft_bk
    split
    · simp only [ft_zT, ft_zR, ft_zR_app]; omega
    · simp only [ft_zT, ft_zR, ih, ft_z_nd, ft_zR_app]
      have := ft_zR_td d.2 3
      omega
theorem ft_okR_sub {ne mm : Nat} {zf : Nat → Nat} {k : Nat} {l l' : List ft_I} (h : ft_okR ne mm zf k l) (hs : ∀ y ∈ l', y ∈ l) : ft_okR ne mm zf k l' := fun y hy => h y (hs y hy)
theorem ft_okR_take {ne mm : Nat} {zf : Nat → Nat} {k : Nat} {l : List ft_I} (h : ft_okR ne mm zf k l) (n : Nat) : ft_okR ne mm zf k (l.take n) := ft_okR_sub h (fun _ hy => List.mem_of_mem_take hy)
theorem ft_okR_drop {ne mm : Nat} {zf : Nat → Nat} {k : Nat} {l : List ft_I} (h : ft_okR ne mm zf k l) (n : Nat) : ft_okR ne mm zf k (l.drop n) := ft_okR_sub h (fun _ hy => List.mem_of_mem_drop hy)
theorem ft_okR_app {ne mm : Nat} {zf : Nat → Nat} {k : Nat} {l l' : List ft_I} (h : ft_okR ne mm zf k l) (h' : ft_okR ne mm zf k l') : ft_okR ne mm zf k (l ++ l') := fun y hy => (List.mem_append.1 hy).elim (h y) (h' y)
theorem ft_okR_one {ne mm : Nat} {zf : Nat → Nat} {k : Nat} {x : ft_I} (h : ft_ok ne mm zf k x) : ft_okR ne mm zf k [x] := fun y hy => by rw [List.mem_singleton.1 hy]; exact h
theorem ft_okR_cons {ne mm : Nat} {zf : Nat → Nat} {k : Nat} {x : ft_I} {l : List ft_I} (h : ft_ok ne mm zf k x) (h' : ft_okR ne mm zf k l) : ft_okR ne mm zf k (x :: l) := fun y hy => (List.mem_cons.1 hy).elim (fun e => e ▸ h) (h' y)
theorem ft_fr_ok {ne : Nat} : ∀ (sp : ft_S) (x : ft_I) (o : Option ft_I) (c : ft_C) (k : Nat), ft_ok ne c.1 c.2 k x → ft_okT ne c.1 c.2 k sp o → ft_ex c (ft_fr x sp o c).2 ∧ ft_okT ne (ft_fr x sp o c).2.1 (ft_fr x sp o c).2.2 k (ft_fr x sp o c).1.1 (ft_fr x sp o c).1.2 := by
  intro sp
  induction sp with
  | nil =>
    intro x o c k hx ht
    cases o with
    | none => exact ⟨ft_ex_rf c, hx⟩
    | some y => exact ⟨ft_ex_rf c, ⟨by simp, by simp, ft_okR_one hx⟩, ⟨by simp, by simp, ft_okR_one ht⟩, trivial⟩
  | cons d sp ih =>
    intro x o c k hx ht
    unfold ft_fr
    split
    · rename_i hl
      refine ⟨ft_ex_rf c, ⟨?_, ?_, ft_okR_cons hx ht.1.2.2⟩, ht.2.1, ht.2.2⟩
      · simp
      · simp; omega
    · rename_i hl
      have h4 : d.1.length = 4 := by have := ht.1.2.1; omega
      have hnd := ft_ok_nw (c := c) (ft_okR_drop ht.1.2.2 1) (by simp [h4])
      have hex := ft_ex_nw c (d.1.drop 1)
      obtain ⟨i1, i2⟩ := ih (ft_nd (c.1 + 1) (d.1.drop 1)) o (ft_nw c (d.1.drop 1)) (k + 1) hnd (ft_okT_ex hex ht.2.2)
      have hall := ft_ex_tr hex i1
      refine ⟨hall, ⟨?_, ?_, ft_okR_cons (ft_ok_ex hall hx) (ft_okR_ex hall (ft_okR_take ht.1.2.2 1))⟩, ⟨ht.2.1.1, ht.2.1.2.1, ft_okR_ex hall ht.2.1.2.2⟩, i2⟩
      · simp
      · simp; omega
theorem ft_bk_ok {ne : Nat} : ∀ (sp : ft_S) (x : ft_I) (o : Option ft_I) (c : ft_C) (k : Nat), ft_ok ne c.1 c.2 k x → ft_okT ne c.1 c.2 k sp o → ft_ex c (ft_bk sp o x c).2 ∧ ft_okT ne (ft_bk sp o x c).2.1 (ft_bk sp o x c).2.2 k (ft_bk sp o x c).1.1 (ft_bk sp o x c).1.2 := by
  intro sp
  induction sp with
  | nil =>
    intro x o c k hx ht
    cases o with
    | none => exact ⟨ft_ex_rf c, hx⟩
    | some y => exact ⟨ft_ex_rf c, ⟨by simp, by simp, ft_okR_one ht⟩, ⟨by simp, by simp, ft_okR_one hx⟩, trivial⟩
  | cons d sp ih =>
    intro x o c k hx ht
    unfold ft_bk
    split
    · rename_i hl
      refine ⟨ft_ex_rf c, ht.1, ⟨?_, ?_, ft_okR_app ht.2.1.2.2 (ft_okR_one hx)⟩, ht.2.2⟩
      · simp
      · simp; omega
    · rename_i hl
      have h4 : d.2.length = 4 := by have := ht.2.1.2.1; omega
      have hnd := ft_ok_nw (c := c) (ft_okR_take ht.2.1.2.2 3) (by simp [h4])
      have hex := ft_ex_nw c (d.2.take 3)
      obtain ⟨i1, i2⟩ := ih (ft_nd (c.1 + 1) (d.2.take 3)) o (ft_nw c (d.2.take 3)) (k + 1) hnd (ft_okT_ex hex ht.2.2)
      have hall := ft_ex_tr hex i1
      refine ⟨hall, ⟨ht.1.1, ht.1.2.1, ft_okR_ex hall ht.1.2.2⟩, ⟨?_, ?_, ft_okR_app (ft_okR_ex hall (ft_okR_drop ht.2.1.2.2 3)) (ft_okR_one (ft_ok_ex hall hx))⟩, i2⟩
      · simp
      · simp [h4]
