/-! The class: level of a place; the constructors. -/
/-- how many middles a place lies in -/
def ft_lo : ft_S → Option ft_I → Nat → Nat
  | [], _, _ => 0
  | d :: sp, o, p => if ft_zR d.1 ≤ p ∧ p < ft_zR d.1 + ft_zT sp o then 1 + ft_lo sp o (p - ft_zR d.1) else 0
theorem ft_lo_le : ∀ (sp : ft_S) (o : Option ft_I) (p : Nat), ft_lo sp o p ≤ sp.length := by
  intro sp
  induction sp with
  | nil => intro o p; exact Nat.le_refl _
  | cons d sp ih =>
    intro o p
    unfold ft_lo
    split
    · have := ih o (p - ft_zR d.1); simp only [List.length_cons]; omega
    · exact Nat.zero_le _
set_option maxRecDepth 100000 in
set_option maxHeartbeats 4000000 in
theorem C_T_levelOf (l : Launch) (D : va_G) (A : Nat → ClassId) (H0 : Heap) (S : Nat → Prop) (rh : Nat → Nat) (E : ft_E) (ne mm : Nat) (zf : Nat → Nat) (k : Nat) (sp : ft_S) (o : Option ft_I) (a : Nat) (ok : ft_okT ne mm zf k sp o) (hT : cT D A S rh E sp o a H0) (hz : ft_zT sp o < 64) (p : Nat) (hp : p < 4096) : xC l y_T_levelOf c_T_levelOf 2 (some .int) (sp.length + 3) D A H0 [.ref a, .int (nI p)] (fun _ => False) (q1 (.int (nI (ft_lo sp o p))) (fun H1 => H1 = H0)) 0 0 := by
  induction sp generalizing k a p with
  | nil =>
    have ok0 := ok
    have hT0 := hT
    obtain ⟨lc, rc, as, t1, t2, t3, t4⟩ := hT
    refine xC.of rfl (Nat.le_of_ble_eq_true rfl) ?_
    intro p_ e_ s_ m_ ar_ bl_ me_ c_ ls X hl
    have hl : lz ls 2 [some (.ref a), some (.int (nI p))] := hl
    have hS : va_S (fun _ => False) H0 H0 [] := va_S.rf
    refine x_aload_n X d_T_levelOf_0 rfl hl rfl ?_
    refine x_iload_n X d_T_levelOf_1 rfl hl rfl ?_
    refine x_goR (x_runV X (C_T_holdsInMiddle l D A _ S rh E ne mm zf k [] o a ok0 hT0 hz p hp) b_T_holdsInMiddle s_T_holdsInMiddle v_T_holdsInMiddle e_T_45 t1.2 rfl rfl hl rfl (Nat.le_of_ble_eq_true rfl) d_T_levelOf_2 (Nat.le_of_ble_eq_true rfl) (Nat.le_of_ble_eq_true rfl) ⟨Nat.le_of_ble_eq_true rfl, Nat.le_of_ble_eq_true rfl⟩) hS (fun locs hS => ?_)
    rw [show ft_hm [] o p = 0 from if_neg (by show ¬ (ft_zT [] o ≤ p ∧ p < ft_zT [] o); omega)]
    refine n_if_eq X 26 d_T_levelOf_5 rfl (by decide) (fun hc => ?_) (fun hc => absurd rfl hc)
    refine x_iconst (v := nI 0) X d_T_levelOf_26 rfl ?_
    exact x_iret X hS (Nat.le_refl _) (Nat.le_refl _) d_T_levelOf_27 ⟨rfl, rfl⟩
  | cons d sp ih =>
    have ok0 := ok
    have hT0 := hT
    obtain ⟨lc, mc, rc, as, bs, t1, t2, t3, t4, t5, t6⟩ := hT
    obtain ⟨o1, o2, o3⟩ := ok
    have hzz : ft_zT (d :: sp) o = ft_zR d.1 + ft_zT sp o + ft_zR d.2 := rfl
    have hl1 : (d :: sp).length + 3 = sp.length + 4 := rfl
    rw [hl1]
    have hlo : ft_lo (d :: sp) o p = if ft_zR d.1 ≤ p ∧ p < ft_zR d.1 + ft_zT sp o then 1 + ft_lo sp o (p - ft_zR d.1) else 0 := rfl
    have hhm : ft_hm (d :: sp) o p = if ft_zR d.1 ≤ p ∧ p < ft_zR d.1 + ft_zT sp o then 1 else 0 := rfl
    by_cases hq : ft_zR d.1 ≤ p ∧ p < ft_zR d.1 + ft_zT sp o
    · rw [if_pos hq] at hlo hhm
      rw [hlo]
      refine xC.of rfl (Nat.le_of_ble_eq_true rfl) ?_
      intro p_ e_ s_ m_ ar_ bl_ me_ c_ ls X hl
      have hl : lz ls 2 [some (.ref a), some (.int (nI p))] := hl
      have hS : va_S (fun _ => False) H0 H0 [] := va_S.rf
      refine x_aload_n X d_T_levelOf_0 rfl hl rfl ?_
      refine x_iload_n X d_T_levelOf_1 rfl hl rfl ?_
      refine x_goR (x_runV X (C_T_holdsInMiddle l D A _ S rh E ne mm zf k (d :: sp) o a ok0 hT0 hz p hp) b_T_holdsInMiddle s_T_holdsInMiddle v_T_holdsInMiddle e_T_45 t1.2 rfl rfl hl rfl (Nat.le_of_ble_eq_true rfl) d_T_levelOf_2 (by dsimp only [x_rm]; omega) (by dsimp only [x_rm]; omega) ⟨Nat.le_of_ble_eq_true rfl, Nat.le_of_ble_eq_true rfl⟩) hS (fun locs hS => ?_)
      rw [hhm]
      refine n_if_eq X 26 d_T_levelOf_5 rfl (by decide) (fun hc => absurd hc (by decide)) (fun hc => ?_)
      refine x_iconst (v := nI 1) X d_T_levelOf_8 rfl ?_
      refine x_aload_n X d_T_levelOf_9 rfl hl rfl ?_
      refine x_get X gT t1.2 1 (by decide) e_T_13 rfl d_T_levelOf_10 ?_
      refine x_iload_n X d_T_levelOf_13 rfl hl rfl ?_
      refine x_aload_n X d_T_levelOf_14 rfl hl rfl ?_
      refine x_goR (x_runV X (C_T_middleStart l D A _ S rh E ne mm zf k (d :: sp) o a ok0 hT0 hz) b_T_middleStart s_T_middleStart v_T_middleStart e_T_37 t1.2 rfl rfl hl rfl (Nat.le_of_ble_eq_true rfl) d_T_levelOf_15 (by dsimp only [x_rm]; omega) (by dsimp only [x_rm]; omega) ⟨Nat.le_of_ble_eq_true rfl, Nat.le_of_ble_eq_true rfl⟩) hS (fun locs hS => ?_)
      rw [show ft_ms (d :: sp) o = ft_zR d.1 from rfl]
      refine n_isub X d_T_levelOf_18 (by omega) ?_
      obtain ⟨l2, r2, mv, rs, t7⟩ := cT_obj t6
      refine x_goR (x_runV X (ih (k + 1) mc o3 t6 (by omega) (p - ft_zR d.1) (by omega)) b_T_levelOf s_T_levelOf v_T_levelOf e_T_52 t7.2 rfl rfl hl rfl (Nat.le_of_ble_eq_true rfl) d_T_levelOf_19 (by dsimp only [x_rm]; omega) (by dsimp only [x_rm]; omega) ⟨Nat.le_of_ble_eq_true rfl, Nat.le_of_ble_eq_true rfl⟩) hS (fun locs hS => ?_)
      refine n_iadd X d_T_levelOf_22 ?_
      refine x_goto X 27 d_T_levelOf_23 rfl ?_
      exact x_iret X hS (Nat.le_refl _) (Nat.le_refl _) d_T_levelOf_27 ⟨rfl, rfl⟩
    · rw [if_neg hq] at hlo hhm
      rw [hlo]
      refine xC.of rfl (Nat.le_of_ble_eq_true rfl) ?_
      intro p_ e_ s_ m_ ar_ bl_ me_ c_ ls X hl
      have hl : lz ls 2 [some (.ref a), some (.int (nI p))] := hl
      have hS : va_S (fun _ => False) H0 H0 [] := va_S.rf
      refine x_aload_n X d_T_levelOf_0 rfl hl rfl ?_
      refine x_iload_n X d_T_levelOf_1 rfl hl rfl ?_
      refine x_goR (x_runV X (C_T_holdsInMiddle l D A _ S rh E ne mm zf k (d :: sp) o a ok0 hT0 hz p hp) b_T_holdsInMiddle s_T_holdsInMiddle v_T_holdsInMiddle e_T_45 t1.2 rfl rfl hl rfl (Nat.le_of_ble_eq_true rfl) d_T_levelOf_2 (by dsimp only [x_rm]; omega) (by dsimp only [x_rm]; omega) ⟨Nat.le_of_ble_eq_true rfl, Nat.le_of_ble_eq_true rfl⟩) hS (fun locs hS => ?_)
      rw [hhm]
      refine n_if_eq X 26 d_T_levelOf_5 rfl (by decide) (fun hc => ?_) (fun hc => absurd rfl hc)
      refine x_iconst (v := nI 0) X d_T_levelOf_26 rfl ?_
      exact x_iret X hS (Nat.le_refl _) (Nat.le_refl _) d_T_levelOf_27 ⟨rfl, rfl⟩
theorem va_D1 {fr : Nat → Prop} {q : Nat × va_E} (h : fr q.1) : va_D fr [q] := ⟨fun i j x y hx hy _ => by
  have h1 := (List.getElem?_eq_some_iff.1 hx).1
  have h2 := (List.getElem?_eq_some_iff.1 hy).1
  simp at h1 h2
  omega, fun k x hx => by
  have h1 := (List.getElem?_eq_some_iff.1 hx).1
  have : k = 0 := by simpa using h1
  subst this
  cases hx
  exact h⟩
/-- what stands outside of what a constructor writes, stays -/
theorem cTr.ofS {S : Nat → Prop} {fr : Nat → Prop} {H0 H : Heap} {locs : List Loc} (h : va_S fr H0 H locs) (hs : ∀ q, q < H0.size → fr q → S q) : cTr S S H0 H := fun q h1 h2 => ⟨h.2.1 q h1 (fun h3 => h2 (hs q h1 h3)), h2⟩
set_option maxRecDepth 100000 in
set_option maxHeartbeats 4000000 in
theorem C_C_init (l : Launch) (D : va_G) (A : Nat → ClassId) (H0 : Heap) (o : Nat) (hP : va_P D vwCl [(o, .inr (6, [.null, .null, .null]))] H0) (x0 x1 x2 : Nat) : xC l y_C_init c_C_init 4 (none : Option FieldType) 1 D A H0 [.ref o, .ref x0, .ref x1, .ref x2] (xA (fun q => q = o) H0) (q0 (fun H1 => va_at D vwCl (o, .inr (6, [.ref x0, .ref x1, .ref x2])) H1)) 0 0 := by
  refine xC.ofI rfl (Nat.le_of_ble_eq_true rfl) ?_
  intro p_ e_ s_ m_ ar_ bl_ me_ c_ ls X hn hl
  have hl : lz ls 4 [some (.ref o), some (.ref x0), some (.ref x1), some (.ref x2)] := hl
  have hS : va_S (xA (fun q => q = o) H0) H0 H0 [] := va_S.rf
  have hD : va_D (xA (fun q => q = o) H0) [(o, .inr (6, [.null, .null, .null]))] := va_D1 (Or.inl rfl)
  have hA : ∀ q, H0.size ≤ q → xA (fun q => q = o) H0 q := fun q h => Or.inr h
  refine x_aload_n X d_C_init_0 rfl hl rfl ?_
  refine x_obj X e_C_1 hl d_C_init_1 (Nat.le_of_ble_eq_true rfl) (Nat.le_of_ble_eq_true rfl) ?_
  refine x_aload_n X d_C_init_4 rfl hl rfl ?_
  refine x_aload_n X d_C_init_5 rfl hl rfl ?_
  refine x_putF X hn gC hP hD hS 0 rfl 0 (by decide) e_C_7 rfl rfl rfl (Nat.le_of_ble_eq_true rfl) d_C_init_6 (fun H locs hP hD hS => ?_)
  have hP : va_P D vwCl [(o, .inr (6, [.ref x0, .null, .null]))] H := hP
  have hD : va_D (xA (fun q => q = o) H0) [(o, .inr (6, [.ref x0, .null, .null]))] := hD
  refine x_aload_n X d_C_init_9 rfl hl rfl ?_
  refine x_aload_n X d_C_init_10 rfl hl rfl ?_
  refine x_putF X hn gC hP hD hS 0 rfl 1 (by decide) e_C_13 rfl rfl rfl (Nat.le_of_ble_eq_true rfl) d_C_init_11 (fun H locs hP hD hS => ?_)
  have hP : va_P D vwCl [(o, .inr (6, [.ref x0, .ref x1, .null]))] H := hP
  have hD : va_D (xA (fun q => q = o) H0) [(o, .inr (6, [.ref x0, .ref x1, .null]))] := hD
  refine x_aload_n X d_C_init_14 rfl hl rfl ?_
  refine x_aload_n X d_C_init_15 rfl hl rfl ?_
  refine x_putF X hn gC hP hD hS 0 rfl 2 (by decide) e_C_17 rfl rfl rfl (Nat.le_of_ble_eq_true rfl) d_C_init_16 (fun H locs hP hD hS => ?_)
  have hP : va_P D vwCl [(o, .inr (6, [.ref x0, .ref x1, .ref x2]))] H := hP
  have hD : va_D (xA (fun q => q = o) H0) [(o, .inr (6, [.ref x0, .ref x1, .ref x2]))] := hD
  exact x_vret X hS (Nat.le_of_ble_eq_true rfl) (Nat.le_of_ble_eq_true rfl) d_C_init_19 ⟨rfl, hP 0 _ rfl⟩
set_option maxRecDepth 100000 in
set_option maxHeartbeats 4000000 in
theorem C_H_init (l : Launch) (D : va_G) (A : Nat → ClassId) (H0 : Heap) (o : Nat) (hP : va_P D vwCl [(o, .inr (5, [.null, .null]))] H0) (x0 x1 : Nat) : xC l y_H_init c_H_init 3 (none : Option FieldType) 1 D A H0 [.ref o, .ref x0, .ref x1] (xA (fun q => q = o) H0) (q0 (fun H1 => va_at D vwCl (o, .inr (5, [.ref x0, .ref x1])) H1)) 0 0 := by
  refine xC.ofI rfl (Nat.le_of_ble_eq_true rfl) ?_
  intro p_ e_ s_ m_ ar_ bl_ me_ c_ ls X hn hl
  have hl : lz ls 3 [some (.ref o), some (.ref x0), some (.ref x1)] := hl
  have hS : va_S (xA (fun q => q = o) H0) H0 H0 [] := va_S.rf
  have hD : va_D (xA (fun q => q = o) H0) [(o, .inr (5, [.null, .null]))] := va_D1 (Or.inl rfl)
  have hA : ∀ q, H0.size ≤ q → xA (fun q => q = o) H0 q := fun q h => Or.inr h
  refine x_aload_n X d_H_init_0 rfl hl rfl ?_
  refine x_obj X e_H_1 hl d_H_init_1 (Nat.le_of_ble_eq_true rfl) (Nat.le_of_ble_eq_true rfl) ?_
  refine x_aload_n X d_H_init_4 rfl hl rfl ?_
  refine x_aload_n X d_H_init_5 rfl hl rfl ?_
  refine x_putF X hn gH hP hD hS 0 rfl 0 (by decide) e_H_7 rfl rfl rfl (Nat.le_of_ble_eq_true rfl) d_H_init_6 (fun H locs hP hD hS => ?_)
  have hP : va_P D vwCl [(o, .inr (5, [.ref x0, .null]))] H := hP
  have hD : va_D (xA (fun q => q = o) H0) [(o, .inr (5, [.ref x0, .null]))] := hD
  refine x_aload_n X d_H_init_9 rfl hl rfl ?_
  refine x_aload_n X d_H_init_10 rfl hl rfl ?_
  refine x_putF X hn gH hP hD hS 0 rfl 1 (by decide) e_H_13 rfl rfl rfl (Nat.le_of_ble_eq_true rfl) d_H_init_11 (fun H locs hP hD hS => ?_)
  have hP : va_P D vwCl [(o, .inr (5, [.ref x0, .ref x1]))] H := hP
  have hD : va_D (xA (fun q => q = o) H0) [(o, .inr (5, [.ref x0, .ref x1]))] := hD
  exact x_vret X hS (Nat.le_of_ble_eq_true rfl) (Nat.le_of_ble_eq_true rfl) d_H_init_14 ⟨rfl, hP 0 _ rfl⟩
set_option maxRecDepth 100000 in
set_option maxHeartbeats 4000000 in
theorem C_I_init (l : Launch) (D : va_G) (A : Nat → ClassId) (H0 : Heap) (o : Nat) (hP : va_P D vwCl [(o, .inr (0, [.int (nI 0), .int (nI 0), .int (nI 0), .null, .int (nI 0)]))] H0) (lw hg : Int32) : xC l y_I_init c_I_init 3 (none : Option FieldType) 1 D A H0 [.ref o, .int lw, .int hg] (xA (fun q => q = o) H0) (q0 (fun H1 => ∃ r, va_at D vwCl (o, .inr (0, [.int (nI 0), .int lw, .int hg, .ref r, .int (nI 1)])) H1 ∧ va_at D vwCl (r, cArr A 3 0 (fun _ => none)) H1 ∧ H0.size ≤ r)) 1 0 := by
  refine xC.ofI rfl (Nat.le_of_ble_eq_true rfl) ?_
  intro p_ e_ s_ m_ ar_ bl_ me_ c_ ls X hn hl
  have hl : lz ls 3 [some (.ref o), some (.int lw), some (.int hg)] := hl
  have hS : va_S (xA (fun q => q = o) H0) H0 H0 [] := va_S.rf
  have hD : va_D (xA (fun q => q = o) H0) [(o, .inr (0, [.int (nI 0), .int (nI 0), .int (nI 0), .null, .int (nI 0)]))] := va_D1 (Or.inl rfl)
  have hA : ∀ q, H0.size ≤ q → xA (fun q => q = o) H0 q := fun q h => Or.inr h
  refine x_aload_n X d_I_init_0 rfl hl rfl ?_
  refine x_obj X e_I_1 hl d_I_init_1 (Nat.le_of_ble_eq_true rfl) (Nat.le_of_ble_eq_true rfl) ?_
  refine x_aload_n X d_I_init_4 rfl hl rfl ?_
  refine x_iconst (v := nI 0) X d_I_init_5 rfl ?_
  refine x_putF X hn gI hP hD hS 0 rfl 0 (by decide) e_I_7 rfl rfl rfl (Nat.le_of_ble_eq_true rfl) d_I_init_6 (fun H locs hP hD hS => ?_)
  have hP : va_P D vwCl [(o, .inr (0, [.int (nI 0), .int (nI 0), .int (nI 0), .null, .int (nI 0)]))] H := hP
  have hD : va_D (xA (fun q => q = o) H0) [(o, .inr (0, [.int (nI 0), .int (nI 0), .int (nI 0), .null, .int (nI 0)]))] := hD
  refine x_aload_n X d_I_init_9 rfl hl rfl ?_
  refine x_iload_n X d_I_init_10 rfl hl rfl ?_
  refine x_putF X hn gI hP hD hS 0 rfl 1 (by decide) e_I_13 rfl rfl rfl (Nat.le_of_ble_eq_true rfl) d_I_init_11 (fun H locs hP hD hS => ?_)
  have hP : va_P D vwCl [(o, .inr (0, [.int (nI 0), .int lw, .int (nI 0), .null, .int (nI 0)]))] H := hP
  have hD : va_D (xA (fun q => q = o) H0) [(o, .inr (0, [.int (nI 0), .int lw, .int (nI 0), .null, .int (nI 0)]))] := hD
  refine x_aload_n X d_I_init_14 rfl hl rfl ?_
  refine x_iload_n X d_I_init_15 rfl hl rfl ?_
  refine x_putF X hn gI hP hD hS 0 rfl 2 (by decide) e_I_16 rfl rfl rfl (Nat.le_of_ble_eq_true rfl) d_I_init_16 (fun H locs hP hD hS => ?_)
  have hP : va_P D vwCl [(o, .inr (0, [.int (nI 0), .int lw, .int hg, .null, .int (nI 0)]))] H := hP
  have hD : va_D (xA (fun q => q = o) H0) [(o, .inr (0, [.int (nI 0), .int lw, .int hg, .null, .int (nI 0)]))] := hD
  refine x_aload_n X d_I_init_19 rfl hl rfl ?_
  refine x_iconst (v := nI 0) X d_I_init_20 rfl ?_
  refine x_newq X e_I_8 hP hD hS hA (by decide) (Nat.le_of_ble_eq_true rfl) (Nat.le_of_ble_eq_true rfl) d_I_init_21 (fun r H hP hD hS => ?_)
  refine x_putF X hn gI hP hD hS 0 rfl 3 (by decide) e_I_19 rfl rfl rfl (Nat.le_of_ble_eq_true rfl) d_I_init_24 (fun H locs hP hD hS => ?_)
  have hP : va_P D vwCl [(o, .inr (0, [.int (nI 0), .int lw, .int hg, .ref r, .int (nI 0)])), (r, cArr A 3 0 (fun _ => none))] H := hP
  have hD : va_D (xA (fun q => q = o) H0) [(o, .inr (0, [.int (nI 0), .int lw, .int hg, .ref r, .int (nI 0)])), (r, cArr A 3 0 (fun _ => none))] := hD
  refine x_aload_n X d_I_init_27 rfl hl rfl ?_
  refine x_iconst (v := nI 1) X d_I_init_28 rfl ?_
  refine x_putF X hn gI hP hD hS 0 rfl 4 (by decide) e_I_23 rfl rfl rfl (Nat.le_of_ble_eq_true rfl) d_I_init_29 (fun H locs hP hD hS => ?_)
  have hP : va_P D vwCl [(o, .inr (0, [.int (nI 0), .int lw, .int hg, .ref r, .int (nI 1)])), (r, cArr A 3 0 (fun _ => none))] H := hP
  have hD : va_D (xA (fun q => q = o) H0) [(o, .inr (0, [.int (nI 0), .int lw, .int hg, .ref r, .int (nI 1)])), (r, cArr A 3 0 (fun _ => none))] := hD
  have hr0 : H0.size ≤ r := by
    rcases hD.2 1 _ rfl with h | h
    · exact absurd (hD.1 1 0 _ _ rfl rfl h) (by decide)
    · exact h
  exact x_vret X hS (Nat.le_of_ble_eq_true rfl) (Nat.le_of_ble_eq_true rfl) d_I_init_32 ⟨rfl, r, hP 0 _ rfl, hP 1 _ rfl, hr0⟩
