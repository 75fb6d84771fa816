/-! The class: line; OPEN, REST, LEAD. -/
set_option maxRecDepth 100000 in
set_option maxHeartbeats 4000000 in
theorem C_U_line (l : Launch) (D : va_G) (A : Nat → ClassId) (H0 : Heap) (S : Nat → Prop) (rh : Nat → Nat) (E : ft_E) (ne mm : Nat) (zf : Nat → Nat) (u nn em md : Nat) (hU : cUs D A S rh E u nn em md H0) (hSb : ∀ q, S q → q < H0.size) (k : Nat) (lr1 : List ft_I) (as1 : List Nat) (r1 : Nat) (ok1 : ft_okR ne mm zf k lr1) (hr1 : cRw D A S as1 r1 H0) (hL1 : cL D A S rh E lr1 as1 H0) (h91 : lr1.length < 64) (hz1 : ft_zR lr1 < 4096) (h8 : lr1.length ≤ 8) : xC l y_U_line c_U_line 3 (some (.object "FingerSpans$Tree")) 3 D A H0 [.ref u, .ref r1] (xA (fun _ => False) H0) (qr (fun t H1 => cT D A S rh E (ft_ln lr1).1 (ft_ln lr1).2 t H1)) 3 29 := by
  cases lr1 with
  | nil =>
    have hlen : as1.length = 0 := cL_len hL1
    refine xC.of rfl (Nat.le_of_ble_eq_true rfl) ?_
    intro p_ e_ s_ m_ ar_ bl_ me_ c_ ls X hl
    have hl : lz ls 3 [some (.ref u), some (.ref r1), none] := hl
    have hS : va_S (xA (fun _ => False) H0) H0 H0 [] := va_S.rf
    refine x_aload_n X d_U_line_0 rfl hl rfl ?_
    refine x_alen X hr1 d_U_line_1 ?_
    rw [hlen]
    refine n_if_ne X 10 d_U_line_2 rfl (by decide) (fun hc => absurd rfl hc) (fun hc => ?_)
    refine x_aload_n X d_U_line_5 rfl hl rfl ?_
    refine x_get X gU hU.1 1 (by decide) e_U_22 rfl d_U_line_6 ?_
    exact x_aret X (Or.inl ⟨_, rfl⟩) hS (by omega) (by omega) d_U_line_9 ⟨_, rfl, hU.2.2.1⟩
  | cons x lr1 =>
    cases lr1 with
    | nil =>
      have hlen : as1.length = 1 := cL_len hL1
      refine xC.of rfl (Nat.le_of_ble_eq_true rfl) ?_
      intro p_ e_ s_ m_ ar_ bl_ me_ c_ ls X hl
      have hl : lz ls 3 [some (.ref u), some (.ref r1), none] := hl
      have hS : va_S (xA (fun _ => False) H0) H0 H0 [] := va_S.rf
      have hSu : S u := hU.2.2.2
      refine x_aload_n X d_U_line_0 rfl hl rfl ?_
      refine x_alen X hr1 d_U_line_1 ?_
      rw [hlen]
      refine n_if_ne X 10 d_U_line_2 rfl (by decide) (fun hc => ?_) (fun hc => absurd hc (by decide))
      refine x_aload_n X d_U_line_10 rfl hl rfl ?_
      refine x_alen X hr1 d_U_line_11 ?_
      rw [hlen]
      refine x_iconst (v := nI 1) X d_U_line_12 rfl ?_
      refine n_icmp_ne X 30 d_U_line_13 rfl (by decide) (by decide) (fun hc => absurd rfl hc) (fun hc => ?_)
      have zz := hS.1
      refine x_newO (S := S) X gT e_U_17 n_T i_T x_defT hS hSb (by dsimp only [x_rm]; omega) (by dsimp only [x_rm]; omega) d_U_line_16 (fun oo G1 h_oo hO hF1 t_oo hS sb_ => ?_)
      have no_oo : ¬ (S) oo := c_ub hSb h_oo
      have n_oo_u : ¬ oo = u := Nat.ne_of_gt (Nat.lt_of_lt_of_le (c_lt hU.1) h_oo)
      have n_u_oo : ¬ u = oo := Nat.ne_of_lt (Nat.lt_of_lt_of_le (c_lt hU.1) h_oo)
      have t_ : cTr S (fun q => S q ∨ q = oo) H0 G1 := t_oo
      have hr1 := hr1.tr t_
      have hL1 := hL1.tr t_ (fun _ _ h => h)
      have hU := hU.mv t_ hF1 (fun h => h) (by first | exact hSu | exact Or.inl hSu | exact Or.inl (Or.inl hSu))
      have hSb : ∀ q, (S q ∨ q = oo) → q < G1.size := sb_
      have z_oo : H0.size ≤ oo := Nat.le_trans zz h_oo
      refine x_dup X d_U_line_19 rfl ?_
      refine x_aload_n X d_U_line_20 rfl hl rfl ?_
      refine x_null X d_U_line_21 ?_
      refine x_aload_n X d_U_line_22 rfl hl rfl ?_
      refine x_get X gU hU.1 0 (by decide) e_U_11 rfl d_U_line_23 ?_
      refine x_go0 (x_runIN X (C_T_init_n l D A _ oo (va_P1 hO) (fun q => S q ∨ q = oo) rh E ne mm zf (Or.inr rfl) k [x] as1 r1 ok1 hr1 hL1 (by simp) (by omega) [] [] nn (fun y hy => by simp at hy) hU.2.1 (cL_nil.2 rfl) (by simp) (by simp [ft_zR]) ) b_T_init rfl s_T_init e_U_19 rfl hl rfl (Nat.le_of_ble_eq_true rfl) d_U_line_26 (by dsimp only [x_rm]; omega) (by dsimp only [x_rm]; omega) ⟨(by dsimp only [x_rm]; omega), (by dsimp only [x_rm]; omega)⟩) hS (xA.one z_oo hS.1) (fun G2 locs hO_ hF2 hS => ?_)
      have t_ : cTr (fun q => S q ∨ q = oo) S G1 G2 := cTr.done hF2
      have hr1 := hr1.tr t_
      have hL1 := hL1.tr t_ (fun _ _ h => h)
      have hU := hU.mv t_ hF2 (xA.no (c_lt hU.1) n_u_oo) hSu
      have hSb := c_sbo hSb hF2.1
      have hO := hO_
      exact x_aret X (Or.inl ⟨_, rfl⟩) hS (by omega) (by omega) d_U_line_29 ⟨_, rfl, r1, nn, as1, ⟨no_oo, hO⟩, hr1, hU.2.1, hL1⟩
    | cons y lr1 =>
      have hlen : as1.length = lr1.length + 2 := cL_len hL1
      have h8 : lr1.length + 2 ≤ 8 := h8
      have hll : (x :: y :: lr1).length = lr1.length + 2 := rfl
      have htd := ft_zR_td (x :: y :: lr1) ((lr1.length + 3) / 2)
      refine xC.of rfl (Nat.le_of_ble_eq_true rfl) ?_
      intro p_ e_ s_ m_ ar_ bl_ me_ c_ ls X hl
      have hl : lz ls 3 [some (.ref u), some (.ref r1), none] := hl
      have hS : va_S (xA (fun _ => False) H0) H0 H0 [] := va_S.rf
      have hSu : S u := hU.2.2.2
      refine x_aload_n X d_U_line_0 rfl hl rfl ?_
      refine x_alen X hr1 d_U_line_1 ?_
      rw [hlen]
      refine n_if_ne X 10 d_U_line_2 rfl (by omega) (fun hc => ?_) (fun hc => absurd hc (by omega))
      refine x_aload_n X d_U_line_10 rfl hl rfl ?_
      refine x_alen X hr1 d_U_line_11 ?_
      rw [hlen]
      refine x_iconst (v := nI 1) X d_U_line_12 rfl ?_
      refine n_icmp_ne X 30 d_U_line_13 rfl (by omega) (by omega) (fun hc => ?_) (fun hc => absurd hc (by omega))
      refine x_aload_n X d_U_line_30 rfl hl rfl ?_
      refine x_alen X hr1 d_U_line_31 ?_
      rw [hlen]
      refine x_iconst (v := nI 1) X d_U_line_32 rfl ?_
      refine n_iadd X d_U_line_33 ?_
      refine x_iconst (v := nI 2) X d_U_line_34 rfl ?_
      refine n_idiv X d_U_line_35 (by omega) (by omega) (by omega) ?_
      refine x_istore_n X d_U_line_36 rfl hl (by decide) rfl (fun ls hl => ?_)
      have zz := hS.1
      refine x_newO (S := S) X gT e_U_17 n_T i_T x_defT hS hSb (by dsimp only [x_rm]; omega) (by dsimp only [x_rm]; omega) d_U_line_37 (fun oo G1 h_oo hO hF1 t_oo hS sb_ => ?_)
      have no_oo : ¬ (S) oo := c_ub hSb h_oo
      have n_oo_u : ¬ oo = u := Nat.ne_of_gt (Nat.lt_of_lt_of_le (c_lt hU.1) h_oo)
      have n_u_oo : ¬ u = oo := Nat.ne_of_lt (Nat.lt_of_lt_of_le (c_lt hU.1) h_oo)
      have t_ : cTr S (fun q => S q ∨ q = oo) H0 G1 := t_oo
      have hr1 := hr1.tr t_
      have hL1 := hL1.tr t_ (fun _ _ h => h)
      have hU := hU.mv t_ hF1 (fun h => h) (by first | exact hSu | exact Or.inl hSu | exact Or.inl (Or.inl hSu))
      have hSb : ∀ q, (S q ∨ q = oo) → q < G1.size := sb_
      have z_oo : H0.size ≤ oo := Nat.le_trans zz h_oo
      refine x_dup X d_U_line_40 rfl ?_
      refine x_aload_n X d_U_line_41 rfl hl rfl ?_
      refine x_iload_n X d_U_line_42 rfl hl rfl ?_
      refine x_gor (x_runSN X (C_R_before l D A _ (fun q => S q ∨ q = oo) rh E ne mm zf k (x :: y :: lr1) as1 r1 ok1 hr1 hL1 (by omega) (by omega) ((lr1.length + 3) / 2) (by omega) (by omega)) b_R_before s_R_before e_U_75 rfl hl rfl (Nat.le_of_ble_eq_true rfl) d_U_line_43 (by dsimp only [x_rm]; omega) (by dsimp only [x_rm]; omega) ⟨(by dsimp only [x_rm]; omega), (by dsimp only [x_rm]; omega)⟩) hS (xA.mono (fun _ h => h.elim) hS.1) (fun q1 G2 locs hR_ hF2 hS => ?_)
      have hq1 := hR_.rw hSb
      have t_ : cTr (fun q => S q ∨ q = oo) (fun q => S q ∨ q = oo) G1 G2 := cTr.fr hF2 (fun _ h => h.elim)
      have hO := hF2.kp hO (xA.no (c_lt hO) (fun h => h))
      have hr1 := hr1.tr t_
      have hL1 := hL1.tr t_ (fun _ _ h => h)
      have hU := hU.mv t_ hF2 (xA.no (c_lt hU.1) (fun h => h)) (by first | exact hSu | exact Or.inl hSu | exact Or.inl (Or.inl hSu))
      have hSb := c_sb hSb hF2.1
      refine x_aload_n X d_U_line_46 rfl hl rfl ?_
      refine x_get X gU hU.1 1 (by decide) e_U_22 rfl d_U_line_47 ?_
      refine x_aload_n X d_U_line_50 rfl hl rfl ?_
      refine x_iload_n X d_U_line_51 rfl hl rfl ?_
      refine x_aload_n X d_U_line_52 rfl hl rfl ?_
      refine x_alen X hr1 d_U_line_53 ?_
      rw [hlen]
      refine x_gor (x_runSN X (C_R_slice l D A _ (fun q => S q ∨ q = oo) rh E ne mm zf k (x :: y :: lr1) as1 r1 ok1 hr1 hL1 (by omega) (by omega) ((lr1.length + 3) / 2) (lr1.length + 2) (by omega) (by omega) (by omega)) b_R_slice s_R_slice e_U_86 rfl hl rfl (Nat.le_of_ble_eq_true rfl) d_U_line_54 (by dsimp only [x_rm]; omega) (by dsimp only [x_rm]; omega) ⟨(by dsimp only [x_rm]; omega), (by dsimp only [x_rm]; omega)⟩) hS (xA.mono (fun _ h => h.elim) hS.1) (fun q2 G3 locs hR_ hF3 hS => ?_)
      have hq2 := hR_.rw hSb
      have t_ : cTr (fun q => S q ∨ q = oo) (fun q => S q ∨ q = oo) G2 G3 := cTr.fr hF3 (fun _ h => h.elim)
      have hO := hF3.kp hO (xA.no (c_lt hO) (fun h => h))
      have hr1 := hr1.tr t_
      have hL1 := hL1.tr t_ (fun _ _ h => h)
      have hq1 := hq1.tr t_
      have hU := hU.mv t_ hF3 (xA.no (c_lt hU.1) (fun h => h)) (by first | exact hSu | exact Or.inl hSu | exact Or.inl (Or.inl hSu))
      have hSb := c_sb hSb hF3.1
      rw [List.take_of_length_le (by rw [List.length_drop]; omega)] at hq2
      have hA1 := cL_take ((lr1.length + 3) / 2) hL1
      have hA2 := cL_drop ((lr1.length + 3) / 2) hL1
      refine x_go0 (x_runIN X (C_T_init_d l D A _ oo (va_P1 hO) (fun q => S q ∨ q = oo) rh E ne mm zf (Or.inr rfl) k ((x :: y :: lr1).take ((lr1.length + 3) / 2)) _ q1 (ft_okR_take ok1 _) hq1 hA1 (by rw [List.length_take]; omega) (by omega) ((x :: y :: lr1).drop ((lr1.length + 3) / 2)) _ q2 (ft_okR_drop ok1 _) hq2 hA2 (by rw [List.length_drop]; omega) (by omega) [] none em hU.2.2.1) b_T_init rfl s_T_init e_U_19 rfl hl rfl (Nat.le_of_ble_eq_true rfl) d_U_line_57 (by dsimp only [x_rm]; omega) (by dsimp only [x_rm]; omega) ⟨(by dsimp only [x_rm]; omega), (by dsimp only [x_rm]; omega)⟩) hS (xA.one z_oo hS.1) (fun G4 locs hO_ hF4 hS => ?_)
      have t_ : cTr (fun q => S q ∨ q = oo) S G3 G4 := cTr.done hF4
      have hr1 := hr1.tr t_
      have hL1 := hL1.tr t_ (fun _ _ h => h)
      have hq1 := hq1.tr t_
      have hq2 := hq2.tr t_
      have hA1 := hA1.tr t_ (fun _ _ h => h)
      have hA2 := hA2.tr t_ (fun _ _ h => h)
      have hU := hU.mv t_ hF4 (xA.no (c_lt hU.1) n_u_oo) hSu
      have hSb := c_sbo hSb hF4.1
      have hO := hO_
      exact x_aret X (Or.inl ⟨_, rfl⟩) hS (by omega) (by omega) d_U_line_60 ⟨_, rfl, cT.mk hO no_oo hq1 hq2 hA1 hA2 hU.2.2.1⟩
/-- what OPEN does, at a spine of length n -/
def cOp (l : Launch) (D : va_G) (A : Nat → ClassId) (rh : Nat → Nat) (E : ft_E) (ne mm : Nat) (zf : Nat → Nat) (u nn em md n : Nat) : Prop := ∀ (H0 : Heap) (S : Nat → Prop) (hU : cUs D A S rh E u nn em md H0) (hSb : ∀ q, S q → q < H0.size) (k : Nat) (lr1 : List ft_I) (as1 : List Nat) (r1 : Nat) (ok1 : ft_okR ne mm zf k lr1) (hr1 : cRw D A S as1 r1 H0) (hL1 : cL D A S rh E lr1 as1 H0) (h91 : lr1.length < 64) (hz1 : ft_zR lr1 < 4096) (lr2 : List ft_I) (as2 : List Nat) (r2 : Nat) (ok2 : ft_okR ne mm zf k lr2) (hr2 : cRw D A S as2 r2 H0) (hL2 : cL D A S rh E lr2 as2 H0) (h92 : lr2.length < 64) (hz2 : ft_zR lr2 < 4096) (sp : ft_S) (o : Option ft_I) (t : Nat) (okt : ft_okT ne mm zf (k + 1) sp o) (hT : cT D A S rh E sp o t H0) (h4 : lr1.length ≤ 4) (h42 : lr2.length ≤ 4) (hz : ft_zR lr1 + ft_zT sp o + ft_zR lr2 < 64), sp.length = n → xC l y_U_open c_U_open 4 (some (.object "FingerSpans$Tree")) (2 * n + 4) D A H0 [.ref u, .ref r1, .ref t, .ref r2] (xA (fun _ => False) H0) (qr (fun t H1 => cT D A S rh E (ft_op lr1 sp o lr2).1 (ft_op lr1 sp o lr2).2 t H1)) (2 * n + 4) (17 * n + 34)
theorem ft_re_o2 {d : List ft_I × List ft_I} {sp : ft_S} {o : Option ft_I} (h1 : 1 ≤ d.1.length) (h2 : 1 ≤ d.2.length) : ft_re (d :: sp) o = ft_op (d.1.drop 1) sp o d.2 := by
  unfold ft_op
  show (if 1 < d.1.length then _ else _) = _
  have hl : (d.1.drop 1).length = d.1.length - 1 := List.length_drop ..
  by_cases h : 1 < d.1.length
  · rw [if_pos h, if_pos ⟨by omega, by omega⟩]
  · rw [if_neg h, if_neg (show ¬ (0 < (d.1.drop 1).length ∧ 0 < d.2.length) by omega), if_pos (show (d.1.drop 1).length = 0 by omega), if_pos (show (d.1.drop 1).length = 0 by omega)]
theorem ft_le_o2 {d : List ft_I × List ft_I} {sp : ft_S} {o : Option ft_I} (h1 : 1 ≤ d.1.length) (h2 : 1 ≤ d.2.length) : ft_le (d :: sp) o = ft_op d.1 sp o (d.2.take (d.2.length - 1)) := by
  unfold ft_op
  show (if 1 < d.2.length then _ else _) = _
  have hl : (d.2.take (d.2.length - 1)).length = d.2.length - 1 := by rw [List.length_take]; omega
  by_cases h : 1 < d.2.length
  · rw [if_pos h, if_pos ⟨by omega, by omega⟩]
  · rw [if_neg h, if_neg (show ¬ (0 < d.1.length ∧ 0 < (d.2.take (d.2.length - 1)).length) by omega), if_neg (show ¬ d.1.length = 0 by omega), if_neg (show ¬ d.1.length = 0 by omega)]
set_option maxRecDepth 100000 in
set_option maxHeartbeats 4000000 in
theorem C_U_rest_x (l : Launch) (D : va_G) (A : Nat → ClassId) (H0 : Heap) (rh : Nat → Nat) (E : ft_E) (ne mm : Nat) (zf : Nat → Nat) (u nn em md : Nat) (S : Nat → Prop) (hU : cUs D A S rh E u nn em md H0) (hSb : ∀ q, S q → q < H0.size) (k : Nat) (sp : ft_S) (o : Option ft_I) (t : Nat) (okt : ft_okT ne mm zf k sp o) (hT : cT D A S rh E sp o t H0) (hz : ft_zT sp o < 64) (hop : ∀ j, j < sp.length → cOp l D A rh E ne mm zf u nn em md j) : xC l y_U_rest c_U_rest 2 (some (.object "FingerSpans$Tree")) (2 * sp.length + 3) D A H0 [.ref u, .ref t] (xA (fun _ => False) H0) (qr (fun t H1 => cT D A S rh E (ft_re sp o).1 (ft_re sp o).2 t H1)) (2 * sp.length + 3) (17 * sp.length + 29) := by
  have ok0 := okt
  have hT0 := hT
  cases sp with
  | nil =>
    obtain ⟨lc, rc, as, t1, -⟩ := hT
    refine xC.of rfl (Nat.le_of_ble_eq_true rfl) ?_
    intro p_ e_ s_ m_ ar_ bl_ me_ c_ ls X hl
    have hl : lz ls 2 [some (.ref u), some (.ref t)] := hl
    have hS : va_S (xA (fun _ => False) H0) H0 H0 [] := va_S.rf
    refine x_aload_n X d_U_rest_0 rfl hl rfl ?_
    refine x_goR (x_runVN X (C_T_isDeep l D A _ S rh E ne mm zf k [] o t ok0 hT0 hz) b_T_isDeep s_T_isDeep v_T_isDeep e_U_45 t1.2 rfl rfl hl rfl (Nat.le_of_ble_eq_true rfl) d_U_rest_1 (by dsimp only [x_rm]; omega) (by dsimp only [x_rm]; omega) ⟨(by dsimp only [x_rm]; omega), (by dsimp only [x_rm]; omega)⟩) hS (fun locs hS => ?_)
    rw [show ft_de [] = 0 from rfl]
    refine n_if_ne X 12 d_U_rest_4 rfl (by decide) (fun hc => absurd rfl hc) (fun hc => ?_)
    refine x_aload_n X d_U_rest_7 rfl hl rfl ?_
    refine x_get X gU hU.1 1 (by decide) e_U_22 rfl d_U_rest_8 ?_
    exact x_aret X (Or.inl ⟨_, rfl⟩) hS (by omega) (by omega) d_U_rest_11 ⟨_, rfl, hU.2.2.1⟩
  | cons d sp =>
    obtain ⟨lc, mt, rc, as, bs, t1, t2, t3, t4, tb, tm⟩ := hT
    obtain ⟨o1, o2, o3⟩ := okt
    have hzz : ft_zT (d :: sp) o = ft_zR d.1 + ft_zT sp o + ft_zR d.2 := rfl
    have hlen := cL_len tb
    have hlen1 := cL_len t4
    have hle : (d :: sp).length = sp.length + 1 := rfl
    rw [ft_re_o2 o1.1 o2.1, hle]
    refine xC.of rfl (Nat.le_of_ble_eq_true rfl) ?_
    intro p_ e_ s_ m_ ar_ bl_ me_ c_ ls X hl
    have hl : lz ls 2 [some (.ref u), some (.ref t)] := hl
    have hS : va_S (xA (fun _ => False) H0) H0 H0 [] := va_S.rf
    have hSu : S u := hU.2.2.2
    refine x_aload_n X d_U_rest_0 rfl hl rfl ?_
    refine x_goR (x_runVN X (C_T_isDeep l D A _ S rh E ne mm zf k (d :: sp) o t ok0 hT0 hz) b_T_isDeep s_T_isDeep v_T_isDeep e_U_45 t1.2 rfl rfl hl rfl (Nat.le_of_ble_eq_true rfl) d_U_rest_1 (by dsimp only [x_rm]; omega) (by dsimp only [x_rm]; omega) ⟨(by dsimp only [x_rm]; omega), (by dsimp only [x_rm]; omega)⟩) hS (fun locs hS => ?_)
    rw [show ft_de (d :: sp) = 1 from rfl]
    refine n_if_ne X 12 d_U_rest_4 rfl (by decide) (fun hc => ?_) (fun hc => absurd hc (by decide))
    refine x_aload_n X d_U_rest_12 rfl hl rfl ?_
    refine x_aload_n X d_U_rest_13 rfl hl rfl ?_
    refine x_getN X gT t1.2 0 (by decide) e_U_48 rfl d_U_rest_14 ?_
    have htd := ft_zR_td d.1 1
    refine x_iconst (v := nI 0) X d_U_rest_17 rfl ?_
    refine x_gor (x_runSN X (C_R_after l D A _ S rh E ne mm zf k d.1 as lc o1.2.2 t2 t4 (by omega) (by omega) 0 (by omega) (by omega)) b_R_after s_R_after e_U_63 rfl hl rfl (Nat.le_of_ble_eq_true rfl) d_U_rest_18 (by dsimp only [x_rm]; omega) (by dsimp only [x_rm]; omega) ⟨(by dsimp only [x_rm]; omega), (by dsimp only [x_rm]; omega)⟩) hS (xA.mono (fun _ h => h.elim) hS.1) (fun q G1 locs hR_ hF1 hS => ?_)
    have hq := hR_.rw hSb
    have t_ : cTr S S H0 G1 := cTr.fr hF1 (fun _ h => h.elim)
    have t1 := t1.tr t_
    have t2 := t2.tr t_
    have t3 := t3.tr t_
    have t4 := t4.tr t_ (fun _ _ h => h)
    have tb := tb.tr t_ (fun _ _ h => h)
    have tm := tm.tr t_ (fun _ _ h => h)
    have hU := hU.mv t_ hF1 (xA.no (c_lt hU.1) (fun h => h)) hSu
    have hSb := c_sb hSb hF1.1
    refine x_aload_n X d_U_rest_21 rfl hl rfl ?_
    refine x_getN X gT t1.2 1 (by decide) e_U_57 rfl d_U_rest_22 ?_
    refine x_aload_n X d_U_rest_25 rfl hl rfl ?_
    refine x_getN X gT t1.2 2 (by decide) e_U_60 rfl d_U_rest_26 ?_
    refine x_gor (x_runV X (hop sp.length (by omega) G1 S hU hSb k (d.1.drop 1) (as.drop 1) q (ft_okR_drop o1.2.2 1) hq (cL_drop 1 t4) (by rw [List.length_drop]; omega) (by omega) d.2 bs rc o2.2.2 t3 tb (by omega) (by omega) sp o mt o3 tm (by rw [List.length_drop]; omega) (by omega) (by omega) rfl) b_U_open s_U_open v_U_open e_U_107 hU.1 rfl rfl hl rfl (Nat.le_of_ble_eq_true rfl) d_U_rest_29 (by dsimp only [x_rm]; omega) (by dsimp only [x_rm]; omega) ⟨(by dsimp only [x_rm]; omega), (by dsimp only [x_rm]; omega)⟩) hS (xA.mono (fun _ h => h.elim) hS.1) (fun r G2 locs hR hF2 hS => ?_)
    have t_ : cTr S S G1 G2 := cTr.fr hF2 (fun _ h => h.elim)
    have t1 := t1.tr t_
    have t2 := t2.tr t_
    have t3 := t3.tr t_
    have t4 := t4.tr t_ (fun _ _ h => h)
    have tb := tb.tr t_ (fun _ _ h => h)
    have tm := tm.tr t_ (fun _ _ h => h)
    have hq := hq.tr t_
    have hU := hU.mv t_ hF2 (xA.no (c_lt hU.1) (fun h => h)) hSu
    have hSb := c_sb hSb hF2.1
    exact x_aret X (Or.inl ⟨_, rfl⟩) hS (by omega) (by omega) d_U_rest_32 ⟨_, rfl, hR⟩
set_option maxRecDepth 100000 in
set_option maxHeartbeats 4000000 in
theorem C_U_lead_x (l : Launch) (D : va_G) (A : Nat → ClassId) (H0 : Heap) (rh : Nat → Nat) (E : ft_E) (ne mm : Nat) (zf : Nat → Nat) (u nn em md : Nat) (S : Nat → Prop) (hU : cUs D A S rh E u nn em md H0) (hSb : ∀ q, S q → q < H0.size) (k : Nat) (sp : ft_S) (o : Option ft_I) (t : Nat) (okt : ft_okT ne mm zf k sp o) (hT : cT D A S rh E sp o t H0) (hz : ft_zT sp o < 64) (hop : ∀ j, j < sp.length → cOp l D A rh E ne mm zf u nn em md j) : xC l y_U_lead c_U_lead 2 (some (.object "FingerSpans$Tree")) (2 * sp.length + 3) D A H0 [.ref u, .ref t] (xA (fun _ => False) H0) (qr (fun t H1 => cT D A S rh E (ft_le sp o).1 (ft_le sp o).2 t H1)) (2 * sp.length + 3) (17 * sp.length + 29) := by
  have ok0 := okt
  have hT0 := hT
  cases sp with
  | nil =>
    obtain ⟨lc, rc, as, t1, -⟩ := hT
    refine xC.of rfl (Nat.le_of_ble_eq_true rfl) ?_
    intro p_ e_ s_ m_ ar_ bl_ me_ c_ ls X hl
    have hl : lz ls 2 [some (.ref u), some (.ref t)] := hl
    have hS : va_S (xA (fun _ => False) H0) H0 H0 [] := va_S.rf
    refine x_aload_n X d_U_lead_0 rfl hl rfl ?_
    refine x_goR (x_runVN X (C_T_isDeep l D A _ S rh E ne mm zf k [] o t ok0 hT0 hz) b_T_isDeep s_T_isDeep v_T_isDeep e_U_45 t1.2 rfl rfl hl rfl (Nat.le_of_ble_eq_true rfl) d_U_lead_1 (by dsimp only [x_rm]; omega) (by dsimp only [x_rm]; omega) ⟨(by dsimp only [x_rm]; omega), (by dsimp only [x_rm]; omega)⟩) hS (fun locs hS => ?_)
    rw [show ft_de [] = 0 from rfl]
    refine n_if_ne X 12 d_U_lead_4 rfl (by decide) (fun hc => absurd rfl hc) (fun hc => ?_)
    refine x_aload_n X d_U_lead_7 rfl hl rfl ?_
    refine x_get X gU hU.1 1 (by decide) e_U_22 rfl d_U_lead_8 ?_
    exact x_aret X (Or.inl ⟨_, rfl⟩) hS (by omega) (by omega) d_U_lead_11 ⟨_, rfl, hU.2.2.1⟩
  | cons d sp =>
    obtain ⟨lc, mt, rc, as, bs, t1, t2, t3, t4, tb, tm⟩ := hT
    obtain ⟨o1, o2, o3⟩ := okt
    have hzz : ft_zT (d :: sp) o = ft_zR d.1 + ft_zT sp o + ft_zR d.2 := rfl
    have hlen := cL_len tb
    have hlen1 := cL_len t4
    have hle : (d :: sp).length = sp.length + 1 := rfl
    rw [ft_le_o2 o1.1 o2.1, hle]
    refine xC.of rfl (Nat.le_of_ble_eq_true rfl) ?_
    intro p_ e_ s_ m_ ar_ bl_ me_ c_ ls X hl
    have hl : lz ls 2 [some (.ref u), some (.ref t)] := hl
    have hS : va_S (xA (fun _ => False) H0) H0 H0 [] := va_S.rf
    have hSu : S u := hU.2.2.2
    refine x_aload_n X d_U_lead_0 rfl hl rfl ?_
    refine x_goR (x_runVN X (C_T_isDeep l D A _ S rh E ne mm zf k (d :: sp) o t ok0 hT0 hz) b_T_isDeep s_T_isDeep v_T_isDeep e_U_45 t1.2 rfl rfl hl rfl (Nat.le_of_ble_eq_true rfl) d_U_lead_1 (by dsimp only [x_rm]; omega) (by dsimp only [x_rm]; omega) ⟨(by dsimp only [x_rm]; omega), (by dsimp only [x_rm]; omega)⟩) hS (fun locs hS => ?_)
    rw [show ft_de (d :: sp) = 1 from rfl]
    refine n_if_ne X 12 d_U_lead_4 rfl (by decide) (fun hc => ?_) (fun hc => absurd hc (by decide))
    refine x_aload_n X d_U_lead_12 rfl hl rfl ?_
    refine x_aload_n X d_U_lead_13 rfl hl rfl ?_
    refine x_getN X gT t1.2 0 (by decide) e_U_48 rfl d_U_lead_14 ?_
    have htd := ft_zR_td d.2 (d.2.length - 1)
    refine x_aload_n X d_U_lead_17 rfl hl rfl ?_
    refine x_getN X gT t1.2 1 (by decide) e_U_57 rfl d_U_lead_18 ?_
    refine x_aload_n X d_U_lead_21 rfl hl rfl ?_
    refine x_getN X gT t1.2 2 (by decide) e_U_60 rfl d_U_lead_22 ?_
    refine x_aload_n X d_U_lead_25 rfl hl rfl ?_
    refine x_getN X gT t1.2 2 (by decide) e_U_60 rfl d_U_lead_26 ?_
    refine x_alen X t3 d_U_lead_29 ?_
    rw [hlen]
    refine x_iconst (v := nI 1) X d_U_lead_30 rfl ?_
    refine n_isub X d_U_lead_31 (by omega) ?_
    refine x_gor (x_runSN X (C_R_before l D A _ S rh E ne mm zf k d.2 bs rc o2.2.2 t3 tb (by omega) (by omega) (d.2.length - 1) (by omega) (by omega)) b_R_before s_R_before e_U_75 rfl hl rfl (Nat.le_of_ble_eq_true rfl) d_U_lead_32 (by dsimp only [x_rm]; omega) (by dsimp only [x_rm]; omega) ⟨(by dsimp only [x_rm]; omega), (by dsimp only [x_rm]; omega)⟩) hS (xA.mono (fun _ h => h.elim) hS.1) (fun q G1 locs hR_ hF1 hS => ?_)
    have hq := hR_.rw hSb
    have t_ : cTr S S H0 G1 := cTr.fr hF1 (fun _ h => h.elim)
    have t1 := t1.tr t_
    have t2 := t2.tr t_
    have t3 := t3.tr t_
    have t4 := t4.tr t_ (fun _ _ h => h)
    have tb := tb.tr t_ (fun _ _ h => h)
    have tm := tm.tr t_ (fun _ _ h => h)
    have hU := hU.mv t_ hF1 (xA.no (c_lt hU.1) (fun h => h)) hSu
    have hSb := c_sb hSb hF1.1
    refine x_gor (x_runV X (hop sp.length (by omega) G1 S hU hSb k d.1 as lc o1.2.2 t2 t4 (by omega) (by omega) (d.2.take (d.2.length - 1)) (bs.take (d.2.length - 1)) q (ft_okR_take o2.2.2 _) hq (cL_take _ tb) (by rw [List.length_take]; omega) (by omega) sp o mt o3 tm (by omega) (by rw [List.length_take]; omega) (by omega) rfl) b_U_open s_U_open v_U_open e_U_107 hU.1 rfl rfl hl rfl (Nat.le_of_ble_eq_true rfl) d_U_lead_35 (by dsimp only [x_rm]; omega) (by dsimp only [x_rm]; omega) ⟨(by dsimp only [x_rm]; omega), (by dsimp only [x_rm]; omega)⟩) hS (xA.mono (fun _ h => h.elim) hS.1) (fun r G2 locs hR hF2 hS => ?_)
    have t_ : cTr S S G1 G2 := cTr.fr hF2 (fun _ h => h.elim)
    have t1 := t1.tr t_
    have t2 := t2.tr t_
    have t3 := t3.tr t_
    have t4 := t4.tr t_ (fun _ _ h => h)
    have tb := tb.tr t_ (fun _ _ h => h)
    have tm := tm.tr t_ (fun _ _ h => h)
    have hq := hq.tr t_
    have hU := hU.mv t_ hF2 (xA.no (c_lt hU.1) (fun h => h)) hSu
    have hSb := c_sb hSb hF2.1
    exact x_aret X (Or.inl ⟨_, rfl⟩) hS (by omega) (by omega) d_U_lead_38 ⟨_, rfl, hR⟩
set_option maxRecDepth 100000 in
set_option maxHeartbeats 4000000 in
theorem C_U_open_n (l : Launch) (D : va_G) (A : Nat → ClassId) (rh : Nat → Nat) (E : ft_E) (ne mm : Nat) (zf : Nat → Nat) (u nn em md : Nat) : ∀ n, cOp l D A rh E ne mm zf u nn em md n := by
  intro n
  induction n using Nat.strongRecOn with
  | _ n ih =>
    intro H0 S hU hSb k lr1 as1 r1 ok1 hr1 hL1 h91 hz1 lr2 as2 r2 ok2 hr2 hL2 h92 hz2 sp o t okt hT h4 h42 hz hn
    subst hn
    have hlen1 := cL_len hL1
    have hlen2 := cL_len hL2
    obtain ⟨tl, tr, tmv, trs, tO⟩ := cT_obj hT
    by_cases h1 : 0 < lr1.length ∧ 0 < lr2.length
    · have hop : ft_op lr1 sp o lr2 = ((lr1, lr2) :: sp, o) := by unfold ft_op; rw [if_pos h1]
      rw [hop]
      refine xC.of rfl (Nat.le_of_ble_eq_true rfl) ?_
      intro p_ e_ s_ m_ ar_ bl_ me_ c_ ls X hl
      have hl : lz ls 4 [some (.ref u), some (.ref r1), some (.ref t), some (.ref r2)] := hl
      have hS : va_S (xA (fun _ => False) H0) H0 H0 [] := va_S.rf
      have hSu : S u := hU.2.2.2
      refine x_aload_n X d_U_open_0 rfl hl rfl ?_
      refine x_alen X hr1 d_U_open_1 ?_
      rw [hlen1]
      refine n_if_le X 21 d_U_open_2 rfl (by omega) (fun hc => absurd hc (by omega)) (fun hc => ?_)
      refine x_aload_n X d_U_open_5 rfl hl rfl ?_
      refine x_alen X hr2 d_U_open_6 ?_
      rw [hlen2]
      refine n_if_le X 21 d_U_open_7 rfl (by omega) (fun hc => absurd hc (by omega)) (fun hc => ?_)
      have zz := hS.1
      refine x_newO (S := S) X gT e_U_17 n_T i_T x_defT hS hSb (by dsimp only [x_rm]; omega) (by dsimp only [x_rm]; omega) d_U_open_10 (fun oo G1 h_oo hO hF1 t_oo hS sb_ => ?_)
      have no_oo : ¬ (S) oo := c_ub hSb h_oo
      have n_oo_u : ¬ oo = u := Nat.ne_of_gt (Nat.lt_of_lt_of_le (c_lt hU.1) h_oo)
      have n_u_oo : ¬ u = oo := Nat.ne_of_lt (Nat.lt_of_lt_of_le (c_lt hU.1) h_oo)
      have t_ : cTr S (fun q => S q ∨ q = oo) H0 G1 := t_oo
      have hr1 := hr1.tr t_
      have hL1 := hL1.tr t_ (fun _ _ h => h)
      have hr2 := hr2.tr t_
      have hL2 := hL2.tr t_ (fun _ _ h => h)
      have hT := hT.tr t_ (fun _ _ h => h)
      have tO := tO.tr t_
      have hU := hU.mv t_ hF1 (fun h => h) (by first | exact hSu | exact Or.inl hSu | exact Or.inl (Or.inl hSu))
      have hSb : ∀ q, (S q ∨ q = oo) → q < G1.size := sb_
      have z_oo : H0.size ≤ oo := Nat.le_trans zz h_oo
      refine x_dup X d_U_open_13 rfl ?_
      refine x_aload_n X d_U_open_14 rfl hl rfl ?_
      refine x_aload_n X d_U_open_15 rfl hl rfl ?_
      refine x_aload_n X d_U_open_16 rfl hl rfl ?_
      refine x_go0 (x_runIN X (C_T_init_d l D A _ oo (va_P1 hO) (fun q => S q ∨ q = oo) rh E ne mm zf (Or.inr rfl) k lr1 as1 r1 ok1 hr1 hL1 h91 hz1 lr2 as2 r2 ok2 hr2 hL2 h92 hz2 sp o t hT) b_T_init rfl s_T_init e_U_19 rfl hl rfl (Nat.le_of_ble_eq_true rfl) d_U_open_17 (by dsimp only [x_rm]; omega) (by dsimp only [x_rm]; omega) ⟨(by dsimp only [x_rm]; omega), (by dsimp only [x_rm]; omega)⟩) hS (xA.one z_oo hS.1) (fun G2 locs hO_ hF2 hS => ?_)
      have t_ : cTr (fun q => S q ∨ q = oo) S G1 G2 := cTr.done hF2
      have hr1 := hr1.tr t_
      have hL1 := hL1.tr t_ (fun _ _ h => h)
      have hr2 := hr2.tr t_
      have hL2 := hL2.tr t_ (fun _ _ h => h)
      have hT := hT.tr t_ (fun _ _ h => h)
      have tO := tO.tr t_
      have hU := hU.mv t_ hF2 (xA.no (c_lt hU.1) n_u_oo) hSu
      have hSb := c_sbo hSb hF2.1
      have hO := hO_
      exact x_aret X (Or.inl ⟨_, rfl⟩) hS (by omega) (by omega) d_U_open_20 ⟨_, rfl, cT.mk hO no_oo hr1 hr2 hL1 hL2 hT⟩
    cases he : ft_em sp o with
    | true =>
      have hop : ft_op lr1 sp o lr2 = ft_ln (if lr1.length = 0 then lr2 else lr1) := by unfold ft_op; rw [if_neg h1, if_pos he]
      refine xC.of rfl (Nat.le_of_ble_eq_true rfl) ?_
      intro p_ e_ s_ m_ ar_ bl_ me_ c_ ls X hl
      have hl : lz ls 4 [some (.ref u), some (.ref r1), some (.ref t), some (.ref r2)] := hl
      have hS : va_S (xA (fun _ => False) H0) H0 H0 [] := va_S.rf
      have hSu : S u := hU.2.2.2
      refine x_aload_n X d_U_open_0 rfl hl rfl ?_
      refine x_alen X hr1 d_U_open_1 ?_
      rw [hlen1]
      have k21 : ∀ locs, va_S (xA (fun _ => False) H0) H0 H0 locs → W p_ l e_ (x_rm (2 * sp.length + 4) (2 * sp.length + 4) (17 * sp.length + 34)) s_ m_ ar_ bl_ me_ c_ H0 locs 0 0 (MQ bl_ (xQ (xA (fun _ => False) H0) (qr (fun t H1 => cT D A S rh E (ft_op lr1 sp o lr2).1 (ft_op lr1 sp o lr2).2 t H1))) ar_ s_ (2 * sp.length + 4) (17 * sp.length + 34) (xA (fun _ => False) H0)) (F0 m_ 21 ls []) := by
        intro locs hS
        rw [hop]
        refine x_aload_n X d_U_open_21 rfl hl rfl ?_
        refine x_goR (x_runVN X (C_T_isEmpty l D A _ S rh E ne mm zf (k + 1) sp o t okt hT (by omega)) b_T_isEmpty s_T_isEmpty v_T_isEmpty e_U_37 tO.2 rfl rfl hl rfl (Nat.le_of_ble_eq_true rfl) d_U_open_22 (by dsimp only [x_rm]; omega) (by dsimp only [x_rm]; omega) ⟨(by dsimp only [x_rm]; omega), (by dsimp only [x_rm]; omega)⟩) hS (fun locs hS => ?_)
        rw [he, show (if true = true then 1 else 0) = 1 from rfl]
        refine n_if_eq X 43 d_U_open_25 rfl (by decide) (fun hc => absurd hc (by decide)) (fun hc => ?_)
        refine x_aload_n X d_U_open_28 rfl hl rfl ?_
        refine x_aload_n X d_U_open_29 rfl hl rfl ?_
        refine x_alen X hr1 d_U_open_30 ?_
        rw [hlen1]
        by_cases h0 : lr1.length = 0
        · rw [if_pos h0]
          refine n_if_ne X 38 d_U_open_31 rfl (by omega) (fun hc => absurd h0 hc) (fun hc => ?_)
          refine x_aload_n X d_U_open_34 rfl hl rfl ?_
          refine x_goto X 39 d_U_open_35 rfl ?_
          refine x_gor (x_runV X (C_U_line l D A _ S rh E ne mm zf u nn em md hU hSb k lr2 as2 r2 ok2 hr2 hL2 h92 hz2 (by omega)) b_U_line s_U_line v_U_line e_U_90 hU.1 rfl rfl hl rfl (Nat.le_of_ble_eq_true rfl) d_U_open_39 (by dsimp only [x_rm]; omega) (by dsimp only [x_rm]; omega) ⟨(by dsimp only [x_rm]; omega), (by dsimp only [x_rm]; omega)⟩) hS (xA.mono (fun _ h => h.elim) hS.1) (fun r G1 locs hR hF1 hS => ?_)
          have t_ : cTr S S H0 G1 := cTr.fr hF1 (fun _ h => h.elim)
          have hr1 := hr1.tr t_
          have hL1 := hL1.tr t_ (fun _ _ h => h)
          have hr2 := hr2.tr t_
          have hL2 := hL2.tr t_ (fun _ _ h => h)
          have hT := hT.tr t_ (fun _ _ h => h)
          have tO := tO.tr t_
          have hU := hU.mv t_ hF1 (xA.no (c_lt hU.1) (fun h => h)) hSu
          have hSb := c_sb hSb hF1.1
          exact x_aret X (Or.inl ⟨_, rfl⟩) hS (by omega) (by omega) d_U_open_42 ⟨_, rfl, hR⟩
        · rw [if_neg h0]
          refine n_if_ne X 38 d_U_open_31 rfl (by omega) (fun hc => ?_) (fun hc => absurd hc h0)
          refine x_aload_n X d_U_open_38 rfl hl rfl ?_
          refine x_gor (x_runV X (C_U_line l D A _ S rh E ne mm zf u nn em md hU hSb k lr1 as1 r1 ok1 hr1 hL1 h91 hz1 (by omega)) b_U_line s_U_line v_U_line e_U_90 hU.1 rfl rfl hl rfl (Nat.le_of_ble_eq_true rfl) d_U_open_39 (by dsimp only [x_rm]; omega) (by dsimp only [x_rm]; omega) ⟨(by dsimp only [x_rm]; omega), (by dsimp only [x_rm]; omega)⟩) hS (xA.mono (fun _ h => h.elim) hS.1) (fun r G1 locs hR hF1 hS => ?_)
          have t_ : cTr S S H0 G1 := cTr.fr hF1 (fun _ h => h.elim)
          have hr1 := hr1.tr t_
          have hL1 := hL1.tr t_ (fun _ _ h => h)
          have hr2 := hr2.tr t_
          have hL2 := hL2.tr t_ (fun _ _ h => h)
          have hT := hT.tr t_ (fun _ _ h => h)
          have tO := tO.tr t_
          have hU := hU.mv t_ hF1 (xA.no (c_lt hU.1) (fun h => h)) hSu
          have hSb := c_sb hSb hF1.1
          exact x_aret X (Or.inl ⟨_, rfl⟩) hS (by omega) (by omega) d_U_open_42 ⟨_, rfl, hR⟩
      by_cases hx0 : 0 < lr1.length
      · skip
        refine n_if_le X 21 d_U_open_2 rfl (by omega) (fun hc => absurd hc (by omega)) (fun hc => ?_)
        refine x_aload_n X d_U_open_5 rfl hl rfl ?_
        refine x_alen X hr2 d_U_open_6 ?_
        rw [hlen2]
        refine n_if_le X 21 d_U_open_7 rfl (by omega) (fun _ => k21 _ hS) (fun hc => absurd hc (by omega))
      · skip
        refine n_if_le X 21 d_U_open_2 rfl (by omega) (fun _ => k21 _ hS) (fun hc => absurd hc (by omega))
    | false =>
      by_cases h0 : lr1.length = 0
      · have hop : ft_op lr1 sp o lr2 = ((ft_ps (ft_fi sp o), lr2) :: (ft_re sp o).1, (ft_re sp o).2) := by unfold ft_op; rw [if_neg h1, he, if_neg (by decide), if_pos h0]
        have okf := ft_fi_ok okt he
        obtain ⟨p1, p2, p3, p4⟩ := ft_okR_ps okf
        have hzr := (ft_re_ok okt).2 he
        have hpos := ft_ok_zpos okf
        refine xC.of rfl (Nat.le_of_ble_eq_true rfl) ?_
        intro p_ e_ s_ m_ ar_ bl_ me_ c_ ls X hl
        have hl : lz ls 4 [some (.ref u), some (.ref r1), some (.ref t), some (.ref r2)] := hl
        have hS : va_S (xA (fun _ => False) H0) H0 H0 [] := va_S.rf
        have hSu : S u := hU.2.2.2
        refine x_aload_n X d_U_open_0 rfl hl rfl ?_
        refine x_alen X hr1 d_U_open_1 ?_
        rw [hlen1]
        have k21 : ∀ locs, va_S (xA (fun _ => False) H0) H0 H0 locs → W p_ l e_ (x_rm (2 * sp.length + 4) (2 * sp.length + 4) (17 * sp.length + 34)) s_ m_ ar_ bl_ me_ c_ H0 locs 0 0 (MQ bl_ (xQ (xA (fun _ => False) H0) (qr (fun t H1 => cT D A S rh E (ft_op lr1 sp o lr2).1 (ft_op lr1 sp o lr2).2 t H1))) ar_ s_ (2 * sp.length + 4) (17 * sp.length + 34) (xA (fun _ => False) H0)) (F0 m_ 21 ls []) := by
          intro locs hS
          rw [hop]
          refine x_aload_n X d_U_open_21 rfl hl rfl ?_
          refine x_goR (x_runVN X (C_T_isEmpty l D A _ S rh E ne mm zf (k + 1) sp o t okt hT (by omega)) b_T_isEmpty s_T_isEmpty v_T_isEmpty e_U_37 tO.2 rfl rfl hl rfl (Nat.le_of_ble_eq_true rfl) d_U_open_22 (by dsimp only [x_rm]; omega) (by dsimp only [x_rm]; omega) ⟨(by dsimp only [x_rm]; omega), (by dsimp only [x_rm]; omega)⟩) hS (fun locs hS => ?_)
          rw [he, show (if false = true then 1 else 0) = 0 from rfl]
          refine n_if_eq X 43 d_U_open_25 rfl (by decide) (fun hc => ?_) (fun hc => absurd rfl hc)
          refine x_aload_n X d_U_open_43 rfl hl rfl ?_
          refine x_alen X hr1 d_U_open_44 ?_
          rw [hlen1]
          refine n_if_ne X 69 d_U_open_45 rfl (by omega) (fun hc => absurd h0 hc) (fun hc => ?_)
          have zz := hS.1
          refine x_newO (S := S) X gT e_U_17 n_T i_T x_defT hS hSb (by dsimp only [x_rm]; omega) (by dsimp only [x_rm]; omega) d_U_open_48 (fun oo G1 h_oo hO hF1 t_oo hS sb_ => ?_)
          have no_oo : ¬ (S) oo := c_ub hSb h_oo
          have n_oo_u : ¬ oo = u := Nat.ne_of_gt (Nat.lt_of_lt_of_le (c_lt hU.1) h_oo)
          have n_u_oo : ¬ u = oo := Nat.ne_of_lt (Nat.lt_of_lt_of_le (c_lt hU.1) h_oo)
          have t_ : cTr S (fun q => S q ∨ q = oo) H0 G1 := t_oo
          have hr1 := hr1.tr t_
          have hL1 := hL1.tr t_ (fun _ _ h => h)
          have hr2 := hr2.tr t_
          have hL2 := hL2.tr t_ (fun _ _ h => h)
          have hT := hT.tr t_ (fun _ _ h => h)
          have tO := tO.tr t_
          have hU := hU.mv t_ hF1 (fun h => h) (by first | exact hSu | exact Or.inl hSu | exact Or.inl (Or.inl hSu))
          have hSb : ∀ q, (S q ∨ q = oo) → q < G1.size := sb_
          have z_oo : H0.size ≤ oo := Nat.le_trans zz h_oo
          refine x_dup X d_U_open_51 rfl ?_
          refine x_aload_n X d_U_open_52 rfl hl rfl ?_
          refine x_goRr (x_runVN X (C_T_first l D A _ (fun q => S q ∨ q = oo) rh E ne mm zf (k + 1) sp o t okt hT (by omega) he) b_T_first s_T_first v_T_first e_U_94 tO.2 rfl rfl hl rfl (Nat.le_of_ble_eq_true rfl) d_U_open_53 (by dsimp only [x_rm]; omega) (by dsimp only [x_rm]; omega) ⟨(by dsimp only [x_rm]; omega), (by dsimp only [x_rm]; omega)⟩) hS (fun fb locs hfb hS => ?_)
          obtain ⟨nu, lo, hi, fr_, fbs, c1, c2, c3, -⟩ := cI_has okf hfb
          refine x_getN X gI c1.2 3 (by decide) e_U_97 rfl d_U_open_56 ?_
          refine x_aload_n X d_U_open_59 rfl hl rfl ?_
          refine x_aload_n X d_U_open_60 rfl hl rfl ?_
          refine x_gor (x_runV X (C_U_rest_x l D A _ rh E ne mm zf u nn em md (fun q => S q ∨ q = oo) hU hSb (k + 1) sp o t okt hT (by omega) (fun j hj => ih j hj)) b_U_rest s_U_rest v_U_rest e_U_100 hU.1 rfl rfl hl rfl (Nat.le_of_ble_eq_true rfl) d_U_open_61 (by dsimp only [x_rm]; omega) (by dsimp only [x_rm]; omega) ⟨(by dsimp only [x_rm]; omega), (by dsimp only [x_rm]; omega)⟩) hS (xA.mono (fun _ h => h.elim) hS.1) (fun mt G2 locs hM hF2 hS => ?_)
          have t_ : cTr (fun q => S q ∨ q = oo) (fun q => S q ∨ q = oo) G1 G2 := cTr.fr hF2 (fun _ h => h.elim)
          have hO := hF2.kp hO (xA.no (c_lt hO) (fun h => h))
          have hr1 := hr1.tr t_
          have hL1 := hL1.tr t_ (fun _ _ h => h)
          have hr2 := hr2.tr t_
          have hL2 := hL2.tr t_ (fun _ _ h => h)
          have hT := hT.tr t_ (fun _ _ h => h)
          have tO := tO.tr t_
          have c2 := c2.tr t_
          have c3 := c3.tr t_ (fun _ _ h => h)
          have hU := hU.mv t_ hF2 (xA.no (c_lt hU.1) (fun h => h)) (by first | exact hSu | exact Or.inl hSu | exact Or.inl (Or.inl hSu))
          have hSb := c_sb hSb hF2.1
          refine x_aload_n X d_U_open_64 rfl hl rfl ?_
          refine x_go0 (x_runIN X (C_T_init_d l D A _ oo (va_P1 hO) (fun q => S q ∨ q = oo) rh E ne mm zf (Or.inr rfl) k (ft_ps (ft_fi sp o)) fbs fr_ p1 c2 c3 (by omega) (by omega) lr2 as2 r2 ok2 hr2 hL2 h92 hz2 (ft_re sp o).1 (ft_re sp o).2 mt hM) b_T_init rfl s_T_init e_U_19 rfl hl rfl (Nat.le_of_ble_eq_true rfl) d_U_open_65 (by dsimp only [x_rm]; omega) (by dsimp only [x_rm]; omega) ⟨(by dsimp only [x_rm]; omega), (by dsimp only [x_rm]; omega)⟩) hS (xA.one z_oo hS.1) (fun G3 locs hO_ hF3 hS => ?_)
          have t_ : cTr (fun q => S q ∨ q = oo) S G2 G3 := cTr.done hF3
          have hr1 := hr1.tr t_
          have hL1 := hL1.tr t_ (fun _ _ h => h)
          have hr2 := hr2.tr t_
          have hL2 := hL2.tr t_ (fun _ _ h => h)
          have hT := hT.tr t_ (fun _ _ h => h)
          have tO := tO.tr t_
          have c2 := c2.tr t_
          have c3 := c3.tr t_ (fun _ _ h => h)
          have hM := hM.tr t_ (fun _ _ h => h)
          have hU := hU.mv t_ hF3 (xA.no (c_lt hU.1) n_u_oo) hSu
          have hSb := c_sbo hSb hF3.1
          have hO := hO_
          exact x_aret X (Or.inl ⟨_, rfl⟩) hS (by omega) (by omega) d_U_open_68 ⟨_, rfl, cT.mk hO no_oo c2 hr2 c3 hL2 hM⟩
        by_cases hx0 : 0 < lr1.length
        · skip
          refine n_if_le X 21 d_U_open_2 rfl (by omega) (fun hc => absurd hc (by omega)) (fun hc => ?_)
          refine x_aload_n X d_U_open_5 rfl hl rfl ?_
          refine x_alen X hr2 d_U_open_6 ?_
          rw [hlen2]
          refine n_if_le X 21 d_U_open_7 rfl (by omega) (fun _ => k21 _ hS) (fun hc => absurd hc (by omega))
        · skip
          refine n_if_le X 21 d_U_open_2 rfl (by omega) (fun _ => k21 _ hS) (fun hc => absurd hc (by omega))
      · have hop : ft_op lr1 sp o lr2 = ((lr1, ft_ps (ft_la sp o)) :: (ft_le sp o).1, (ft_le sp o).2) := by unfold ft_op; rw [if_neg h1, he, if_neg (by decide), if_neg h0]
        have okf := ft_la_ok okt he
        obtain ⟨p1, p2, p3, p4⟩ := ft_okR_ps okf
        have hzr := (ft_le_ok okt).2 he
        have hpos := ft_ok_zpos okf
        refine xC.of rfl (Nat.le_of_ble_eq_true rfl) ?_
        intro p_ e_ s_ m_ ar_ bl_ me_ c_ ls X hl
        have hl : lz ls 4 [some (.ref u), some (.ref r1), some (.ref t), some (.ref r2)] := hl
        have hS : va_S (xA (fun _ => False) H0) H0 H0 [] := va_S.rf
        have hSu : S u := hU.2.2.2
        refine x_aload_n X d_U_open_0 rfl hl rfl ?_
        refine x_alen X hr1 d_U_open_1 ?_
        rw [hlen1]
        have k21 : ∀ locs, va_S (xA (fun _ => False) H0) H0 H0 locs → W p_ l e_ (x_rm (2 * sp.length + 4) (2 * sp.length + 4) (17 * sp.length + 34)) s_ m_ ar_ bl_ me_ c_ H0 locs 0 0 (MQ bl_ (xQ (xA (fun _ => False) H0) (qr (fun t H1 => cT D A S rh E (ft_op lr1 sp o lr2).1 (ft_op lr1 sp o lr2).2 t H1))) ar_ s_ (2 * sp.length + 4) (17 * sp.length + 34) (xA (fun _ => False) H0)) (F0 m_ 21 ls []) := by
          intro locs hS
          rw [hop]
          refine x_aload_n X d_U_open_21 rfl hl rfl ?_
          refine x_goR (x_runVN X (C_T_isEmpty l D A _ S rh E ne mm zf (k + 1) sp o t okt hT (by omega)) b_T_isEmpty s_T_isEmpty v_T_isEmpty e_U_37 tO.2 rfl rfl hl rfl (Nat.le_of_ble_eq_true rfl) d_U_open_22 (by dsimp only [x_rm]; omega) (by dsimp only [x_rm]; omega) ⟨(by dsimp only [x_rm]; omega), (by dsimp only [x_rm]; omega)⟩) hS (fun locs hS => ?_)
          rw [he, show (if false = true then 1 else 0) = 0 from rfl]
          refine n_if_eq X 43 d_U_open_25 rfl (by decide) (fun hc => ?_) (fun hc => absurd rfl hc)
          refine x_aload_n X d_U_open_43 rfl hl rfl ?_
          refine x_alen X hr1 d_U_open_44 ?_
          rw [hlen1]
          refine n_if_ne X 69 d_U_open_45 rfl (by omega) (fun hc => ?_) (fun hc => absurd hc h0)
          have zz := hS.1
          refine x_newO (S := S) X gT e_U_17 n_T i_T x_defT hS hSb (by dsimp only [x_rm]; omega) (by dsimp only [x_rm]; omega) d_U_open_69 (fun oo G1 h_oo hO hF1 t_oo hS sb_ => ?_)
          have no_oo : ¬ (S) oo := c_ub hSb h_oo
          have n_oo_u : ¬ oo = u := Nat.ne_of_gt (Nat.lt_of_lt_of_le (c_lt hU.1) h_oo)
          have n_u_oo : ¬ u = oo := Nat.ne_of_lt (Nat.lt_of_lt_of_le (c_lt hU.1) h_oo)
          have t_ : cTr S (fun q => S q ∨ q = oo) H0 G1 := t_oo
          have hr1 := hr1.tr t_
          have hL1 := hL1.tr t_ (fun _ _ h => h)
          have hr2 := hr2.tr t_
          have hL2 := hL2.tr t_ (fun _ _ h => h)
          have hT := hT.tr t_ (fun _ _ h => h)
          have tO := tO.tr t_
          have hU := hU.mv t_ hF1 (fun h => h) (by first | exact hSu | exact Or.inl hSu | exact Or.inl (Or.inl hSu))
          have hSb : ∀ q, (S q ∨ q = oo) → q < G1.size := sb_
          have z_oo : H0.size ≤ oo := Nat.le_trans zz h_oo
          refine x_dup X d_U_open_72 rfl ?_
          refine x_aload_n X d_U_open_73 rfl hl rfl ?_
          refine x_aload_n X d_U_open_74 rfl hl rfl ?_
          refine x_aload_n X d_U_open_75 rfl hl rfl ?_
          refine x_gor (x_runV X (C_U_lead_x l D A _ rh E ne mm zf u nn em md (fun q => S q ∨ q = oo) hU hSb (k + 1) sp o t okt hT (by omega) (fun j hj => ih j hj)) b_U_lead s_U_lead v_U_lead e_U_104 hU.1 rfl rfl hl rfl (Nat.le_of_ble_eq_true rfl) d_U_open_76 (by dsimp only [x_rm]; omega) (by dsimp only [x_rm]; omega) ⟨(by dsimp only [x_rm]; omega), (by dsimp only [x_rm]; omega)⟩) hS (xA.mono (fun _ h => h.elim) hS.1) (fun mt G2 locs hM hF2 hS => ?_)
          have t_ : cTr (fun q => S q ∨ q = oo) (fun q => S q ∨ q = oo) G1 G2 := cTr.fr hF2 (fun _ h => h.elim)
          have hO := hF2.kp hO (xA.no (c_lt hO) (fun h => h))
          have hr1 := hr1.tr t_
          have hL1 := hL1.tr t_ (fun _ _ h => h)
          have hr2 := hr2.tr t_
          have hL2 := hL2.tr t_ (fun _ _ h => h)
          have hT := hT.tr t_ (fun _ _ h => h)
          have tO := tO.tr t_
          have hU := hU.mv t_ hF2 (xA.no (c_lt hU.1) (fun h => h)) (by first | exact hSu | exact Or.inl hSu | exact Or.inl (Or.inl hSu))
          have hSb := c_sb hSb hF2.1
          refine x_aload_n X d_U_open_79 rfl hl rfl ?_
          refine x_goRr (x_runVN X (C_T_last l D A _ (fun q => S q ∨ q = oo) rh E ne mm zf (k + 1) sp o t okt hT (by omega) he) b_T_last s_T_last v_T_last e_U_82 tO.2 rfl rfl hl rfl (Nat.le_of_ble_eq_true rfl) d_U_open_80 (by dsimp only [x_rm]; omega) (by dsimp only [x_rm]; omega) ⟨(by dsimp only [x_rm]; omega), (by dsimp only [x_rm]; omega)⟩) hS (fun fb locs hfb hS => ?_)
          obtain ⟨nu, lo, hi, fr_, fbs, c1, c2, c3, -⟩ := cI_has okf hfb
          refine x_getN X gI c1.2 3 (by decide) e_U_97 rfl d_U_open_83 ?_
          refine x_go0 (x_runIN X (C_T_init_d l D A _ oo (va_P1 hO) (fun q => S q ∨ q = oo) rh E ne mm zf (Or.inr rfl) k lr1 as1 r1 ok1 hr1 hL1 h91 hz1 (ft_ps (ft_la sp o)) fbs fr_ p1 c2 c3 (by omega) (by omega) (ft_le sp o).1 (ft_le sp o).2 mt hM) b_T_init rfl s_T_init e_U_19 rfl hl rfl (Nat.le_of_ble_eq_true rfl) d_U_open_86 (by dsimp only [x_rm]; omega) (by dsimp only [x_rm]; omega) ⟨(by dsimp only [x_rm]; omega), (by dsimp only [x_rm]; omega)⟩) hS (xA.one z_oo hS.1) (fun G3 locs hO_ hF3 hS => ?_)
          have t_ : cTr (fun q => S q ∨ q = oo) S G2 G3 := cTr.done hF3
          have hr1 := hr1.tr t_
          have hL1 := hL1.tr t_ (fun _ _ h => h)
          have hr2 := hr2.tr t_
          have hL2 := hL2.tr t_ (fun _ _ h => h)
          have hT := hT.tr t_ (fun _ _ h => h)
          have tO := tO.tr t_
          have hM := hM.tr t_ (fun _ _ h => h)
          have c2 := c2.tr t_
          have c3 := c3.tr t_ (fun _ _ h => h)
          have hU := hU.mv t_ hF3 (xA.no (c_lt hU.1) n_u_oo) hSu
          have hSb := c_sbo hSb hF3.1
          have hO := hO_
          exact x_aret X (Or.inl ⟨_, rfl⟩) hS (by omega) (by omega) d_U_open_89 ⟨_, rfl, cT.mk hO no_oo hr1 c2 hL1 c3 hM⟩
        by_cases hx0 : 0 < lr1.length
        · skip
          refine n_if_le X 21 d_U_open_2 rfl (by omega) (fun hc => absurd hc (by omega)) (fun hc => ?_)
          refine x_aload_n X d_U_open_5 rfl hl rfl ?_
          refine x_alen X hr2 d_U_open_6 ?_
          rw [hlen2]
          refine n_if_le X 21 d_U_open_7 rfl (by omega) (fun _ => k21 _ hS) (fun hc => absurd hc (by omega))
        · skip
          refine n_if_le X 21 d_U_open_2 rfl (by omega) (fun _ => k21 _ hS) (fun hc => absurd hc (by omega))
theorem C_U_open (l : Launch) (D : va_G) (A : Nat → ClassId) (H0 : Heap) (rh : Nat → Nat) (E : ft_E) (ne mm : Nat) (zf : Nat → Nat) (u nn em md : Nat) (S : Nat → Prop) (hU : cUs D A S rh E u nn em md H0) (hSb : ∀ q, S q → q < H0.size) (k : Nat) (lr1 : List ft_I) (as1 : List Nat) (r1 : Nat) (ok1 : ft_okR ne mm zf k lr1) (hr1 : cRw D A S as1 r1 H0) (hL1 : cL D A S rh E lr1 as1 H0) (h91 : lr1.length < 64) (hz1 : ft_zR lr1 < 4096) (lr2 : List ft_I) (as2 : List Nat) (r2 : Nat) (ok2 : ft_okR ne mm zf k lr2) (hr2 : cRw D A S as2 r2 H0) (hL2 : cL D A S rh E lr2 as2 H0) (h92 : lr2.length < 64) (hz2 : ft_zR lr2 < 4096) (sp : ft_S) (o : Option ft_I) (t : Nat) (okt : ft_okT ne mm zf (k + 1) sp o) (hT : cT D A S rh E sp o t H0) (h4 : lr1.length ≤ 4) (h42 : lr2.length ≤ 4) (hz : ft_zR lr1 + ft_zT sp o + ft_zR lr2 < 64) : xC l y_U_open c_U_open 4 (some (.object "FingerSpans$Tree")) (2 * sp.length + 4) D A H0 [.ref u, .ref r1, .ref t, .ref r2] (xA (fun _ => False) H0) (qr (fun t H1 => cT D A S rh E (ft_op lr1 sp o lr2).1 (ft_op lr1 sp o lr2).2 t H1)) (2 * sp.length + 4) (17 * sp.length + 34) := C_U_open_n l D A rh E ne mm zf u nn em md sp.length H0 S hU hSb k lr1 as1 r1 ok1 hr1 hL1 h91 hz1 lr2 as2 r2 ok2 hr2 hL2 h92 hz2 sp o t okt hT h4 h42 hz rfl
theorem C_U_rest (l : Launch) (D : va_G) (A : Nat → ClassId) (H0 : Heap) (rh : Nat → Nat) (E : ft_E) (ne mm : Nat) (zf : Nat → Nat) (u nn em md : Nat) (S : Nat → Prop) (hU : cUs D A S rh E u nn em md H0) (hSb : ∀ q, S q → q < H0.size) (k : Nat) (sp : ft_S) (o : Option ft_I) (t : Nat) (okt : ft_okT ne mm zf k sp o) (hT : cT D A S rh E sp o t H0) (hz : ft_zT sp o < 64) : xC l y_U_rest c_U_rest 2 (some (.object "FingerSpans$Tree")) (2 * sp.length + 3) D A H0 [.ref u, .ref t] (xA (fun _ => False) H0) (qr (fun t H1 => cT D A S rh E (ft_re sp o).1 (ft_re sp o).2 t H1)) (2 * sp.length + 3) (17 * sp.length + 29) := C_U_rest_x l D A H0 rh E ne mm zf u nn em md S hU hSb k sp o t okt hT hz (fun j _ => C_U_open_n l D A rh E ne mm zf u nn em md j)
theorem C_U_lead (l : Launch) (D : va_G) (A : Nat → ClassId) (H0 : Heap) (rh : Nat → Nat) (E : ft_E) (ne mm : Nat) (zf : Nat → Nat) (u nn em md : Nat) (S : Nat → Prop) (hU : cUs D A S rh E u nn em md H0) (hSb : ∀ q, S q → q < H0.size) (k : Nat) (sp : ft_S) (o : Option ft_I) (t : Nat) (okt : ft_okT ne mm zf k sp o) (hT : cT D A S rh E sp o t H0) (hz : ft_zT sp o < 64) : xC l y_U_lead c_U_lead 2 (some (.object "FingerSpans$Tree")) (2 * sp.length + 3) D A H0 [.ref u, .ref t] (xA (fun _ => False) H0) (qr (fun t H1 => cT D A S rh E (ft_le sp o).1 (ft_le sp o).2 t H1)) (2 * sp.length + 3) (17 * sp.length + 29) := C_U_lead_x l D A H0 rh E ne mm zf u nn em md S hU hSb k sp o t okt hT hz (fun j _ => C_U_open_n l D A rh E ne mm zf u nn em md j)
