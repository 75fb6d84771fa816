/-! The class: cut, halves. -/
/-- what a cut gives, what halves give -/
def cCu (D : va_G) (A : Nat → ClassId) (S : Nat → Prop) (rh : Nat → Nat) (E : ft_E) (c : ft_T × ft_I × ft_T) (q : Nat) (H : Heap) : Prop := ∃ (b x a : Nat), cAt D S (q, .inr (6, [.ref b, .ref x, .ref a])) H ∧ cT D A S rh E c.1.1 c.1.2 b H ∧ cI D A S rh E c.2.1 [x] H ∧ cT D A S rh E c.2.2.1 c.2.2.2 a H
def cHv (D : va_G) (A : Nat → ClassId) (S : Nat → Prop) (rh : Nat → Nat) (E : ft_E) (h1 h2 : ft_T) (q : Nat) (H : Heap) : Prop := ∃ (b a : Nat), cAt D S (q, .inr (5, [.ref b, .ref a])) H ∧ cT D A S rh E h1.1 h1.2 b H ∧ cT D A S rh E h2.1 h2.2 a H
theorem x_defC : ∀ j, j < 3 → defaultValue (ty_C j) = vp_V [.null, .null, .null] j
  | 0, _ | 1, _ | 2, _ => rfl
theorem x_defH : ∀ j, j < 2 → defaultValue (ty_H j) = vp_V [.null, .null] j
  | 0, _ | 1, _ => rfl
set_option maxRecDepth 100000 in
set_option maxHeartbeats 4000000 in
theorem C_U_cut (l : Launch) (D : va_G) (A : Nat → ClassId) (H0 : Heap) (S : Nat → Prop) (rh : Nat → Nat) (E : ft_E) (ne mm : Nat) (zf : Nat → Nat) (u nn em md : Nat) (hU : cUs D A S rh E u nn em md H0) (hSb : ∀ q, S q → q < H0.size) (k : Nat) (sp : ft_S) (o : Option ft_I) (t : Nat) (okt : ft_okT ne mm zf k sp o) (hT : cT D A S rh E sp o t H0) (hz : ft_zT sp o < 64) (p : Nat) (hp : p < ft_zT sp o) : xC l y_U_cut c_U_cut 9 (some (.object "FingerSpans$Cut")) (sp.length + 16) D A H0 [.ref u, .ref t, .int (nI p)] (xA (fun _ => False) H0) (qr (fun q H1 => cCu D A S rh E (ft_cu sp o p) q H1)) (40 * sp.length + 40) (320 * sp.length + 320) := by
  induction sp generalizing H0 k t p with
  | nil =>
    have hT0 := hT
    obtain ⟨lc, rc, as, t1, -⟩ := hT
    have he : ft_em [] o = false := by
      cases o with
      | none => exact absurd hp (Nat.not_lt_zero _)
      | some x => rfl
    refine xC.of rfl (Nat.le_of_ble_eq_true rfl) ?_
    intro p_ e_ s_ m_ ar_ bl_ me_ c_ ls X hl
    have hl : lz ls 9 [some (.ref u), some (.ref t), some (.int (nI p)), none, none, none, none, none, none] := hl
    have hS : va_S (xA (fun _ => False) H0) H0 H0 [] := va_S.rf
    have hSu : S u := hU.2.2.2
    refine x_aload_n X d_U_cut_0 rfl hl rfl ?_
    refine x_goR (x_runVN X (C_T_isDeep l D A _ S rh E ne mm zf k [] o t okt hT0 hz) b_T_isDeep s_T_isDeep v_T_isDeep e_U_45 t1.2 rfl rfl hl rfl (Nat.le_of_ble_eq_true rfl) d_U_cut_1 (by dsimp only [x_rm]; omega) (by dsimp only [x_rm]; omega) ⟨(by dsimp only [x_rm]; omega), (by dsimp only [x_rm]; omega)⟩) hS (fun locs hS => ?_)
    rw [show ft_de [] = 0 from rfl]
    refine n_if_ne X 27 d_U_cut_4 rfl (by decide) (fun hc => absurd rfl hc) (fun hc => ?_)
    have zz := hS.1
    refine x_newO (S := S) X gC e_U_127 n_C i_C x_defC hS hSb (by dsimp only [x_rm]; omega) (by dsimp only [x_rm]; omega) d_U_cut_7 (fun oo G1 h_oo hO hF1 t_oo hS sb_ => ?_)
    have no_oo : ¬ (S) oo := c_ub hSb h_oo
    have n_oo_u : ¬ oo = u := Nat.ne_of_gt (Nat.lt_of_lt_of_le (c_lt hU.1) h_oo)
    have n_u_oo : ¬ u = oo := Nat.ne_of_lt (Nat.lt_of_lt_of_le (c_lt hU.1) h_oo)
    have t_ : cTr S (fun q => S q ∨ q = oo) H0 G1 := t_oo
    have hT0 := hT0.tr t_ (fun _ _ h => h)
    have t1 := t1.tr t_
    have hU := hU.mv t_ hF1 (fun h => h) (by first | exact hSu | exact Or.inl hSu | exact Or.inl (Or.inl hSu))
    have hSb : ∀ q, (S q ∨ q = oo) → q < G1.size := sb_
    have z_oo : H0.size ≤ oo := Nat.le_trans zz h_oo
    refine x_dup X d_U_cut_10 rfl ?_
    refine x_aload_n X d_U_cut_11 rfl hl rfl ?_
    refine x_get X gU hU.1 1 (by decide) e_U_22 rfl d_U_cut_12 ?_
    refine x_aload_n X d_U_cut_15 rfl hl rfl ?_
    refine x_goRr (x_runVN X (C_T_first l D A _ (fun q => S q ∨ q = oo) rh E ne mm zf k [] o t okt hT0 hz he) b_T_first s_T_first v_T_first e_U_94 t1.2 rfl rfl hl rfl (Nat.le_of_ble_eq_true rfl) d_U_cut_16 (by dsimp only [x_rm]; omega) (by dsimp only [x_rm]; omega) ⟨(by dsimp only [x_rm]; omega), (by dsimp only [x_rm]; omega)⟩) hS (fun fb locs hfb hS => ?_)
    refine x_aload_n X d_U_cut_19 rfl hl rfl ?_
    refine x_get X gU hU.1 1 (by decide) e_U_22 rfl d_U_cut_20 ?_
    refine x_go0 (x_runIN X (C_C_init l D A _ oo (va_P1 hO) em fb em) b_C_init rfl s_C_init e_U_129 rfl hl rfl (Nat.le_of_ble_eq_true rfl) d_U_cut_23 (by dsimp only [x_rm]; omega) (by dsimp only [x_rm]; omega) ⟨(by dsimp only [x_rm]; omega), (by dsimp only [x_rm]; omega)⟩) hS (xA.one z_oo hS.1) (fun G2 locs hO_ hF2 hS => ?_)
    have t_ : cTr (fun q => S q ∨ q = oo) S G1 G2 := cTr.done hF2
    have hT0 := hT0.tr t_ (fun _ _ h => h)
    have t1 := t1.tr t_
    have hfb := hfb.tr t_ (fun _ _ h => h)
    have hU := hU.mv t_ hF2 (xA.no (c_lt hU.1) n_u_oo) hSu
    have hSb := c_sbo hSb hF2.1
    have hO := hO_
    exact x_aret X (Or.inl ⟨_, rfl⟩) hS (by omega) (by omega) d_U_cut_26 ⟨_, rfl, em, fb, em, ⟨no_oo, hO⟩, hU.2.2.1, hfb, hU.2.2.1⟩
  | cons d sp ih =>
    have ok0 := okt
    have hT0 := hT
    obtain ⟨lc, mt, rc, as, bs, t1, t2, t3, t4, tb, tm⟩ := hT
    obtain ⟨o1, o2, o3⟩ := okt
    have hzz : ft_zT (d :: sp) o = ft_zR d.1 + ft_zT sp o + ft_zR d.2 := rfl
    have hlen := cL_len tb
    have hlen1 := cL_len t4
    have h5 := ft_len5 o3 (by omega)
    have hle : (d :: sp).length = sp.length + 1 := rfl
    rw [hle]
    by_cases hA : ft_zR d.1 + ft_zT sp o ≤ p
    · have hlt := ft_ix_lt (l := d.2) (p - (ft_zR d.1 + ft_zT sp o)) (by omega)
      have hC := C_R_indexOf l D A H0 S rh E ne mm zf k d.2 bs rc o2.2.2 t3 tb (by omega) (by omega) (by omega) (p - (ft_zR d.1 + ft_zT sp o)) (by omega)
      have hcu : ft_cu (d :: sp) o p = (ft_op d.1 sp o (d.2.take (ft_ix d.2 (p - (ft_zR d.1 + ft_zT sp o)))), d.2.getD (ft_ix d.2 (p - (ft_zR d.1 + ft_zT sp o))) ft_no, ft_ln (d.2.drop (ft_ix d.2 (p - (ft_zR d.1 + ft_zT sp o)) + 1))) := by
        show (if _ then _ else _) = _
        rw [if_pos hA]
      rw [hcu]
      generalize ft_ix d.2 (p - (ft_zR d.1 + ft_zT sp o)) = ix at hlt hC
      obtain ⟨b, hb, okb, hbx⟩ := cL_at o2.2.2 tb (i := ix) hlt
      have hd1 := ft_zR_td d.2 ix
      have hd2 := ft_zR_td d.2 (ix + 1)
      refine xC.of rfl (Nat.le_of_ble_eq_true rfl) ?_
      intro p_ e_ s_ m_ ar_ bl_ me_ c_ ls X hl
      have hl : lz ls 9 [some (.ref u), some (.ref t), some (.int (nI p)), none, none, none, none, none, none] := hl
      have hS : va_S (xA (fun _ => False) H0) H0 H0 [] := va_S.rf
      have hSu : S u := hU.2.2.2
      refine x_aload_n X d_U_cut_0 rfl hl rfl ?_
      refine x_goR (x_runVN X (C_T_isDeep l D A _ S rh E ne mm zf k (d :: sp) o t ok0 hT0 hz) b_T_isDeep s_T_isDeep v_T_isDeep e_U_45 t1.2 rfl rfl hl rfl (Nat.le_of_ble_eq_true rfl) d_U_cut_1 (by dsimp only [x_rm]; omega) (by dsimp only [x_rm]; omega) ⟨(by dsimp only [x_rm]; omega), (by dsimp only [x_rm]; omega)⟩) hS (fun locs hS => ?_)
      rw [show ft_de (d :: sp) = 1 from rfl]
      refine n_if_ne X 27 d_U_cut_4 rfl (by decide) (fun hc => ?_) (fun hc => absurd hc (by decide))
      refine x_iload_n X d_U_cut_27 rfl hl rfl ?_
      refine x_aload_n X d_U_cut_28 rfl hl rfl ?_
      refine x_getN X gT t1.2 3 (by decide) e_U_132 rfl d_U_cut_29 ?_
      refine n_icmp_lt X 99 d_U_cut_32 rfl (by omega) (by omega) (fun hc => absurd hc (by omega)) (fun hc => ?_)
      refine x_aload_n X d_U_cut_35 rfl hl rfl ?_
      refine x_getN X gT t1.2 2 (by decide) e_U_60 rfl d_U_cut_36 ?_
      refine x_iload_n X d_U_cut_39 rfl hl rfl ?_
      refine x_aload_n X d_U_cut_40 rfl hl rfl ?_
      refine x_getN X gT t1.2 3 (by decide) e_U_132 rfl d_U_cut_41 ?_
      refine n_isub X d_U_cut_44 (by omega) ?_
      refine x_goR (x_runSN X (hC) b_R_indexOf s_R_indexOf e_U_135 rfl hl rfl (Nat.le_of_ble_eq_true rfl) d_U_cut_45 (by dsimp only [x_rm]; omega) (by dsimp only [x_rm]; omega) ⟨(by dsimp only [x_rm]; omega), (by dsimp only [x_rm]; omega)⟩) hS (fun locs hS => ?_)
      refine x_istore_n X d_U_cut_48 rfl hl (by decide) rfl (fun ls hl => ?_)
      refine x_aload_n X d_U_cut_49 rfl hl rfl ?_
      refine x_aload_n X d_U_cut_50 rfl hl rfl ?_
      refine x_getN X gT t1.2 0 (by decide) e_U_48 rfl d_U_cut_51 ?_
      refine x_aload_n X d_U_cut_54 rfl hl rfl ?_
      refine x_getN X gT t1.2 1 (by decide) e_U_57 rfl d_U_cut_55 ?_
      refine x_aload_n X d_U_cut_58 rfl hl rfl ?_
      refine x_getN X gT t1.2 2 (by decide) e_U_60 rfl d_U_cut_59 ?_
      refine x_iload_n X d_U_cut_62 rfl hl rfl ?_
      refine x_gor (x_runSN X (C_R_before l D A _ S rh E ne mm zf k d.2 bs rc o2.2.2 t3 tb (by omega) (by omega) ix (by omega) (by omega)) b_R_before s_R_before e_U_75 rfl hl rfl (Nat.le_of_ble_eq_true rfl) d_U_cut_63 (by dsimp only [x_rm]; omega) (by dsimp only [x_rm]; omega) ⟨(by dsimp only [x_rm]; omega), (by dsimp only [x_rm]; omega)⟩) hS (xA.mono (fun _ h => h.elim) hS.1) (fun q1 G1 locs hR_ hF1 hS => ?_)
      have hq1 := hR_.rw hSb
      have t_ : cTr S S H0 G1 := cTr.fr hF1 (fun _ h => h.elim)
      have t1 := t1.tr t_
      have t2 := t2.tr t_
      have t3 := t3.tr t_
      have t4 := t4.tr t_ (fun _ _ h => h)
      have tb := tb.tr t_ (fun _ _ h => h)
      have tm := tm.tr t_ (fun _ _ h => h)
      have hT0 := hT0.tr t_ (fun _ _ h => h)
      have hbx := hbx.tr t_ (fun _ _ h => h)
      have hU := hU.mv t_ hF1 (xA.no (c_lt hU.1) (fun h => h)) hSu
      have hSb := c_sb hSb hF1.1
      refine x_gor (x_runV X (C_U_open l D A _ rh E ne mm zf u nn em md S hU hSb k d.1 as lc o1.2.2 t2 t4 (by omega) (by omega) (d.2.take ix) (bs.take ix) q1 (ft_okR_take o2.2.2 _) hq1 (cL_take _ tb) (by rw [List.length_take]; omega) (by omega) sp o mt o3 tm (by omega) (by rw [List.length_take]; omega) (by omega)) b_U_open s_U_open v_U_open e_U_107 hU.1 rfl rfl hl rfl (Nat.le_of_ble_eq_true rfl) d_U_cut_66 (by dsimp only [x_rm]; omega) (by dsimp only [x_rm]; omega) ⟨(by dsimp only [x_rm]; omega), (by dsimp only [x_rm]; omega)⟩) hS (xA.mono (fun _ h => h.elim) hS.1) (fun bt G2 locs hB hF2 hS => ?_)
      have t_ : cTr S S G1 G2 := cTr.fr hF2 (fun _ h => h.elim)
      have t1 := t1.tr t_
      have t2 := t2.tr t_
      have t3 := t3.tr t_
      have t4 := t4.tr t_ (fun _ _ h => h)
      have tb := tb.tr t_ (fun _ _ h => h)
      have tm := tm.tr t_ (fun _ _ h => h)
      have hT0 := hT0.tr t_ (fun _ _ h => h)
      have hbx := hbx.tr t_ (fun _ _ h => h)
      have hq1 := hq1.tr t_
      have hU := hU.mv t_ hF2 (xA.no (c_lt hU.1) (fun h => h)) hSu
      have hSb := c_sb hSb hF2.1
      refine x_astore X d_U_cut_69 hl (by decide) rfl (fun ls hl => ?_)
      have zz := hS.1
      refine x_newO (S := S) X gC e_U_127 n_C i_C x_defC hS hSb (by dsimp only [x_rm]; omega) (by dsimp only [x_rm]; omega) d_U_cut_71 (fun oo G3 h_oo hO hF3 t_oo hS sb_ => ?_)
      have no_oo : ¬ (S) oo := c_ub hSb h_oo
      have n_oo_u : ¬ oo = u := Nat.ne_of_gt (Nat.lt_of_lt_of_le (c_lt hU.1) h_oo)
      have n_u_oo : ¬ u = oo := Nat.ne_of_lt (Nat.lt_of_lt_of_le (c_lt hU.1) h_oo)
      have t_ : cTr S (fun q => S q ∨ q = oo) G2 G3 := t_oo
      have t1 := t1.tr t_
      have t2 := t2.tr t_
      have t3 := t3.tr t_
      have t4 := t4.tr t_ (fun _ _ h => h)
      have tb := tb.tr t_ (fun _ _ h => h)
      have tm := tm.tr t_ (fun _ _ h => h)
      have hT0 := hT0.tr t_ (fun _ _ h => h)
      have hbx := hbx.tr t_ (fun _ _ h => h)
      have hB := hB.tr t_ (fun _ _ h => h)
      have hU := hU.mv t_ hF3 (fun h => h) (by first | exact hSu | exact Or.inl hSu | exact Or.inl (Or.inl hSu))
      have hSb : ∀ q, (S q ∨ q = oo) → q < G3.size := sb_
      have z_oo : H0.size ≤ oo := Nat.le_trans zz h_oo
      refine x_dup X d_U_cut_74 rfl ?_
      refine x_aload X d_U_cut_75 hl rfl ?_
      refine x_aload_n X d_U_cut_77 rfl hl rfl ?_
      refine x_getN X gT t1.2 2 (by decide) e_U_60 rfl d_U_cut_78 ?_
      refine x_iload_n X d_U_cut_81 rfl hl rfl ?_
      refine x_aald X t3 hb (by omega) d_U_cut_82 ?_
      refine x_aload_n X d_U_cut_83 rfl hl rfl ?_
      refine x_aload_n X d_U_cut_84 rfl hl rfl ?_
      refine x_getN X gT t1.2 2 (by decide) e_U_60 rfl d_U_cut_85 ?_
      refine x_iload_n X d_U_cut_88 rfl hl rfl ?_
      refine x_gor (x_runSN X (C_R_after l D A _ (fun q => S q ∨ q = oo) rh E ne mm zf k d.2 bs rc o2.2.2 t3 tb (by omega) (by omega) ix (by omega) (by omega)) b_R_after s_R_after e_U_63 rfl hl rfl (Nat.le_of_ble_eq_true rfl) d_U_cut_89 (by dsimp only [x_rm]; omega) (by dsimp only [x_rm]; omega) ⟨(by dsimp only [x_rm]; omega), (by dsimp only [x_rm]; omega)⟩) hS (xA.mono (fun _ h => h.elim) hS.1) (fun q2 G4 locs hR_ hF4 hS => ?_)
      have hq2 := hR_.rw hSb
      have t_ : cTr (fun q => S q ∨ q = oo) (fun q => S q ∨ q = oo) G3 G4 := cTr.fr hF4 (fun _ h => h.elim)
      have hO := hF4.kp hO (xA.no (c_lt hO) (fun h => h))
      have t1 := t1.tr t_
      have t2 := t2.tr t_
      have t3 := t3.tr t_
      have t4 := t4.tr t_ (fun _ _ h => h)
      have tb := tb.tr t_ (fun _ _ h => h)
      have tm := tm.tr t_ (fun _ _ h => h)
      have hT0 := hT0.tr t_ (fun _ _ h => h)
      have hbx := hbx.tr t_ (fun _ _ h => h)
      have hB := hB.tr t_ (fun _ _ h => h)
      have hU := hU.mv t_ hF4 (xA.no (c_lt hU.1) (fun h => h)) (by first | exact hSu | exact Or.inl hSu | exact Or.inl (Or.inl hSu))
      have hSb := c_sb hSb hF4.1
      refine x_gor (x_runV X (C_U_line l D A _ (fun q => S q ∨ q = oo) rh E ne mm zf u nn em md hU hSb k (d.2.drop (ix + 1)) (bs.drop (ix + 1)) q2 (ft_okR_drop o2.2.2 _) hq2 (cL_drop _ tb) (by rw [List.length_drop]; omega) (by omega) (by rw [List.length_drop]; omega)) b_U_line s_U_line v_U_line e_U_90 hU.1 rfl rfl hl rfl (Nat.le_of_ble_eq_true rfl) d_U_cut_92 (by dsimp only [x_rm]; omega) (by dsimp only [x_rm]; omega) ⟨(by dsimp only [x_rm]; omega), (by dsimp only [x_rm]; omega)⟩) hS (xA.mono (fun _ h => h.elim) hS.1) (fun at_ G5 locs hAt hF5 hS => ?_)
      have t_ : cTr (fun q => S q ∨ q = oo) (fun q => S q ∨ q = oo) G4 G5 := cTr.fr hF5 (fun _ h => h.elim)
      have hO := hF5.kp hO (xA.no (c_lt hO) (fun h => h))
      have t1 := t1.tr t_
      have t2 := t2.tr t_
      have t3 := t3.tr t_
      have t4 := t4.tr t_ (fun _ _ h => h)
      have tb := tb.tr t_ (fun _ _ h => h)
      have tm := tm.tr t_ (fun _ _ h => h)
      have hT0 := hT0.tr t_ (fun _ _ h => h)
      have hbx := hbx.tr t_ (fun _ _ h => h)
      have hB := hB.tr t_ (fun _ _ h => h)
      have hq2 := hq2.tr t_
      have hU := hU.mv t_ hF5 (xA.no (c_lt hU.1) (fun h => h)) (by first | exact hSu | exact Or.inl hSu | exact Or.inl (Or.inl hSu))
      have hSb := c_sb hSb hF5.1
      refine x_go0 (x_runIN X (C_C_init l D A _ oo (va_P1 hO) bt b at_) b_C_init rfl s_C_init e_U_129 rfl hl rfl (Nat.le_of_ble_eq_true rfl) d_U_cut_95 (by dsimp only [x_rm]; omega) (by dsimp only [x_rm]; omega) ⟨(by dsimp only [x_rm]; omega), (by dsimp only [x_rm]; omega)⟩) hS (xA.one z_oo hS.1) (fun G6 locs hO_ hF6 hS => ?_)
      have t_ : cTr (fun q => S q ∨ q = oo) S G5 G6 := cTr.done hF6
      have t1 := t1.tr t_
      have t2 := t2.tr t_
      have t3 := t3.tr t_
      have t4 := t4.tr t_ (fun _ _ h => h)
      have tb := tb.tr t_ (fun _ _ h => h)
      have tm := tm.tr t_ (fun _ _ h => h)
      have hT0 := hT0.tr t_ (fun _ _ h => h)
      have hbx := hbx.tr t_ (fun _ _ h => h)
      have hB := hB.tr t_ (fun _ _ h => h)
      have hq2 := hq2.tr t_
      have hAt := hAt.tr t_ (fun _ _ h => h)
      have hU := hU.mv t_ hF6 (xA.no (c_lt hU.1) n_u_oo) hSu
      have hSb := c_sbo hSb hF6.1
      have hO := hO_
      exact x_aret X (Or.inl ⟨_, rfl⟩) hS (by omega) (by omega) d_U_cut_98 ⟨_, rfl, bt, b, at_, ⟨no_oo, hO⟩, hB, hbx, hAt⟩
    by_cases hB0 : p < ft_zR d.1
    · have hlt := ft_ix_lt (l := d.1) p (by omega)
      have hC := C_R_indexOf l D A H0 S rh E ne mm zf k d.1 as lc o1.2.2 t2 t4 (by omega) (by omega) (by omega) p (by omega)
      have hcu : ft_cu (d :: sp) o p = (ft_ln (d.1.take (ft_ix d.1 p)), d.1.getD (ft_ix d.1 p) ft_no, ft_op (d.1.drop (ft_ix d.1 p + 1)) sp o d.2) := by
        show (if _ then _ else _) = _
        rw [if_neg hA, if_pos hB0]
      rw [hcu]
      generalize ft_ix d.1 p = ix at hlt hC
      obtain ⟨b, hb, okb, hbx⟩ := cL_at o1.2.2 t4 (i := ix) hlt
      have hd1 := ft_zR_td d.1 ix
      have hd2 := ft_zR_td d.1 (ix + 1)
      refine xC.of rfl (Nat.le_of_ble_eq_true rfl) ?_
      intro p_ e_ s_ m_ ar_ bl_ me_ c_ ls X hl
      have hl : lz ls 9 [some (.ref u), some (.ref t), some (.int (nI p)), none, none, none, none, none, none] := hl
      have hS : va_S (xA (fun _ => False) H0) H0 H0 [] := va_S.rf
      have hSu : S u := hU.2.2.2
      refine x_aload_n X d_U_cut_0 rfl hl rfl ?_
      refine x_goR (x_runVN X (C_T_isDeep l D A _ S rh E ne mm zf k (d :: sp) o t ok0 hT0 hz) b_T_isDeep s_T_isDeep v_T_isDeep e_U_45 t1.2 rfl rfl hl rfl (Nat.le_of_ble_eq_true rfl) d_U_cut_1 (by dsimp only [x_rm]; omega) (by dsimp only [x_rm]; omega) ⟨(by dsimp only [x_rm]; omega), (by dsimp only [x_rm]; omega)⟩) hS (fun locs hS => ?_)
      rw [show ft_de (d :: sp) = 1 from rfl]
      refine n_if_ne X 27 d_U_cut_4 rfl (by decide) (fun hc => ?_) (fun hc => absurd hc (by decide))
      refine x_iload_n X d_U_cut_27 rfl hl rfl ?_
      refine x_aload_n X d_U_cut_28 rfl hl rfl ?_
      refine x_getN X gT t1.2 3 (by decide) e_U_132 rfl d_U_cut_29 ?_
      refine n_icmp_lt X 99 d_U_cut_32 rfl (by omega) (by omega) (fun hc => ?_) (fun hc => absurd hc (by omega))
      refine x_aload_n X d_U_cut_99 rfl hl rfl ?_
      refine x_iload_n X d_U_cut_100 rfl hl rfl ?_
      refine x_goR (x_runVN X (C_T_holdsInMiddle l D A _ S rh E ne mm zf k (d :: sp) o t ok0 hT0 hz p (by omega)) b_T_holdsInMiddle s_T_holdsInMiddle v_T_holdsInMiddle e_U_139 t1.2 rfl rfl hl rfl (Nat.le_of_ble_eq_true rfl) d_U_cut_101 (by dsimp only [x_rm]; omega) (by dsimp only [x_rm]; omega) ⟨(by dsimp only [x_rm]; omega), (by dsimp only [x_rm]; omega)⟩) hS (fun locs hS => ?_)
      rw [show ft_hm (d :: sp) o p = 0 from if_neg (fun h => absurd h.1 (Nat.not_le.2 hB0))]
      refine n_if_ne X 166 d_U_cut_104 rfl (by decide) (fun hc => absurd rfl hc) (fun hc => ?_)
      refine x_aload_n X d_U_cut_107 rfl hl rfl ?_
      refine x_getN X gT t1.2 0 (by decide) e_U_48 rfl d_U_cut_108 ?_
      refine x_iload_n X d_U_cut_111 rfl hl rfl ?_
      refine x_goR (x_runSN X (hC) b_R_indexOf s_R_indexOf e_U_135 rfl hl rfl (Nat.le_of_ble_eq_true rfl) d_U_cut_112 (by dsimp only [x_rm]; omega) (by dsimp only [x_rm]; omega) ⟨(by dsimp only [x_rm]; omega), (by dsimp only [x_rm]; omega)⟩) hS (fun locs hS => ?_)
      refine x_istore_n X d_U_cut_115 rfl hl (by decide) rfl (fun ls hl => ?_)
      refine x_aload_n X d_U_cut_116 rfl hl rfl ?_
      refine x_aload_n X d_U_cut_117 rfl hl rfl ?_
      refine x_getN X gT t1.2 0 (by decide) e_U_48 rfl d_U_cut_118 ?_
      refine x_iload_n X d_U_cut_121 rfl hl rfl ?_
      refine x_gor (x_runSN X (C_R_after l D A _ S rh E ne mm zf k d.1 as lc o1.2.2 t2 t4 (by omega) (by omega) ix (by omega) (by omega)) b_R_after s_R_after e_U_63 rfl hl rfl (Nat.le_of_ble_eq_true rfl) d_U_cut_122 (by dsimp only [x_rm]; omega) (by dsimp only [x_rm]; omega) ⟨(by dsimp only [x_rm]; omega), (by dsimp only [x_rm]; omega)⟩) hS (xA.mono (fun _ h => h.elim) hS.1) (fun q1 G1 locs hR_ hF1 hS => ?_)
      have hq1 := hR_.rw hSb
      have t_ : cTr S S H0 G1 := cTr.fr hF1 (fun _ h => h.elim)
      have t1 := t1.tr t_
      have t2 := t2.tr t_
      have t3 := t3.tr t_
      have t4 := t4.tr t_ (fun _ _ h => h)
      have tb := tb.tr t_ (fun _ _ h => h)
      have tm := tm.tr t_ (fun _ _ h => h)
      have hT0 := hT0.tr t_ (fun _ _ h => h)
      have hbx := hbx.tr t_ (fun _ _ h => h)
      have hU := hU.mv t_ hF1 (xA.no (c_lt hU.1) (fun h => h)) hSu
      have hSb := c_sb hSb hF1.1
      refine x_aload_n X d_U_cut_125 rfl hl rfl ?_
      refine x_getN X gT t1.2 1 (by decide) e_U_57 rfl d_U_cut_126 ?_
      refine x_aload_n X d_U_cut_129 rfl hl rfl ?_
      refine x_getN X gT t1.2 2 (by decide) e_U_60 rfl d_U_cut_130 ?_
      refine x_gor (x_runV X (C_U_open l D A _ rh E ne mm zf u nn em md S hU hSb k (d.1.drop (ix + 1)) (as.drop (ix + 1)) q1 (ft_okR_drop o1.2.2 _) hq1 (cL_drop _ t4) (by rw [List.length_drop]; omega) (by omega) d.2 bs rc o2.2.2 t3 tb (by omega) (by omega) sp o mt o3 tm (by rw [List.length_drop]; omega) (by omega) (by omega)) b_U_open s_U_open v_U_open e_U_107 hU.1 rfl rfl hl rfl (Nat.le_of_ble_eq_true rfl) d_U_cut_133 (by dsimp only [x_rm]; omega) (by dsimp only [x_rm]; omega) ⟨(by dsimp only [x_rm]; omega), (by dsimp only [x_rm]; omega)⟩) hS (xA.mono (fun _ h => h.elim) hS.1) (fun at_ G2 locs hAt hF2 hS => ?_)
      have t_ : cTr S S G1 G2 := cTr.fr hF2 (fun _ h => h.elim)
      have t1 := t1.tr t_
      have t2 := t2.tr t_
      have t3 := t3.tr t_
      have t4 := t4.tr t_ (fun _ _ h => h)
      have tb := tb.tr t_ (fun _ _ h => h)
      have tm := tm.tr t_ (fun _ _ h => h)
      have hT0 := hT0.tr t_ (fun _ _ h => h)
      have hbx := hbx.tr t_ (fun _ _ h => h)
      have hq1 := hq1.tr t_
      have hU := hU.mv t_ hF2 (xA.no (c_lt hU.1) (fun h => h)) hSu
      have hSb := c_sb hSb hF2.1
      refine x_astore X d_U_cut_136 hl (by decide) rfl (fun ls hl => ?_)
      have zz := hS.1
      refine x_newO (S := S) X gC e_U_127 n_C i_C x_defC hS hSb (by dsimp only [x_rm]; omega) (by dsimp only [x_rm]; omega) d_U_cut_138 (fun oo G3 h_oo hO hF3 t_oo hS sb_ => ?_)
      have no_oo : ¬ (S) oo := c_ub hSb h_oo
      have n_oo_u : ¬ oo = u := Nat.ne_of_gt (Nat.lt_of_lt_of_le (c_lt hU.1) h_oo)
      have n_u_oo : ¬ u = oo := Nat.ne_of_lt (Nat.lt_of_lt_of_le (c_lt hU.1) h_oo)
      have t_ : cTr S (fun q => S q ∨ q = oo) G2 G3 := t_oo
      have t1 := t1.tr t_
      have t2 := t2.tr t_
      have t3 := t3.tr t_
      have t4 := t4.tr t_ (fun _ _ h => h)
      have tb := tb.tr t_ (fun _ _ h => h)
      have tm := tm.tr t_ (fun _ _ h => h)
      have hT0 := hT0.tr t_ (fun _ _ h => h)
      have hbx := hbx.tr t_ (fun _ _ h => h)
      have hAt := hAt.tr t_ (fun _ _ h => h)
      have hU := hU.mv t_ hF3 (fun h => h) (by first | exact hSu | exact Or.inl hSu | exact Or.inl (Or.inl hSu))
      have hSb : ∀ q, (S q ∨ q = oo) → q < G3.size := sb_
      have z_oo : H0.size ≤ oo := Nat.le_trans zz h_oo
      refine x_dup X d_U_cut_141 rfl ?_
      refine x_aload_n X d_U_cut_142 rfl hl rfl ?_
      refine x_aload_n X d_U_cut_143 rfl hl rfl ?_
      refine x_getN X gT t1.2 0 (by decide) e_U_48 rfl d_U_cut_144 ?_
      refine x_iload_n X d_U_cut_147 rfl hl rfl ?_
      refine x_gor (x_runSN X (C_R_before l D A _ (fun q => S q ∨ q = oo) rh E ne mm zf k d.1 as lc o1.2.2 t2 t4 (by omega) (by omega) ix (by omega) (by omega)) b_R_before s_R_before e_U_75 rfl hl rfl (Nat.le_of_ble_eq_true rfl) d_U_cut_148 (by dsimp only [x_rm]; omega) (by dsimp only [x_rm]; omega) ⟨(by dsimp only [x_rm]; omega), (by dsimp only [x_rm]; omega)⟩) hS (xA.mono (fun _ h => h.elim) hS.1) (fun q2 G4 locs hR_ hF4 hS => ?_)
      have hq2 := hR_.rw hSb
      have t_ : cTr (fun q => S q ∨ q = oo) (fun q => S q ∨ q = oo) G3 G4 := cTr.fr hF4 (fun _ h => h.elim)
      have hO := hF4.kp hO (xA.no (c_lt hO) (fun h => h))
      have t1 := t1.tr t_
      have t2 := t2.tr t_
      have t3 := t3.tr t_
      have t4 := t4.tr t_ (fun _ _ h => h)
      have tb := tb.tr t_ (fun _ _ h => h)
      have tm := tm.tr t_ (fun _ _ h => h)
      have hT0 := hT0.tr t_ (fun _ _ h => h)
      have hbx := hbx.tr t_ (fun _ _ h => h)
      have hAt := hAt.tr t_ (fun _ _ h => h)
      have hU := hU.mv t_ hF4 (xA.no (c_lt hU.1) (fun h => h)) (by first | exact hSu | exact Or.inl hSu | exact Or.inl (Or.inl hSu))
      have hSb := c_sb hSb hF4.1
      refine x_gor (x_runV X (C_U_line l D A _ (fun q => S q ∨ q = oo) rh E ne mm zf u nn em md hU hSb k (d.1.take ix) (as.take ix) q2 (ft_okR_take o1.2.2 _) hq2 (cL_take _ t4) (by rw [List.length_take]; omega) (by omega) (by rw [List.length_take]; omega)) b_U_line s_U_line v_U_line e_U_90 hU.1 rfl rfl hl rfl (Nat.le_of_ble_eq_true rfl) d_U_cut_151 (by dsimp only [x_rm]; omega) (by dsimp only [x_rm]; omega) ⟨(by dsimp only [x_rm]; omega), (by dsimp only [x_rm]; omega)⟩) hS (xA.mono (fun _ h => h.elim) hS.1) (fun bt G5 locs hBt hF5 hS => ?_)
      have t_ : cTr (fun q => S q ∨ q = oo) (fun q => S q ∨ q = oo) G4 G5 := cTr.fr hF5 (fun _ h => h.elim)
      have hO := hF5.kp hO (xA.no (c_lt hO) (fun h => h))
      have t1 := t1.tr t_
      have t2 := t2.tr t_
      have t3 := t3.tr t_
      have t4 := t4.tr t_ (fun _ _ h => h)
      have tb := tb.tr t_ (fun _ _ h => h)
      have tm := tm.tr t_ (fun _ _ h => h)
      have hT0 := hT0.tr t_ (fun _ _ h => h)
      have hbx := hbx.tr t_ (fun _ _ h => h)
      have hAt := hAt.tr t_ (fun _ _ h => h)
      have hq2 := hq2.tr t_
      have hU := hU.mv t_ hF5 (xA.no (c_lt hU.1) (fun h => h)) (by first | exact hSu | exact Or.inl hSu | exact Or.inl (Or.inl hSu))
      have hSb := c_sb hSb hF5.1
      refine x_aload_n X d_U_cut_154 rfl hl rfl ?_
      refine x_getN X gT t1.2 0 (by decide) e_U_48 rfl d_U_cut_155 ?_
      refine x_iload_n X d_U_cut_158 rfl hl rfl ?_
      refine x_aald X t2 hb (by omega) d_U_cut_159 ?_
      refine x_aload X d_U_cut_160 hl rfl ?_
      refine x_go0 (x_runIN X (C_C_init l D A _ oo (va_P1 hO) bt b at_) b_C_init rfl s_C_init e_U_129 rfl hl rfl (Nat.le_of_ble_eq_true rfl) d_U_cut_162 (by dsimp only [x_rm]; omega) (by dsimp only [x_rm]; omega) ⟨(by dsimp only [x_rm]; omega), (by dsimp only [x_rm]; omega)⟩) hS (xA.one z_oo hS.1) (fun G6 locs hO_ hF6 hS => ?_)
      have t_ : cTr (fun q => S q ∨ q = oo) S G5 G6 := cTr.done hF6
      have t1 := t1.tr t_
      have t2 := t2.tr t_
      have t3 := t3.tr t_
      have t4 := t4.tr t_ (fun _ _ h => h)
      have tb := tb.tr t_ (fun _ _ h => h)
      have tm := tm.tr t_ (fun _ _ h => h)
      have hT0 := hT0.tr t_ (fun _ _ h => h)
      have hbx := hbx.tr t_ (fun _ _ h => h)
      have hAt := hAt.tr t_ (fun _ _ h => h)
      have hq2 := hq2.tr t_
      have hBt := hBt.tr t_ (fun _ _ h => h)
      have hU := hU.mv t_ hF6 (xA.no (c_lt hU.1) n_u_oo) hSu
      have hSb := c_sbo hSb hF6.1
      have hO := hO_
      exact x_aret X (Or.inl ⟨_, rfl⟩) hS (by omega) (by omega) d_U_cut_165 ⟨_, rfl, bt, b, at_, ⟨no_oo, hO⟩, hBt, hbx, hAt⟩
    have hcu : ft_cu (d :: sp) o p = ft_cs d (ft_cu sp o (p - ft_zR d.1)) (p - ft_zR d.1) := by
      show (if _ then _ else _) = _
      rw [if_neg hA, if_neg hB0]
    rw [hcu]
    have hck := ft_cu_ok o3 (p := p - ft_zR d.1) (by omega)
    obtain ⟨cu, hcuE⟩ : ∃ c, ft_cu sp o (p - ft_zR d.1) = c := ⟨_, rfl⟩
    rw [hcuE] at hck ⊢
    obtain ⟨⟨csp, cop⟩, cx, asp, ao⟩ := cu
    obtain ⟨k1, k2, k3, k4, k5, k6⟩ := hck
    dsimp only at k1 k2 k3 k4 k5 k6
    obtain ⟨p1, p2, p3, p4⟩ := ft_okR_ps k2
    have hlt := ft_ix_lt (l := ft_ps cx) (p - ft_zR d.1 - ft_zT csp cop) (by omega)
    have h51 := ft_len5 k1 (by omega)
    have h52 := ft_len5 k3 (by omega)
    refine xC.of rfl (Nat.le_of_ble_eq_true rfl) ?_
    intro p_ e_ s_ m_ ar_ bl_ me_ c_ ls X hl
    have hl : lz ls 9 [some (.ref u), some (.ref t), some (.int (nI p)), none, none, none, none, none, none] := hl
    have hS : va_S (xA (fun _ => False) H0) H0 H0 [] := va_S.rf
    have hSu : S u := hU.2.2.2
    refine x_aload_n X d_U_cut_0 rfl hl rfl ?_
    refine x_goR (x_runVN X (C_T_isDeep l D A _ S rh E ne mm zf k (d :: sp) o t ok0 hT0 hz) b_T_isDeep s_T_isDeep v_T_isDeep e_U_45 t1.2 rfl rfl hl rfl (Nat.le_of_ble_eq_true rfl) d_U_cut_1 (by dsimp only [x_rm]; omega) (by dsimp only [x_rm]; omega) ⟨(by dsimp only [x_rm]; omega), (by dsimp only [x_rm]; omega)⟩) hS (fun locs hS => ?_)
    rw [show ft_de (d :: sp) = 1 from rfl]
    refine n_if_ne X 27 d_U_cut_4 rfl (by decide) (fun hc => ?_) (fun hc => absurd hc (by decide))
    refine x_iload_n X d_U_cut_27 rfl hl rfl ?_
    refine x_aload_n X d_U_cut_28 rfl hl rfl ?_
    refine x_getN X gT t1.2 3 (by decide) e_U_132 rfl d_U_cut_29 ?_
    refine n_icmp_lt X 99 d_U_cut_32 rfl (by omega) (by omega) (fun hc => ?_) (fun hc => absurd hc (by omega))
    refine x_aload_n X d_U_cut_99 rfl hl rfl ?_
    refine x_iload_n X d_U_cut_100 rfl hl rfl ?_
    refine x_goR (x_runVN X (C_T_holdsInMiddle l D A _ S rh E ne mm zf k (d :: sp) o t ok0 hT0 hz p (by omega)) b_T_holdsInMiddle s_T_holdsInMiddle v_T_holdsInMiddle e_U_139 t1.2 rfl rfl hl rfl (Nat.le_of_ble_eq_true rfl) d_U_cut_101 (by dsimp only [x_rm]; omega) (by dsimp only [x_rm]; omega) ⟨(by dsimp only [x_rm]; omega), (by dsimp only [x_rm]; omega)⟩) hS (fun locs hS => ?_)
    rw [show ft_hm (d :: sp) o p = 1 from if_pos ⟨Nat.le_of_not_lt hB0, Nat.lt_of_not_le hA⟩]
    refine n_if_ne X 166 d_U_cut_104 rfl (by decide) (fun hc => ?_) (fun hc => absurd hc (by decide))
    refine x_iload_n X d_U_cut_166 rfl hl rfl ?_
    refine x_aload_n X d_U_cut_167 rfl hl rfl ?_
    refine x_goR (x_runVN X (C_T_middleStart l D A _ S rh E ne mm zf k (d :: sp) o t ok0 hT0 hz) b_T_middleStart s_T_middleStart v_T_middleStart e_U_143 t1.2 rfl rfl hl rfl (Nat.le_of_ble_eq_true rfl) d_U_cut_168 (by dsimp only [x_rm]; omega) (by dsimp only [x_rm]; omega) ⟨(by dsimp only [x_rm]; omega), (by dsimp only [x_rm]; omega)⟩) hS (fun locs hS => ?_)
    rw [show ft_ms (d :: sp) o = ft_zR d.1 from rfl]
    refine n_isub X d_U_cut_171 (by omega) ?_
    refine x_istore_n X d_U_cut_172 rfl hl (by decide) rfl (fun ls hl => ?_)
    refine x_aload_n X d_U_cut_173 rfl hl rfl ?_
    refine x_aload_n X d_U_cut_174 rfl hl rfl ?_
    refine x_getN X gT t1.2 1 (by decide) e_U_57 rfl d_U_cut_175 ?_
    refine x_iload_n X d_U_cut_178 rfl hl rfl ?_
    refine x_gor (x_runV X (ih (H0 := H0) hU hSb (k + 1) mt o3 tm (by omega) (p - ft_zR d.1) (by omega)) b_U_cut s_U_cut v_U_cut e_U_147 hU.1 rfl rfl hl rfl (Nat.le_of_ble_eq_true rfl) d_U_cut_179 (by dsimp only [x_rm]; omega) (by dsimp only [x_rm]; omega) ⟨(by dsimp only [x_rm]; omega), (by dsimp only [x_rm]; omega)⟩) hS (xA.mono (fun _ h => h.elim) hS.1) (fun cq G1 locs hCu hF1 hS => ?_)
    rw [hcuE] at hCu
    obtain ⟨cb, ci_, ca, u1, u2, u3, u4⟩ := hCu
    dsimp only at u2 u3 u4
    have t_ : cTr S S H0 G1 := cTr.fr hF1 (fun _ h => h.elim)
    have t1 := t1.tr t_
    have t2 := t2.tr t_
    have t3 := t3.tr t_
    have t4 := t4.tr t_ (fun _ _ h => h)
    have tb := tb.tr t_ (fun _ _ h => h)
    have tm := tm.tr t_ (fun _ _ h => h)
    have hT0 := hT0.tr t_ (fun _ _ h => h)
    have hU := hU.mv t_ hF1 (xA.no (c_lt hU.1) (fun h => h)) hSu
    have hSb := c_sb hSb hF1.1
    obtain ⟨nu, lo, hi, pr, pbs, v1, v2, v3, -⟩ := cI_has k2 u3
    obtain ⟨bl, br, bmv, brs, bO⟩ := cT_obj u2
    refine x_astore X d_U_cut_182 hl (by decide) rfl (fun ls hl => ?_)
    refine x_aload X d_U_cut_184 hl rfl ?_
    refine x_getN X gC u1.2 1 (by decide) e_U_151 rfl d_U_cut_186 ?_
    refine x_getN X gI v1.2 3 (by decide) e_U_97 rfl d_U_cut_189 ?_
    refine x_astore X d_U_cut_192 hl (by decide) rfl (fun ls hl => ?_)
    refine x_aload X d_U_cut_194 hl rfl ?_
    refine x_iload_n X d_U_cut_196 rfl hl rfl ?_
    refine x_aload X d_U_cut_197 hl rfl ?_
    refine x_getN X gC u1.2 0 (by decide) e_U_155 rfl d_U_cut_199 ?_
    refine x_getN X gT bO.2 4 (by decide) e_U_157 rfl d_U_cut_202 ?_
    refine n_isub X d_U_cut_205 (by omega) ?_
    refine x_goR (x_runSN X (C_R_indexOf l D A _ S rh E ne mm zf k (ft_ps cx) pbs pr p1 v2 v3 (by omega) (by omega) (by omega) (p - ft_zR d.1 - ft_zT csp cop) (by omega)) b_R_indexOf s_R_indexOf e_U_135 rfl hl rfl (Nat.le_of_ble_eq_true rfl) d_U_cut_206 (by dsimp only [x_rm]; omega) (by dsimp only [x_rm]; omega) ⟨(by dsimp only [x_rm]; omega), (by dsimp only [x_rm]; omega)⟩) hS (fun locs hS => ?_)
    have hcs : ft_cs d ((csp, cop), cx, asp, ao) (p - ft_zR d.1) = (ft_op d.1 csp cop ((ft_ps cx).take (ft_ix (ft_ps cx) (p - ft_zR d.1 - ft_zT csp cop))), (ft_ps cx).getD (ft_ix (ft_ps cx) (p - ft_zR d.1 - ft_zT csp cop)) ft_no, ft_op ((ft_ps cx).drop (ft_ix (ft_ps cx) (p - ft_zR d.1 - ft_zT csp cop) + 1)) asp ao d.2) := rfl
    rw [hcs]
    generalize ft_ix (ft_ps cx) (p - ft_zR d.1 - ft_zT csp cop) = ix at hlt
    obtain ⟨b, hb, okb, hbx⟩ := cL_at p1 v3 (i := ix) hlt
    have hplen := cL_len v3
    have hd1 := ft_zR_td (ft_ps cx) ix
    have hd2 := ft_zR_td (ft_ps cx) (ix + 1)
    refine x_istore X d_U_cut_209 hl (by decide) rfl (fun ls hl => ?_)
    refine x_aload_n X d_U_cut_211 rfl hl rfl ?_
    refine x_aload_n X d_U_cut_212 rfl hl rfl ?_
    refine x_getN X gT t1.2 0 (by decide) e_U_48 rfl d_U_cut_213 ?_
    refine x_aload X d_U_cut_216 hl rfl ?_
    refine x_getN X gC u1.2 0 (by decide) e_U_155 rfl d_U_cut_218 ?_
    refine x_aload X d_U_cut_221 hl rfl ?_
    refine x_iload X d_U_cut_223 hl rfl ?_
    refine x_gor (x_runSN X (C_R_before l D A _ S rh E ne mm zf k (ft_ps cx) pbs pr p1 v2 v3 (by omega) (by omega) ix (by omega) (by omega)) b_R_before s_R_before e_U_75 rfl hl rfl (Nat.le_of_ble_eq_true rfl) d_U_cut_225 (by dsimp only [x_rm]; omega) (by dsimp only [x_rm]; omega) ⟨(by dsimp only [x_rm]; omega), (by dsimp only [x_rm]; omega)⟩) hS (xA.mono (fun _ h => h.elim) hS.1) (fun q1 G2 locs hR_ hF2 hS => ?_)
    have hq1 := hR_.rw hSb
    have t_ : cTr S S G1 G2 := cTr.fr hF2 (fun _ h => h.elim)
    have t1 := t1.tr t_
    have t2 := t2.tr t_
    have t3 := t3.tr t_
    have t4 := t4.tr t_ (fun _ _ h => h)
    have tb := tb.tr t_ (fun _ _ h => h)
    have tm := tm.tr t_ (fun _ _ h => h)
    have u1 := u1.tr t_
    have u2 := u2.tr t_ (fun _ _ h => h)
    have u3 := u3.tr t_ (fun _ _ h => h)
    have u4 := u4.tr t_ (fun _ _ h => h)
    have v2 := v2.tr t_
    have v3 := v3.tr t_ (fun _ _ h => h)
    have hbx := hbx.tr t_ (fun _ _ h => h)
    have hU := hU.mv t_ hF2 (xA.no (c_lt hU.1) (fun h => h)) hSu
    have hSb := c_sb hSb hF2.1
    refine x_gor (x_runV X (C_U_open l D A _ rh E ne mm zf u nn em md S hU hSb k d.1 as lc o1.2.2 t2 t4 (by omega) (by omega) ((ft_ps cx).take ix) (pbs.take ix) q1 (ft_okR_take p1 _) hq1 (cL_take _ v3) (by rw [List.length_take]; omega) (by omega) csp cop cb k1 u2 (by omega) (by rw [List.length_take]; omega) (by omega)) b_U_open s_U_open v_U_open e_U_107 hU.1 rfl rfl hl rfl (Nat.le_of_ble_eq_true rfl) d_U_cut_228 (by dsimp only [x_rm]; omega) (by dsimp only [x_rm]; omega) ⟨(by dsimp only [x_rm]; omega), (by dsimp only [x_rm]; omega)⟩) hS (xA.mono (fun _ h => h.elim) hS.1) (fun bt G3 locs hBt hF3 hS => ?_)
    have t_ : cTr S S G2 G3 := cTr.fr hF3 (fun _ h => h.elim)
    have t1 := t1.tr t_
    have t2 := t2.tr t_
    have t3 := t3.tr t_
    have t4 := t4.tr t_ (fun _ _ h => h)
    have tb := tb.tr t_ (fun _ _ h => h)
    have tm := tm.tr t_ (fun _ _ h => h)
    have u1 := u1.tr t_
    have u2 := u2.tr t_ (fun _ _ h => h)
    have u3 := u3.tr t_ (fun _ _ h => h)
    have u4 := u4.tr t_ (fun _ _ h => h)
    have v2 := v2.tr t_
    have v3 := v3.tr t_ (fun _ _ h => h)
    have hbx := hbx.tr t_ (fun _ _ h => h)
    have hq1 := hq1.tr t_
    have hU := hU.mv t_ hF3 (xA.no (c_lt hU.1) (fun h => h)) hSu
    have hSb := c_sb hSb hF3.1
    refine x_astore X d_U_cut_231 hl (by decide) rfl (fun ls hl => ?_)
    refine x_aload_n X d_U_cut_233 rfl hl rfl ?_
    refine x_aload X d_U_cut_234 hl rfl ?_
    refine x_iload X d_U_cut_236 hl rfl ?_
    refine x_gor (x_runSN X (C_R_after l D A _ S rh E ne mm zf k (ft_ps cx) pbs pr p1 v2 v3 (by omega) (by omega) ix (by omega) (by omega)) b_R_after s_R_after e_U_63 rfl hl rfl (Nat.le_of_ble_eq_true rfl) d_U_cut_238 (by dsimp only [x_rm]; omega) (by dsimp only [x_rm]; omega) ⟨(by dsimp only [x_rm]; omega), (by dsimp only [x_rm]; omega)⟩) hS (xA.mono (fun _ h => h.elim) hS.1) (fun q2 G4 locs hR_ hF4 hS => ?_)
    have hq2 := hR_.rw hSb
    have t_ : cTr S S G3 G4 := cTr.fr hF4 (fun _ h => h.elim)
    have t1 := t1.tr t_
    have t2 := t2.tr t_
    have t3 := t3.tr t_
    have t4 := t4.tr t_ (fun _ _ h => h)
    have tb := tb.tr t_ (fun _ _ h => h)
    have tm := tm.tr t_ (fun _ _ h => h)
    have u1 := u1.tr t_
    have u2 := u2.tr t_ (fun _ _ h => h)
    have u3 := u3.tr t_ (fun _ _ h => h)
    have u4 := u4.tr t_ (fun _ _ h => h)
    have v2 := v2.tr t_
    have v3 := v3.tr t_ (fun _ _ h => h)
    have hbx := hbx.tr t_ (fun _ _ h => h)
    have hBt := hBt.tr t_ (fun _ _ h => h)
    have hU := hU.mv t_ hF4 (xA.no (c_lt hU.1) (fun h => h)) hSu
    have hSb := c_sb hSb hF4.1
    refine x_aload X d_U_cut_241 hl rfl ?_
    refine x_getN X gC u1.2 2 (by decide) e_U_160 rfl d_U_cut_243 ?_
    refine x_aload_n X d_U_cut_246 rfl hl rfl ?_
    refine x_getN X gT t1.2 2 (by decide) e_U_60 rfl d_U_cut_247 ?_
    refine x_gor (x_runV X (C_U_open l D A _ rh E ne mm zf u nn em md S hU hSb k ((ft_ps cx).drop (ix + 1)) (pbs.drop (ix + 1)) q2 (ft_okR_drop p1 _) hq2 (cL_drop _ v3) (by rw [List.length_drop]; omega) (by omega) d.2 bs rc o2.2.2 t3 tb (by omega) (by omega) asp ao ca k3 u4 (by rw [List.length_drop]; omega) (by omega) (by omega)) b_U_open s_U_open v_U_open e_U_107 hU.1 rfl rfl hl rfl (Nat.le_of_ble_eq_true rfl) d_U_cut_250 (by dsimp only [x_rm]; omega) (by dsimp only [x_rm]; omega) ⟨(by dsimp only [x_rm]; omega), (by dsimp only [x_rm]; omega)⟩) hS (xA.mono (fun _ h => h.elim) hS.1) (fun at_ G5 locs hAt hF5 hS => ?_)
    have t_ : cTr S S G4 G5 := cTr.fr hF5 (fun _ h => h.elim)
    have t1 := t1.tr t_
    have t2 := t2.tr t_
    have t3 := t3.tr t_
    have t4 := t4.tr t_ (fun _ _ h => h)
    have tb := tb.tr t_ (fun _ _ h => h)
    have tm := tm.tr t_ (fun _ _ h => h)
    have u1 := u1.tr t_
    have u2 := u2.tr t_ (fun _ _ h => h)
    have u3 := u3.tr t_ (fun _ _ h => h)
    have u4 := u4.tr t_ (fun _ _ h => h)
    have v2 := v2.tr t_
    have v3 := v3.tr t_ (fun _ _ h => h)
    have hbx := hbx.tr t_ (fun _ _ h => h)
    have hBt := hBt.tr t_ (fun _ _ h => h)
    have hq2 := hq2.tr t_
    have hU := hU.mv t_ hF5 (xA.no (c_lt hU.1) (fun h => h)) hSu
    have hSb := c_sb hSb hF5.1
    refine x_astore X d_U_cut_253 hl (by decide) rfl (fun ls hl => ?_)
    have zz := hS.1
    refine x_newO (S := S) X gC e_U_127 n_C i_C x_defC hS hSb (by dsimp only [x_rm]; omega) (by dsimp only [x_rm]; omega) d_U_cut_255 (fun oo G6 h_oo hO hF6 t_oo hS sb_ => ?_)
    have no_oo : ¬ (S) oo := c_ub hSb h_oo
    have n_oo_u : ¬ oo = u := Nat.ne_of_gt (Nat.lt_of_lt_of_le (c_lt hU.1) h_oo)
    have n_u_oo : ¬ u = oo := Nat.ne_of_lt (Nat.lt_of_lt_of_le (c_lt hU.1) h_oo)
    have t_ : cTr S (fun q => S q ∨ q = oo) G5 G6 := t_oo
    have t1 := t1.tr t_
    have t2 := t2.tr t_
    have t3 := t3.tr t_
    have t4 := t4.tr t_ (fun _ _ h => h)
    have tb := tb.tr t_ (fun _ _ h => h)
    have tm := tm.tr t_ (fun _ _ h => h)
    have u1 := u1.tr t_
    have u2 := u2.tr t_ (fun _ _ h => h)
    have u3 := u3.tr t_ (fun _ _ h => h)
    have u4 := u4.tr t_ (fun _ _ h => h)
    have v2 := v2.tr t_
    have v3 := v3.tr t_ (fun _ _ h => h)
    have hbx := hbx.tr t_ (fun _ _ h => h)
    have hBt := hBt.tr t_ (fun _ _ h => h)
    have hAt := hAt.tr t_ (fun _ _ h => h)
    have hU := hU.mv t_ hF6 (fun h => h) (by first | exact hSu | exact Or.inl hSu | exact Or.inl (Or.inl hSu))
    have hSb : ∀ q, (S q ∨ q = oo) → q < G6.size := sb_
    have z_oo : H0.size ≤ oo := Nat.le_trans zz h_oo
    refine x_dup X d_U_cut_258 rfl ?_
    refine x_aload X d_U_cut_259 hl rfl ?_
    refine x_aload X d_U_cut_261 hl rfl ?_
    refine x_iload X d_U_cut_263 hl rfl ?_
    refine x_aald X v2 hb (by omega) d_U_cut_265 ?_
    refine x_aload X d_U_cut_266 hl rfl ?_
    refine x_go0 (x_runIN X (C_C_init l D A _ oo (va_P1 hO) bt b at_) b_C_init rfl s_C_init e_U_129 rfl hl rfl (Nat.le_of_ble_eq_true rfl) d_U_cut_268 (by dsimp only [x_rm]; omega) (by dsimp only [x_rm]; omega) ⟨(by dsimp only [x_rm]; omega), (by dsimp only [x_rm]; omega)⟩) hS (xA.one z_oo hS.1) (fun G7 locs hO_ hF7 hS => ?_)
    have t_ : cTr (fun q => S q ∨ q = oo) S G6 G7 := cTr.done hF7
    have t1 := t1.tr t_
    have t2 := t2.tr t_
    have t3 := t3.tr t_
    have t4 := t4.tr t_ (fun _ _ h => h)
    have tb := tb.tr t_ (fun _ _ h => h)
    have tm := tm.tr t_ (fun _ _ h => h)
    have u1 := u1.tr t_
    have u2 := u2.tr t_ (fun _ _ h => h)
    have u3 := u3.tr t_ (fun _ _ h => h)
    have u4 := u4.tr t_ (fun _ _ h => h)
    have v2 := v2.tr t_
    have v3 := v3.tr t_ (fun _ _ h => h)
    have hbx := hbx.tr t_ (fun _ _ h => h)
    have hBt := hBt.tr t_ (fun _ _ h => h)
    have hAt := hAt.tr t_ (fun _ _ h => h)
    have hU := hU.mv t_ hF7 (xA.no (c_lt hU.1) n_u_oo) hSu
    have hSb := c_sbo hSb hF7.1
    have hO := hO_
    exact x_aret X (Or.inl ⟨_, rfl⟩) hS (by omega) (by omega) d_U_cut_271 ⟨_, rfl, bt, b, at_, ⟨no_oo, hO⟩, hBt, hbx, hAt⟩
set_option maxRecDepth 100000 in
set_option maxHeartbeats 4000000 in
theorem C_U_halves (l : Launch) (D : va_G) (A : Nat → ClassId) (H0 : Heap) (S : Nat → Prop) (rh : Nat → Nat) (E : ft_E) (ne : Nat) (c0 : ft_C) (u nn em : Nat) (hU : cUs D A S rh E u nn em c0.1 H0) (hSb : ∀ q, S q → q < H0.size) (hrh : ∀ n, c0.1 < n → rh n = n) (k : Nat) (sp : ft_S) (o : Option ft_I) (t : Nat) (okt : ft_okT ne c0.1 c0.2 k sp o) (hT : cT D A S rh E sp o t H0) (hz : ft_zT sp o < 64) (p : Nat) (hp : p ≤ ft_zT sp o) : xC l y_U_halves c_U_halves 4 (some (.object "FingerSpans$Halves")) (sp.length + 18) D A H0 [.ref u, .ref t, .int (nI p)] (xA (fun q => q = u) H0) (qr (fun q H1 => cHv D A S rh E (ft_ha sp o p c0).1 (ft_ha sp o p c0).2.1 q H1 ∧ cUs D A S rh E u nn em (ft_ha sp o p c0).2.2.1 H1)) (40 * sp.length + 80) (320 * sp.length + 600) := by
  obtain ⟨tl, tr, tmv, trs, tO⟩ := cT_obj hT
  by_cases hc : p = ft_zT sp o
  · have hha : ft_ha sp o p c0 = ((sp, o), ([], none), c0) := by unfold ft_ha; rw [if_pos hc]
    rw [hha]
    refine xC.of rfl (Nat.le_of_ble_eq_true rfl) ?_
    intro p_ e_ s_ m_ ar_ bl_ me_ c_ ls X hl
    have hl : lz ls 4 [some (.ref u), some (.ref t), some (.int (nI p)), none] := hl
    have hS : va_S (xA (fun q => q = u) H0) H0 H0 [] := va_S.rf
    have hSu : S u := hU.2.2.2
    refine x_iload_n X d_U_halves_0 rfl hl rfl ?_
    refine x_aload_n X d_U_halves_1 rfl hl rfl ?_
    refine x_getN X gT tO.2 4 (by decide) e_U_157 rfl d_U_halves_2 ?_
    refine n_icmp_ne X 21 d_U_halves_5 rfl (by omega) (by omega) (fun hn => absurd hc hn) (fun hn => ?_)
    have zz := hS.1
    refine x_newO (S := S) X gH e_U_162 n_H i_H x_defH hS hSb (by dsimp only [x_rm]; omega) (by dsimp only [x_rm]; omega) d_U_halves_8 (fun oo G1 h_oo hO hF1 t_oo hS sb_ => ?_)
    have no_oo : ¬ (S) oo := c_ub hSb h_oo
    have n_oo_u : ¬ oo = u := Nat.ne_of_gt (Nat.lt_of_lt_of_le (c_lt hU.1) h_oo)
    have n_u_oo : ¬ u = oo := Nat.ne_of_lt (Nat.lt_of_lt_of_le (c_lt hU.1) h_oo)
    have t_ : cTr S (fun q => S q ∨ q = oo) H0 G1 := t_oo
    have hT := hT.tr t_ (fun _ _ h => h)
    have tO := tO.tr t_
    have hU := hU.mv t_ hF1 (fun h => h) (by first | exact hSu | exact Or.inl hSu | exact Or.inl (Or.inl hSu))
    have hSb : ∀ q, (S q ∨ q = oo) → q < G1.size := sb_
    have z_oo : H0.size ≤ oo := Nat.le_trans zz h_oo
    refine x_dup X d_U_halves_11 rfl ?_
    refine x_aload_n X d_U_halves_12 rfl hl rfl ?_
    refine x_aload_n X d_U_halves_13 rfl hl rfl ?_
    refine x_get X gU hU.1 1 (by decide) e_U_22 rfl d_U_halves_14 ?_
    refine x_go0 (x_runIN X (C_H_init l D A _ oo (va_P1 hO) t em) b_H_init rfl s_H_init e_U_164 rfl hl rfl (Nat.le_of_ble_eq_true rfl) d_U_halves_17 (by dsimp only [x_rm]; omega) (by dsimp only [x_rm]; omega) ⟨(by dsimp only [x_rm]; omega), (by dsimp only [x_rm]; omega)⟩) hS (xA.one z_oo hS.1) (fun G2 locs hO_ hF2 hS => ?_)
    have t_ : cTr (fun q => S q ∨ q = oo) S G1 G2 := cTr.done hF2
    have hT := hT.tr t_ (fun _ _ h => h)
    have tO := tO.tr t_
    have hU := hU.mv t_ hF2 (xA.no (c_lt hU.1) n_u_oo) hSu
    have hSb := c_sbo hSb hF2.1
    have hO := hO_
    exact x_aret X (Or.inl ⟨_, rfl⟩) hS (by omega) (by omega) d_U_halves_20 ⟨_, rfl, ⟨t, em, ⟨no_oo, hO⟩, hT, hU.2.2.1⟩, hU⟩
  · have hck := ft_cu_ok okt (p := p) (by omega)
    have hha : ft_ha sp o p c0 = ((ft_cu sp o p).1, (ft_fr (ft_cu sp o p).2.1 (ft_cu sp o p).2.2.1 (ft_cu sp o p).2.2.2 c0).1, (ft_fr (ft_cu sp o p).2.1 (ft_cu sp o p).2.2.1 (ft_cu sp o p).2.2.2 c0).2) := by unfold ft_ha; rw [if_neg hc]
    rw [hha]
    have hCut := C_U_cut l D A H0 S rh E ne c0.1 c0.2 u nn em c0.1 hU hSb k sp o t okt hT hz p (by omega)
    generalize ft_cu sp o p = cu at hck hCut
    obtain ⟨⟨csp, cop⟩, cx, asp, ao⟩ := cu
    obtain ⟨k1, k2, k3, k4, k5, k6⟩ := hck
    dsimp only at k1 k2 k3 k4 k5 k6 ⊢
    have h5 := ft_len5 k3 (by omega)
    refine xC.of rfl (Nat.le_of_ble_eq_true rfl) ?_
    intro p_ e_ s_ m_ ar_ bl_ me_ c_ ls X hl
    have hl : lz ls 4 [some (.ref u), some (.ref t), some (.int (nI p)), none] := hl
    have hS : va_S (xA (fun q => q = u) H0) H0 H0 [] := va_S.rf
    have hSu : S u := hU.2.2.2
    refine x_iload_n X d_U_halves_0 rfl hl rfl ?_
    refine x_aload_n X d_U_halves_1 rfl hl rfl ?_
    refine x_getN X gT tO.2 4 (by decide) e_U_157 rfl d_U_halves_2 ?_
    refine n_icmp_ne X 21 d_U_halves_5 rfl (by omega) (by omega) (fun hn => ?_) (fun hn => absurd hn hc)
    refine x_aload_n X d_U_halves_21 rfl hl rfl ?_
    refine x_aload_n X d_U_halves_22 rfl hl rfl ?_
    refine x_iload_n X d_U_halves_23 rfl hl rfl ?_
    refine x_gor (x_runV X (hCut) b_U_cut s_U_cut v_U_cut e_U_147 hU.1 rfl rfl hl rfl (Nat.le_of_ble_eq_true rfl) d_U_halves_24 (by dsimp only [x_rm]; omega) (by dsimp only [x_rm]; omega) ⟨(by dsimp only [x_rm]; omega), (by dsimp only [x_rm]; omega)⟩) hS (xA.mono (fun _ h => h.elim) hS.1) (fun cq G1 locs hCu hF1 hS => ?_)
    obtain ⟨cb, ci_, ca, u1, u2, u3, u4⟩ := hCu
    dsimp only at u2 u3 u4
    have t_ : cTr S S H0 G1 := cTr.fr hF1 (fun _ h => h.elim)
    have hT := hT.tr t_ (fun _ _ h => h)
    have tO := tO.tr t_
    have hU := hU.mv t_ hF1 (xA.no (c_lt hU.1) (fun h => h)) hSu
    have hSb := c_sb hSb hF1.1
    refine x_astore_n X d_U_halves_27 rfl hl (by decide) rfl (fun ls hl => ?_)
    have zz := hS.1
    refine x_newO (S := S) X gH e_U_162 n_H i_H x_defH hS hSb (by dsimp only [x_rm]; omega) (by dsimp only [x_rm]; omega) d_U_halves_28 (fun oo G2 h_oo hO hF2 t_oo hS sb_ => ?_)
    have no_oo : ¬ (S) oo := c_ub hSb h_oo
    have n_oo_u : ¬ oo = u := Nat.ne_of_gt (Nat.lt_of_lt_of_le (c_lt hU.1) h_oo)
    have n_u_oo : ¬ u = oo := Nat.ne_of_lt (Nat.lt_of_lt_of_le (c_lt hU.1) h_oo)
    have t_ : cTr S (fun q => S q ∨ q = oo) G1 G2 := t_oo
    have hT := hT.tr t_ (fun _ _ h => h)
    have tO := tO.tr t_
    have u1 := u1.tr t_
    have u2 := u2.tr t_ (fun _ _ h => h)
    have u3 := u3.tr t_ (fun _ _ h => h)
    have u4 := u4.tr t_ (fun _ _ h => h)
    have hU := hU.mv t_ hF2 (fun h => h) (by first | exact hSu | exact Or.inl hSu | exact Or.inl (Or.inl hSu))
    have hSb : ∀ q, (S q ∨ q = oo) → q < G2.size := sb_
    have z_oo : H0.size ≤ oo := Nat.le_trans zz h_oo
    refine x_dup X d_U_halves_31 rfl ?_
    refine x_aload_n X d_U_halves_32 rfl hl rfl ?_
    refine x_getN X gC u1.2 0 (by decide) e_U_155 rfl d_U_halves_33 ?_
    refine x_aload_n X d_U_halves_36 rfl hl rfl ?_
    refine x_aload_n X d_U_halves_37 rfl hl rfl ?_
    refine x_getN X gC u1.2 1 (by decide) e_U_151 rfl d_U_halves_38 ?_
    refine x_aload_n X d_U_halves_41 rfl hl rfl ?_
    refine x_getN X gC u1.2 2 (by decide) e_U_160 rfl d_U_halves_42 ?_
    refine x_gor (x_runV X (C_U_front l D A _ (fun q => S q ∨ q = oo) rh E ne c0 u nn em hU hSb hrh k cx ci_ k2 u3 asp ao ca k3 u4 (by omega)) b_U_front s_U_front v_U_front e_U_71 hU.1 rfl rfl hl rfl (Nat.le_of_ble_eq_true rfl) d_U_halves_45 (by dsimp only [x_rm]; omega) (by dsimp only [x_rm]; omega) ⟨(by dsimp only [x_rm]; omega), (by dsimp only [x_rm]; omega)⟩) hS (xA.mono (fun _ h => h) hS.1) (fun ft G3 locs hFt hF3 hS => ?_)
    have t_ : cTr (fun q => S q ∨ q = oo) (fun q => S q ∨ q = oo) G2 G3 := cTr.fr hF3 (fun q h => by rw [h]; exact hU.2.2.2)
    have hO := hF3.kp hO (xA.no (c_lt hO) n_oo_u)
    have hT := hT.tr t_ (fun _ _ h => h)
    have tO := tO.tr t_
    have u1 := u1.tr t_
    have u2 := u2.tr t_ (fun _ _ h => h)
    have u3 := u3.tr t_ (fun _ _ h => h)
    have u4 := u4.tr t_ (fun _ _ h => h)
    have hU := hFt.2
    have hSb := c_sb hSb hF3.1
    have hFt1 := hFt.1
    refine x_go0 (x_runIN X (C_H_init l D A _ oo (va_P1 hO) cb ft) b_H_init rfl s_H_init e_U_164 rfl hl rfl (Nat.le_of_ble_eq_true rfl) d_U_halves_48 (by dsimp only [x_rm]; omega) (by dsimp only [x_rm]; omega) ⟨(by dsimp only [x_rm]; omega), (by dsimp only [x_rm]; omega)⟩) hS (xA.one z_oo hS.1) (fun G4 locs hO_ hF4 hS => ?_)
    have t_ : cTr (fun q => S q ∨ q = oo) S G3 G4 := cTr.done hF4
    have hT := hT.tr t_ (fun _ _ h => h)
    have tO := tO.tr t_
    have u1 := u1.tr t_
    have u2 := u2.tr t_ (fun _ _ h => h)
    have u3 := u3.tr t_ (fun _ _ h => h)
    have u4 := u4.tr t_ (fun _ _ h => h)
    have hFt1 := hFt1.tr t_ (fun _ _ h => h)
    have hU := hU.mv t_ hF4 (xA.no (c_lt hU.1) n_u_oo) hSu
    have hSb := c_sbo hSb hF4.1
    have hO := hO_
    exact x_aret X (Or.inl ⟨_, rfl⟩) hS (by omega) (by omega) d_U_halves_51 ⟨_, rfl, ⟨cb, ft, ⟨no_oo, hO⟩, u2, hFt1⟩, hU⟩
