/-! The class: join. -/
set_option maxRecDepth 100000 in
set_option maxHeartbeats 4000000 in
theorem C_U_join (l : Launch) (D : va_G) (A : Nat → ClassId) (H0 : Heap) (S : Nat → Prop) (rh : Nat → Nat) (E : ft_E) (ne : Nat) (c0 : ft_C) (u nn em : Nat) (hU : cUs D A S rh E u nn em c0.1 H0) (hSb : ∀ q, S q → q < H0.size) (hrh : ∀ n, c0.1 < n → rh n = n) (k : Nat) (lr1 : List ft_I) (as1 : List Nat) (r1 : Nat) (ok1 : ft_okR ne c0.1 c0.2 k lr1) (hr1 : cRw D A S as1 r1 H0) (hL1 : cL D A S rh E lr1 as1 H0) (h91 : lr1.length < 64) (hz1 : ft_zR lr1 < 4096) (sp : ft_S) (o : Option ft_I) (t : Nat) (okt : ft_okT ne c0.1 c0.2 k sp o) (hT : cT D A S rh E sp o t H0) (sp2 : ft_S) (o2 : Option ft_I) (t2 : Nat) (okt2 : ft_okT ne c0.1 c0.2 k sp2 o2) (hT2 : cT D A S rh E sp2 o2 t2 H0) (h4 : lr1.length ≤ 4) (hz : ft_zT sp o + ft_zR lr1 + ft_zT sp2 o2 < 64) : xC l y_U_join c_U_join 5 (some (.object "FingerSpans$Tree")) (sp.length + 13) D A H0 [.ref u, .ref t, .ref r1, .ref t2] (xA (fun q => q = u) H0) (qr (fun r H1 => cT D A S rh E (ft_jn sp o lr1 sp2 o2 c0).1.1 (ft_jn sp o lr1 sp2 o2 c0).1.2 r H1 ∧ cUs D A S rh E u nn em (ft_jn sp o lr1 sp2 o2 c0).2.1 H1)) (20 * sp.length + 130) (160 * sp.length + 1000) := by
  obtain ⟨tl, tr, tmv, trs, tO⟩ := cT_obj hT
  obtain ⟨tl2, tr2, tmv2, trs2, tO2⟩ := cT_obj hT2
  have hlen1 := cL_len hL1
  induction sp generalizing H0 S c0 k lr1 as1 r1 t sp2 t2 tl tr tmv trs tl2 tr2 tmv2 trs2 with
  | nil =>
    cases o with
    | none =>
      refine xC.of rfl (Nat.le_of_ble_eq_true rfl) ?_
      intro p_ e_ s_ m_ ar_ bl_ me_ c_ ls X hl
      have hl : lz ls 5 [some (.ref u), some (.ref t), some (.ref r1), some (.ref t2), none] := hl
      have hS : va_S (xA (fun q => q = u) H0) H0 H0 [] := va_S.rf
      have hSu : S u := hU.2.2.2
      refine x_aload_n X d_U_join_0 rfl hl rfl ?_
      refine x_goR (x_runVN X (C_T_isEmpty l D A _ S rh E ne c0.1 c0.2 k [] none t okt hT (by omega)) b_T_isEmpty s_T_isEmpty v_T_isEmpty e_U_37 tO.2 rfl rfl hl rfl (Nat.le_of_ble_eq_true rfl) d_U_join_1 (by dsimp only [x_rm]; omega) (by dsimp only [x_rm]; omega) ⟨(by dsimp only [x_rm]; omega), (by dsimp only [x_rm]; omega)⟩) hS (fun locs hS => ?_)
      rw [show (if ft_em [] none then 1 else 0) = 1 from rfl]
      refine n_if_eq X 14 d_U_join_4 rfl (by decide) (fun hc => absurd hc (by decide)) (fun hc => ?_)
      refine x_aload_n X d_U_join_7 rfl hl rfl ?_
      refine x_aload_n X d_U_join_8 rfl hl rfl ?_
      refine x_aload_n X d_U_join_9 rfl hl rfl ?_
      have hz0 : ft_zT [] (none : Option ft_I) = 0 := rfl
      refine x_gor (x_runV X (C_U_allFront l D A _ S rh E ne c0 u nn em hU hSb hrh k lr1 as1 r1 ok1 hr1 hL1 h91 hz1 sp2 o2 t2 okt2 hT2 h4 (by omega)) b_U_allFront s_U_allFront v_U_allFront e_U_111 hU.1 rfl rfl hl rfl (Nat.le_of_ble_eq_true rfl) d_U_join_10 (by dsimp only [x_rm]; omega) (by dsimp only [x_rm]; omega) ⟨(by dsimp only [x_rm]; omega), (by dsimp only [x_rm]; omega)⟩) hS (xA.mono (fun _ h => h) hS.1) (fun r G1 locs hR hF1 hS => ?_)
      have t_ : cTr S S H0 G1 := cTr.fr hF1 (fun q h => by rw [h]; exact hU.2.2.2)
      have hr1 := hr1.tr t_
      have hL1 := hL1.tr t_ (fun _ _ h => h)
      have hT := hT.tr t_ (fun _ _ h => h)
      have hT2 := hT2.tr t_ (fun _ _ h => h)
      have tO := tO.tr t_
      have tO2 := tO2.tr t_
      have hU := hR.2
      have hSb := c_sb hSb hF1.1
      exact x_aret X (Or.inl ⟨_, rfl⟩) hS (by omega) (by omega) d_U_join_13 ⟨_, rfl, hR.1, hU⟩
    | some x =>
      have hz0 : ft_zT [] (some x) = ft_z x := rfl
      cases he2 : ft_em sp2 o2 with
      | true =>
        have hj : ft_jn [] (some x) lr1 sp2 o2 c0 = ft_ab lr1 (([], some x), c0) := by
          show (if ft_em sp2 o2 then _ else _) = _
          rw [he2]; rfl
        rw [hj]
        refine xC.of rfl (Nat.le_of_ble_eq_true rfl) ?_
        intro p_ e_ s_ m_ ar_ bl_ me_ c_ ls X hl
        have hl : lz ls 5 [some (.ref u), some (.ref t), some (.ref r1), some (.ref t2), none] := hl
        have hS : va_S (xA (fun q => q = u) H0) H0 H0 [] := va_S.rf
        have hSu : S u := hU.2.2.2
        refine x_aload_n X d_U_join_0 rfl hl rfl ?_
        refine x_goR (x_runVN X (C_T_isEmpty l D A _ S rh E ne c0.1 c0.2 k [] (some x) t okt hT (by omega)) b_T_isEmpty s_T_isEmpty v_T_isEmpty e_U_37 tO.2 rfl rfl hl rfl (Nat.le_of_ble_eq_true rfl) d_U_join_1 (by dsimp only [x_rm]; omega) (by dsimp only [x_rm]; omega) ⟨(by dsimp only [x_rm]; omega), (by dsimp only [x_rm]; omega)⟩) hS (fun locs hS => ?_)
        rw [show (if ft_em [] (some x) then 1 else 0) = 0 from rfl]
        refine n_if_eq X 14 d_U_join_4 rfl (by decide) (fun hc => ?_) (fun hc => absurd rfl hc)
        refine x_aload_n X d_U_join_14 rfl hl rfl ?_
        refine x_goR (x_runVN X (C_T_isEmpty l D A _ S rh E ne c0.1 c0.2 k sp2 o2 t2 okt2 hT2 (by omega)) b_T_isEmpty s_T_isEmpty v_T_isEmpty e_U_37 tO2.2 rfl rfl hl rfl (Nat.le_of_ble_eq_true rfl) d_U_join_15 (by dsimp only [x_rm]; omega) (by dsimp only [x_rm]; omega) ⟨(by dsimp only [x_rm]; omega), (by dsimp only [x_rm]; omega)⟩) hS (fun locs hS => ?_)
        rw [show (if ft_em sp2 o2 then 1 else 0) = 1 from by rw [he2]; rfl]
        refine n_if_eq X 28 d_U_join_18 rfl (by decide) (fun hc => absurd hc (by decide)) (fun hc => ?_)
        refine x_aload_n X d_U_join_21 rfl hl rfl ?_
        refine x_aload_n X d_U_join_22 rfl hl rfl ?_
        refine x_aload_n X d_U_join_23 rfl hl rfl ?_
        refine x_gor (x_runV X (C_U_allBack l D A _ S rh E ne c0 u nn em hU hSb hrh k lr1 as1 r1 ok1 hr1 hL1 h91 hz1 [] (some x) t okt hT h4 (by omega)) b_U_allBack s_U_allBack v_U_allBack e_U_115 hU.1 rfl rfl hl rfl (Nat.le_of_ble_eq_true rfl) d_U_join_24 (by dsimp only [x_rm]; omega) (by dsimp only [x_rm]; omega) ⟨(by dsimp only [x_rm]; omega), (by dsimp only [x_rm]; omega)⟩) hS (xA.mono (fun _ h => h) hS.1) (fun r G1 locs hR hF1 hS => ?_)
        have t_ : cTr S S H0 G1 := cTr.fr hF1 (fun q h => by rw [h]; exact hU.2.2.2)
        have hr1 := hr1.tr t_
        have hL1 := hL1.tr t_ (fun _ _ h => h)
        have hT := hT.tr t_ (fun _ _ h => h)
        have hT2 := hT2.tr t_ (fun _ _ h => h)
        have tO := tO.tr t_
        have tO2 := tO2.tr t_
        have hU := hR.2
        have hSb := c_sb hSb hF1.1
        exact x_aret X (Or.inl ⟨_, rfl⟩) hS (by omega) (by omega) d_U_join_27 ⟨_, rfl, hR.1, hU⟩
      | false =>
        have hj : ft_jn [] (some x) lr1 sp2 o2 c0 = ft_fr x (ft_af lr1 ((sp2, o2), c0)).1.1 (ft_af lr1 ((sp2, o2), c0)).1.2 (ft_af lr1 ((sp2, o2), c0)).2 := by
          show (if ft_em sp2 o2 then _ else _) = _
          rw [he2]; rfl
        rw [hj]
        obtain ⟨e1, e2, e3⟩ := ft_af_ok lr1 ((sp2, o2), c0) ok1 okt2
        dsimp only at e1 e2 e3
        have h5 := ft_len5 e2 (by omega)
        refine xC.of rfl (Nat.le_of_ble_eq_true rfl) ?_
        intro p_ e_ s_ m_ ar_ bl_ me_ c_ ls X hl
        have hl : lz ls 5 [some (.ref u), some (.ref t), some (.ref r1), some (.ref t2), none] := hl
        have hS : va_S (xA (fun q => q = u) H0) H0 H0 [] := va_S.rf
        have hSu : S u := hU.2.2.2
        refine x_aload_n X d_U_join_0 rfl hl rfl ?_
        refine x_goR (x_runVN X (C_T_isEmpty l D A _ S rh E ne c0.1 c0.2 k [] (some x) t okt hT (by omega)) b_T_isEmpty s_T_isEmpty v_T_isEmpty e_U_37 tO.2 rfl rfl hl rfl (Nat.le_of_ble_eq_true rfl) d_U_join_1 (by dsimp only [x_rm]; omega) (by dsimp only [x_rm]; omega) ⟨(by dsimp only [x_rm]; omega), (by dsimp only [x_rm]; omega)⟩) hS (fun locs hS => ?_)
        rw [show (if ft_em [] (some x) then 1 else 0) = 0 from rfl]
        refine n_if_eq X 14 d_U_join_4 rfl (by decide) (fun hc => ?_) (fun hc => absurd rfl hc)
        refine x_aload_n X d_U_join_14 rfl hl rfl ?_
        refine x_goR (x_runVN X (C_T_isEmpty l D A _ S rh E ne c0.1 c0.2 k sp2 o2 t2 okt2 hT2 (by omega)) b_T_isEmpty s_T_isEmpty v_T_isEmpty e_U_37 tO2.2 rfl rfl hl rfl (Nat.le_of_ble_eq_true rfl) d_U_join_15 (by dsimp only [x_rm]; omega) (by dsimp only [x_rm]; omega) ⟨(by dsimp only [x_rm]; omega), (by dsimp only [x_rm]; omega)⟩) hS (fun locs hS => ?_)
        rw [show (if ft_em sp2 o2 then 1 else 0) = 0 from by rw [he2]; rfl]
        refine n_if_eq X 28 d_U_join_18 rfl (by decide) (fun hc => ?_) (fun hc => absurd rfl hc)
        refine x_aload_n X d_U_join_28 rfl hl rfl ?_
        refine x_goR (x_runVN X (C_T_isDeep l D A _ S rh E ne c0.1 c0.2 k [] (some x) t okt hT (by omega)) b_T_isDeep s_T_isDeep v_T_isDeep e_U_45 tO.2 rfl rfl hl rfl (Nat.le_of_ble_eq_true rfl) d_U_join_29 (by dsimp only [x_rm]; omega) (by dsimp only [x_rm]; omega) ⟨(by dsimp only [x_rm]; omega), (by dsimp only [x_rm]; omega)⟩) hS (fun locs hS => ?_)
        rw [show ft_de [] = 0 from rfl]
        refine n_if_ne X 50 d_U_join_32 rfl (by decide) (fun hc => absurd rfl hc) (fun hc => ?_)
        refine x_aload_n X d_U_join_35 rfl hl rfl ?_
        refine x_aload_n X d_U_join_36 rfl hl rfl ?_
        refine x_goRr (x_runVN X (C_T_first l D A _ S rh E ne c0.1 c0.2 k [] (some x) t okt hT (by omega) rfl) b_T_first s_T_first v_T_first e_U_94 tO.2 rfl rfl hl rfl (Nat.le_of_ble_eq_true rfl) d_U_join_37 (by dsimp only [x_rm]; omega) (by dsimp only [x_rm]; omega) ⟨(by dsimp only [x_rm]; omega), (by dsimp only [x_rm]; omega)⟩) hS (fun fb locs hfb hS => ?_)
        have hfb : cI D A S rh E x [fb] H0 := hfb
        refine x_aload_n X d_U_join_40 rfl hl rfl ?_
        refine x_aload_n X d_U_join_41 rfl hl rfl ?_
        refine x_aload_n X d_U_join_42 rfl hl rfl ?_
        refine x_gor (x_runV X (C_U_allFront l D A _ S rh E ne c0 u nn em hU hSb hrh k lr1 as1 r1 ok1 hr1 hL1 h91 hz1 sp2 o2 t2 okt2 hT2 h4 (by omega)) b_U_allFront s_U_allFront v_U_allFront e_U_111 hU.1 rfl rfl hl rfl (Nat.le_of_ble_eq_true rfl) d_U_join_43 (by dsimp only [x_rm]; omega) (by dsimp only [x_rm]; omega) ⟨(by dsimp only [x_rm]; omega), (by dsimp only [x_rm]; omega)⟩) hS (xA.mono (fun _ h => h) hS.1) (fun r G1 locs hR hF1 hS => ?_)
        have t_ : cTr S S H0 G1 := cTr.fr hF1 (fun q h => by rw [h]; exact hU.2.2.2)
        have hr1 := hr1.tr t_
        have hL1 := hL1.tr t_ (fun _ _ h => h)
        have hT := hT.tr t_ (fun _ _ h => h)
        have hT2 := hT2.tr t_ (fun _ _ h => h)
        have tO := tO.tr t_
        have tO2 := tO2.tr t_
        have hfb := hfb.tr t_ (fun _ _ h => h)
        have hU := hR.2
        have hSb := c_sb hSb hF1.1
        have hRt := hR.1
        refine x_gor (x_runV X (C_U_front l D A _ S rh E ne (ft_af lr1 ((sp2, o2), c0)).2 u nn em hU hSb (fun n hn => hrh n (Nat.lt_of_le_of_lt e1.1 hn)) k x fb (ft_ok_ex e1 okt) hfb (ft_af lr1 ((sp2, o2), c0)).1.1 (ft_af lr1 ((sp2, o2), c0)).1.2 r e2 hRt (by omega)) b_U_front s_U_front v_U_front e_U_71 hU.1 rfl rfl hl rfl (Nat.le_of_ble_eq_true rfl) d_U_join_46 (by dsimp only [x_rm]; omega) (by dsimp only [x_rm]; omega) ⟨(by dsimp only [x_rm]; omega), (by dsimp only [x_rm]; omega)⟩) hS (xA.mono (fun _ h => h) hS.1) (fun r9 G2 locs hR9 hF2 hS => ?_)
        have t_ : cTr S S G1 G2 := cTr.fr hF2 (fun q h => by rw [h]; exact hU.2.2.2)
        have hr1 := hr1.tr t_
        have hL1 := hL1.tr t_ (fun _ _ h => h)
        have hT := hT.tr t_ (fun _ _ h => h)
        have hT2 := hT2.tr t_ (fun _ _ h => h)
        have tO := tO.tr t_
        have tO2 := tO2.tr t_
        have hfb := hfb.tr t_ (fun _ _ h => h)
        have hRt := hRt.tr t_ (fun _ _ h => h)
        have hU := hR9.2
        have hSb := c_sb hSb hF2.1
        exact x_aret X (Or.inl ⟨_, rfl⟩) hS (by omega) (by omega) d_U_join_49 ⟨_, rfl, hR9.1, hU⟩
  | cons d sp ih =>
    have hzz : ft_zT (d :: sp) o = ft_zR d.1 + ft_zT sp o + ft_zR d.2 := rfl
    cases sp2 with
    | nil =>
      cases o2 with
      | none =>
        have he2 : ft_em [] (none : Option ft_I) = true := rfl
        refine xC.of rfl (Nat.le_of_ble_eq_true rfl) ?_
        intro p_ e_ s_ m_ ar_ bl_ me_ c_ ls X hl
        have hl : lz ls 5 [some (.ref u), some (.ref t), some (.ref r1), some (.ref t2), none] := hl
        have hS : va_S (xA (fun q => q = u) H0) H0 H0 [] := va_S.rf
        have hSu : S u := hU.2.2.2
        refine x_aload_n X d_U_join_0 rfl hl rfl ?_
        refine x_goR (x_runVN X (C_T_isEmpty l D A _ S rh E ne c0.1 c0.2 k (d :: sp) o t okt hT (by omega)) b_T_isEmpty s_T_isEmpty v_T_isEmpty e_U_37 tO.2 rfl rfl hl rfl (Nat.le_of_ble_eq_true rfl) d_U_join_1 (by dsimp only [x_rm]; omega) (by dsimp only [x_rm]; omega) ⟨(by dsimp only [x_rm]; omega), (by dsimp only [x_rm]; omega)⟩) hS (fun locs hS => ?_)
        rw [show (if ft_em (d :: sp) o then 1 else 0) = 0 from rfl]
        refine n_if_eq X 14 d_U_join_4 rfl (by decide) (fun hc => ?_) (fun hc => absurd rfl hc)
        refine x_aload_n X d_U_join_14 rfl hl rfl ?_
        refine x_goR (x_runVN X (C_T_isEmpty l D A _ S rh E ne c0.1 c0.2 k [] none t2 okt2 hT2 (by omega)) b_T_isEmpty s_T_isEmpty v_T_isEmpty e_U_37 tO2.2 rfl rfl hl rfl (Nat.le_of_ble_eq_true rfl) d_U_join_15 (by dsimp only [x_rm]; omega) (by dsimp only [x_rm]; omega) ⟨(by dsimp only [x_rm]; omega), (by dsimp only [x_rm]; omega)⟩) hS (fun locs hS => ?_)
        rw [show (if ft_em [] none then 1 else 0) = 1 from by rw [he2]; rfl]
        refine n_if_eq X 28 d_U_join_18 rfl (by decide) (fun hc => absurd hc (by decide)) (fun hc => ?_)
        refine x_aload_n X d_U_join_21 rfl hl rfl ?_
        refine x_aload_n X d_U_join_22 rfl hl rfl ?_
        refine x_aload_n X d_U_join_23 rfl hl rfl ?_
        refine x_gor (x_runV X (C_U_allBack l D A _ S rh E ne c0 u nn em hU hSb hrh k lr1 as1 r1 ok1 hr1 hL1 h91 hz1 (d :: sp) o t okt hT h4 (by omega)) b_U_allBack s_U_allBack v_U_allBack e_U_115 hU.1 rfl rfl hl rfl (Nat.le_of_ble_eq_true rfl) d_U_join_24 (by dsimp only [x_rm]; omega) (by dsimp only [x_rm]; omega) ⟨(by dsimp only [x_rm]; omega), (by dsimp only [x_rm]; omega)⟩) hS (xA.mono (fun _ h => h) hS.1) (fun r G1 locs hR hF1 hS => ?_)
        have t_ : cTr S S H0 G1 := cTr.fr hF1 (fun q h => by rw [h]; exact hU.2.2.2)
        have hr1 := hr1.tr t_
        have hL1 := hL1.tr t_ (fun _ _ h => h)
        have hT := hT.tr t_ (fun _ _ h => h)
        have hT2 := hT2.tr t_ (fun _ _ h => h)
        have tO := tO.tr t_
        have tO2 := tO2.tr t_
        have hU := hR.2
        have hSb := c_sb hSb hF1.1
        exact x_aret X (Or.inl ⟨_, rfl⟩) hS (by omega) (by omega) d_U_join_27 ⟨_, rfl, hR.1, hU⟩
      | some y =>
        have he2 : ft_em [] (some y) = false := rfl
        have hz0 : ft_zT [] (some y) = ft_z y := rfl
        have hj : ft_jn (d :: sp) o lr1 [] (some y) c0 = ft_bk (ft_ab lr1 ((d :: sp, o), c0)).1.1 (ft_ab lr1 ((d :: sp, o), c0)).1.2 y (ft_ab lr1 ((d :: sp, o), c0)).2 := rfl
        rw [hj]
        obtain ⟨e1, e2, e3⟩ := ft_ab_ok lr1 ((d :: sp, o), c0) ok1 okt
        dsimp only at e1 e2 e3
        have h5 := ft_len5 e2 (by omega)
        refine xC.of rfl (Nat.le_of_ble_eq_true rfl) ?_
        intro p_ e_ s_ m_ ar_ bl_ me_ c_ ls X hl
        have hl : lz ls 5 [some (.ref u), some (.ref t), some (.ref r1), some (.ref t2), none] := hl
        have hS : va_S (xA (fun q => q = u) H0) H0 H0 [] := va_S.rf
        have hSu : S u := hU.2.2.2
        refine x_aload_n X d_U_join_0 rfl hl rfl ?_
        refine x_goR (x_runVN X (C_T_isEmpty l D A _ S rh E ne c0.1 c0.2 k (d :: sp) o t okt hT (by omega)) b_T_isEmpty s_T_isEmpty v_T_isEmpty e_U_37 tO.2 rfl rfl hl rfl (Nat.le_of_ble_eq_true rfl) d_U_join_1 (by dsimp only [x_rm]; omega) (by dsimp only [x_rm]; omega) ⟨(by dsimp only [x_rm]; omega), (by dsimp only [x_rm]; omega)⟩) hS (fun locs hS => ?_)
        rw [show (if ft_em (d :: sp) o then 1 else 0) = 0 from rfl]
        refine n_if_eq X 14 d_U_join_4 rfl (by decide) (fun hc => ?_) (fun hc => absurd rfl hc)
        refine x_aload_n X d_U_join_14 rfl hl rfl ?_
        refine x_goR (x_runVN X (C_T_isEmpty l D A _ S rh E ne c0.1 c0.2 k [] (some y) t2 okt2 hT2 (by omega)) b_T_isEmpty s_T_isEmpty v_T_isEmpty e_U_37 tO2.2 rfl rfl hl rfl (Nat.le_of_ble_eq_true rfl) d_U_join_15 (by dsimp only [x_rm]; omega) (by dsimp only [x_rm]; omega) ⟨(by dsimp only [x_rm]; omega), (by dsimp only [x_rm]; omega)⟩) hS (fun locs hS => ?_)
        rw [show (if ft_em [] (some y) then 1 else 0) = 0 from by rw [he2]; rfl]
        refine n_if_eq X 28 d_U_join_18 rfl (by decide) (fun hc => ?_) (fun hc => absurd rfl hc)
        refine x_aload_n X d_U_join_28 rfl hl rfl ?_
        refine x_goR (x_runVN X (C_T_isDeep l D A _ S rh E ne c0.1 c0.2 k (d :: sp) o t okt hT (by omega)) b_T_isDeep s_T_isDeep v_T_isDeep e_U_45 tO.2 rfl rfl hl rfl (Nat.le_of_ble_eq_true rfl) d_U_join_29 (by dsimp only [x_rm]; omega) (by dsimp only [x_rm]; omega) ⟨(by dsimp only [x_rm]; omega), (by dsimp only [x_rm]; omega)⟩) hS (fun locs hS => ?_)
        rw [show ft_de (d :: sp) = 1 from rfl]
        refine n_if_ne X 50 d_U_join_32 rfl (by decide) (fun hc => ?_) (fun hc => absurd hc (by decide))
        refine x_aload_n X d_U_join_50 rfl hl rfl ?_
        refine x_goR (x_runVN X (C_T_isDeep l D A _ S rh E ne c0.1 c0.2 k [] (some y) t2 okt2 hT2 (by omega)) b_T_isDeep s_T_isDeep v_T_isDeep e_U_45 tO2.2 rfl rfl hl rfl (Nat.le_of_ble_eq_true rfl) d_U_join_51 (by dsimp only [x_rm]; omega) (by dsimp only [x_rm]; omega) ⟨(by dsimp only [x_rm]; omega), (by dsimp only [x_rm]; omega)⟩) hS (fun locs hS => ?_)
        rw [show ft_de [] = 0 from rfl]
        refine n_if_ne X 72 d_U_join_54 rfl (by decide) (fun hc => absurd rfl hc) (fun hc => ?_)
        refine x_aload_n X d_U_join_57 rfl hl rfl ?_
        refine x_aload_n X d_U_join_58 rfl hl rfl ?_
        refine x_aload_n X d_U_join_59 rfl hl rfl ?_
        refine x_aload_n X d_U_join_60 rfl hl rfl ?_
        refine x_gor (x_runV X (C_U_allBack l D A _ S rh E ne c0 u nn em hU hSb hrh k lr1 as1 r1 ok1 hr1 hL1 h91 hz1 (d :: sp) o t okt hT h4 (by omega)) b_U_allBack s_U_allBack v_U_allBack e_U_115 hU.1 rfl rfl hl rfl (Nat.le_of_ble_eq_true rfl) d_U_join_61 (by dsimp only [x_rm]; omega) (by dsimp only [x_rm]; omega) ⟨(by dsimp only [x_rm]; omega), (by dsimp only [x_rm]; omega)⟩) hS (xA.mono (fun _ h => h) hS.1) (fun r G1 locs hR hF1 hS => ?_)
        have t_ : cTr S S H0 G1 := cTr.fr hF1 (fun q h => by rw [h]; exact hU.2.2.2)
        have hr1 := hr1.tr t_
        have hL1 := hL1.tr t_ (fun _ _ h => h)
        have hT := hT.tr t_ (fun _ _ h => h)
        have hT2 := hT2.tr t_ (fun _ _ h => h)
        have tO := tO.tr t_
        have tO2 := tO2.tr t_
        have hU := hR.2
        have hSb := c_sb hSb hF1.1
        have hRt := hR.1
        refine x_aload_n X d_U_join_64 rfl hl rfl ?_
        refine x_goRr (x_runVN X (C_T_first l D A _ S rh E ne c0.1 c0.2 k [] (some y) t2 okt2 hT2 (by omega) rfl) b_T_first s_T_first v_T_first e_U_94 tO2.2 rfl rfl hl rfl (Nat.le_of_ble_eq_true rfl) d_U_join_65 (by dsimp only [x_rm]; omega) (by dsimp only [x_rm]; omega) ⟨(by dsimp only [x_rm]; omega), (by dsimp only [x_rm]; omega)⟩) hS (fun fb locs hfb hS => ?_)
        have hfb : cI D A S rh E y [fb] G1 := hfb
        refine x_gor (x_runV X (C_U_back l D A _ S rh E ne (ft_ab lr1 ((d :: sp, o), c0)).2 u nn em hU hSb (fun n hn => hrh n (Nat.lt_of_le_of_lt e1.1 hn)) k y fb (ft_ok_ex e1 okt2) hfb (ft_ab lr1 ((d :: sp, o), c0)).1.1 (ft_ab lr1 ((d :: sp, o), c0)).1.2 r e2 hRt (by omega)) b_U_back s_U_back v_U_back e_U_78 hU.1 rfl rfl hl rfl (Nat.le_of_ble_eq_true rfl) d_U_join_68 (by dsimp only [x_rm]; omega) (by dsimp only [x_rm]; omega) ⟨(by dsimp only [x_rm]; omega), (by dsimp only [x_rm]; omega)⟩) hS (xA.mono (fun _ h => h) hS.1) (fun r9 G2 locs hR9 hF2 hS => ?_)
        have t_ : cTr S S G1 G2 := cTr.fr hF2 (fun q h => by rw [h]; exact hU.2.2.2)
        have hr1 := hr1.tr t_
        have hL1 := hL1.tr t_ (fun _ _ h => h)
        have hT := hT.tr t_ (fun _ _ h => h)
        have hT2 := hT2.tr t_ (fun _ _ h => h)
        have tO := tO.tr t_
        have tO2 := tO2.tr t_
        have hRt := hRt.tr t_ (fun _ _ h => h)
        have hfb := hfb.tr t_ (fun _ _ h => h)
        have hU := hR9.2
        have hSb := c_sb hSb hF2.1
        exact x_aret X (Or.inl ⟨_, rfl⟩) hS (by omega) (by omega) d_U_join_71 ⟨_, rfl, hR9.1, hU⟩
    | cons d2 sp2 =>
      have he2 : ft_em (d2 :: sp2) o2 = false := rfl
      have hzz2 : ft_zT (d2 :: sp2) o2 = ft_zR d2.1 + ft_zT sp2 o2 + ft_zR d2.2 := rfl
      have ok0 := okt
      have ok02 := okt2
      have hT0 := hT
      have hT02 := hT2
      obtain ⟨lc, mt, rc, as, bs, t1, t2_, t3, t4, tb, tm⟩ := hT
      obtain ⟨o1, o2_, o3⟩ := okt
      obtain ⟨lc2, mt2, rc2, asb, bsb, s1, s2, s3, s4, sb, sm⟩ := hT2
      obtain ⟨p1, p2, p3⟩ := okt2
      have hlb := cL_len tb
      have hla := cL_len s4
      have okj : ft_okR ne c0.1 c0.2 k (d.2 ++ lr1 ++ d2.1) := ft_okR_app (ft_okR_app o2_.2.2 ok1) p1.2.2
      have hjl : (d.2 ++ lr1 ++ d2.1).length = d.2.length + lr1.length + d2.1.length := by rw [List.length_append, List.length_append]
      have hjl1 : (d.2 ++ lr1).length = d.2.length + lr1.length := List.length_append ..
      have hjz : ft_zR (d.2 ++ lr1 ++ d2.1) = ft_zR d.2 + ft_zR lr1 + ft_zR d2.1 := by rw [ft_zR_app, ft_zR_app]
      have hjz1 : ft_zR (d.2 ++ lr1) = ft_zR d.2 + ft_zR lr1 := ft_zR_app ..
      obtain ⟨g1, g2, g3, g4, g5⟩ := ft_gr_ok (ne := ne) (k := k) 16 (d.2 ++ lr1 ++ d2.1) c0 (by omega) (by omega) okj
      have hj : ft_jn (d :: sp) o lr1 (d2 :: sp2) o2 c0 = (((d.1, d2.2) :: (ft_jn sp o (ft_gr 16 (d.2 ++ lr1 ++ d2.1) c0).1 sp2 o2 (ft_gr 16 (d.2 ++ lr1 ++ d2.1) c0).2).1.1, (ft_jn sp o (ft_gr 16 (d.2 ++ lr1 ++ d2.1) c0).1 sp2 o2 (ft_gr 16 (d.2 ++ lr1 ++ d2.1) c0).2).1.2), (ft_jn sp o (ft_gr 16 (d.2 ++ lr1 ++ d2.1) c0).1 sp2 o2 (ft_gr 16 (d.2 ++ lr1 ++ d2.1) c0).2).2) := rfl
      rw [hj, List.length_cons]
      have hle : (d :: sp).length = sp.length + 1 := rfl
      refine xC.of rfl (Nat.le_of_ble_eq_true rfl) ?_
      intro p_ e_ s_ m_ ar_ bl_ me_ c_ ls X hl
      have hl : lz ls 5 [some (.ref u), some (.ref t), some (.ref r1), some (.ref t2), none] := hl
      have hS : va_S (xA (fun q => q = u) H0) H0 H0 [] := va_S.rf
      have hSu : S u := hU.2.2.2
      refine x_aload_n X d_U_join_0 rfl hl rfl ?_
      refine x_goR (x_runVN X (C_T_isEmpty l D A _ S rh E ne c0.1 c0.2 k (d :: sp) o t ok0 hT0 (by omega)) b_T_isEmpty s_T_isEmpty v_T_isEmpty e_U_37 t1.2 rfl rfl hl rfl (Nat.le_of_ble_eq_true rfl) d_U_join_1 (by dsimp only [x_rm]; omega) (by dsimp only [x_rm]; omega) ⟨(by dsimp only [x_rm]; omega), (by dsimp only [x_rm]; omega)⟩) hS (fun locs hS => ?_)
      rw [show (if ft_em (d :: sp) o then 1 else 0) = 0 from rfl]
      refine n_if_eq X 14 d_U_join_4 rfl (by decide) (fun hc => ?_) (fun hc => absurd rfl hc)
      refine x_aload_n X d_U_join_14 rfl hl rfl ?_
      refine x_goR (x_runVN X (C_T_isEmpty l D A _ S rh E ne c0.1 c0.2 k (d2 :: sp2) o2 t2 ok02 hT02 (by omega)) b_T_isEmpty s_T_isEmpty v_T_isEmpty e_U_37 s1.2 rfl rfl hl rfl (Nat.le_of_ble_eq_true rfl) d_U_join_15 (by dsimp only [x_rm]; omega) (by dsimp only [x_rm]; omega) ⟨(by dsimp only [x_rm]; omega), (by dsimp only [x_rm]; omega)⟩) hS (fun locs hS => ?_)
      rw [show (if ft_em (d2 :: sp2) o2 then 1 else 0) = 0 from rfl]
      refine n_if_eq X 28 d_U_join_18 rfl (by decide) (fun hc => ?_) (fun hc => absurd rfl hc)
      refine x_aload_n X d_U_join_28 rfl hl rfl ?_
      refine x_goR (x_runVN X (C_T_isDeep l D A _ S rh E ne c0.1 c0.2 k (d :: sp) o t ok0 hT0 (by omega)) b_T_isDeep s_T_isDeep v_T_isDeep e_U_45 t1.2 rfl rfl hl rfl (Nat.le_of_ble_eq_true rfl) d_U_join_29 (by dsimp only [x_rm]; omega) (by dsimp only [x_rm]; omega) ⟨(by dsimp only [x_rm]; omega), (by dsimp only [x_rm]; omega)⟩) hS (fun locs hS => ?_)
      rw [show ft_de (d :: sp) = 1 from rfl]
      refine n_if_ne X 50 d_U_join_32 rfl (by decide) (fun hc => ?_) (fun hc => absurd hc (by decide))
      refine x_aload_n X d_U_join_50 rfl hl rfl ?_
      refine x_goR (x_runVN X (C_T_isDeep l D A _ S rh E ne c0.1 c0.2 k (d2 :: sp2) o2 t2 ok02 hT02 (by omega)) b_T_isDeep s_T_isDeep v_T_isDeep e_U_45 s1.2 rfl rfl hl rfl (Nat.le_of_ble_eq_true rfl) d_U_join_51 (by dsimp only [x_rm]; omega) (by dsimp only [x_rm]; omega) ⟨(by dsimp only [x_rm]; omega), (by dsimp only [x_rm]; omega)⟩) hS (fun locs hS => ?_)
      rw [show ft_de (d2 :: sp2) = 1 from rfl]
      refine n_if_ne X 72 d_U_join_54 rfl (by decide) (fun hc => ?_) (fun hc => absurd hc (by decide))
      refine x_aload_n X d_U_join_72 rfl hl rfl ?_
      refine x_aload_n X d_U_join_73 rfl hl rfl ?_
      refine x_getN X gT t1.2 2 (by decide) e_U_60 rfl d_U_join_74 ?_
      refine x_aload_n X d_U_join_77 rfl hl rfl ?_
      refine x_gor (x_runSN X (C_R_joined l D A _ S rh E ne c0.1 c0.2 k d.2 bs rc o2_.2.2 t3 tb (by omega) (by omega) lr1 as1 r1 ok1 hr1 hL1 h91 hz1 (by omega)) b_R_joined s_R_joined e_U_51 rfl hl rfl (Nat.le_of_ble_eq_true rfl) d_U_join_78 (by dsimp only [x_rm]; omega) (by dsimp only [x_rm]; omega) ⟨(by dsimp only [x_rm]; omega), (by dsimp only [x_rm]; omega)⟩) hS (xA.mono (fun _ h => h.elim) hS.1) (fun q1 G1 locs hR_ hF1 hS => ?_)
      have hq1 := hR_.rw hSb
      have t_ : cTr S S H0 G1 := cTr.fr hF1 (fun _ h => h.elim)
      have hr1 := hr1.tr t_
      have hL1 := hL1.tr t_ (fun _ _ h => h)
      have t1 := t1.tr t_
      have t2_ := t2_.tr t_
      have t4 := t4.tr t_ (fun _ _ h => h)
      have t3 := t3.tr t_
      have tb := tb.tr t_ (fun _ _ h => h)
      have tm := tm.tr t_ (fun _ _ h => h)
      have s1 := s1.tr t_
      have s2 := s2.tr t_
      have s3 := s3.tr t_
      have s4 := s4.tr t_ (fun _ _ h => h)
      have sb := sb.tr t_ (fun _ _ h => h)
      have sm := sm.tr t_ (fun _ _ h => h)
      have hU := hU.mv t_ hF1 (xA.no (c_lt hU.1) (fun h => h)) hSu
      have hSb := c_sb hSb hF1.1
      have hLq1 := cL_app tb hL1
      refine x_aload_n X d_U_join_81 rfl hl rfl ?_
      refine x_getN X gT s1.2 0 (by decide) e_U_48 rfl d_U_join_82 ?_
      refine x_gor (x_runSN X (C_R_joined l D A _ S rh E ne c0.1 c0.2 k (d.2 ++ lr1) (bs ++ as1) q1 (ft_okR_app o2_.2.2 ok1) hq1 hLq1 (by omega) (by omega) d2.1 asb lc2 p1.2.2 s2 s4 (by omega) (by omega) (by omega)) b_R_joined s_R_joined e_U_51 rfl hl rfl (Nat.le_of_ble_eq_true rfl) d_U_join_85 (by dsimp only [x_rm]; omega) (by dsimp only [x_rm]; omega) ⟨(by dsimp only [x_rm]; omega), (by dsimp only [x_rm]; omega)⟩) hS (xA.mono (fun _ h => h.elim) hS.1) (fun q2 G2 locs hR_ hF2 hS => ?_)
      have hq2 := hR_.rw hSb
      have t_ : cTr S S G1 G2 := cTr.fr hF2 (fun _ h => h.elim)
      have hr1 := hr1.tr t_
      have hL1 := hL1.tr t_ (fun _ _ h => h)
      have t1 := t1.tr t_
      have t2_ := t2_.tr t_
      have t4 := t4.tr t_ (fun _ _ h => h)
      have t3 := t3.tr t_
      have tb := tb.tr t_ (fun _ _ h => h)
      have tm := tm.tr t_ (fun _ _ h => h)
      have s1 := s1.tr t_
      have s2 := s2.tr t_
      have s3 := s3.tr t_
      have s4 := s4.tr t_ (fun _ _ h => h)
      have sb := sb.tr t_ (fun _ _ h => h)
      have sm := sm.tr t_ (fun _ _ h => h)
      have hq1 := hq1.tr t_
      have hLq1 := hLq1.tr t_ (fun _ _ h => h)
      have hU := hU.mv t_ hF2 (xA.no (c_lt hU.1) (fun h => h)) hSu
      have hSb := c_sb hSb hF2.1
      have hLq2 := cL_app hLq1 s4
      refine x_gor (x_runV X (C_U_groups l D A _ S rh E ne c0 u nn em hU hSb hrh k (d.2 ++ lr1 ++ d2.1) (bs ++ as1 ++ asb) q2 okj hq2 hLq2 (by omega) (by omega) (by omega) (by omega)) b_U_groups s_U_groups v_U_groups e_U_119 hU.1 rfl rfl hl rfl (Nat.le_of_ble_eq_true rfl) d_U_join_88 (by dsimp only [x_rm]; omega) (by dsimp only [x_rm]; omega) ⟨(by dsimp only [x_rm]; omega), (by dsimp only [x_rm]; omega)⟩) hS (xA.mono (fun _ h => h) hS.1) (fun qg G3 locs hG hF3 hS => ?_)
      obtain ⟨gs, hg1, hg2, hUg⟩ := hG
      have hg1 := hg1.rw hSb
      have t_ : cTr S S G2 G3 := cTr.fr hF3 (fun q h => by rw [h]; exact hU.2.2.2)
      have t1 := t1.tr t_
      have t2_ := t2_.tr t_
      have t4 := t4.tr t_ (fun _ _ h => h)
      have tm := tm.tr t_ (fun _ _ h => h)
      have s1 := s1.tr t_
      have s3 := s3.tr t_
      have sb := sb.tr t_ (fun _ _ h => h)
      have sm := sm.tr t_ (fun _ _ h => h)
      have hq2 := hq2.tr t_
      have hLq2 := hLq2.tr t_ (fun _ _ h => h)
      have hU := hUg
      have hSb := c_sb hSb hF3.1
      refine x_astore X d_U_join_91 hl (by decide) rfl (fun ls hl => ?_)
      have zz := hS.1
      refine x_newO (S := S) X gT e_U_17 n_T i_T x_defT hS hSb (by dsimp only [x_rm]; omega) (by dsimp only [x_rm]; omega) d_U_join_93 (fun oo G4 h_oo hO hF4 t_oo hS sb_ => ?_)
      have no_oo : ¬ (S) oo := c_ub hSb h_oo
      have n_oo_u : ¬ oo = u := Nat.ne_of_gt (Nat.lt_of_lt_of_le (c_lt hU.1) h_oo)
      have n_u_oo : ¬ u = oo := Nat.ne_of_lt (Nat.lt_of_lt_of_le (c_lt hU.1) h_oo)
      have t_ : cTr S (fun q => S q ∨ q = oo) G3 G4 := t_oo
      have t1 := t1.tr t_
      have t2_ := t2_.tr t_
      have t4 := t4.tr t_ (fun _ _ h => h)
      have tm := tm.tr t_ (fun _ _ h => h)
      have s1 := s1.tr t_
      have s3 := s3.tr t_
      have sb := sb.tr t_ (fun _ _ h => h)
      have sm := sm.tr t_ (fun _ _ h => h)
      have hg1 := hg1.tr t_
      have hg2 := hg2.tr t_ (fun _ _ h => h)
      have hU := hU.mv t_ hF4 (fun h => h) (by first | exact hSu | exact Or.inl hSu | exact Or.inl (Or.inl hSu))
      have hSb : ∀ q, (S q ∨ q = oo) → q < G4.size := sb_
      have z_oo : H0.size ≤ oo := Nat.le_trans zz h_oo
      refine x_dup X d_U_join_96 rfl ?_
      refine x_aload_n X d_U_join_97 rfl hl rfl ?_
      refine x_getN X gT t1.2 0 (by decide) e_U_48 rfl d_U_join_98 ?_
      refine x_aload_n X d_U_join_101 rfl hl rfl ?_
      refine x_aload_n X d_U_join_102 rfl hl rfl ?_
      refine x_getN X gT t1.2 1 (by decide) e_U_57 rfl d_U_join_103 ?_
      refine x_aload X d_U_join_106 hl rfl ?_
      refine x_aload_n X d_U_join_108 rfl hl rfl ?_
      refine x_getN X gT s1.2 1 (by decide) e_U_57 rfl d_U_join_109 ?_
      obtain ⟨zl, zr, zmv, zrs, zO⟩ := cT_obj tm
      obtain ⟨zl2, zr2, zmv2, zrs2, zO2⟩ := cT_obj sm
      refine x_gor (x_runV X (ih (H0 := G4) (S := (fun q => S q ∨ q = oo)) (c0 := (ft_gr 16 (d.2 ++ lr1 ++ d2.1) c0).2) hU hSb (fun n hn => hrh n (Nat.lt_of_le_of_lt g1.1 hn)) (k + 1) (ft_gr 16 (d.2 ++ lr1 ++ d2.1) c0).1 gs qg g2 hg1 hg2 (by omega) (by omega) mt (ft_okT_ex g1 o3) tm sp2 mt2 (ft_okT_ex g1 p3) sm (by omega) (by omega) zl zr zmv zrs zO zl2 zr2 zmv2 zrs2 zO2 (cL_len hg2)) b_U_join s_U_join v_U_join e_U_123 hU.1 rfl rfl hl rfl (Nat.le_of_ble_eq_true rfl) d_U_join_112 (by dsimp only [x_rm]; omega) (by dsimp only [x_rm]; omega) ⟨(by dsimp only [x_rm]; omega), (by dsimp only [x_rm]; omega)⟩) hS (xA.mono (fun _ h => h) hS.1) (fun mu G5 locs hM hF5 hS => ?_)
      have t_ : cTr (fun q => S q ∨ q = oo) (fun q => S q ∨ q = oo) G4 G5 := cTr.fr hF5 (fun q h => by rw [h]; exact hU.2.2.2)
      have hO := hF5.kp hO (xA.no (c_lt hO) n_oo_u)
      have t1 := t1.tr t_
      have t2_ := t2_.tr t_
      have t4 := t4.tr t_ (fun _ _ h => h)
      have tm := tm.tr t_ (fun _ _ h => h)
      have s1 := s1.tr t_
      have s3 := s3.tr t_
      have sb := sb.tr t_ (fun _ _ h => h)
      have sm := sm.tr t_ (fun _ _ h => h)
      have hg1 := hg1.tr t_
      have hg2 := hg2.tr t_ (fun _ _ h => h)
      have hU := hM.2
      have hSb := c_sb hSb hF5.1
      have hMt := hM.1
      refine x_aload_n X d_U_join_115 rfl hl rfl ?_
      refine x_getN X gT s1.2 2 (by decide) e_U_60 rfl d_U_join_116 ?_
      refine x_go0 (x_runIN X (C_T_init_d l D A _ oo (va_P1 hO) (fun q => S q ∨ q = oo) rh E ne c0.1 c0.2 (Or.inr rfl) k d.1 as lc o1.2.2 t2_ t4 (by omega) (by omega) d2.2 bsb rc2 p2.2.2 s3 sb (by omega) (by omega) _ _ mu hMt) b_T_init rfl s_T_init e_U_19 rfl hl rfl (Nat.le_of_ble_eq_true rfl) d_U_join_119 (by dsimp only [x_rm]; omega) (by dsimp only [x_rm]; omega) ⟨(by dsimp only [x_rm]; omega), (by dsimp only [x_rm]; omega)⟩) hS (xA.one z_oo hS.1) (fun G6 locs hO_ hF6 hS => ?_)
      have t_ : cTr (fun q => S q ∨ q = oo) S G5 G6 := cTr.done hF6
      have t1 := t1.tr t_
      have t2_ := t2_.tr t_
      have t4 := t4.tr t_ (fun _ _ h => h)
      have tm := tm.tr t_ (fun _ _ h => h)
      have s1 := s1.tr t_
      have s3 := s3.tr t_
      have sb := sb.tr t_ (fun _ _ h => h)
      have sm := sm.tr t_ (fun _ _ h => h)
      have hg1 := hg1.tr t_
      have hg2 := hg2.tr t_ (fun _ _ h => h)
      have hMt := hMt.tr t_ (fun _ _ h => h)
      have hU := hU.mv t_ hF6 (xA.no (c_lt hU.1) n_u_oo) hSu
      have hSb := c_sbo hSb hF6.1
      have hO := hO_
      exact x_aret X (Or.inl ⟨_, rfl⟩) hS (by omega) (by omega) d_U_join_122 ⟨_, rfl, cT.mk hO no_oo t2_ s3 t4 sb hMt, hU⟩
