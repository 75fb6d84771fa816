/-! The class: back. -/
set_option maxRecDepth 100000 in
set_option maxHeartbeats 4000000 in
theorem C_U_back (l : Launch) (D : va_G) (A : Nat → ClassId) (H0 : Heap) (S : Nat → Prop) (rh : Nat → Nat) (E : ft_E) (ne : Nat) (c0 : ft_C) (u nn em : Nat) (hU : cUs D A S rh E u nn em c0.1 H0) (hSb : ∀ q, S q → q < H0.size) (hrh : ∀ n, c0.1 < n → rh n = n) (k : Nat) (x : ft_I) (a : Nat) (okx : ft_ok ne c0.1 c0.2 k x) (hx : cI D A S rh E x [a] H0) (sp : ft_S) (o : Option ft_I) (t : Nat) (ok : ft_okT ne c0.1 c0.2 k sp o) (hT : cT D A S rh E sp o t H0) (hz : ft_z x + ft_zT sp o < 64) : xC l y_U_back c_U_back 4 (some (.object "FingerSpans$Tree")) (sp.length + 5) D A H0 [.ref u, .ref t, .ref a] (xA (fun q => q = u) H0) (qr (fun r H1 => cT D A S rh E (ft_bk sp o x c0).1.1 (ft_bk sp o x c0).1.2 r H1 ∧ cUs D A S rh E u nn em (ft_bk sp o x c0).2.1 H1)) (4 * sp.length + 4) (32 * sp.length + 32) := by
  induction sp generalizing k x a t c0 H0 with
  | nil => exact C_U_back_s l D A H0 S rh E ne c0 u nn em hU hSb hrh k x a okx hx [] o t ok hT hz (fun d sp1 h => by cases h)
  | cons d sp ih =>
    by_cases h4 : d.2.length < 4
    · exact C_U_back_s l D A H0 S rh E ne c0 u nn em hU hSb hrh k x a okx hx (d :: sp) o t ok hT hz (fun d2 sp1 h => by cases h; exact h4)
    have ok0 := ok
    have hT0 := hT
    obtain ⟨lc, mt, rc, as, bs, t1, t2, t3, t4, tb, tm⟩ := hT
    obtain ⟨o1, o2, o3⟩ := ok
    have hzz : ft_zT (d :: sp) o = ft_zR d.1 + ft_zT sp o + ft_zR d.2 := rfl
    have hlen := cL_len tb
    have hd4 : d.2.length = 4 := by omega
    have hdl : (d.2.take 3).length = 3 := by rw [List.length_take]; omega
    have hdz := ft_zR_td d.2 3
    have hfr : ft_bk (d :: sp) o x c0 = (((d.1, d.2.drop 3 ++ [x]) :: (ft_bk sp o (ft_nd (c0.1 + 1) (d.2.take 3)) (ft_nw c0 (d.2.take 3))).1.1, (ft_bk sp o (ft_nd (c0.1 + 1) (d.2.take 3)) (ft_nw c0 (d.2.take 3))).1.2), (ft_bk sp o (ft_nd (c0.1 + 1) (d.2.take 3)) (ft_nw c0 (d.2.take 3))).2) := by
      show (if d.2.length < 4 then _ else _) = _
      rw [if_neg h4]
    rw [hfr, List.length_cons]
    have okd : ft_okR ne c0.1 c0.2 k (d.2.take 3) := ft_okR_take o2.2.2 3
    have hold : ∀ n, 1 ≤ n → n ≤ c0.1 → (ft_nw c0 (d.2.take 3)).2 n = c0.2 n := (ft_ex_nw c0 _).2
    have okN : ft_ok ne (c0.1 + 1) (ft_nw c0 (d.2.take 3)).2 (k + 1) (ft_nd (c0.1 + 1) (d.2.take 3)) := ft_ok_nd okd (Or.inr hdl) (Nat.lt_succ_self _) (va_up_self _ _ _) hold
    have hd3 : d.2.drop 3 = [d.2.getD 3 ft_no] := by
      rw [List.drop_eq_getElem_cons (show 3 < d.2.length by omega), List.drop_of_length_le (by omega), ft_gD (show 3 < d.2.length by omega)]
    have okb := o2.2.2 _ (ft_getD_mem (l := d.2) (i := 3) (by omega))
    have okX : ft_okR ne c0.1 c0.2 k (d.2.drop 3 ++ [x]) := ft_okR_app (ft_okR_drop o2.2.2 3) (ft_okR_one okx)
    have hzX : ft_zR (d.2.drop 3 ++ [x]) = ft_zR (d.2.drop 3) + ft_z x := by rw [ft_zR_app]; simp [ft_zR]
    have hlX : (d.2.drop 3 ++ [x]).length = 2 := by rw [hd3]; rfl
    refine xC.of rfl (Nat.le_of_ble_eq_true rfl) ?_
    intro p_ e_ s_ m_ ar_ bl_ me_ c_ ls X hl
    have hl : lz ls 4 [some (.ref u), some (.ref t), some (.ref a), none] := hl
    have hS : va_S (xA (fun q => q = u) H0) H0 H0 [] := va_S.rf
    have hSu : S u := hU.2.2.2
    refine x_aload_n X d_U_back_0 rfl hl rfl ?_
    refine x_goR (x_runVN X (C_T_isEmpty l D A _ S rh E ne c0.1 c0.2 k (d :: sp) o t ok0 hT0 (by omega)) b_T_isEmpty s_T_isEmpty v_T_isEmpty e_U_37 t1.2 rfl rfl hl rfl (Nat.le_of_ble_eq_true rfl) d_U_back_1 (by dsimp only [x_rm]; omega) (by dsimp only [x_rm]; omega) ⟨(by dsimp only [x_rm]; omega), (by dsimp only [x_rm]; omega)⟩) hS (fun locs hS => ?_)
    rw [show (if ft_em (d :: sp) o then 1 else 0) = 0 from rfl]
    refine n_if_eq X 13 d_U_back_4 rfl (by decide) (fun hc => ?_) (fun hc => absurd rfl hc)
    refine x_aload_n X d_U_back_13 rfl hl rfl ?_
    refine x_goR (x_runVN X (C_T_isDeep l D A _ S rh E ne c0.1 c0.2 k (d :: sp) o t ok0 hT0 (by omega)) b_T_isDeep s_T_isDeep v_T_isDeep e_U_45 t1.2 rfl rfl hl rfl (Nat.le_of_ble_eq_true rfl) d_U_back_14 (by dsimp only [x_rm]; omega) (by dsimp only [x_rm]; omega) ⟨(by dsimp only [x_rm]; omega), (by dsimp only [x_rm]; omega)⟩) hS (fun locs hS => ?_)
    rw [show ft_de (d :: sp) = 1 from rfl]
    refine n_if_ne X 40 d_U_back_17 rfl (by decide) (fun hc => ?_) (fun hc => absurd hc (by decide))
    refine x_aload_n X d_U_back_40 rfl hl rfl ?_
    refine x_getN X gT t1.2 2 (by decide) e_U_60 rfl d_U_back_41 ?_
    refine x_alen X t3 d_U_back_44 ?_
    rw [hlen]
    refine x_iconst (v := nI 4) X d_U_back_45 rfl ?_
    refine n_icmp_ge X 76 d_U_back_46 rfl (by omega) (by omega) (fun hc => ?_) (fun hc => absurd hc (by omega))
    refine x_aload_n X d_U_back_76 rfl hl rfl ?_
    refine x_aload_n X d_U_back_77 rfl hl rfl ?_
    refine x_getN X gT t1.2 1 (by decide) e_U_57 rfl d_U_back_78 ?_
    refine x_aload_n X d_U_back_81 rfl hl rfl ?_
    refine x_aload_n X d_U_back_82 rfl hl rfl ?_
    refine x_getN X gT t1.2 2 (by decide) e_U_60 rfl d_U_back_83 ?_
    refine x_iconst (v := nI 3) X d_U_back_86 rfl ?_
    refine x_gor (x_runSN X (C_R_before l D A _ S rh E ne c0.1 c0.2 k d.2 bs rc o2.2.2 t3 tb (by omega) (by omega) 3 (by omega) (by omega)) b_R_before s_R_before e_U_75 rfl hl rfl (Nat.le_of_ble_eq_true rfl) d_U_back_87 (by dsimp only [x_rm]; omega) (by dsimp only [x_rm]; omega) ⟨(by dsimp only [x_rm]; omega), (by dsimp only [x_rm]; omega)⟩) hS (xA.mono (fun _ h => h.elim) hS.1) (fun q G1 locs hR_ hF1 hS => ?_)
    have hq := hR_.rw hSb
    have t_ : cTr S S H0 G1 := cTr.fr hF1 (fun _ h => h.elim)
    have t1 := t1.tr t_
    have t2 := t2.tr t_
    have t3 := t3.tr t_
    have t4 := t4.tr t_ (fun _ _ h => h)
    have tb := tb.tr t_ (fun _ _ h => h)
    have tm := tm.tr t_ (fun _ _ h => h)
    have hx := hx.tr t_ (fun _ _ h => h)
    have hT0 := hT0.tr t_ (fun _ _ h => h)
    have hU := hU.mv t_ hF1 (xA.no (c_lt hU.1) (fun h => h)) hSu
    have hSb := c_sb hSb hF1.1
    refine x_gor (x_runV X (C_U_node l D A _ S rh E ne c0.1 c0.2 u nn em c0.1 hU hSb k (d.2.take 3) (bs.take 3) q okd hq (cL_take 3 tb) (by omega) (by omega) (c0.1 + 1) (hrh _ (Nat.lt_succ_self _))) b_U_node s_U_node v_U_node e_U_67 hU.1 rfl rfl hl rfl (Nat.le_of_ble_eq_true rfl) d_U_back_90 (by dsimp only [x_rm]; omega) (by dsimp only [x_rm]; omega) ⟨(by dsimp only [x_rm]; omega), (by dsimp only [x_rm]; omega)⟩) hS (xA.mono (fun _ h => h) hS.1) (fun nd G2 locs hN hF2 hS => ?_)
    have t_ : cTr S S G1 G2 := cTr.fr hF2 (fun q h => by rw [h]; exact hU.2.2.2)
    have t1 := t1.tr t_
    have t2 := t2.tr t_
    have t3 := t3.tr t_
    have t4 := t4.tr t_ (fun _ _ h => h)
    have tb := tb.tr t_ (fun _ _ h => h)
    have tm := tm.tr t_ (fun _ _ h => h)
    have hx := hx.tr t_ (fun _ _ h => h)
    have hT0 := hT0.tr t_ (fun _ _ h => h)
    have hq := hq.tr t_
    have hU := hN.2.2
    have hSb := c_sb hSb hF2.1
    have hnI := hN.2.1
    refine x_gor (x_runV X (ih (H0 := G2) (c0 := ft_nw c0 (d.2.take 3)) hU hSb (fun n hn => hrh n (Nat.lt_trans (Nat.lt_succ_self _) hn)) (k + 1) (ft_nd (c0.1 + 1) (d.2.take 3)) nd okN hnI mt (ft_okT_mono (Nat.le_refl _) (Nat.le_succ _) hold o3) tm (by rw [ft_z_nd]; omega)) b_U_back s_U_back v_U_back e_U_78 hU.1 rfl rfl hl rfl (Nat.le_of_ble_eq_true rfl) d_U_back_93 (by dsimp only [x_rm]; omega) (by dsimp only [x_rm]; omega) ⟨(by dsimp only [x_rm]; omega), (by dsimp only [x_rm]; omega)⟩) hS (xA.mono (fun _ h => h) hS.1) (fun mu G3 locs hM hF3 hS => ?_)
    have t_ : cTr S S G2 G3 := cTr.fr hF3 (fun q h => by rw [h]; exact hU.2.2.2)
    have t1 := t1.tr t_
    have t2 := t2.tr t_
    have t3 := t3.tr t_
    have t4 := t4.tr t_ (fun _ _ h => h)
    have tb := tb.tr t_ (fun _ _ h => h)
    have tm := tm.tr t_ (fun _ _ h => h)
    have hx := hx.tr t_ (fun _ _ h => h)
    have hT0 := hT0.tr t_ (fun _ _ h => h)
    have hnI := hnI.tr t_ (fun _ _ h => h)
    have hU := hM.2
    have hSb := c_sb hSb hF3.1
    have hMt := hM.1
    generalize ft_bk sp o (ft_nd (c0.1 + 1) (d.2.take 3)) (ft_nw c0 (d.2.take 3)) = F at hMt hU
    refine x_astore_n X d_U_back_96 rfl hl (by decide) rfl (fun ls hl => ?_)
    have zz := hS.1
    refine x_newO (S := S) X gT e_U_17 n_T i_T x_defT hS hSb (by dsimp only [x_rm]; omega) (by dsimp only [x_rm]; omega) d_U_back_97 (fun oo G4 h_oo hO hF4 t_oo hS sb_ => ?_)
    have no_oo : ¬ (S) oo := c_ub hSb h_oo
    have n_oo_u : ¬ oo = u := Nat.ne_of_gt (Nat.lt_of_lt_of_le (c_lt hU.1) h_oo)
    have n_u_oo : ¬ u = oo := Nat.ne_of_lt (Nat.lt_of_lt_of_le (c_lt hU.1) h_oo)
    have t_ : cTr S (fun q => S q ∨ q = oo) G3 G4 := t_oo
    have t1 := t1.tr t_
    have t2 := t2.tr t_
    have t3 := t3.tr t_
    have t4 := t4.tr t_ (fun _ _ h => h)
    have tb := tb.tr t_ (fun _ _ h => h)
    have hx := hx.tr t_ (fun _ _ h => h)
    have hT0 := hT0.tr t_ (fun _ _ h => h)
    have hMt := hMt.tr t_ (fun _ _ h => h)
    have hU := hU.mv t_ hF4 (fun h => h) (by first | exact hSu | exact Or.inl hSu | exact Or.inl (Or.inl hSu))
    have hSb : ∀ q, (S q ∨ q = oo) → q < G4.size := sb_
    have z_oo : H0.size ≤ oo := Nat.le_trans zz h_oo
    refine x_dup X d_U_back_100 rfl ?_
    refine x_aload_n X d_U_back_101 rfl hl rfl ?_
    refine x_getN X gT t1.2 0 (by decide) e_U_48 rfl d_U_back_102 ?_
    refine x_aload_n X d_U_back_105 rfl hl rfl ?_
    refine x_iconst (v := nI 2) X d_U_back_106 rfl ?_
    have zz := hS.1
    refine x_newQ (S := (fun q => S q ∨ q = oo)) X e_U_9 (by decide) hS hSb (by dsimp only [x_rm]; omega) (by dsimp only [x_rm]; omega) d_U_back_107 (fun ar G5 h_ar hQ hF5 t_ar hS sb_ => ?_)
    have no_ar : ¬ ((fun q => S q ∨ q = oo)) ar := c_ub hSb h_ar
    have n_ar_oo : ¬ ar = oo := Nat.ne_of_gt (Nat.lt_of_lt_of_le (c_lt hO) h_ar)
    have n_oo_ar : ¬ oo = ar := Nat.ne_of_lt (Nat.lt_of_lt_of_le (c_lt hO) h_ar)
    have n_ar_u : ¬ ar = u := Nat.ne_of_gt (Nat.lt_of_lt_of_le (c_lt hU.1) h_ar)
    have n_u_ar : ¬ u = ar := Nat.ne_of_lt (Nat.lt_of_lt_of_le (c_lt hU.1) h_ar)
    have t_ : cTr (fun q => S q ∨ q = oo) (fun q => (S q ∨ q = oo) ∨ q = ar) G4 G5 := t_ar
    have hO := hF5.kp hO (fun h => h)
    have t1 := t1.tr t_
    have t2 := t2.tr t_
    have t3 := t3.tr t_
    have t4 := t4.tr t_ (fun _ _ h => h)
    have tb := tb.tr t_ (fun _ _ h => h)
    have hx := hx.tr t_ (fun _ _ h => h)
    have hT0 := hT0.tr t_ (fun _ _ h => h)
    have hMt := hMt.tr t_ (fun _ _ h => h)
    have hU := hU.mv t_ hF5 (fun h => h) (by first | exact hSu | exact Or.inl hSu | exact Or.inl (Or.inl hSu))
    have hSb : ∀ q, ((S q ∨ q = oo) ∨ q = ar) → q < G5.size := sb_
    have z_ar : H0.size ≤ ar := Nat.le_trans zz h_ar
    refine x_dup X d_U_back_110 rfl ?_
    refine x_iconst (v := nI 0) X d_U_back_111 rfl ?_
    refine x_aload_n X d_U_back_112 rfl hl rfl ?_
    refine x_goRr (x_runVN X (C_T_last l D A _ (fun q => (S q ∨ q = oo) ∨ q = ar) rh E ne c0.1 c0.2 k (d :: sp) o t ok0 hT0 (by omega) rfl) b_T_last s_T_last v_T_last e_U_82 t1.2 rfl rfl hl rfl (Nat.le_of_ble_eq_true rfl) d_U_back_113 (by dsimp only [x_rm]; omega) (by dsimp only [x_rm]; omega) ⟨(by dsimp only [x_rm]; omega), (by dsimp only [x_rm]; omega)⟩) hS (fun lb locs hlb hS => ?_)
    rw [ft_la_deep, show d.2.length - 1 = 3 from by omega] at hlb
    refine x_aastO X hQ okb hlb (i := 0) rfl (by decide) (by decide) hS (Or.inr z_ar) (Or.inr rfl) d_U_back_116 (fun G6 locs hQ hF6 t6_ hS => ?_)
    have t_ : cTr (fun q => (S q ∨ q = oo) ∨ q = ar) (fun q => (S q ∨ q = oo) ∨ q = ar) G5 G6 := t6_
    have hO := hF6.kp hO n_oo_ar
    have t1 := t1.tr t_
    have t2 := t2.tr t_
    have t4 := t4.tr t_ (fun _ _ h => h)
    have hx := hx.tr t_ (fun _ _ h => h)
    have hMt := hMt.tr t_ (fun _ _ h => h)
    have hlb := hlb.tr t_ (fun _ _ h => h)
    have hU := hU.mv t_ hF6 n_u_ar (by first | exact hSu | exact Or.inl hSu | exact Or.inl (Or.inl hSu))
    have hSb := c_sb hSb hF6.1
    refine x_dup X d_U_back_117 rfl ?_
    refine x_iconst (v := nI 1) X d_U_back_118 rfl ?_
    refine x_aload_n X d_U_back_119 rfl hl rfl ?_
    refine x_aastO X hQ okx hx (i := 1) rfl (by decide) (by decide) hS (Or.inr z_ar) (Or.inr rfl) d_U_back_120 (fun G7 locs hQ hF7 t7_ hS => ?_)
    have t_ : cTr (fun q => (S q ∨ q = oo) ∨ q = ar) (fun q => (S q ∨ q = oo) ∨ q = ar) G6 G7 := t7_
    have hO := hF7.kp hO n_oo_ar
    have t1 := t1.tr t_
    have t2 := t2.tr t_
    have t4 := t4.tr t_ (fun _ _ h => h)
    have hx := hx.tr t_ (fun _ _ h => h)
    have hMt := hMt.tr t_ (fun _ _ h => h)
    have hlb := hlb.tr t_ (fun _ _ h => h)
    have hU := hU.mv t_ hF7 n_u_ar (by first | exact hSu | exact Or.inl hSu | exact Or.inl (Or.inl hSu))
    have hSb := c_sb hSb hF7.1
    have t_ : cTr (fun q => (S q ∨ q = oo) ∨ q = ar) (fun q => S q ∨ q = oo) G7 G7 := cTr.dn
    have hrq : cRw D A (fun q => S q ∨ q = oo) [lb, a] ar G7 := ⟨no_ar, hQ⟩
    have t1 := t1.tr t_
    have t2 := t2.tr t_
    have t4 := t4.tr t_ (fun _ _ h => h)
    have hx := hx.tr t_ (fun _ _ h => h)
    have hMt := hMt.tr t_ (fun _ _ h => h)
    have hlb := hlb.tr t_ (fun _ _ h => h)
    have hU : cUs D A (fun q => S q ∨ q = oo) rh E u nn em _ G7 := ⟨hU.1, hU.2.1.tr t_, hU.2.2.1.tr t_ (fun _ _ h => h), (by first | exact hSu | exact Or.inl hSu | exact Or.inl (Or.inl hSu))⟩
    have hSb : ∀ q, (S q ∨ q = oo) → q < G7.size := fun q h => hSb q (Or.inl h)
    have hLq : cL D A (fun q => S q ∨ q = oo) rh E (d.2.drop 3 ++ [x]) [lb, a] G7 := by
      rw [hd3]
      exact cL_cons.2 ⟨lb, [a], rfl, hlb, cL_one.2 hx⟩
    refine x_go0 (x_runIN X (C_T_init_d l D A _ oo (va_P1 hO) (fun q => S q ∨ q = oo) rh E ne c0.1 c0.2 (Or.inr rfl) k d.1 as lc o1.2.2 t2 t4 (by omega) (by omega) (d.2.drop 3 ++ [x]) [lb, a] ar okX hrq hLq (by omega) (by omega) F.1.1 F.1.2 mu hMt) b_T_init rfl s_T_init e_U_19 rfl hl rfl (Nat.le_of_ble_eq_true rfl) d_U_back_121 (by dsimp only [x_rm]; omega) (by dsimp only [x_rm]; omega) ⟨(by dsimp only [x_rm]; omega), (by dsimp only [x_rm]; omega)⟩) hS (xA.one z_oo hS.1) (fun G8 locs hO_ hF8 hS => ?_)
    have t_ : cTr (fun q => S q ∨ q = oo) S G7 G8 := cTr.done hF8
    have t1 := t1.tr t_
    have t2 := t2.tr t_
    have t4 := t4.tr t_ (fun _ _ h => h)
    have hx := hx.tr t_ (fun _ _ h => h)
    have hMt := hMt.tr t_ (fun _ _ h => h)
    have hlb := hlb.tr t_ (fun _ _ h => h)
    have hrq := hrq.tr t_
    have hLq := hLq.tr t_ (fun _ _ h => h)
    have hU := hU.mv t_ hF8 (xA.no (c_lt hU.1) n_u_oo) hSu
    have hSb := c_sbo hSb hF8.1
    have hO := hO_
    exact x_aret X (Or.inl ⟨_, rfl⟩) hS (by omega) (by omega) d_U_back_124 ⟨_, rfl, cT.mk hO no_oo t2 hrq t4 hLq hMt, hU⟩
