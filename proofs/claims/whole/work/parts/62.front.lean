/-! The class: front. -/
theorem va_S.wr {fr : Nat → Prop} {H0 H H1 : Heap} {locs : List Loc} {a i : Nat} (h : va_S fr H0 H locs) (hf : x_fr (fun q => q = a) H H1) (ha : fr a) : va_S fr H0 H1 (locs ++ [⟨a, i⟩]) := ⟨Nat.le_trans h.1 hf.1, fun q h1 h2 => (hf.2 q (Nat.lt_of_lt_of_le h1 h.1) (fun e => h2 (by rw [e]; exact ha))).trans (h.2.1 q h1 h2), fun q hq => by
  rcases List.mem_append.1 hq with hq | hq
  · exact h.2.2 q hq
  · rw [List.mem_singleton.1 hq]; exact ha⟩
set_option maxRecDepth 100000 in
set_option maxHeartbeats 4000000 in
theorem C_U_front (l : Launch) (D : va_G) (A : Nat → ClassId) (H0 : Heap) (S : Nat → Prop) (rh : Nat → Nat) (E : ft_E) (ne : Nat) (c0 : ft_C) (u nn em : Nat) (hU : cUs D A S rh E u nn em c0.1 H0) (hSb : ∀ q, S q → q < H0.size) (hrh : ∀ n, c0.1 < n → rh n = n) (k : Nat) (x : ft_I) (a : Nat) (okx : ft_ok ne c0.1 c0.2 k x) (hx : cI D A S rh E x [a] H0) (sp : ft_S) (o : Option ft_I) (t : Nat) (ok : ft_okT ne c0.1 c0.2 k sp o) (hT : cT D A S rh E sp o t H0) (hz : ft_z x + ft_zT sp o < 64) : xC l y_U_front c_U_front 4 (some (.object "FingerSpans$Tree")) (sp.length + 5) D A H0 [.ref u, .ref a, .ref t] (xA (fun q => q = u) H0) (qr (fun r H1 => cT D A S rh E (ft_fr x sp o c0).1.1 (ft_fr x sp o c0).1.2 r H1 ∧ cUs D A S rh E u nn em (ft_fr x sp o c0).2.1 H1)) (4 * sp.length + 4) (32 * sp.length + 32) := by
  induction sp generalizing k x a t c0 H0 with
  | nil => exact C_U_front_s l D A H0 S rh E ne c0 u nn em hU hSb hrh k x a okx hx [] o t ok hT hz (fun d sp1 h => by cases h)
  | cons d sp ih =>
    by_cases h4 : d.1.length < 4
    · exact C_U_front_s l D A H0 S rh E ne c0 u nn em hU hSb hrh k x a okx hx (d :: sp) o t ok hT hz (fun d2 sp1 h => by cases h; exact h4)
    have ok0 := ok
    have hT0 := hT
    obtain ⟨lc, mc, rc, as, bs, t1, t2, t3, t4, tb, tm⟩ := hT
    obtain ⟨o1, o2, o3⟩ := ok
    have hzz : ft_zT (d :: sp) o = ft_zR d.1 + ft_zT sp o + ft_zR d.2 := rfl
    have hlen := cL_len t4
    have hdl : (d.1.drop 1).length = 3 := by rw [List.length_drop]; omega
    have hdz := ft_zR_td d.1 1
    have hfr : ft_fr x (d :: sp) o c0 = (((x :: d.1.take 1, d.2) :: (ft_fr (ft_nd (c0.1 + 1) (d.1.drop 1)) sp o (ft_nw c0 (d.1.drop 1))).1.1, (ft_fr (ft_nd (c0.1 + 1) (d.1.drop 1)) sp o (ft_nw c0 (d.1.drop 1))).1.2), (ft_fr (ft_nd (c0.1 + 1) (d.1.drop 1)) sp o (ft_nw c0 (d.1.drop 1))).2) := by
      show (if d.1.length < 4 then _ else _) = _
      rw [if_neg h4]
    rw [hfr, List.length_cons]
    have okd : ft_okR ne c0.1 c0.2 k (d.1.drop 1) := fun z hz2 => o1.2.2 z (List.mem_of_mem_drop hz2)
    have hold : ∀ n, 1 ≤ n → n ≤ c0.1 → (ft_nw c0 (d.1.drop 1)).2 n = c0.2 n := fun n _ h2 => by
      show va_up c0.2 (c0.1 + 1) _ n = _
      unfold va_up
      rw [if_neg (by omega)]
    have okN : ft_ok ne (c0.1 + 1) (ft_nw c0 (d.1.drop 1)).2 (k + 1) (ft_nd (c0.1 + 1) (d.1.drop 1)) := ft_ok_nd okd (Or.inr hdl) (Nat.lt_succ_self _) (va_up_self _ _ _) hold
    obtain ⟨b0, hb0, okb, hbx⟩ := cL_at o1.2.2 t4 (i := 0) (by omega)
    refine xC.of rfl (Nat.le_of_ble_eq_true rfl) ?_
    intro p_ e_ s_ m_ ar_ bl_ me_ c_ ls X hl
    have hl : lz ls 4 [some (.ref u), some (.ref a), some (.ref t), none] := hl
    have hS : va_S (xA (fun q => q = u) H0) H0 H0 [] := va_S.rf
    refine x_aload_n X d_U_front_0 rfl hl rfl ?_
    refine x_goR (x_runVN X (C_T_isEmpty l D A _ S rh E ne c0.1 c0.2 k (d :: sp) o t ok0 hT0 (by omega)) b_T_isEmpty s_T_isEmpty v_T_isEmpty e_U_37 t1.2 rfl rfl hl rfl (Nat.le_of_ble_eq_true rfl) d_U_front_1 (by dsimp only [x_rm]; omega) (by dsimp only [x_rm]; omega) ⟨Nat.le_of_ble_eq_true rfl, Nat.le_of_ble_eq_true rfl⟩) hS (fun locs hS => ?_)
    rw [show (if ft_em (d :: sp) o then 1 else 0) = 0 from rfl]
    refine n_if_eq X 13 d_U_front_4 rfl (by decide) (fun hc => ?_) (fun hc => absurd rfl hc)
    refine x_aload_n X d_U_front_13 rfl hl rfl ?_
    refine x_goR (x_runVN X (C_T_isDeep l D A _ S rh E ne c0.1 c0.2 k (d :: sp) o t ok0 hT0 (by omega)) b_T_isDeep s_T_isDeep v_T_isDeep e_U_45 t1.2 rfl rfl hl rfl (Nat.le_of_ble_eq_true rfl) d_U_front_14 (by dsimp only [x_rm]; omega) (by dsimp only [x_rm]; omega) ⟨Nat.le_of_ble_eq_true rfl, Nat.le_of_ble_eq_true rfl⟩) hS (fun locs hS => ?_)
    rw [show ft_de (d :: sp) = 1 from rfl]
    refine n_if_ne X 40 d_U_front_17 rfl (by decide) (fun hc => ?_) (fun hc => absurd hc (by decide))
    refine x_aload_n X d_U_front_40 rfl hl rfl ?_
    refine x_getN X gT t1.2 0 (by decide) e_U_48 rfl d_U_front_41 ?_
    refine x_alen X t2 d_U_front_44 ?_
    rw [hlen]
    refine x_iconst (v := nI 4) X d_U_front_45 rfl ?_
    refine n_icmp_ge X 76 d_U_front_46 rfl (by omega) (by omega) (fun hc => ?_) (fun hc => absurd hc (by omega))
    refine x_aload_n X d_U_front_76 rfl hl rfl ?_
    refine x_aload_n X d_U_front_77 rfl hl rfl ?_
    refine x_aload_n X d_U_front_78 rfl hl rfl ?_
    refine x_getN X gT t1.2 0 (by decide) e_U_48 rfl d_U_front_79 ?_
    refine x_iconst (v := nI 0) X d_U_front_82 rfl ?_
    refine x_gor (x_runSN X (C_R_after l D A _ S rh E ne c0.1 c0.2 k d.1 as lc o1.2.2 t2 t4 (by omega) (by omega) 0 (by omega) (by omega)) b_R_after s_R_after e_U_63 rfl hl rfl (Nat.le_of_ble_eq_true rfl) d_U_front_83 (by dsimp only [x_rm]; omega) (by dsimp only [x_rm]; omega) ⟨(by dsimp only [x_rm]; omega), (by dsimp only [x_rm]; omega)⟩) hS (fun q h => by rcases h with h | h; exact h.elim; exact Or.inr (Nat.le_trans hS.1 h)) (fun q H locs hR hF hS => ?_)
    have t5 : cTr S S H0 H := cTr.fr hF (fun _ h => h.elim)
    have hSb5 : ∀ q, S q → q < H.size := fun q h => Nat.lt_of_lt_of_le (hSb q h) hF.1
    have hU5 : cUs D A S rh E u nn em c0.1 H := ⟨hF.at hU.1 (fun h => h), hU.2.1.tr t5, hU.2.2.1.tr t5 (fun _ _ h => h), hU.2.2.2⟩
    have hr5 := hR.rw hSb
    have hL5 := (cL_drop 1 t4).tr t5 (fun _ _ h => h)
    refine x_gor (x_runV X (C_U_node l D A _ S rh E ne c0.1 c0.2 u nn em c0.1 hU5 hSb5 k (d.1.drop 1) (as.drop 1) q okd hr5 hL5 (by omega) (by omega) (c0.1 + 1) (hrh _ (Nat.lt_succ_self _))) b_U_node s_U_node v_U_node e_U_67 hU5.1 rfl rfl hl rfl (Nat.le_of_ble_eq_true rfl) d_U_front_86 (by dsimp only [x_rm]; omega) (by dsimp only [x_rm]; omega) ⟨(by dsimp only [x_rm]; omega), (by dsimp only [x_rm]; omega)⟩) hS (fun q h => by rcases h with h | h; exact Or.inl h; exact Or.inr (Nat.le_trans hS.1 h)) (fun nd H2 locs hN hF2 hS => ?_)
    obtain ⟨hn0, hnI, hU6⟩ := hN
    have t6 : cTr S S H H2 := cTr.fr hF2 (fun q h => by rw [h]; exact hU.2.2.2)
    refine x_aload_n X d_U_front_89 rfl hl rfl ?_
    refine x_getN X gT ((t1.tr t5).tr t6).2 1 (by decide) e_U_57 rfl d_U_front_90 ?_
    refine x_gor (x_runV X (ih (H0 := H2) (c0 := ft_nw c0 (d.1.drop 1)) hU6 (fun q h => Nat.lt_of_lt_of_le (hSb5 q h) hF2.1) (fun n hn => hrh n (Nat.lt_trans (Nat.lt_succ_self _) hn)) (k + 1) (ft_nd (c0.1 + 1) (d.1.drop 1)) nd okN hnI mc (ft_okT_mono (Nat.le_refl _) (Nat.le_succ _) hold o3) ((tm.tr t5 (fun _ _ h => h)).tr t6 (fun _ _ h => h)) (by rw [ft_z_nd]; omega)) b_U_front s_U_front v_U_front e_U_71 hU6.1 rfl rfl hl rfl (Nat.le_of_ble_eq_true rfl) d_U_front_93 (by dsimp only [x_rm]; omega) (by dsimp only [x_rm]; omega) ⟨(by dsimp only [x_rm]; omega), (by dsimp only [x_rm]; omega)⟩) hS (fun q h => by rcases h with h | h; exact Or.inl h; exact Or.inr (Nat.le_trans hS.1 h)) (fun mt H3 locs hM hF3 hS => ?_)
    obtain ⟨hMt, hU7⟩ := hM
    have t7 : cTr S S H2 H3 := cTr.fr hF3 (fun q h => by rw [h]; exact hU.2.2.2)
    generalize ft_fr (ft_nd (c0.1 + 1) (d.1.drop 1)) sp o (ft_nw c0 (d.1.drop 1)) = F at hMt hU7
    refine x_astore_n X d_U_front_96 rfl hl (by decide) rfl (fun ls hl => ?_)
    refine x_newX X gT e_U_17 n_T i_T x_defT (by dsimp only [x_rm]; omega) (by dsimp only [x_rm]; omega) d_U_front_97 (fun H4 hO4 hF4 => ?_)
    have hz3 := hS.1
    have hS := hS.new hF4
    have hz34 := c_lt hO4
    have t8 : cTr S (fun q => S q ∨ q = H3.size) H3 H4 := fun q h1 h2 => ⟨hF4.2 q h1 (fun h => h), fun h => by
      rcases h with h | h
      · exact h2 h
      · omega⟩
    refine x_dup X d_U_front_100 rfl ?_
    refine x_iconst (v := nI 2) X d_U_front_101 rfl ?_
    refine x_newqX X e_U_9 (n := 2) (by decide) (by dsimp only [x_rm]; omega) (by dsimp only [x_rm]; omega) d_U_front_102 (fun H5 hA5 hF5 => ?_)
    have hS := hS.new hF5
    have hz34 : H3.size < H4.size := hz34
    have t9 : cTr (fun q => S q ∨ q = H3.size) (fun q => (S q ∨ q = H3.size) ∨ q = H4.size) H4 H5 := fun q h1 h2 => ⟨hF5.2 q h1 (fun h => h), fun h => by
      rcases h with h | h
      · exact h2 h
      · omega⟩
    obtain ⟨nu, lo, hi, r', bs', c1, -⟩ := cI_has okx (((((hx.tr t5 (fun _ _ h => h)).tr t6 (fun _ _ h => h)).tr t7 (fun _ _ h => h)).tr t8 (fun _ _ h => h)).tr t9 (fun _ _ h => h))
    refine x_dup X d_U_front_105 rfl ?_
    refine x_iconst (v := nI 0) X d_U_front_106 rfl ?_
    refine x_aload_n X d_U_front_107 rfl hl rfl ?_
    refine x_aastX X hA5 c1.2 (by decide) (by decide) d_U_front_108 (fun H6 hA6 hF6 => ?_)
    have hS := hS.wr (i := 0) hF6 (Or.inr (by omega))
    have t10 : cTr (fun q => (S q ∨ q = H3.size) ∨ q = H4.size) (fun q => (S q ∨ q = H3.size) ∨ q = H4.size) H5 H6 := fun q h1 h2 => ⟨hF6.2 q h1 (fun e => h2 (Or.inr e)), h2⟩
    obtain ⟨nu2, lo2, hi2, r2, bs2, c2, -⟩ := cI_has okb ((((((hbx.tr t5 (fun _ _ h => h)).tr t6 (fun _ _ h => h)).tr t7 (fun _ _ h => h)).tr t8 (fun _ _ h => h)).tr t9 (fun _ _ h => h)).tr t10 (fun _ _ h => h))
    refine x_dup X d_U_front_109 rfl ?_
    refine x_iconst (v := nI 1) X d_U_front_110 rfl ?_
    refine x_aload_n X d_U_front_111 rfl hl rfl ?_
    refine x_getN X gT ((((((t1.tr t5).tr t6).tr t7).tr t8).tr t9).tr t10).2 0 (by decide) e_U_48 rfl d_U_front_112 ?_
    refine x_iconst (v := nI 0) X d_U_front_115 rfl ?_
    refine x_aald X ((((((t2.tr t5).tr t6).tr t7).tr t8).tr t9).tr t10) hb0 (by omega) d_U_front_116 ?_
    refine x_aastX X hA6 c2.2 (by decide) (by decide) d_U_front_117 (fun H7 hA7 hF7 => ?_)
    have hS := hS.wr (i := 1) hF7 (Or.inr (by omega))
    have t11 : cTr (fun q => (S q ∨ q = H3.size) ∨ q = H4.size) (fun q => (S q ∨ q = H3.size) ∨ q = H4.size) H6 H7 := fun q h1 h2 => ⟨hF7.2 q h1 (fun e => h2 (Or.inr e)), h2⟩
    have t12 : cTr (fun q => (S q ∨ q = H3.size) ∨ q = H4.size) (fun q => S q ∨ q = H3.size) H7 H7 := fun q _ h => ⟨rfl, fun h2 => h (Or.inl h2)⟩
    have kp : ∀ {w : Nat × va_E}, va_at D vwCl w H4 → w.1 ≠ H4.size → va_at D vwCl w H7 := fun {w} h1 h2 => by
      have h3 := c_keep h1 (hF5.2 _ (c_lt h1) (fun h => h))
      have h4 := c_keep h3 (hF6.2 _ (c_lt h3) h2)
      exact c_keep h4 (hF7.2 _ (c_lt h4) h2)
    have hPo := va_P1 (kp hO4 (by show H3.size ≠ H4.size; omega))
    have hu3 := c_lt hU7.1
    have hu := kp (c_keep hU7.1 (hF4.2 _ hu3 (fun h => h))) (by show u ≠ H4.size; have hu3 : u < H3.size := hu3; omega)
    have hr : cRw D A (fun q => S q ∨ q = H3.size) [a, b0] H4.size H7 := ⟨fun h => by
      rcases h with h | h
      · have := hSb _ h; show False; omega
      · have h : H4.size = H3.size := h; omega, cArr_ext hA7 (fun i hi => by
      match i, hi with
      | 0, _ => rfl
      | 1, _ => rfl)⟩
    have htk : d.1.take 1 = [d.1.getD 0 ft_no] := by
      cases hd1 : d.1 with
      | nil => rw [hd1] at h4; exact absurd (by decide) h4
      | cons y l => rfl
    have hL : cL D A (fun q => S q ∨ q = H3.size) rh E (x :: d.1.take 1) [a, b0] H7 := by
      rw [htk]
      exact cL_cons.2 ⟨a, [b0], rfl, ((((((((hx.tr t5 (fun _ _ h => h)).tr t6 (fun _ _ h => h)).tr t7 (fun _ _ h => h)).tr t8 (fun _ _ h => h)).tr t9 (fun _ _ h => h)).tr t10 (fun _ _ h => h)).tr t11 (fun _ _ h => h)).tr t12 (fun _ _ h => h)), cL_one.2 ((((((((hbx.tr t5 (fun _ _ h => h)).tr t6 (fun _ _ h => h)).tr t7 (fun _ _ h => h)).tr t8 (fun _ _ h => h)).tr t9 (fun _ _ h => h)).tr t10 (fun _ _ h => h)).tr t11 (fun _ _ h => h)).tr t12 (fun _ _ h => h))⟩
    have hzt : ft_zR (x :: d.1.take 1) = ft_z x + ft_zR (d.1.take 1) := rfl
    have okX : ft_okR ne c0.1 c0.2 k (x :: d.1.take 1) := fun z hz2 => by
      rcases List.mem_cons.1 hz2 with e | e
      · rw [e]; exact okx
      · exact o1.2.2 z (List.mem_of_mem_take e)
    have t3' := ((((((((t3.tr t5).tr t6).tr t7).tr t8).tr t9).tr t10).tr t11).tr t12)
    have tb' := ((((((((tb.tr t5 (fun _ _ h => h)).tr t6 (fun _ _ h => h)).tr t7 (fun _ _ h => h)).tr t8 (fun _ _ h => h)).tr t9 (fun _ _ h => h)).tr t10 (fun _ _ h => h)).tr t11 (fun _ _ h => h)).tr t12 (fun _ _ h => h))
    have m' := ((((hMt.tr t8 (fun _ _ h => h)).tr t9 (fun _ _ h => h)).tr t10 (fun _ _ h => h)).tr t11 (fun _ _ h => h)).tr t12 (fun _ _ h => h)
    have n1' := ((((hU7.2.1.tr t8).tr t9).tr t10).tr t11).tr t12
    have e1' := ((((hU7.2.2.1.tr t8 (fun _ _ h => h)).tr t9 (fun _ _ h => h)).tr t10 (fun _ _ h => h)).tr t11 (fun _ _ h => h)).tr t12 (fun _ _ h => h)
    refine x_aload_n X d_U_front_118 rfl hl rfl ?_
    refine x_aload_n X d_U_front_119 rfl hl rfl ?_
    refine x_getN X gT (((((((t1.tr t5).tr t6).tr t7).tr t8).tr t9).tr t10).tr t11).2 2 (by decide) e_U_60 rfl d_U_front_120 ?_
    refine x_go0 (x_runIN X (C_T_init_d l D A _ H3.size hPo (fun q => S q ∨ q = H3.size) rh E ne c0.1 c0.2 (Or.inr rfl) k (x :: d.1.take 1) [a, b0] H4.size okX hr hL (by rw [htk]; simp) (by omega) d.2 bs rc o2.2.2 t3' tb' (by omega) (by omega) F.1.1 F.1.2 mt m') b_T_init rfl s_T_init e_U_19 rfl hl rfl (Nat.le_of_ble_eq_true rfl) d_U_front_123 (by dsimp only [x_rm]; omega) (by dsimp only [x_rm]; omega) ⟨(by dsimp only [x_rm]; omega), (by dsimp only [x_rm]; omega)⟩) hS (fun q h => ?_) (fun H9 locs hO hF9 hS => ?_)
    · rcases h with h | h
      · rw [h]; exact Or.inr hz3
      · exact Or.inr (Nat.le_trans hS.1 h)
    have tz : cTr (fun q => S q ∨ q = H3.size) S H7 H9 := cTr.done hF9
    have hu9 := hF9.at hu (by show u ≠ H3.size; have hu3 : u < H3.size := hu3; omega)
    exact x_aret X (Or.inl ⟨_, rfl⟩) hS (by omega) (by omega) d_U_front_126 ⟨H3.size, rfl, ⟨H4.size, mt, rc, [a, b0], bs, ⟨fun h => absurd (hSb _ h) (by show ¬ H3.size < H0.size; omega), hO⟩, hr.tr tz, t3'.tr tz, hL.tr tz (fun _ _ h => h), tb'.tr tz (fun _ _ h => h), m'.tr tz (fun _ _ h => h)⟩, hu9, n1'.tr tz, e1'.tr tz (fun _ _ h => h), hU.2.2.2⟩
