/-! The class: back, where it makes no node. -/
set_option maxRecDepth 100000 in
set_option maxHeartbeats 4000000 in
theorem C_U_back_s (l : Launch) (D : va_G) (A : Nat → ClassId) (H0 : Heap) (S : Nat → Prop) (rh : Nat → Nat) (E : ft_E) (ne : Nat) (c0 : ft_C) (u nn em : Nat) (hU : cUs D A S rh E u nn em c0.1 H0) (hSb : ∀ q, S q → q < H0.size) (hrh : ∀ n, c0.1 < n → rh n = n) (k : Nat) (x : ft_I) (a : Nat) (okx : ft_ok ne c0.1 c0.2 k x) (hx : cI D A S rh E x [a] H0) (sp : ft_S) (o : Option ft_I) (t : Nat) (ok : ft_okT ne c0.1 c0.2 k sp o) (hT : cT D A S rh E sp o t H0) (hz : ft_z x + ft_zT sp o < 64) (hno : ∀ d sp1, sp = d :: sp1 → d.2.length < 4) : xC l y_U_back c_U_back 4 (some (.object "FingerSpans$Tree")) (sp.length + 5) D A H0 [.ref u, .ref t, .ref a] (xA (fun q => q = u) H0) (qr (fun r H1 => cT D A S rh E (ft_bk sp o x c0).1.1 (ft_bk sp o x c0).1.2 r H1 ∧ cUs D A S rh E u nn em (ft_bk sp o x c0).2.1 H1)) (4 * sp.length + 4) (32 * sp.length + 32) := by
  cases sp with
  | nil =>
    have ok0 := ok
    have hT0 := hT
    obtain ⟨lc, rc, as, t1, t2, t3, t4⟩ := hT
    cases o with
    | none =>
      refine xC.of rfl (Nat.le_of_ble_eq_true rfl) ?_
      intro p_ e_ s_ m_ ar_ bl_ me_ c_ ls X hl
      have hl : lz ls 4 [some (.ref u), some (.ref t), some (.ref a), none] := hl
      have hS : va_S (xA (fun q => q = u) H0) H0 H0 [] := va_S.rf
      refine x_aload_n X d_U_back_0 rfl hl rfl ?_
      refine x_goR (x_runVN X (C_T_isEmpty l D A _ S rh E ne c0.1 c0.2 k [] none t ok0 hT0 (by omega)) b_T_isEmpty s_T_isEmpty v_T_isEmpty e_U_37 t1.2 rfl rfl hl rfl (Nat.le_of_ble_eq_true rfl) d_U_back_1 (by dsimp only [x_rm]; omega) (by dsimp only [x_rm]; omega) ⟨Nat.le_of_ble_eq_true rfl, Nat.le_of_ble_eq_true rfl⟩) hS (fun locs hS => ?_)
      rw [show (if ft_em [] none then 1 else 0) = 1 from rfl]
      refine n_if_eq X 13 d_U_back_4 rfl (by decide) (fun hc => absurd hc (by decide)) (fun hc => ?_)
      refine x_aload_n X d_U_back_7 rfl hl rfl ?_
      refine x_aload_n X d_U_back_8 rfl hl rfl ?_
      refine x_gor (x_runV X (C_U_single l D A _ S rh E ne c0.1 c0.2 u nn em c0.1 hU hSb k x a okx hx (by omega)) b_U_single s_U_single v_U_single e_U_41 hU.1 rfl rfl hl rfl (Nat.le_of_ble_eq_true rfl) d_U_back_9 (Nat.le_of_ble_eq_true rfl) (Nat.le_of_ble_eq_true rfl) ⟨Nat.le_of_ble_eq_true rfl, Nat.le_of_ble_eq_true rfl⟩) hS (fun q h => by rcases h with h | h; exact h.elim; exact Or.inr (Nat.le_trans hS.1 h)) (fun r H locs hR hF hS => ?_)
      have t5 : cTr S S H0 H := cTr.fr hF (fun _ h => h.elim)
      exact x_aret X (Or.inl ⟨_, rfl⟩) hS (Nat.le_of_ble_eq_true rfl) (Nat.le_of_ble_eq_true rfl) d_U_back_12 ⟨r, rfl, hR.2, hF.at hU.1 (fun h => h), hU.2.1.tr t5, hU.2.2.1.tr t5 (fun _ _ h => h), hU.2.2.2⟩
    | some y =>
      have hzy : ft_zT [] (some y) = ft_z y := rfl
      refine xC.of rfl (Nat.le_of_ble_eq_true rfl) ?_
      intro p_ e_ s_ m_ ar_ bl_ me_ c_ ls X hl
      have hl : lz ls 4 [some (.ref u), some (.ref t), some (.ref a), none] := hl
      have hS : va_S (xA (fun q => q = u) H0) H0 H0 [] := va_S.rf
      refine x_aload_n X d_U_back_0 rfl hl rfl ?_
      refine x_goR (x_runVN X (C_T_isEmpty l D A _ S rh E ne c0.1 c0.2 k [] (some y) t ok0 hT0 (by omega)) b_T_isEmpty s_T_isEmpty v_T_isEmpty e_U_37 t1.2 rfl rfl hl rfl (Nat.le_of_ble_eq_true rfl) d_U_back_1 (by dsimp only [x_rm]; omega) (by dsimp only [x_rm]; omega) ⟨Nat.le_of_ble_eq_true rfl, Nat.le_of_ble_eq_true rfl⟩) hS (fun locs hS => ?_)
      rw [show (if ft_em [] (some y) then 1 else 0) = 0 from rfl]
      refine n_if_eq X 13 d_U_back_4 rfl (by decide) (fun hc => ?_) (fun hc => absurd rfl hc)
      refine x_aload_n X d_U_back_13 rfl hl rfl ?_
      refine x_goR (x_runVN X (C_T_isDeep l D A _ S rh E ne c0.1 c0.2 k [] (some y) t ok0 hT0 (by omega)) b_T_isDeep s_T_isDeep v_T_isDeep e_U_45 t1.2 rfl rfl hl rfl (Nat.le_of_ble_eq_true rfl) d_U_back_14 (by dsimp only [x_rm]; omega) (by dsimp only [x_rm]; omega) ⟨Nat.le_of_ble_eq_true rfl, Nat.le_of_ble_eq_true rfl⟩) hS (fun locs hS => ?_)
      rw [show ft_de [] = 0 from rfl]
      refine n_if_ne X 40 d_U_back_17 rfl (by decide) (fun hc => absurd rfl hc) (fun hc => ?_)
      have hA : ∀ q, H0.size ≤ q → (xA (fun q => q = u) H0) q := fun q h => Or.inr h
      refine x_new X gT e_U_17 n_T i_T (va_P1 hU.1) (va_D1 (Or.inl rfl)) hS hA x_defT (by dsimp only [x_rm]; omega) (by dsimp only [x_rm]; omega) d_U_back_20 (fun oo H hP hD hS => ?_)
      have ho : H0.size ≤ oo := by
        rcases hD.2 1 _ rfl with h | h
        · exact absurd (hD.1 1 0 _ _ rfl rfl h) (by decide)
        · exact h
      have huo : u ≠ oo := fun h => absurd (hD.1 0 1 _ _ rfl rfl h) (by decide)
      have hoH := c_lt (hP 1 _ rfl)
      have t5 : cTr S (fun q => S q ∨ q = oo) H0 H := cTr.new hS ho (fun q h => by rw [h]; exact hU.2.2.2)
      have hx1 := hx.tr t5 (fun _ _ h => h)
      have hSb1 : ∀ q, (S q ∨ q = oo) → q < H.size := fun q h => by
        rcases h with h | h
        · exact Nat.lt_of_lt_of_le (hSb q h) hS.1
        · rw [h]; exact hoH
      refine x_dup X d_U_back_23 rfl ?_
      refine x_aload_n X d_U_back_24 rfl hl rfl ?_
      refine x_getN X gT (t1.tr t5).2 0 (by decide) e_U_48 rfl d_U_back_25 ?_
      refine x_aload_n X d_U_back_28 rfl hl rfl ?_
      refine x_get X gU (hP 0 _ rfl) 1 (by decide) e_U_22 rfl d_U_back_29 ?_
      refine x_aload_n X d_U_back_32 rfl hl rfl ?_
      refine x_gor (x_runS X (C_U_rowOf l D A _ (fun q => S q ∨ q = oo) rh E ne c0.1 c0.2 k x a okx hx1) b_U_rowOf s_U_rowOf e_U_33 rfl hl rfl (Nat.le_of_ble_eq_true rfl) d_U_back_33 (by dsimp only [x_rm]; omega) (by dsimp only [x_rm]; omega) ⟨(by dsimp only [x_rm]; omega), (by dsimp only [x_rm]; omega)⟩) hS (fun q h => by rcases h with h | h; exact h.elim; exact Or.inr (Nat.le_trans hS.1 h)) (fun q H2 locs hR hF hS => ?_)
      have t6 : cTr (fun q => S q ∨ q = oo) (fun q => S q ∨ q = oo) H H2 := cTr.fr hF (fun _ h => h.elim)
      have hr := hR.rw hSb1
      have hL := cL_one.2 (hx1.tr t6 (fun _ _ h => h))
      have hPo := va_P1 (hF.at (hP 1 _ rfl) (fun h => h))
      have hu := hF.at (hP 0 _ rfl) (fun h => h)
      refine x_go0 (x_runIN X (C_T_init_d l D A _ oo hPo (fun q => S q ∨ q = oo) rh E ne c0.1 c0.2 (Or.inr rfl) k [y] as lc (fun z hz2 => by simp at hz2; rw [hz2]; exact ok) ((t2.tr t5).tr t6) ((cL.tr (l := [y]) t5 (fun _ _ h => h) t4).tr t6 (fun _ _ h => h)) (by simp) (by simp [ft_zR]; omega) [x] [a] q (fun z hz2 => by simp at hz2; rw [hz2]; exact okx) hr hL (by simp) (by simp [ft_zR]; omega) [] none em ((hU.2.2.1.tr t5 (fun _ _ h => h)).tr t6 (fun _ _ h => h))) b_T_init rfl s_T_init e_U_19 rfl hl rfl (Nat.le_of_ble_eq_true rfl) d_U_back_36 (by dsimp only [x_rm]; omega) (by dsimp only [x_rm]; omega) ⟨(by dsimp only [x_rm]; omega), (by dsimp only [x_rm]; omega)⟩) hS (fun q h => ?_) (fun H9 locs hO hF9 hS => ?_)
      · rcases h with h | h
        · rw [h]; exact Or.inr ho
        · exact Or.inr (Nat.le_trans hS.1 h)
      have t9 : cTr (fun q => S q ∨ q = oo) S H2 H9 := cTr.done hF9
      have hu9 := hF9.at hu huo
      exact x_aret X (Or.inl ⟨_, rfl⟩) hS (Nat.le_of_ble_eq_true rfl) (Nat.le_of_ble_eq_true rfl) d_U_back_39 ⟨oo, rfl, ⟨lc, em, q, as, [a], ⟨fun h => absurd (hSb oo h) (by omega), hO⟩, ((t2.tr t5).tr t6).tr t9, hr.tr t9, ((cL.tr (l := [y]) t5 (fun _ _ h => h) t4).tr t6 (fun _ _ h => h)).tr t9 (fun _ _ h => h), hL.tr t9 (fun _ _ h => h), ((hU.2.2.1.tr t5 (fun _ _ h => h)).tr t6 (fun _ _ h => h)).tr t9 (fun _ _ h => h)⟩, hu9, ((hU.2.1.tr t5).tr t6).tr t9, ((hU.2.2.1.tr t5 (fun _ _ h => h)).tr t6 (fun _ _ h => h)).tr t9 (fun _ _ h => h), hU.2.2.2⟩
  | cons d sp =>
    have h4 := hno d sp rfl
    have ok0 := ok
    have hT0 := hT
    obtain ⟨lc, mc, rc, as, bs, t1, t2, t3, t4, tb, tm⟩ := hT
    obtain ⟨o1, o2, o3⟩ := ok
    have hzz : ft_zT (d :: sp) o = ft_zR d.1 + ft_zT sp o + ft_zR d.2 := rfl
    have hlen := cL_len tb
    have hfr : ft_bk (d :: sp) o x c0 = (((d.1, d.2 ++ [x]) :: sp, o), c0) := by
      show (if d.2.length < 4 then _ else _) = _
      rw [if_pos h4]
    rw [hfr, List.length_cons]
    refine xC.of rfl (Nat.le_of_ble_eq_true rfl) ?_
    intro p_ e_ s_ m_ ar_ bl_ me_ c_ ls X hl
    have hl : lz ls 4 [some (.ref u), some (.ref t), some (.ref a), none] := hl
    have hS : va_S (xA (fun q => q = u) H0) H0 H0 [] := va_S.rf
    refine x_aload_n X d_U_back_0 rfl hl rfl ?_
    refine x_goR (x_runVN X (C_T_isEmpty l D A _ S rh E ne c0.1 c0.2 k (d :: sp) o t ok0 hT0 (by omega)) b_T_isEmpty s_T_isEmpty v_T_isEmpty e_U_37 t1.2 rfl rfl hl rfl (Nat.le_of_ble_eq_true rfl) d_U_back_1 (by dsimp only [x_rm]; omega) (by dsimp only [x_rm]; omega) ⟨Nat.le_of_ble_eq_true rfl, Nat.le_of_ble_eq_true rfl⟩) hS (fun locs hS => ?_)
    rw [show (if ft_em (d :: sp) o then 1 else 0) = 0 from rfl]
    refine n_if_eq X 13 d_U_back_4 rfl (by decide) (fun hc => ?_) (fun hc => absurd rfl hc)
    refine x_aload_n X d_U_back_13 rfl hl rfl ?_
    refine x_goR (x_runVN X (C_T_isDeep l D A _ S rh E ne c0.1 c0.2 k (d :: sp) o t ok0 hT0 (by omega)) b_T_isDeep s_T_isDeep v_T_isDeep e_U_45 t1.2 rfl rfl hl rfl (Nat.le_of_ble_eq_true rfl) d_U_back_14 (by dsimp only [x_rm]; omega) (by dsimp only [x_rm]; omega) ⟨Nat.le_of_ble_eq_true rfl, Nat.le_of_ble_eq_true rfl⟩) hS (fun locs hS => ?_)
    rw [show ft_de (d :: sp) = 1 from rfl]
    refine n_if_ne X 40 d_U_back_17 rfl (by decide) (fun hc => ?_) (fun hc => absurd hc (by decide))
    refine x_aload_n X d_U_back_40 rfl hl rfl ?_
    refine x_getN X gT t1.2 2 (by decide) e_U_60 rfl d_U_back_41 ?_
    refine x_alen X t3 d_U_back_44 ?_
    rw [hlen]
    refine x_iconst (v := nI 4) X d_U_back_45 rfl ?_
    refine n_icmp_ge X 76 d_U_back_46 rfl (by omega) (by omega) (fun hc => absurd hc (by omega)) (fun hc => ?_)
    have hA : ∀ q, H0.size ≤ q → (xA (fun q => q = u) H0) q := fun q h => Or.inr h
    refine x_new X gT e_U_17 n_T i_T (va_P1 hU.1) (va_D1 (Or.inl rfl)) hS hA x_defT (by dsimp only [x_rm]; omega) (by dsimp only [x_rm]; omega) d_U_back_49 (fun oo H hP hD hS => ?_)
    have ho : H0.size ≤ oo := by
      rcases hD.2 1 _ rfl with h | h
      · exact absurd (hD.1 1 0 _ _ rfl rfl h) (by decide)
      · exact h
    have huo : u ≠ oo := fun h => absurd (hD.1 0 1 _ _ rfl rfl h) (by decide)
    have hoH := c_lt (hP 1 _ rfl)
    have t5 : cTr S (fun q => S q ∨ q = oo) H0 H := cTr.new hS ho (fun q h => by rw [h]; exact hU.2.2.2)
    have hx1 := hx.tr t5 (fun _ _ h => h)
    have hSb1 : ∀ q, (S q ∨ q = oo) → q < H.size := fun q h => by
      rcases h with h | h
      · exact Nat.lt_of_lt_of_le (hSb q h) hS.1
      · rw [h]; exact hoH
    refine x_dup X d_U_back_52 rfl ?_
    refine x_aload_n X d_U_back_53 rfl hl rfl ?_
    refine x_getN X gT (t1.tr t5).2 0 (by decide) e_U_48 rfl d_U_back_54 ?_
    refine x_aload_n X d_U_back_57 rfl hl rfl ?_
    refine x_getN X gT (t1.tr t5).2 1 (by decide) e_U_57 rfl d_U_back_58 ?_
    refine x_aload_n X d_U_back_61 rfl hl rfl ?_
    refine x_getN X gT (t1.tr t5).2 2 (by decide) e_U_60 rfl d_U_back_62 ?_
    refine x_aload_n X d_U_back_65 rfl hl rfl ?_
    refine x_gor (x_runS X (C_U_rowOf l D A _ (fun q => S q ∨ q = oo) rh E ne c0.1 c0.2 k x a okx hx1) b_U_rowOf s_U_rowOf e_U_33 rfl hl rfl (Nat.le_of_ble_eq_true rfl) d_U_back_66 (by dsimp only [x_rm]; omega) (by dsimp only [x_rm]; omega) ⟨(by dsimp only [x_rm]; omega), (by dsimp only [x_rm]; omega)⟩) hS (fun q h => by rcases h with h | h; exact h.elim; exact Or.inr (Nat.le_trans hS.1 h)) (fun q H2 locs hR hF hS => ?_)
    have t6 : cTr (fun q => S q ∨ q = oo) (fun q => S q ∨ q = oo) H H2 := cTr.fr hF (fun _ h => h.elim)
    have hr := hR.rw hSb1
    have hL := cL_one.2 (hx1.tr t6 (fun _ _ h => h))
    have hPo := va_P1 (hF.at (hP 1 _ rfl) (fun h => h))
    have hu := hF.at (hP 0 _ rfl) (fun h => h)
    refine x_gor (x_runSN X (C_R_joined l D A _ (fun q => S q ∨ q = oo) rh E ne c0.1 c0.2 k d.2 bs rc o2.2.2 ((t3.tr t5).tr t6) ((tb.tr t5 (fun _ _ h => h)).tr t6 (fun _ _ h => h)) (by omega) (by omega) [x] [a] q (fun z hz2 => by simp at hz2; rw [hz2]; exact okx) hr hL (by simp) (by simp [ft_zR]; omega) (by simp only [List.length_singleton]; omega)) b_R_joined s_R_joined e_U_51 rfl hl rfl (Nat.le_of_ble_eq_true rfl) d_U_back_69 (by dsimp only [x_rm]; omega) (by dsimp only [x_rm]; omega) ⟨(by dsimp only [x_rm]; omega), (by dsimp only [x_rm]; omega)⟩) hS (fun q h => by rcases h with h | h; exact h.elim; exact Or.inr (Nat.le_trans hS.1 h)) (fun q3 H3 locs hR3 hF3 hS => ?_)
    have t7 : cTr (fun q => S q ∨ q = oo) (fun q => S q ∨ q = oo) H2 H3 := cTr.fr hF3 (fun _ h => h.elim)
    have hr3 := hR3.rw (fun q h => Nat.lt_of_lt_of_le (hSb1 q h) hF.1)
    have hL3 : cL D A (fun q => S q ∨ q = oo) rh E (d.2 ++ [x]) (bs ++ [a]) H3 := cL_app (((tb.tr t5 (fun _ _ h => h)).tr t6 (fun _ _ h => h)).tr t7 (fun _ _ h => h)) (hL.tr t7 (fun _ _ h => h))
    have hPo := va_P1 (hF3.at (hPo 0 _ rfl) (fun h => h))
    have hu := hF3.at hu (fun h => h)
    have t2' := ((t2.tr t5).tr t6).tr t7
    have t4' := ((t4.tr t5 (fun _ _ h => h)).tr t6 (fun _ _ h => h)).tr t7 (fun _ _ h => h)
    have tm' := ((tm.tr t5 (fun _ _ h => h)).tr t6 (fun _ _ h => h)).tr t7 (fun _ _ h => h)
    have n1' := ((hU.2.1.tr t5).tr t6).tr t7
    have e1' := ((hU.2.2.1.tr t5 (fun _ _ h => h)).tr t6 (fun _ _ h => h)).tr t7 (fun _ _ h => h)
    have hzx : ft_zR (d.2 ++ [x]) = ft_zR d.2 + ft_z x := by rw [ft_zR_app]; simp [ft_zR]
    have okXd : ft_okR ne c0.1 c0.2 k (d.2 ++ [x]) := fun z hz2 => by
      rcases List.mem_append.1 hz2 with e | e
      · exact o2.2.2 z e
      · rw [List.mem_singleton.1 e]; exact okx
    refine x_go0 (x_runIN X (C_T_init_d l D A _ oo hPo (fun q => S q ∨ q = oo) rh E ne c0.1 c0.2 (Or.inr rfl) k d.1 as lc o1.2.2 t2' t4' (by omega) (by omega) (d.2 ++ [x]) (bs ++ [a]) q3 okXd hr3 hL3 (by simp only [List.length_append, List.length_singleton]; omega) (by omega) sp o mc tm') b_T_init rfl s_T_init e_U_19 rfl hl rfl (Nat.le_of_ble_eq_true rfl) d_U_back_72 (by dsimp only [x_rm]; omega) (by dsimp only [x_rm]; omega) ⟨(by dsimp only [x_rm]; omega), (by dsimp only [x_rm]; omega)⟩) hS (fun q h => ?_) (fun H9 locs hO hF9 hS => ?_)
    · rcases h with h | h
      · rw [h]; exact Or.inr ho
      · exact Or.inr (Nat.le_trans hS.1 h)
    have t9 : cTr (fun q => S q ∨ q = oo) S H3 H9 := cTr.done hF9
    have hu9 := hF9.at hu huo
    rw [hzx, ← Nat.add_assoc] at hO
    have hzn : ft_zT ((d.1, d.2 ++ [x]) :: sp) o = ft_zR d.1 + ft_zT sp o + ft_zR d.2 + ft_z x := by
      show ft_zR d.1 + ft_zT sp o + ft_zR (d.2 ++ [x]) = _
      omega
    refine x_aret X (Or.inl ⟨_, rfl⟩) hS (by omega) (by omega) d_U_back_75 ⟨oo, rfl, ⟨lc, mc, q3, as, bs ++ [a], ⟨fun h => absurd (hSb oo h) (by omega), ?_⟩, t2'.tr t9, hr3.tr t9, t4'.tr t9 (fun _ _ h => h), hL3.tr t9 (fun _ _ h => h), tm'.tr t9 (fun _ _ h => h)⟩, hu9, n1'.tr t9, e1'.tr t9 (fun _ _ h => h), hU.2.2.2⟩
    dsimp only
    rw [hzn]
    exact hO
