/-! The class: allFront, allBack, groups. -/
theorem ft_drop_cons {l : List ft_I} {g : Nat} (h : g < l.length) : l.drop g = l.getD g ft_no :: l.drop (g + 1) := by
  rw [List.drop_eq_getElem_cons h, ft_gD h]
theorem ft_take_app {l : List ft_I} {g : Nat} (h : g < l.length) : l.take (g + 1) = l.take g ++ [l.getD g ft_no] := by
  rw [List.take_succ_eq_append_getElem h, ft_gD h]
theorem ft_af_d {l : List ft_I} {g : Nat} (h : g < l.length) (a : ft_T × ft_C) : ft_af (l.drop g) a = ft_fr (l.getD g ft_no) (ft_af (l.drop (g + 1)) a).1.1 (ft_af (l.drop (g + 1)) a).1.2 (ft_af (l.drop (g + 1)) a).2 := by
  rw [ft_drop_cons h]
  rfl
theorem ft_ab_t {l : List ft_I} {g : Nat} (h : g < l.length) (a : ft_T × ft_C) : ft_ab (l.take (g + 1)) a = ft_bk (ft_ab (l.take g) a).1.1 (ft_ab (l.take g) a).1.2 (l.getD g ft_no) (ft_ab (l.take g) a).2 := by
  rw [ft_take_app h]
  unfold ft_ab
  rw [List.foldl_append]
  rfl
theorem nI_m1 : nI 0 - nI 1 = -1 := by decide
theorem nI_pr (n : Nat) : nI (n + 1) - nI 1 = nI n := nI_pred n
set_option maxRecDepth 100000 in
set_option maxHeartbeats 4000000 in
theorem C_U_allFront (l : Launch) (D : va_G) (A : Nat → ClassId) (H0 : Heap) (S : Nat → Prop) (rh : Nat → Nat) (E : ft_E) (ne : Nat) (c0 : ft_C) (u nn em : Nat) (hU : cUs D A S rh E u nn em c0.1 H0) (hSb : ∀ q, S q → q < H0.size) (hrh : ∀ n, c0.1 < n → rh n = n) (k : Nat) (lr1 : List ft_I) (as1 : List Nat) (r1 : Nat) (ok1 : ft_okR ne c0.1 c0.2 k lr1) (hr1 : cRw D A S as1 r1 H0) (hL1 : cL D A S rh E lr1 as1 H0) (h91 : lr1.length < 64) (hz1 : ft_zR lr1 < 4096) (sp : ft_S) (o : Option ft_I) (t : Nat) (okt : ft_okT ne c0.1 c0.2 k sp o) (hT : cT D A S rh E sp o t H0) (h4 : lr1.length ≤ 4) (hz : ft_zR lr1 + ft_zT sp o < 64) : xC l y_U_allFront c_U_allFront 5 (some (.object "FingerSpans$Tree")) 11 D A H0 [.ref u, .ref r1, .ref t] (xA (fun q => q = u) H0) (qr (fun r H1 => cT D A S rh E (ft_af lr1 ((sp, o), c0)).1.1 (ft_af lr1 ((sp, o), c0)).1.2 r H1 ∧ cUs D A S rh E u nn em (ft_af lr1 ((sp, o), c0)).2.1 H1)) 96 768 := by
  have hlen := cL_len hL1
  refine xC.of rfl (Nat.le_of_ble_eq_true rfl) ?_
  intro p_ e_ s_ m_ ar_ bl_ me_ c_ ls X hl
  have hl : lz ls 5 [some (.ref u), some (.ref r1), some (.ref t), none, none] := hl
  have hS : va_S (xA (fun q => q = u) H0) H0 H0 [] := va_S.rf
  have hSu : S u := hU.2.2.2
  refine x_aload_n X d_U_allFront_0 rfl hl rfl ?_
  refine x_astore_n X d_U_allFront_1 rfl hl (by decide) rfl (fun ls hl => ?_)
  refine x_aload_n X d_U_allFront_2 rfl hl rfl ?_
  refine x_alen X hr1 d_U_allFront_3 ?_
  rw [hlen]
  refine x_iconst (v := nI 1) X d_U_allFront_4 rfl ?_
  refine x_isub X d_U_allFront_5 ?_
  refine x_istore X d_U_allFront_6 hl (by decide) rfl (fun ls hl => ?_)
  have loop : ∀ (g r : Nat) (H : Heap) (locs : List Loc) (ls : Array Slot), g ≤ lr1.length → lz ls 5 [some (.ref u), some (.ref r1), some (.ref t), some (.ref r), some (.int (nI g - nI 1))] → cRw D A S as1 r1 H → cL D A S rh E lr1 as1 H → cT D A S rh E (ft_af (lr1.drop g) ((sp, o), c0)).1.1 (ft_af (lr1.drop g) ((sp, o), c0)).1.2 r H → cUs D A S rh E u nn em (ft_af (lr1.drop g) ((sp, o), c0)).2.1 H → (∀ q, S q → q < H.size) → va_S (xA (fun q => q = u) H0) H0 H locs → W p_ l e_ (x_rm 11 96 768) s_ m_ ar_ bl_ me_ c_ H locs (24 * (lr1.length - g)) (192 * (lr1.length - g)) (MQ bl_ (xQ (xA (fun q => q = u) H0) (qr (fun r H1 => cT D A S rh E (ft_af lr1 ((sp, o), c0)).1.1 (ft_af lr1 ((sp, o), c0)).1.2 r H1 ∧ cUs D A S rh E u nn em (ft_af lr1 ((sp, o), c0)).2.1 H1))) ar_ s_ 96 768 (xA (fun q => q = u) H0)) (F0 m_ 8 ls []) := by
    clear hl hS hr1 hL1 hT hU hSb
    intro g
    induction g with
    | zero =>
      intro r H locs ls hg hl hr1 hL1 hT hU hSb hS
      rw [nI_m1] at hl
      rw [List.drop_zero] at hT hU
      refine x_iload X d_U_allFront_8 hl rfl ?_
      refine x_if_lt X 29 d_U_allFront_10 rfl (fun _ => ?_) (fun hc => absurd (by decide) hc)
      refine x_aload_n X d_U_allFront_29 rfl hl rfl ?_
      exact x_aret X (Or.inl ⟨_, rfl⟩) hS (by omega) (by omega) d_U_allFront_30 ⟨_, rfl, hT, hU⟩
    | succ g ih =>
      intro r H locs ls hg hl hr1 hL1 hT hU hSb hS
      rw [nI_pr] at hl
      have hex := ft_af_ok (lr1.drop (g + 1)) ((sp, o), c0) (ft_okR_drop ok1 _) okt
      have hnext := ft_af_d (l := lr1) (g := g) (by omega) ((sp, o), c0)
      have hzs := ft_zR_td lr1 g
      rw [ft_drop_cons (l := lr1) (g := g) (by omega)] at hzs
      have hzs : ft_zR (lr1.take g) + (ft_z (lr1.getD g ft_no) + ft_zR (lr1.drop (g + 1))) = ft_zR lr1 := hzs
      obtain ⟨b, hb, okb, hbx⟩ := cL_at ok1 hL1 (i := g) (by omega)
      obtain ⟨e1, e2, e3⟩ := hex
      have okb2 := ft_ok_ex e1 okb
      generalize hA : (ft_af (lr1.drop (g + 1)) ((sp, o), c0)) = a at hnext hT hU e1 e2 e3 okb2
      dsimp only at e1 e2 e3
      obtain ⟨tl, tr, tmv, trs, tO⟩ := cT_obj hT
      have h5 := ft_len5 e2 (by omega)
      have hSu : S u := hU.2.2.2
      refine x_iload X d_U_allFront_8 hl rfl ?_
      refine n_if_lt X 29 d_U_allFront_10 rfl (by omega) (fun hc => absurd hc (by omega)) (fun hc => ?_)
      refine x_aload_n X d_U_allFront_13 rfl hl rfl ?_
      refine x_aload_n X d_U_allFront_14 rfl hl rfl ?_
      refine x_iload X d_U_allFront_15 hl rfl ?_
      refine x_aald X hr1 hb (by omega) d_U_allFront_17 ?_
      refine x_aload_n X d_U_allFront_18 rfl hl rfl ?_
      refine x_gor (x_runV X (C_U_front l D A _ S rh E ne a.2 u nn em hU hSb (fun n hn => hrh n (Nat.lt_of_le_of_lt e1.1 hn)) k (lr1.getD g ft_no) b okb2 hbx a.1.1 a.1.2 r e2 hT (by omega)) b_U_front s_U_front v_U_front e_U_71 hU.1 rfl rfl hl rfl (Nat.le_of_ble_eq_true rfl) d_U_allFront_19 (by dsimp only [x_rm]; omega) (by dsimp only [x_rm]; omega) ⟨(by dsimp only [x_rm]; omega), (by dsimp only [x_rm]; omega)⟩) hS (xA.mono (fun _ h => h) hS.1) (fun r2 G1 locs hR hF1 hS => ?_)
      have t_ : cTr S S H G1 := cTr.fr hF1 (fun q h => by rw [h]; exact hU.2.2.2)
      have hr1 := hr1.tr t_
      have hL1 := hL1.tr t_ (fun _ _ h => h)
      have hU := hR.2
      have hSb := c_sb hSb hF1.1
      have hR1 := hR.1
      rw [← hnext] at hR1 hU
      refine x_astore_n X d_U_allFront_22 rfl hl (by decide) rfl (fun ls hl => ?_)
      refine x_iincR X d_U_allFront_23 hl rfl (by decide) rfl (fun ls hl => ?_)
      refine x_goto X 8 d_U_allFront_26 rfl ?_
      refine W.widen ?_ ?_ (ih r2 G1 _ _ (by omega) hl hr1 hL1 hR1 hU hSb hS)
      · omega
      · omega
  refine W.widen ?_ ?_ (loop lr1.length t H0 _ _ (Nat.le_refl _) hl hr1 hL1 (by rw [List.drop_length]; exact hT) (by rw [List.drop_length]; exact hU) hSb hS) <;> omega
set_option maxRecDepth 100000 in
set_option maxHeartbeats 4000000 in
theorem C_U_allBack (l : Launch) (D : va_G) (A : Nat → ClassId) (H0 : Heap) (S : Nat → Prop) (rh : Nat → Nat) (E : ft_E) (ne : Nat) (c0 : ft_C) (u nn em : Nat) (hU : cUs D A S rh E u nn em c0.1 H0) (hSb : ∀ q, S q → q < H0.size) (hrh : ∀ n, c0.1 < n → rh n = n) (k : Nat) (lr1 : List ft_I) (as1 : List Nat) (r1 : Nat) (ok1 : ft_okR ne c0.1 c0.2 k lr1) (hr1 : cRw D A S as1 r1 H0) (hL1 : cL D A S rh E lr1 as1 H0) (h91 : lr1.length < 64) (hz1 : ft_zR lr1 < 4096) (sp : ft_S) (o : Option ft_I) (t : Nat) (okt : ft_okT ne c0.1 c0.2 k sp o) (hT : cT D A S rh E sp o t H0) (h4 : lr1.length ≤ 4) (hz : ft_zR lr1 + ft_zT sp o < 64) : xC l y_U_allBack c_U_allBack 5 (some (.object "FingerSpans$Tree")) 11 D A H0 [.ref u, .ref t, .ref r1] (xA (fun q => q = u) H0) (qr (fun r H1 => cT D A S rh E (ft_ab lr1 ((sp, o), c0)).1.1 (ft_ab lr1 ((sp, o), c0)).1.2 r H1 ∧ cUs D A S rh E u nn em (ft_ab lr1 ((sp, o), c0)).2.1 H1)) 96 768 := by
  have hlen := cL_len hL1
  refine xC.of rfl (Nat.le_of_ble_eq_true rfl) ?_
  intro p_ e_ s_ m_ ar_ bl_ me_ c_ ls X hl
  have hl : lz ls 5 [some (.ref u), some (.ref t), some (.ref r1), none, none] := hl
  have hS : va_S (xA (fun q => q = u) H0) H0 H0 [] := va_S.rf
  have hSu : S u := hU.2.2.2
  refine x_aload_n X d_U_allBack_0 rfl hl rfl ?_
  refine x_astore_n X d_U_allBack_1 rfl hl (by decide) rfl (fun ls hl => ?_)
  refine x_iconst (v := nI 0) X d_U_allBack_2 rfl ?_
  refine x_istore X d_U_allBack_3 hl (by decide) rfl (fun ls hl => ?_)
  have loop : ∀ (g r : Nat) (H : Heap) (locs : List Loc) (ls : Array Slot), g ≤ lr1.length → lz ls 5 [some (.ref u), some (.ref t), some (.ref r1), some (.ref r), some (.int (nI (lr1.length - g)))] → cRw D A S as1 r1 H → cL D A S rh E lr1 as1 H → cT D A S rh E (ft_ab (lr1.take (lr1.length - g)) ((sp, o), c0)).1.1 (ft_ab (lr1.take (lr1.length - g)) ((sp, o), c0)).1.2 r H → cUs D A S rh E u nn em (ft_ab (lr1.take (lr1.length - g)) ((sp, o), c0)).2.1 H → (∀ q, S q → q < H.size) → va_S (xA (fun q => q = u) H0) H0 H locs → W p_ l e_ (x_rm 11 96 768) s_ m_ ar_ bl_ me_ c_ H locs (24 * (lr1.length - g)) (192 * (lr1.length - g)) (MQ bl_ (xQ (xA (fun q => q = u) H0) (qr (fun r H1 => cT D A S rh E (ft_ab lr1 ((sp, o), c0)).1.1 (ft_ab lr1 ((sp, o), c0)).1.2 r H1 ∧ cUs D A S rh E u nn em (ft_ab lr1 ((sp, o), c0)).2.1 H1))) ar_ s_ 96 768 (xA (fun q => q = u) H0)) (F0 m_ 5 ls []) := by
    clear hl hS hr1 hL1 hT hU hSb
    intro g
    induction g with
    | zero =>
      intro r H locs ls hg hl hr1 hL1 hT hU hSb hS
      rw [Nat.sub_zero] at hl
      rw [Nat.sub_zero, List.take_length] at hT hU
      refine x_iload X d_U_allBack_5 hl rfl ?_
      refine x_aload_n X d_U_allBack_7 rfl hl rfl ?_
      refine x_alen X hr1 d_U_allBack_8 ?_
      rw [hlen]
      refine n_icmp_ge X 28 d_U_allBack_9 rfl (by omega) (by omega) (fun hc => ?_) (fun hc => absurd hc (by omega))
      refine x_aload_n X d_U_allBack_28 rfl hl rfl ?_
      exact x_aret X (Or.inl ⟨_, rfl⟩) hS (by omega) (by omega) d_U_allBack_29 ⟨_, rfl, hT, hU⟩
    | succ g ih =>
      intro r H locs ls hg hl hr1 hL1 hT hU hSb hS
      have hi9 : lr1.length - g = lr1.length - (g + 1) + 1 := by omega
      rw [hi9] at ih
      generalize hi8 : lr1.length - (g + 1) = i at ih hl hT hU ⊢
      have hex := ft_ab_ok (lr1.take i) ((sp, o), c0) (ft_okR_take ok1 _) okt
      have hnext := ft_ab_t (l := lr1) (g := i) (by omega) ((sp, o), c0)
      have hzs := ft_zR_td lr1 i
      rw [ft_drop_cons (l := lr1) (g := i) (by omega)] at hzs
      have hzs : ft_zR (lr1.take i) + (ft_z (lr1.getD i ft_no) + ft_zR (lr1.drop (i + 1))) = ft_zR lr1 := hzs
      obtain ⟨b, hb, okb, hbx⟩ := cL_at ok1 hL1 (i := i) (by omega)
      obtain ⟨e1, e2, e3⟩ := hex
      have okb2 := ft_ok_ex e1 okb
      generalize hA : (ft_ab (lr1.take i) ((sp, o), c0)) = a at hnext hT hU e1 e2 e3 okb2
      dsimp only at e1 e2 e3
      obtain ⟨tl, tr, tmv, trs, tO⟩ := cT_obj hT
      have h5 := ft_len5 e2 (by omega)
      have hSu : S u := hU.2.2.2
      refine x_iload X d_U_allBack_5 hl rfl ?_
      refine x_aload_n X d_U_allBack_7 rfl hl rfl ?_
      refine x_alen X hr1 d_U_allBack_8 ?_
      rw [hlen]
      refine n_icmp_ge X 28 d_U_allBack_9 rfl (by omega) (by omega) (fun hc => absurd hc (by omega)) (fun hc => ?_)
      refine x_aload_n X d_U_allBack_12 rfl hl rfl ?_
      refine x_aload_n X d_U_allBack_13 rfl hl rfl ?_
      refine x_aload_n X d_U_allBack_14 rfl hl rfl ?_
      refine x_iload X d_U_allBack_15 hl rfl ?_
      refine x_aald X hr1 hb (by omega) d_U_allBack_17 ?_
      refine x_gor (x_runV X (C_U_back l D A _ S rh E ne a.2 u nn em hU hSb (fun n hn => hrh n (Nat.lt_of_le_of_lt e1.1 hn)) k (lr1.getD i ft_no) b okb2 hbx a.1.1 a.1.2 r e2 hT (by omega)) b_U_back s_U_back v_U_back e_U_78 hU.1 rfl rfl hl rfl (Nat.le_of_ble_eq_true rfl) d_U_allBack_18 (by dsimp only [x_rm]; omega) (by dsimp only [x_rm]; omega) ⟨(by dsimp only [x_rm]; omega), (by dsimp only [x_rm]; omega)⟩) hS (xA.mono (fun _ h => h) hS.1) (fun r2 G1 locs hR hF1 hS => ?_)
      have t_ : cTr S S H G1 := cTr.fr hF1 (fun q h => by rw [h]; exact hU.2.2.2)
      have hr1 := hr1.tr t_
      have hL1 := hL1.tr t_ (fun _ _ h => h)
      have hU := hR.2
      have hSb := c_sb hSb hF1.1
      have hR1 := hR.1
      rw [← hnext] at hR1 hU
      refine x_astore_n X d_U_allBack_21 rfl hl (by decide) rfl (fun ls hl => ?_)
      refine n_iinc (d := 1) X d_U_allBack_22 rfl hl rfl (by decide) rfl (fun ls hl => ?_)
      refine x_goto X 5 d_U_allBack_25 rfl ?_
      refine W.widen ?_ ?_ (ih r2 G1 _ _ (by omega) hl hr1 hL1 hR1 hU hSb hS)
      · omega
      · omega
  refine W.widen ?_ ?_ (loop lr1.length t H0 _ _ (Nat.le_refl _) (by rw [Nat.sub_self]; exact hl) hr1 hL1 (by rw [Nat.sub_self]; exact hT) (by rw [Nat.sub_self]; exact hU) hSb hS) <;> omega
