/-! The class: groups. -/
theorem ft_gr_s {f : Nat} {l : List ft_I} {c : ft_C} (h : l.length ≠ 0) : ft_gr (f + 1) l c = (ft_nd (c.1 + 1) (l.take (ft_tk l.length)) :: (ft_gr f (l.drop (ft_tk l.length)) (ft_nw c (l.take (ft_tk l.length)))).1, (ft_gr f (l.drop (ft_tk l.length)) (ft_nw c (l.take (ft_tk l.length)))).2) := by
  show (if l.length = 0 then _ else _) = _
  rw [if_neg h]
theorem ft_gr_0 {f : Nat} {l : List ft_I} {c : ft_C} (h : l.length = 0) : ft_gr f l c = ([], c) := by
  cases f with
  | zero => rfl
  | succ f =>
    show (if l.length = 0 then _ else _) = _
    rw [if_pos h]
set_option maxRecDepth 100000 in
set_option maxHeartbeats 4000000 in
theorem C_U_groups (l : Launch) (D : va_G) (A : Nat → ClassId) (H0 : Heap) (S : Nat → Prop) (rh : Nat → Nat) (E : ft_E) (ne : Nat) (c0 : ft_C) (u nn em : Nat) (hU : cUs D A S rh E u nn em c0.1 H0) (hSb : ∀ q, S q → q < H0.size) (hrh : ∀ n, c0.1 < n → rh n = n) (k : Nat) (lr1 : List ft_I) (as1 : List Nat) (r1 : Nat) (ok1 : ft_okR ne c0.1 c0.2 k lr1) (hr1 : cRw D A S as1 r1 H0) (hL1 : cL D A S rh E lr1 as1 H0) (h91 : lr1.length < 64) (hz1 : ft_zR lr1 < 4096) (h12 : lr1.length ≤ 12) (h1 : lr1.length ≠ 1) : xC l y_U_groups c_U_groups 7 (some (.array (.object "FingerSpans$Item"))) 4 D A H0 [.ref u, .ref r1] (xA (fun q => q = u) H0) (qr (fun q H1 => ∃ bs, cNR D A bs q H0 H1 ∧ cL D A S rh E (ft_gr 16 lr1 c0).1 bs H1 ∧ cUs D A S rh E u nn em (ft_gr 16 lr1 c0).2.1 H1)) 9 72 := by
  have hlen := cL_len hL1
  refine xC.of rfl (Nat.le_of_ble_eq_true rfl) ?_
  intro p_ e_ s_ m_ ar_ bl_ me_ c_ ls X hl
  have hl : lz ls 7 [some (.ref u), some (.ref r1), none, none, none, none, none] := hl
  have hS : va_S (xA (fun q => q = u) H0) H0 H0 [] := va_S.rf
  have hSu : S u := hU.2.2.2
  refine x_aload_n X d_U_groups_0 rfl hl rfl ?_
  refine x_alen X hr1 d_U_groups_1 ?_
  rw [hlen]
  refine x_iconst (v := nI 2) X d_U_groups_2 rfl ?_
  refine n_iadd X d_U_groups_3 ?_
  refine x_iconst (v := nI 3) X d_U_groups_4 rfl ?_
  refine n_idiv X d_U_groups_5 (by omega) (by omega) (by omega) ?_
  have zz := hS.1
  refine x_newQ (S := S) X e_U_9 (by omega) hS hSb (by dsimp only [x_rm]; omega) (by dsimp only [x_rm]; omega) d_U_groups_6 (fun ar G1 h_ar hQ hF1 t_ar hS sb_ => ?_)
  have no_ar : ¬ (S) ar := c_ub hSb h_ar
  have n_ar_u : ¬ ar = u := Nat.ne_of_gt (Nat.lt_of_lt_of_le (c_lt hU.1) h_ar)
  have n_u_ar : ¬ u = ar := Nat.ne_of_lt (Nat.lt_of_lt_of_le (c_lt hU.1) h_ar)
  have t_ : cTr S (fun q => S q ∨ q = ar) H0 G1 := t_ar
  have hr1 := hr1.tr t_
  have hL1 := hL1.tr t_ (fun _ _ h => h)
  have hU := hU.mv t_ hF1 (fun h => h) (by first | exact hSu | exact Or.inl hSu | exact Or.inl (Or.inl hSu))
  have hSb : ∀ q, (S q ∨ q = ar) → q < G1.size := sb_
  have z_ar : H0.size ≤ ar := Nat.le_trans zz h_ar
  refine x_astore_n X d_U_groups_9 rfl hl (by decide) rfl (fun ls hl => ?_)
  refine x_iconst (v := nI 0) X d_U_groups_10 rfl ?_
  refine x_istore_n X d_U_groups_11 rfl hl (by decide) rfl (fun ls hl => ?_)
  refine x_iconst (v := nI 0) X d_U_groups_12 rfl ?_
  refine x_istore X d_U_groups_13 hl (by decide) rfl (fun ls hl => ?_)
  have loop : ∀ (g i f ff : Nat) (c1 : ft_C) (ns : List ft_I) (bs : List Nat) (v5 v6 : Option Value) (H : Heap) (locs : List Loc) (ls : Array Slot), i + g = ((lr1.length + 2) / 3) → f ≤ lr1.length → lr1.length - f ≠ 1 → (lr1.length - f + 2) / 3 = g → lr1.length - f ≤ ff → ft_gr 16 lr1 c0 = (ns ++ (ft_gr ff (lr1.drop f) c1).1, (ft_gr ff (lr1.drop f) c1).2) → ft_ex c0 c1 → bs.length = i → lz ls 7 [some (.ref u), some (.ref r1), some (.ref ar), some (.int (nI f)), some (.int (nI i)), v5, v6] → cL D A (fun q => S q ∨ q = ar) rh E ns bs H → va_at D vwCl (ar, cArr A 3 ((lr1.length + 2) / 3) (fun x => bs[x]?)) H → cRw D A (fun q => S q ∨ q = ar) as1 r1 H → cL D A (fun q => S q ∨ q = ar) rh E lr1 as1 H → cUs D A (fun q => S q ∨ q = ar) rh E u nn em c1.1 H → (∀ q, (S q ∨ q = ar) → q < H.size) → va_S (xA (fun q => q = u) H0) H0 H locs → W p_ l e_ (x_rm 4 9 72) s_ m_ ar_ bl_ me_ c_ H locs (1 + 2 * i) (((lr1.length + 2) / 3) + 17 * i) (MQ bl_ (xQ (xA (fun q => q = u) H0) (qr (fun q H1 => ∃ bs, cNR D A bs q H0 H1 ∧ cL D A S rh E (ft_gr 16 lr1 c0).1 bs H1 ∧ cUs D A S rh E u nn em (ft_gr 16 lr1 c0).2.1 H1))) ar_ s_ 9 72 (xA (fun q => q = u) H0)) (F0 m_ 15 ls []) := by
    clear hl hS hr1 hL1 hU hSb hQ
    intro g
    induction g with
    | zero =>
      intro i f ff c1 ns bs v5 v6 H locs ls hi hf hm hg hff hgr hex hbs hl hns hQ hr1 hL1 hU hSb hS
      rw [ft_gr_0 (f := ff) (l := lr1.drop f) (c := c1) (by rw [List.length_drop]; omega), List.append_nil] at hgr
      rw [hgr]
      have hiN : i = ((lr1.length + 2) / 3) := by omega
      refine x_iload X d_U_groups_15 hl rfl ?_
      refine x_aload_n X d_U_groups_17 rfl hl rfl ?_
      refine x_alenW X (va_P1 hQ) 0 3 ((lr1.length + 2) / 3) rfl rfl d_U_groups_18 ?_
      refine n_icmp_ge X 75 d_U_groups_19 rfl (by omega) (by omega) (fun hc => ?_) (fun hc => absurd hc (by omega))
      refine x_aload_n X d_U_groups_75 rfl hl rfl ?_
      have t_ : cTr (fun q => S q ∨ q = ar) S H H := cTr.dn
      rw [hiN] at hbs
      rw [← hbs] at hQ
      exact x_aret X (Or.inr ⟨_, rfl⟩) hS (by omega) (by omega) d_U_groups_76 ⟨_, rfl, bs, ⟨z_ar, hQ⟩, hns.tr t_ (fun _ _ h => h), hU.1, hU.2.1.tr t_, hU.2.2.1.tr t_ (fun _ _ h => h), hSu⟩
    | succ g ih =>
      intro i f ff c1 ns bs v5 v6 H locs ls hi hf hm hg hff hgr hex hbs hl hns hQ hr1 hL1 hU hSb hS
      have hmm : 2 ≤ lr1.length - f := by omega
      obtain ⟨k1, k2, k3, k4⟩ := ft_tk_le (n := lr1.length - f) hm (by omega)
      have hll : (lr1.drop f).length = lr1.length - f := List.length_drop ..
      obtain ⟨ff, rfl⟩ : ∃ j, ff = j + 1 := ⟨ff - 1, by omega⟩
      rw [ft_gr_s (f := ff) (l := lr1.drop f) (c := c1) (by rw [hll]; omega), hll, List.drop_drop] at hgr
      have okc := ft_okR_ex hex ok1
      have htk : (lr1.length - (f + ft_tk (lr1.length - f)) + 2) / 3 = g := by
        have : ft_tk (lr1.length - f) = 2 ∨ ft_tk (lr1.length - f) = 3 := by omega
        have h24 : ft_tk (lr1.length - f) = 2 → lr1.length - f = 2 ∨ lr1.length - f = 4 := fun h => by
          unfold ft_tk at h
          split at h
          · assumption
          · omega
        omega
      have hlt : ((lr1.drop f).take (ft_tk (lr1.length - f))).length = ft_tk (lr1.length - f) := by rw [List.length_take, hll]; omega
      have hz2 : ft_zR ((lr1.drop f).take (ft_tk (lr1.length - f))) < 4096 := by
        have e1 := ft_zR_td lr1 f
        have e2 := ft_zR_td (lr1.drop f) (ft_tk (lr1.length - f))
        omega
      have htd : ft_tk (lr1.length - f) = 2 ∨ ft_tk (lr1.length - f) = 3 := by omega
      have okn := ft_ok_nw (c := c1) (ft_okR_take (ft_okR_drop okc f) (ft_tk (lr1.length - f))) (by rw [hlt]; exact htd)
      have hex2 := ft_ex_tr hex (ft_ex_nw c1 ((lr1.drop f).take (ft_tk (lr1.length - f))))
      refine x_iload X d_U_groups_15 hl rfl ?_
      refine x_aload_n X d_U_groups_17 rfl hl rfl ?_
      refine x_alenW X (va_P1 hQ) 0 3 ((lr1.length + 2) / 3) rfl rfl d_U_groups_18 ?_
      refine n_icmp_ge X 75 d_U_groups_19 rfl (by omega) (by omega) (fun hc => absurd hc (by omega)) (fun hc => ?_)
      refine x_aload_n X d_U_groups_22 rfl hl rfl ?_
      refine x_alen X hr1 d_U_groups_23 ?_
      rw [hlen]
      refine x_iload_n X d_U_groups_24 rfl hl rfl ?_
      refine n_isub X d_U_groups_25 (by omega) ?_
      refine x_istore X d_U_groups_26 hl (by decide) rfl (fun ls hl => ?_)
      suffices k45 : W p_ l e_ (x_rm 4 9 72) s_ m_ ar_ bl_ me_ c_ H locs (1 + 2 * i) (((lr1.length + 2) / 3) + 17 * i) (MQ bl_ (xQ (xA (fun q => q = u) H0) (qr (fun q H1 => ∃ bs, cNR D A bs q H0 H1 ∧ cL D A S rh E (ft_gr 16 lr1 c0).1 bs H1 ∧ cUs D A S rh E u nn em (ft_gr 16 lr1 c0).2.1 H1))) ar_ s_ 9 72 (xA (fun q => q = u) H0)) (F0 m_ 45 ls [.int (nI (ft_tk (lr1.length - f)))]) by
        by_cases h2 : lr1.length - f = 2
        · rw [show ft_tk (lr1.length - f) = 2 from by unfold ft_tk; rw [if_pos (Or.inl h2)]] at k45
          refine x_iload X d_U_groups_28 hl rfl ?_
          refine x_iconst (v := nI 2) X d_U_groups_30 rfl ?_
          refine n_icmp_eq X 40 d_U_groups_31 rfl (by omega) (by omega) (fun hc => ?_) (fun hc => absurd h2 hc)
          refine x_iconst (v := nI 2) X d_U_groups_40 rfl ?_
          refine x_goto X 45 d_U_groups_41 rfl ?_
          exact k45
        · by_cases h3 : lr1.length - f = 4
          · rw [show ft_tk (lr1.length - f) = 2 from by unfold ft_tk; rw [if_pos (Or.inr h3)]] at k45
            refine x_iload X d_U_groups_28 hl rfl ?_
            refine x_iconst (v := nI 2) X d_U_groups_30 rfl ?_
            refine n_icmp_eq X 40 d_U_groups_31 rfl (by omega) (by omega) (fun hc => absurd hc h2) (fun hc => ?_)
            refine x_iload X d_U_groups_34 hl rfl ?_
            refine x_iconst (v := nI 4) X d_U_groups_36 rfl ?_
            refine n_icmp_ne X 44 d_U_groups_37 rfl (by omega) (by omega) (fun hc => absurd h3 hc) (fun hc => ?_)
            refine x_iconst (v := nI 2) X d_U_groups_40 rfl ?_
            refine x_goto X 45 d_U_groups_41 rfl ?_
            exact k45
          · rw [show ft_tk (lr1.length - f) = 3 from by unfold ft_tk; rw [if_neg (by omega)]] at k45
            refine x_iload X d_U_groups_28 hl rfl ?_
            refine x_iconst (v := nI 2) X d_U_groups_30 rfl ?_
            refine n_icmp_eq X 40 d_U_groups_31 rfl (by omega) (by omega) (fun hc => absurd hc h2) (fun hc => ?_)
            refine x_iload X d_U_groups_34 hl rfl ?_
            refine x_iconst (v := nI 4) X d_U_groups_36 rfl ?_
            refine n_icmp_ne X 44 d_U_groups_37 rfl (by omega) (by omega) (fun hc => ?_) (fun hc => absurd hc h3)
            refine x_iconst (v := nI 3) X d_U_groups_44 rfl ?_
            exact k45
      refine x_istore X d_U_groups_45 hl (by decide) rfl (fun ls hl => ?_)
      refine x_aload_n X d_U_groups_47 rfl hl rfl ?_
      refine x_iload X d_U_groups_48 hl rfl ?_
      refine x_aload_n X d_U_groups_50 rfl hl rfl ?_
      refine x_aload_n X d_U_groups_51 rfl hl rfl ?_
      refine x_iload_n X d_U_groups_52 rfl hl rfl ?_
      refine x_iload_n X d_U_groups_53 rfl hl rfl ?_
      refine x_iload X d_U_groups_54 hl rfl ?_
      refine n_iadd X d_U_groups_56 ?_
      refine x_gor (x_runSN X (C_R_slice l D A _ (fun q => S q ∨ q = ar) rh E ne c1.1 c1.2 k lr1 as1 r1 okc hr1 hL1 (by omega) (by omega) f (f + ft_tk (lr1.length - f)) (by omega) (by omega) (by omega)) b_R_slice s_R_slice e_U_86 rfl hl rfl (Nat.le_of_ble_eq_true rfl) d_U_groups_57 (by dsimp only [x_rm]; omega) (by dsimp only [x_rm]; omega) ⟨(by dsimp only [x_rm]; omega), (by dsimp only [x_rm]; omega)⟩) hS (xA.mono (fun _ h => h.elim) hS.1) (fun q G1 locs hR_ hF1 hS => ?_)
      have hq := hR_.rw hSb
      have t_ : cTr (fun q => S q ∨ q = ar) (fun q => S q ∨ q = ar) H G1 := cTr.fr hF1 (fun _ h => h.elim)
      have hQ := hF1.kp hQ (xA.no (c_lt hQ) (fun h => h))
      have hr1 := hr1.tr t_
      have hL1 := hL1.tr t_ (fun _ _ h => h)
      have hns := hns.tr t_ (fun _ _ h => h)
      have hU := hU.mv t_ hF1 (xA.no (c_lt hU.1) (fun h => h)) (by first | exact hSu | exact Or.inl hSu | exact Or.inl (Or.inl hSu))
      have hSb := c_sb hSb hF1.1
      rw [Nat.add_sub_cancel_left] at hq
      refine x_gor (x_runV X (C_U_node l D A _ (fun q => S q ∨ q = ar) rh E ne c1.1 c1.2 u nn em c1.1 hU hSb k ((lr1.drop f).take (ft_tk (lr1.length - f))) _ q (ft_okR_take (ft_okR_drop okc f) _) hq (cL_take _ (cL_drop f hL1)) (by omega) hz2 (c1.1 + 1) (hrh _ (Nat.lt_succ_of_le hex.1))) b_U_node s_U_node v_U_node e_U_67 hU.1 rfl rfl hl rfl (Nat.le_of_ble_eq_true rfl) d_U_groups_60 (by dsimp only [x_rm]; omega) (by dsimp only [x_rm]; omega) ⟨(by dsimp only [x_rm]; omega), (by dsimp only [x_rm]; omega)⟩) hS (xA.mono (fun _ h => h) hS.1) (fun nd G2 locs hN hF2 hS => ?_)
      have t_ : cTr (fun q => S q ∨ q = ar) (fun q => S q ∨ q = ar) G1 G2 := cTr.fr hF2 (fun q h => by rw [h]; exact hU.2.2.2)
      have hQ := hF2.kp hQ (xA.no (c_lt hQ) n_ar_u)
      have hr1 := hr1.tr t_
      have hL1 := hL1.tr t_ (fun _ _ h => h)
      have hns := hns.tr t_ (fun _ _ h => h)
      have hq := hq.tr t_
      have hU := hN.2.2
      have hSb := c_sb hSb hF2.1
      have hnI := hN.2.1
      refine x_aastO X hQ okn hnI (i := i) hbs (by omega) (by omega) hS (Or.inr z_ar) (Or.inr rfl) d_U_groups_63 (fun G3 locs hQ hF3 t3_ hS => ?_)
      have t_ : cTr (fun q => S q ∨ q = ar) (fun q => S q ∨ q = ar) G2 G3 := t3_
      have hr1 := hr1.tr t_
      have hL1 := hL1.tr t_ (fun _ _ h => h)
      have hns := hns.tr t_ (fun _ _ h => h)
      have hnI := hnI.tr t_ (fun _ _ h => h)
      have hU := hU.mv t_ hF3 n_u_ar (by first | exact hSu | exact Or.inl hSu | exact Or.inl (Or.inl hSu))
      have hSb := c_sb hSb hF3.1
      have hns := cL_app hns (cL_one.2 hnI)
      refine x_iload_n X d_U_groups_64 rfl hl rfl ?_
      refine x_iload X d_U_groups_65 hl rfl ?_
      refine n_iadd X d_U_groups_67 ?_
      refine x_istore_n X d_U_groups_68 rfl hl (by decide) rfl (fun ls hl => ?_)
      refine n_iinc (d := 1) X d_U_groups_69 rfl hl rfl (by decide) rfl (fun ls hl => ?_)
      refine x_goto X 15 d_U_groups_72 rfl ?_
      refine W.widen ?_ ?_ (ih (i + 1) (f + ft_tk (lr1.length - f)) ff (ft_nw c1 ((lr1.drop f).take (ft_tk (lr1.length - f)))) _ _ _ _ G3 _ _ (by omega) (by omega) (by omega) htk (by omega) ?_ hex2 (by rw [List.length_append, hbs]; rfl) hl hns hQ hr1 hL1 hU hSb hS)
      · omega
      · omega
      · rw [hgr, List.append_assoc]; rfl
  refine W.widen ?_ ?_ (loop ((lr1.length + 2) / 3) 0 0 16 c0 [] [] _ _ _ _ _ (by omega) (Nat.zero_le _) h1 rfl (by omega) ?_ (ft_ex_rf c0) rfl hl (cL_nil.2 rfl) hQ hr1 hL1 hU hSb hS)
  · omega
  · omega
  · rw [List.drop_zero]; rfl
