/-! The class: countMarked. -/
set_option maxRecDepth 100000 in
set_option maxHeartbeats 4000000 in
theorem C_K_countMarked (l : Launch) (D : va_G) (A : Nat → ClassId) (H0 : Heap) (S : Nat → Prop) (rh : Nat → Nat) (E : ft_E) (ne mm : Nat) (zf : Nat → Nat) (ks ar lt : Nat) (mv : Nat → Nat) (hK : va_at D vwCl (ks, .inr (1, [.ref ar, .int (nI lt)])) H0) (hM : va_at D vwCl (ar, .inl (A 0, 4642, .inl (fun i => nI (mv i)))) H0) (hka : ks ≠ ar) (hSa : S ar) (hra : ∀ n, 1 ≤ n → n ≤ mm → rh n < 4642) (k : Nat) (lr1 : List ft_I) (as1 : List Nat) (r1 : Nat) (ok1 : ft_okR ne mm zf k lr1) (hr1 : cRw D A S as1 r1 H0) (hL1 : cL D A S rh E lr1 as1 H0) (h91 : lr1.length < 64) (hz1 : ft_zR lr1 < 4096) (f g : Nat) (hmv : ∀ d, mv d < 2 ^ 31) (hf : f < 2 ^ 31) (hg : g < 2 ^ 31) : xC l y_K_countMarked c_K_countMarked 9 (some .int) (k + 1) D A H0 [.ref ks, .ref r1, .int (nI f), .int (nI g)] (fun q => q = ar) (q1 (.int (nI (ft_pn f g mv 0 ((ft_nR lr1).map rh)).2)) (fun H1 => va_at D vwCl (ar, .inl (A 0, 4642, .inl (fun x_ => nI ((ft_pn f g mv 0 ((ft_nR lr1).map rh)).1 x_)))) H1)) 0 0 := by
  induction k generalizing H0 mv lr1 as1 r1 with
  | zero =>
    have hs : ∀ q, q < H0.size → (fun q => q = ar) q → S q := fun q _ h => by rw [show q = ar from h]; exact hSa
    have hlen := cL_len hL1
    refine xC.of rfl (Nat.le_of_ble_eq_true rfl) ?_
    intro p_ e_ s_ m_ ar_ bl_ me_ c_ ls X hl
    have hl : lz ls 9 [some (.ref ks), some (.ref r1), some (.int (nI f)), some (.int (nI g)), none, none, none, none, none] := hl
    have hS : va_S (fun q => q = ar) H0 H0 [] := va_S.rf
    refine x_iconst (v := nI 0) X d_K_countMarked_0 rfl ?_
    refine x_istore X d_K_countMarked_1 hl (by decide) rfl (fun ls hl => ?_)
    refine x_aload_n X d_K_countMarked_3 rfl hl rfl ?_
    refine x_astore X d_K_countMarked_4 hl (by decide) rfl (fun ls hl => ?_)
    refine x_aload X d_K_countMarked_6 hl rfl ?_
    refine x_alen X hr1 d_K_countMarked_8 ?_
    rw [hlen]
    refine x_istore X d_K_countMarked_9 hl (by decide) rfl (fun ls hl => ?_)
    refine x_iconst (v := nI 0) X d_K_countMarked_11 rfl ?_
    refine x_istore X d_K_countMarked_12 hl (by decide) rfl (fun ls hl => ?_)
    have loop : ∀ (w i : Nat) (v8 : Option Value) (H : Heap) (locs : List Loc) (ls : Array Slot), lr1.length - i = w → i ≤ lr1.length → lz ls 9 [some (.ref ks), some (.ref r1), some (.int (nI f)), some (.int (nI g)), some (.int (nI (ft_pn f g mv 0 ((ft_nR (lr1.take i)).map rh)).2)), some (.ref r1), some (.int (nI lr1.length)), some (.int (nI i)), v8] → va_at D vwCl (ar, .inl (A 0, 4642, .inl (fun x_ => nI ((ft_pn f g mv 0 ((ft_nR (lr1.take i)).map rh)).1 x_)))) H → va_S (fun q => q = ar) H0 H locs → W p_ l e_ (x_rm (0 + 1) 0 0) s_ m_ ar_ bl_ me_ c_ H locs 0 0 (MQ bl_ (xQ (fun q => q = ar) (q1 (.int (nI (ft_pn f g mv 0 ((ft_nR lr1).map rh)).2)) (fun H1 => va_at D vwCl (ar, .inl (A 0, 4642, .inl (fun x_ => nI ((ft_pn f g mv 0 ((ft_nR lr1).map rh)).1 x_)))) H1))) ar_ s_ 0 0 (fun q => q = ar)) (F0 m_ 14 ls []) := by
      clear hl hS
      intro w
      induction w with
      | zero =>
        intro i v8 H locs ls hg2 hi2 hl hM hS
        have hie : i = lr1.length := by omega
        subst hie
        rw [List.take_length] at hM hl
        refine x_iload X d_K_countMarked_14 hl rfl ?_
        refine x_iload X d_K_countMarked_16 hl rfl ?_
        refine n_icmp_ge X 86 d_K_countMarked_18 rfl (by omega) (by omega) (fun hc => ?_) (fun hc => absurd hc (by omega))
        refine x_iload X d_K_countMarked_86 hl rfl ?_
        exact x_iret X hS (Nat.le_refl _) (Nat.le_refl _) d_K_countMarked_88 ⟨rfl, hM⟩
      | succ w ih2 =>
        intro i v8 H locs ls hg2 hi2 hl hM hS
        obtain ⟨b, hb, okb, hbx⟩ := cL_at ok1 hL1 (i := i) (by omega)
        obtain ⟨nu, lo, hi, pr, pbs, v1, v2, v3, v4, v5⟩ := cI_has okb hbx
        have htk : ft_nR (lr1.take (i + 1)) = ft_nR (lr1.take i) ++ ft_nn (lr1.getD i ft_no) := by rw [ft_take_app (by omega), ft_nR_app, ft_nR_one]
        have hmv2 := ft_pn_lt (f := f) hg ((ft_nR (lr1.take i)).map rh) mv 0 hmv
        obtain ⟨a, ha⟩ : ∃ a, ft_pn f g mv 0 ((ft_nR (lr1.take i)).map rh) = a := ⟨_, rfl⟩
        rw [ha] at hl hM hmv2
        refine x_iload X d_K_countMarked_14 hl rfl ?_
        refine x_iload X d_K_countMarked_16 hl rfl ?_
        refine n_icmp_ge X 86 d_K_countMarked_18 rfl (by omega) (by omega) (fun hc => absurd hc (by omega)) (fun hc => ?_)
        refine x_aload X d_K_countMarked_21 hl rfl ?_
        refine x_iload X d_K_countMarked_23 hl rfl ?_
        refine x_aald X (hr1.tr (cTr.ofS hS hs)) hb (by omega) d_K_countMarked_25 ?_
        refine x_astore X d_K_countMarked_26 hl (by decide) rfl (fun ls hl => ?_)
        refine x_aload X d_K_countMarked_28 hl rfl ?_
        refine x_goR (x_runVN X (C_I_isNode l D A _ S rh E ne mm zf 0 _ b okb (hbx.tr (cTr.ofS hS hs) (fun _ _ h => h))) b_I_isNode s_I_isNode v_I_isNode e_K_40 (v1.tr (cTr.ofS hS hs)).2 rfl rfl hl rfl (Nat.le_of_ble_eq_true rfl) d_K_countMarked_30 (by dsimp only [x_rm]; omega) (by dsimp only [x_rm]; omega) ⟨(by dsimp only [x_rm]; omega), (by dsimp only [x_rm]; omega)⟩) hS (fun locs hS => ?_)
        rw [show (if (0 : Nat) = 0 then 0 else 1) = 0 from rfl]
        refine n_if_eq X 80 d_K_countMarked_33 rfl (by decide) (fun hc => ?_) (fun hc => absurd rfl hc)
        refine n_iinc (d := 1) X d_K_countMarked_80 rfl hl rfl (by decide) rfl (fun ls hl => ?_)
        refine x_goto X 14 d_K_countMarked_83 rfl ?_
        obtain ⟨e0, he0, -⟩ := okb
        have hz : ft_nR (lr1.take (i + 1)) = ft_nR (lr1.take i) := by rw [htk, he0, show ft_nn (.num e0) = [] from rfl, List.append_nil]
        exact ih2 (i + 1) _ H _ _ (by omega) (by omega) (by rw [hz, ha]; exact hl) (by rw [hz, ha]; exact hM) hS
    exact loop _ 0 none H0 _ _ rfl (Nat.zero_le _) hl hM hS
  | succ k ih =>
    have hs : ∀ q, q < H0.size → (fun q => q = ar) q → S q := fun q _ h => by rw [show q = ar from h]; exact hSa
    have hlen := cL_len hL1
    refine xC.of rfl (Nat.le_of_ble_eq_true rfl) ?_
    intro p_ e_ s_ m_ ar_ bl_ me_ c_ ls X hl
    have hl : lz ls 9 [some (.ref ks), some (.ref r1), some (.int (nI f)), some (.int (nI g)), none, none, none, none, none] := hl
    have hS : va_S (fun q => q = ar) H0 H0 [] := va_S.rf
    refine x_iconst (v := nI 0) X d_K_countMarked_0 rfl ?_
    refine x_istore X d_K_countMarked_1 hl (by decide) rfl (fun ls hl => ?_)
    refine x_aload_n X d_K_countMarked_3 rfl hl rfl ?_
    refine x_astore X d_K_countMarked_4 hl (by decide) rfl (fun ls hl => ?_)
    refine x_aload X d_K_countMarked_6 hl rfl ?_
    refine x_alen X hr1 d_K_countMarked_8 ?_
    rw [hlen]
    refine x_istore X d_K_countMarked_9 hl (by decide) rfl (fun ls hl => ?_)
    refine x_iconst (v := nI 0) X d_K_countMarked_11 rfl ?_
    refine x_istore X d_K_countMarked_12 hl (by decide) rfl (fun ls hl => ?_)
    have loop : ∀ (w i : Nat) (v8 : Option Value) (H : Heap) (locs : List Loc) (ls : Array Slot), lr1.length - i = w → i ≤ lr1.length → lz ls 9 [some (.ref ks), some (.ref r1), some (.int (nI f)), some (.int (nI g)), some (.int (nI (ft_pn f g mv 0 ((ft_nR (lr1.take i)).map rh)).2)), some (.ref r1), some (.int (nI lr1.length)), some (.int (nI i)), v8] → va_at D vwCl (ar, .inl (A 0, 4642, .inl (fun x_ => nI ((ft_pn f g mv 0 ((ft_nR (lr1.take i)).map rh)).1 x_)))) H → va_S (fun q => q = ar) H0 H locs → W p_ l e_ (x_rm (k + 1 + 1) 0 0) s_ m_ ar_ bl_ me_ c_ H locs 0 0 (MQ bl_ (xQ (fun q => q = ar) (q1 (.int (nI (ft_pn f g mv 0 ((ft_nR lr1).map rh)).2)) (fun H1 => va_at D vwCl (ar, .inl (A 0, 4642, .inl (fun x_ => nI ((ft_pn f g mv 0 ((ft_nR lr1).map rh)).1 x_)))) H1))) ar_ s_ 0 0 (fun q => q = ar)) (F0 m_ 14 ls []) := by
      clear hl hS
      intro w
      induction w with
      | zero =>
        intro i v8 H locs ls hg2 hi2 hl hM hS
        have hie : i = lr1.length := by omega
        subst hie
        rw [List.take_length] at hM hl
        refine x_iload X d_K_countMarked_14 hl rfl ?_
        refine x_iload X d_K_countMarked_16 hl rfl ?_
        refine n_icmp_ge X 86 d_K_countMarked_18 rfl (by omega) (by omega) (fun hc => ?_) (fun hc => absurd hc (by omega))
        refine x_iload X d_K_countMarked_86 hl rfl ?_
        exact x_iret X hS (Nat.le_refl _) (Nat.le_refl _) d_K_countMarked_88 ⟨rfl, hM⟩
      | succ w ih2 =>
        intro i v8 H locs ls hg2 hi2 hl hM hS
        obtain ⟨b, hb, okb, hbx⟩ := cL_at ok1 hL1 (i := i) (by omega)
        obtain ⟨nu, lo, hi, pr, pbs, v1, v2, v3, v4, v5⟩ := cI_has okb hbx
        have htk : ft_nR (lr1.take (i + 1)) = ft_nR (lr1.take i) ++ ft_nn (lr1.getD i ft_no) := by rw [ft_take_app (by omega), ft_nR_app, ft_nR_one]
        have hmv2 := ft_pn_lt (f := f) hg ((ft_nR (lr1.take i)).map rh) mv 0 hmv
        obtain ⟨a, ha⟩ : ∃ a, ft_pn f g mv 0 ((ft_nR (lr1.take i)).map rh) = a := ⟨_, rfl⟩
        rw [ha] at hl hM hmv2
        refine x_iload X d_K_countMarked_14 hl rfl ?_
        refine x_iload X d_K_countMarked_16 hl rfl ?_
        refine n_icmp_ge X 86 d_K_countMarked_18 rfl (by omega) (by omega) (fun hc => absurd hc (by omega)) (fun hc => ?_)
        refine x_aload X d_K_countMarked_21 hl rfl ?_
        refine x_iload X d_K_countMarked_23 hl rfl ?_
        refine x_aald X (hr1.tr (cTr.ofS hS hs)) hb (by omega) d_K_countMarked_25 ?_
        refine x_astore X d_K_countMarked_26 hl (by decide) rfl (fun ls hl => ?_)
        refine x_aload X d_K_countMarked_28 hl rfl ?_
        refine x_goR (x_runVN X (C_I_isNode l D A _ S rh E ne mm zf (k + 1) _ b okb (hbx.tr (cTr.ofS hS hs) (fun _ _ h => h))) b_I_isNode s_I_isNode v_I_isNode e_K_40 (v1.tr (cTr.ofS hS hs)).2 rfl rfl hl rfl (Nat.le_of_ble_eq_true rfl) d_K_countMarked_30 (by dsimp only [x_rm]; omega) (by dsimp only [x_rm]; omega) ⟨(by dsimp only [x_rm]; omega), (by dsimp only [x_rm]; omega)⟩) hS (fun locs hS => ?_)
        rw [show (if k + 1 = 0 then 0 else 1) = 1 from rfl]
        refine n_if_eq X 80 d_K_countMarked_33 rfl (by decide) (fun hc => absurd hc (by decide)) (fun hc => ?_)
        obtain ⟨n, hn1, hn2, hn3, hn4⟩ := v5 k rfl
        obtain ⟨p1, p2, p3, p4⟩ := ft_okR_ps okb
        have hzt := ft_zR_tg lr1 (show i < lr1.length by omega)
        have hns : ft_pn f g mv 0 ((ft_nR (lr1.take (i + 1))).map rh) = ft_pn f g a.1 a.2 (rh n :: (ft_nR (ft_ps (lr1.getD i ft_no))).map rh) := by
          rw [htk, hn1, ft_nn_nd, ft_ps_nd, List.map_append, List.map_cons, ft_pn_app, ha]
        refine x_aload_n X d_K_countMarked_36 rfl hl rfl ?_
        refine x_get X gK (hS.kp hK hka) 0 (by decide) e_K_9 rfl d_K_countMarked_37 ?_
        refine x_aload X d_K_countMarked_40 hl rfl ?_
        refine x_getN X gI (v1.tr (cTr.ofS hS hs)).2 0 (by decide) e_K_46 rfl d_K_countMarked_42 ?_
        rw [hn4]
        refine x_iald X hM (hra n hn2 hn3) (by decide) d_K_countMarked_45 ?_
        refine x_iload_n X d_K_countMarked_46 rfl hl rfl ?_
        have k64 : ∀ (mu : Nat → Nat) (cn : Nat) (H : Heap) (locs : List Loc) (ls : Array Slot), (∀ d, mu d < 2 ^ 31) → ft_pn f g mv 0 ((ft_nR (lr1.take (i + 1))).map rh) = ft_pn f g mu cn ((ft_nR (ft_ps (lr1.getD i ft_no))).map rh) → lz ls 9 [some (.ref ks), some (.ref r1), some (.int (nI f)), some (.int (nI g)), some (.int (nI cn)), some (.ref r1), some (.int (nI lr1.length)), some (.int (nI i)), some (.ref b)] → va_at D vwCl (ar, .inl (A 0, 4642, .inl (fun x_ => nI (mu x_)))) H → va_S (fun q => q = ar) H0 H locs → W p_ l e_ (x_rm (k + 1 + 1) 0 0) s_ m_ ar_ bl_ me_ c_ H locs 0 0 (MQ bl_ (xQ (fun q => q = ar) (q1 (.int (nI (ft_pn f g mv 0 ((ft_nR lr1).map rh)).2)) (fun H1 => va_at D vwCl (ar, .inl (A 0, 4642, .inl (fun x_ => nI ((ft_pn f g mv 0 ((ft_nR lr1).map rh)).1 x_)))) H1))) ar_ s_ 0 0 (fun q => q = ar)) (F0 m_ 64 ls []) := by
          intro mu cn H locs ls hmu hns hl hM hS
          rw [ft_pn_add f g _ mu cn] at hns
          refine x_iload X d_K_countMarked_64 hl rfl ?_
          refine x_aload_n X d_K_countMarked_66 rfl hl rfl ?_
          refine x_aload X d_K_countMarked_67 hl rfl ?_
          refine x_getN X gI (v1.tr (cTr.ofS hS hs)).2 3 (by decide) e_K_49 rfl d_K_countMarked_69 ?_
          refine x_iload_n X d_K_countMarked_72 rfl hl rfl ?_
          refine x_iload_n X d_K_countMarked_73 rfl hl rfl ?_
          refine x_go1 (x_runV X (ih (H0 := H) mu (hS.kp hK hka) hM (ft_ps (lr1.getD i ft_no)) pbs pr p1 (v2.tr (cTr.ofS hS hs)) (v3.tr (cTr.ofS hS hs) (fun _ _ h => h)) (by omega) (by omega) hmu) b_K_countMarked s_K_countMarked v_K_countMarked e_K_36 (hS.kp hK hka) rfl rfl hl rfl (Nat.le_of_ble_eq_true rfl) d_K_countMarked_74 (by dsimp only [x_rm]; omega) (by dsimp only [x_rm]; omega) ⟨Nat.le_of_ble_eq_true rfl, Nat.le_of_ble_eq_true rfl⟩) hS (fun _ h => h) (fun H locs hM hF hS => ?_)
          refine n_iadd X d_K_countMarked_77 ?_
          refine x_istore X d_K_countMarked_78 hl (by decide) rfl (fun ls hl => ?_)
          refine n_iinc (d := 1) X d_K_countMarked_80 rfl hl rfl (by decide) rfl (fun ls hl => ?_)
          refine x_goto X 14 d_K_countMarked_83 rfl ?_
          exact ih2 (i + 1) _ H _ _ (by omega) (by omega) (by rw [hns]; exact hl) (by rw [hns]; exact hM) hS
        by_cases hc : a.1 (rh n) = f
        · rw [show ft_pn f g a.1 a.2 (rh n :: (ft_nR (ft_ps (lr1.getD i ft_no))).map rh) = ft_pn f g (va_up a.1 (rh n) g) (a.2 + 1) ((ft_nR (ft_ps (lr1.getD i ft_no))).map rh) from if_pos hc] at hns
          refine n_icmp_ne X 64 d_K_countMarked_47 rfl (hmv2 _) hf (fun h => absurd hc h) (fun h => ?_)
          refine x_aload_n X d_K_countMarked_50 rfl hl rfl ?_
          refine x_get X gK (hS.kp hK hka) 0 (by decide) e_K_9 rfl d_K_countMarked_51 ?_
          refine x_aload X d_K_countMarked_54 hl rfl ?_
          refine x_getN X gI (v1.tr (cTr.ofS hS hs)).2 0 (by decide) e_K_46 rfl d_K_countMarked_56 ?_
          rw [hn4]
          refine x_iload_n X d_K_countMarked_59 rfl hl rfl ?_
          refine x_iast X hM hS rfl (hra n hn2 hn3) (by decide) d_K_countMarked_60 (fun H locs hM hS => ?_)
          refine n_iinc (d := 1) X d_K_countMarked_61 rfl hl rfl (by decide) rfl (fun ls hl => ?_)
          exact k64 _ _ _ _ _ (fun d => by unfold va_up; split; exact hg; exact hmv2 d) hns hl hM hS
        · rw [show ft_pn f g a.1 a.2 (rh n :: (ft_nR (ft_ps (lr1.getD i ft_no))).map rh) = ft_pn f g a.1 a.2 ((ft_nR (ft_ps (lr1.getD i ft_no))).map rh) from if_neg hc] at hns
          refine n_icmp_ne X 64 d_K_countMarked_47 rfl (hmv2 _) hf (fun h => ?_) (fun h => absurd h hc)
          exact k64 _ _ _ _ _ hmv2 hns hl hM hS
    exact loop _ 0 none H0 _ _ rfl (Nat.zero_le _) hl hM hS
