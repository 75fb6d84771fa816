/-! The class: markAll. -/
set_option maxRecDepth 100000 in
set_option maxHeartbeats 4000000 in
theorem C_K_markAll (l : Launch) (D : va_G) (A : Nat → ClassId) (H0 : Heap) (S : Nat → Prop) (rh : Nat → Nat) (E : ft_E) (ne mm : Nat) (zf : Nat → Nat) (ks ar lt : Nat) (mv : Nat → Nat) (hK : va_at D vwCl (ks, .inr (1, [.ref ar, .int (nI lt)])) H0) (hM : va_at D vwCl (ar, .inl (A 0, 4642, .inl (fun i => nI (mv i)))) H0) (hka : ks ≠ ar) (hSa : S ar) (hra : ∀ n, 1 ≤ n → n ≤ mm → rh n < 4642) (k : Nat) (lr1 : List ft_I) (as1 : List Nat) (r1 : Nat) (ok1 : ft_okR ne mm zf k lr1) (hr1 : cRw D A S as1 r1 H0) (hL1 : cL D A S rh E lr1 as1 H0) (h91 : lr1.length < 64) (hz1 : ft_zR lr1 < 4096) (f : Nat) : xC l y_K_markAll c_K_markAll 7 (none : Option FieldType) (k + 1) D A H0 [.ref ks, .ref r1, .int (nI f)] (fun q => q = ar) (q0 (fun H1 => va_at D vwCl (ar, .inl (A 0, 4642, .inl (fun x_ => nI (ft_ma f mv ((ft_nR lr1).map rh) x_)))) H1)) 0 0 := by
  induction k generalizing H0 mv lr1 as1 r1 with
  | zero =>
    have hs : ∀ q, q < H0.size → (fun q => q = ar) q → S q := fun q _ h => by rw [show q = ar from h]; exact hSa
    have hlen := cL_len hL1
    refine xC.of rfl (Nat.le_of_ble_eq_true rfl) ?_
    intro p_ e_ s_ m_ ar_ bl_ me_ c_ ls X hl
    have hl : lz ls 7 [some (.ref ks), some (.ref r1), some (.int (nI f)), none, none, none, none] := hl
    have hS : va_S (fun q => q = ar) H0 H0 [] := va_S.rf
    refine x_aload_n X d_K_markAll_0 rfl hl rfl ?_
    refine x_astore_n X d_K_markAll_1 rfl hl (by decide) rfl (fun ls hl => ?_)
    refine x_aload_n X d_K_markAll_2 rfl hl rfl ?_
    refine x_alen X hr1 d_K_markAll_3 ?_
    rw [hlen]
    refine x_istore X d_K_markAll_4 hl (by decide) rfl (fun ls hl => ?_)
    refine x_iconst (v := nI 0) X d_K_markAll_6 rfl ?_
    refine x_istore X d_K_markAll_7 hl (by decide) rfl (fun ls hl => ?_)
    have loop : ∀ (g i : Nat) (v6 : Option Value) (H : Heap) (locs : List Loc) (ls : Array Slot), lr1.length - i = g → i ≤ lr1.length → lz ls 7 [some (.ref ks), some (.ref r1), some (.int (nI f)), some (.ref r1), some (.int (nI lr1.length)), some (.int (nI i)), v6] → va_at D vwCl (ar, .inl (A 0, 4642, .inl (fun x_ => nI ((ft_ma f mv ((ft_nR (lr1.take i)).map rh)) x_)))) H → va_S (fun q => q = ar) H0 H locs → W p_ l e_ (x_rm (0 + 1) 0 0) s_ m_ ar_ bl_ me_ c_ H locs 0 0 (MQ bl_ (xQ (fun q => q = ar) (q0 (fun H1 => va_at D vwCl (ar, .inl (A 0, 4642, .inl (fun x_ => nI (ft_ma f mv ((ft_nR lr1).map rh) x_)))) H1))) ar_ s_ 0 0 (fun q => q = ar)) (F0 m_ 9 ls []) := by
      clear hl hS
      intro g
      induction g with
      | zero =>
        intro i v6 H locs ls hg hi2 hl hM hS
        have hie : i = lr1.length := by omega
        subst hie
        rw [List.take_length] at hM
        refine x_iload X d_K_markAll_9 hl rfl ?_
        refine x_iload X d_K_markAll_11 hl rfl ?_
        refine n_icmp_ge X 57 d_K_markAll_13 rfl (by omega) (by omega) (fun hc => ?_) (fun hc => absurd hc (by omega))
        exact x_vret X hS (Nat.le_refl _) (Nat.le_refl _) d_K_markAll_57 ⟨rfl, hM⟩
      | succ g ih2 =>
        intro i v6 H locs ls hg hi2 hl hM hS
        obtain ⟨b, hb, okb, hbx⟩ := cL_at ok1 hL1 (i := i) (by omega)
        obtain ⟨nu, lo, hi, pr, pbs, v1, v2, v3, v4, v5⟩ := cI_has okb hbx
        have htk : ft_nR (lr1.take (i + 1)) = ft_nR (lr1.take i) ++ ft_nn (lr1.getD i ft_no) := by rw [ft_take_app (by omega), ft_nR_app, ft_nR_one]
        refine x_iload X d_K_markAll_9 hl rfl ?_
        refine x_iload X d_K_markAll_11 hl rfl ?_
        refine n_icmp_ge X 57 d_K_markAll_13 rfl (by omega) (by omega) (fun hc => absurd hc (by omega)) (fun hc => ?_)
        refine x_aload_n X d_K_markAll_16 rfl hl rfl ?_
        refine x_iload X d_K_markAll_17 hl rfl ?_
        refine x_aald X (hr1.tr (cTr.ofS hS hs)) hb (by omega) d_K_markAll_19 ?_
        refine x_astore X d_K_markAll_20 hl (by decide) rfl (fun ls hl => ?_)
        refine x_aload X d_K_markAll_22 hl rfl ?_
        refine x_goR (x_runVN X (C_I_isNode l D A _ S rh E ne mm zf 0 _ b okb (hbx.tr (cTr.ofS hS hs) (fun _ _ h => h))) b_I_isNode s_I_isNode v_I_isNode e_K_40 (v1.tr (cTr.ofS hS hs)).2 rfl rfl hl rfl (Nat.le_of_ble_eq_true rfl) d_K_markAll_24 (by dsimp only [x_rm]; omega) (by dsimp only [x_rm]; omega) ⟨(by dsimp only [x_rm]; omega), (by dsimp only [x_rm]; omega)⟩) hS (fun locs hS => ?_)
        rw [show (if (0 : Nat) = 0 then 0 else 1) = 0 from rfl]
        refine n_if_eq X 51 d_K_markAll_27 rfl (by decide) (fun hc => ?_) (fun hc => absurd rfl hc)
        refine n_iinc (d := 1) X d_K_markAll_51 rfl hl rfl (by decide) rfl (fun ls hl => ?_)
        refine x_goto X 9 d_K_markAll_54 rfl ?_
        obtain ⟨e0, he0, -⟩ := okb
        exact ih2 (i + 1) _ H _ _ (by omega) (by omega) hl (by rw [htk, he0, show ft_nn (.num e0) = [] from rfl, List.append_nil]; exact hM) hS
    exact loop _ 0 none H0 _ _ rfl (Nat.zero_le _) hl (by rw [List.take_zero, show (ft_nR []).map rh = [] from rfl, ft_ma_nil]; exact hM) hS
  | succ k ih =>
    have hs : ∀ q, q < H0.size → (fun q => q = ar) q → S q := fun q _ h => by rw [show q = ar from h]; exact hSa
    have hlen := cL_len hL1
    refine xC.of rfl (Nat.le_of_ble_eq_true rfl) ?_
    intro p_ e_ s_ m_ ar_ bl_ me_ c_ ls X hl
    have hl : lz ls 7 [some (.ref ks), some (.ref r1), some (.int (nI f)), none, none, none, none] := hl
    have hS : va_S (fun q => q = ar) H0 H0 [] := va_S.rf
    refine x_aload_n X d_K_markAll_0 rfl hl rfl ?_
    refine x_astore_n X d_K_markAll_1 rfl hl (by decide) rfl (fun ls hl => ?_)
    refine x_aload_n X d_K_markAll_2 rfl hl rfl ?_
    refine x_alen X hr1 d_K_markAll_3 ?_
    rw [hlen]
    refine x_istore X d_K_markAll_4 hl (by decide) rfl (fun ls hl => ?_)
    refine x_iconst (v := nI 0) X d_K_markAll_6 rfl ?_
    refine x_istore X d_K_markAll_7 hl (by decide) rfl (fun ls hl => ?_)
    have loop : ∀ (g i : Nat) (v6 : Option Value) (H : Heap) (locs : List Loc) (ls : Array Slot), lr1.length - i = g → i ≤ lr1.length → lz ls 7 [some (.ref ks), some (.ref r1), some (.int (nI f)), some (.ref r1), some (.int (nI lr1.length)), some (.int (nI i)), v6] → va_at D vwCl (ar, .inl (A 0, 4642, .inl (fun x_ => nI ((ft_ma f mv ((ft_nR (lr1.take i)).map rh)) x_)))) H → va_S (fun q => q = ar) H0 H locs → W p_ l e_ (x_rm (k + 1 + 1) 0 0) s_ m_ ar_ bl_ me_ c_ H locs 0 0 (MQ bl_ (xQ (fun q => q = ar) (q0 (fun H1 => va_at D vwCl (ar, .inl (A 0, 4642, .inl (fun x_ => nI (ft_ma f mv ((ft_nR lr1).map rh) x_)))) H1))) ar_ s_ 0 0 (fun q => q = ar)) (F0 m_ 9 ls []) := by
      clear hl hS
      intro g
      induction g with
      | zero =>
        intro i v6 H locs ls hg hi2 hl hM hS
        have hie : i = lr1.length := by omega
        subst hie
        rw [List.take_length] at hM
        refine x_iload X d_K_markAll_9 hl rfl ?_
        refine x_iload X d_K_markAll_11 hl rfl ?_
        refine n_icmp_ge X 57 d_K_markAll_13 rfl (by omega) (by omega) (fun hc => ?_) (fun hc => absurd hc (by omega))
        exact x_vret X hS (Nat.le_refl _) (Nat.le_refl _) d_K_markAll_57 ⟨rfl, hM⟩
      | succ g ih2 =>
        intro i v6 H locs ls hg hi2 hl hM hS
        obtain ⟨b, hb, okb, hbx⟩ := cL_at ok1 hL1 (i := i) (by omega)
        obtain ⟨nu, lo, hi, pr, pbs, v1, v2, v3, v4, v5⟩ := cI_has okb hbx
        have htk : ft_nR (lr1.take (i + 1)) = ft_nR (lr1.take i) ++ ft_nn (lr1.getD i ft_no) := by rw [ft_take_app (by omega), ft_nR_app, ft_nR_one]
        refine x_iload X d_K_markAll_9 hl rfl ?_
        refine x_iload X d_K_markAll_11 hl rfl ?_
        refine n_icmp_ge X 57 d_K_markAll_13 rfl (by omega) (by omega) (fun hc => absurd hc (by omega)) (fun hc => ?_)
        refine x_aload_n X d_K_markAll_16 rfl hl rfl ?_
        refine x_iload X d_K_markAll_17 hl rfl ?_
        refine x_aald X (hr1.tr (cTr.ofS hS hs)) hb (by omega) d_K_markAll_19 ?_
        refine x_astore X d_K_markAll_20 hl (by decide) rfl (fun ls hl => ?_)
        refine x_aload X d_K_markAll_22 hl rfl ?_
        refine x_goR (x_runVN X (C_I_isNode l D A _ S rh E ne mm zf (k + 1) _ b okb (hbx.tr (cTr.ofS hS hs) (fun _ _ h => h))) b_I_isNode s_I_isNode v_I_isNode e_K_40 (v1.tr (cTr.ofS hS hs)).2 rfl rfl hl rfl (Nat.le_of_ble_eq_true rfl) d_K_markAll_24 (by dsimp only [x_rm]; omega) (by dsimp only [x_rm]; omega) ⟨(by dsimp only [x_rm]; omega), (by dsimp only [x_rm]; omega)⟩) hS (fun locs hS => ?_)
        rw [show (if k + 1 = 0 then 0 else 1) = 1 from rfl]
        refine n_if_eq X 51 d_K_markAll_27 rfl (by decide) (fun hc => absurd hc (by decide)) (fun hc => ?_)
        obtain ⟨n, hn1, hn2, hn3, hn4⟩ := v5 k rfl
        obtain ⟨p1, p2, p3, p4⟩ := ft_okR_ps okb
        have hzt := ft_zR_tg lr1 (show i < lr1.length by omega)
        refine x_aload_n X d_K_markAll_30 rfl hl rfl ?_
        refine x_get X gK (hS.kp hK hka) 0 (by decide) e_K_9 rfl d_K_markAll_31 ?_
        refine x_aload X d_K_markAll_34 hl rfl ?_
        refine x_getN X gI (v1.tr (cTr.ofS hS hs)).2 0 (by decide) e_K_46 rfl d_K_markAll_36 ?_
        rw [hn4]
        refine x_iload_n X d_K_markAll_39 rfl hl rfl ?_
        refine x_iast X hM hS rfl (hra n hn2 hn3) (by decide) d_K_markAll_40 (fun H locs hM hS => ?_)
        refine x_aload_n X d_K_markAll_41 rfl hl rfl ?_
        refine x_aload X d_K_markAll_42 hl rfl ?_
        refine x_getN X gI (v1.tr (cTr.ofS hS hs)).2 3 (by decide) e_K_49 rfl d_K_markAll_44 ?_
        refine x_iload_n X d_K_markAll_47 rfl hl rfl ?_
        refine x_go0 (x_runV X (ih (H0 := H) (va_up (ft_ma f mv ((ft_nR (lr1.take i)).map rh)) (rh n) f) (hS.kp hK hka) hM (ft_ps (lr1.getD i ft_no)) pbs pr p1 (v2.tr (cTr.ofS hS hs)) (v3.tr (cTr.ofS hS hs) (fun _ _ h => h)) (by omega) (by omega)) b_K_markAll s_K_markAll v_K_markAll e_K_25 (hS.kp hK hka) rfl rfl hl rfl (Nat.le_of_ble_eq_true rfl) d_K_markAll_48 (by dsimp only [x_rm]; omega) (by dsimp only [x_rm]; omega) ⟨Nat.le_of_ble_eq_true rfl, Nat.le_of_ble_eq_true rfl⟩) hS (fun _ h => h) (fun H locs hM hF hS => ?_)
        refine n_iinc (d := 1) X d_K_markAll_51 rfl hl rfl (by decide) rfl (fun ls hl => ?_)
        refine x_goto X 9 d_K_markAll_54 rfl ?_
        refine ih2 (i + 1) _ H _ _ (by omega) (by omega) hl ?_ hS
        rw [htk, hn1, ft_nn_nd, List.map_append, List.map_cons, ← ft_ma_app, show rh n :: (ft_nR (ft_ps (lr1.getD i ft_no))).map rh = [rh n] ++ (ft_nR (ft_ps (lr1.getD i ft_no))).map rh from rfl, ← ft_ma_app, ← ft_ma_one]
        exact hM
    exact loop _ 0 none H0 _ _ rfl (Nat.zero_le _) hl (by rw [List.take_zero, show (ft_nR []).map rh = [] from rfl, ft_ma_nil]; exact hM) hS
