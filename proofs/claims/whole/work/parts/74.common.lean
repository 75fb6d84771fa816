/-! The class: common. -/
theorem va_D2 {fr : Nat → Prop} {x y : Nat × va_E} (h : x.1 ≠ y.1) (hx : fr x.1) (hy : fr y.1) : va_D fr [x, y] := by
  refine ⟨fun i j a b ha hb hab => ?_, fun k a hk => ?_⟩
  · match i, j, ha, hb with
    | 0, 0, _, _ => rfl
    | 1, 1, _, _ => rfl
    | 0, 1, ha, hb => cases ha; cases hb; exact absurd hab h
    | 1, 0, ha, hb => cases ha; cases hb; exact absurd hab.symm h
    | i + 2, _, ha, _ => simp at ha
    | 0, j + 2, _, hb => simp at hb
    | 1, j + 2, _, hb => simp at hb
  · match k, hk with
    | 0, hk => cases hk; exact hx
    | 1, hk => cases hk; exact hy
    | k + 2, hk => simp at hk
theorem va_P2 {D : va_G} {x y : Nat × va_E} {H : Heap} (hx : va_at D vwCl x H) (hy : va_at D vwCl y H) : va_P D vwCl [x, y] H := fun k a hk => by
  match k, hk with
  | 0, hk => cases hk; exact hx
  | 1, hk => cases hk; exact hy
  | k + 2, hk => simp at hk
theorem ft_nT_nil (o : Option ft_I) : ft_nT [] o = ft_nR o.toList := rfl
theorem ft_nT_cons (d : List ft_I × List ft_I) (sp : ft_S) (o : Option ft_I) : ft_nT (d :: sp) o = ft_nR d.1 ++ ft_nR d.2 ++ ft_nT sp o := rfl
theorem ft_okR_o {ne mm : Nat} {zf : Nat → Nat} {k : Nat} {o : Option ft_I} (h : ft_okT ne mm zf k [] o) : ft_okR ne mm zf k o.toList ∧ ft_zR o.toList = ft_zT [] o ∧ o.toList.length ≤ 1 := by
  cases o with
  | none => exact ⟨fun y hy => by simp at hy, rfl, Nat.zero_le _⟩
  | some x => exact ⟨ft_okR_one h, rfl, Nat.le_refl _⟩
set_option maxRecDepth 100000 in
set_option maxHeartbeats 4000000 in
theorem C_K_common (l : Launch) (D : va_G) (A : Nat → ClassId) (H0 : Heap) (S : Nat → Prop) (rh : Nat → Nat) (E : ft_E) (ne mm : Nat) (zf : Nat → Nat) (ks ar lt : Nat) (mv : Nat → Nat) (hK : va_at D vwCl (ks, .inr (1, [.ref ar, .int (nI (lt))])) H0) (hM : va_at D vwCl (ar, .inl (A 0, 4642, .inl (fun x_ => nI (mv x_)))) H0) (hka : ks ≠ ar) (hSa : S ar) (hSk : S ks) (hra : ∀ n, 1 ≤ n → n ≤ mm → rh n < 4642) (sp : ft_S) (o : Option ft_I) (t : Nat) (okt : ft_okT ne mm zf 0 sp o) (hT : cT D A S rh E sp o t H0) (sp2 : ft_S) (o2 : Option ft_I) (t2 : Nat) (okt2 : ft_okT ne mm zf 0 sp2 o2) (hT2 : cT D A S rh E sp2 o2 t2 H0) (hz : ft_zT sp o < 64) (hz2 : ft_zT sp2 o2 < 64) (hmv : ∀ d, mv d ≤ lt) (hlt : lt + 2 < 2 ^ 31) : xC l y_K_common c_K_common 7 (some .int) 8 D A H0 [.ref ks, .ref t, .ref t2] (fun q => q = ks ∨ q = ar) (q1 (.int (nI (ft_pn (lt + 1) (lt + 2) (ft_ma (lt + 1) mv ((ft_nT sp o).map rh)) 0 ((ft_nT sp2 o2).map rh)).2)) (fun H1 => va_at D vwCl (ks, .inr (1, [.ref ar, .int (nI (lt + 2))])) H1 ∧ va_at D vwCl (ar, .inl (A 0, 4642, .inl (fun x_ => nI ((ft_pn (lt + 1) (lt + 2) (ft_ma (lt + 1) mv ((ft_nT sp o).map rh)) 0 ((ft_nT sp2 o2).map rh)).1 x_)))) H1)) 0 0 := by
  have hs : ∀ q, q < H0.size → (fun q => q = ks ∨ q = ar) q → S q := fun q _ h => by
    rcases h with h | h
    · rw [h]; exact hSk
    · rw [h]; exact hSa
  have h5 := ft_len5 okt hz
  have h52 := ft_len5 okt2 hz2
  have hak : ar ≠ ks := fun h => hka h.symm
  have hm1 : ∀ d, (ft_ma (lt + 1) mv ((ft_nT sp o).map rh)) d < 2 ^ 31 := fun d => by
    unfold ft_ma
    split
    · omega
    · have := hmv d; omega
  refine xC.of rfl (Nat.le_of_ble_eq_true rfl) ?_
  intro p_ e_ s_ m_ ar_ bl_ me_ c_ ls X hl
  have hl : lz ls 7 [some (.ref ks), some (.ref t), some (.ref t2), none, none, none, none] := hl
  have hS : va_S (fun q => q = ks ∨ q = ar) H0 H0 [] := va_S.rf
  refine x_aload_n X d_K_common_0 rfl hl rfl ?_
  refine x_get X gK hK 1 (by decide) e_K_15 rfl d_K_common_1 ?_
  refine x_iconst (v := nI 1) X d_K_common_4 rfl ?_
  refine n_iadd X d_K_common_5 ?_
  refine x_istore_n X d_K_common_6 rfl hl (by decide) rfl (fun ls hl => ?_)
  refine x_aload_n X d_K_common_7 rfl hl rfl ?_
  refine x_get X gK hK 1 (by decide) e_K_15 rfl d_K_common_8 ?_
  refine x_iconst (v := nI 2) X d_K_common_11 rfl ?_
  refine n_iadd X d_K_common_12 ?_
  refine x_istore X d_K_common_13 hl (by decide) rfl (fun ls hl => ?_)
  refine x_aload_n X d_K_common_15 rfl hl rfl ?_
  refine x_iload X d_K_common_16 hl rfl ?_
  refine x_putG X gK (va_P2 hK hM) (va_D2 hka (Or.inl rfl) (Or.inr rfl)) hS 0 rfl 1 (by decide) e_K_15 rfl rfl rfl (Nat.le_of_ble_eq_true rfl) d_K_common_18 (fun H locs hP _ hS => ?_)
  have hK1 : va_at D vwCl (ks, .inr (1, [.ref ar, .int (nI (lt + 2))])) H := hP 0 _ rfl
  have hM1 : va_at D vwCl (ar, .inl (A 0, 4642, .inl (fun x_ => nI (mv x_)))) H := hP 1 _ rfl
  refine x_aload_n X d_K_common_21 rfl hl rfl ?_
  refine x_astore X d_K_common_22 hl (by decide) rfl (fun ls hl => ?_)
  have loop1 : ∀ (s1 : ft_S) (k a : Nat) (mu : Nat → Nat) (v6 : Option Value) (H : Heap) (locs : List Loc) (ls : Array Slot), ft_okT ne mm zf k s1 o → cT D A S rh E s1 o a H0 → ft_zT s1 o < 64 → k + s1.length ≤ 5 → lz ls 7 [some (.ref ks), some (.ref t), some (.ref t2), some (.int (nI (lt + 1))), some (.int (nI (lt + 2))), some (.ref a), v6] → va_at D vwCl (ks, .inr (1, [.ref ar, .int (nI (lt + 2))])) H → va_at D vwCl (ar, .inl (A 0, 4642, .inl (fun x_ => nI (mu x_)))) H → va_S (fun q => q = ks ∨ q = ar) H0 H locs → (∀ (v5 : Option Value) (H : Heap) (locs : List Loc) (ls : Array Slot), lz ls 7 [some (.ref ks), some (.ref t), some (.ref t2), some (.int (nI (lt + 1))), some (.int (nI (lt + 2))), v5, v6] → va_at D vwCl (ks, .inr (1, [.ref ar, .int (nI (lt + 2))])) H → va_at D vwCl (ar, .inl (A 0, 4642, .inl (fun x_ => nI ((ft_ma (lt + 1) mu ((ft_nT s1 o).map rh)) x_)))) H → va_S (fun q => q = ks ∨ q = ar) H0 H locs → W p_ l e_ (x_rm 8 0 0) s_ m_ ar_ bl_ me_ c_ H locs 0 0 (MQ bl_ (xQ (fun q => q = ks ∨ q = ar) (q1 (.int (nI (ft_pn (lt + 1) (lt + 2) (ft_ma (lt + 1) mv ((ft_nT sp o).map rh)) 0 ((ft_nT sp2 o2).map rh)).2)) (fun H1 => va_at D vwCl (ks, .inr (1, [.ref ar, .int (nI (lt + 2))])) H1 ∧ va_at D vwCl (ar, .inl (A 0, 4642, .inl (fun x_ => nI ((ft_pn (lt + 1) (lt + 2) (ft_ma (lt + 1) mv ((ft_nT sp o).map rh)) 0 ((ft_nT sp2 o2).map rh)).1 x_)))) H1))) ar_ s_ 0 0 (fun q => q = ks ∨ q = ar)) (F0 m_ 59 ls [])) → W p_ l e_ (x_rm 8 0 0) s_ m_ ar_ bl_ me_ c_ H locs 0 0 (MQ bl_ (xQ (fun q => q = ks ∨ q = ar) (q1 (.int (nI (ft_pn (lt + 1) (lt + 2) (ft_ma (lt + 1) mv ((ft_nT sp o).map rh)) 0 ((ft_nT sp2 o2).map rh)).2)) (fun H1 => va_at D vwCl (ks, .inr (1, [.ref ar, .int (nI (lt + 2))])) H1 ∧ va_at D vwCl (ar, .inl (A 0, 4642, .inl (fun x_ => nI ((ft_pn (lt + 1) (lt + 2) (ft_ma (lt + 1) mv ((ft_nT sp o).map rh)) 0 ((ft_nT sp2 o2).map rh)).1 x_)))) H1))) ar_ s_ 0 0 (fun q => q = ks ∨ q = ar)) (F0 m_ 24 ls []) := by
    clear hl hS hK hM hK1 hM1 hT hT2 hP
    intro s1
    induction s1 with
    | nil =>
      intro k a mu v6 H locs ls ok hT hz hk hl hK hM hS kk
      obtain ⟨p1, p2, p3⟩ := ft_okR_o ok
      obtain ⟨lc, rc, as, t1, t2_, t3, t4⟩ := hT
      refine x_aload X d_K_common_24 hl rfl ?_
      refine x_ifnull X d_K_common_26 ?_
      refine x_aload_n X d_K_common_29 rfl hl rfl ?_
      refine x_aload X d_K_common_30 hl rfl ?_
      refine x_getN X gT (t1.tr (cTr.ofS hS hs)).2 0 (by decide) e_K_19 rfl d_K_common_32 ?_
      refine x_iload_n X d_K_common_35 rfl hl rfl ?_
      refine x_go0 (x_runV X (C_K_markAll l D A _ S rh E ne mm zf ks ar (lt + 2) mu hK hM hka hSa hra k o.toList as lc p1 (t2_.tr (cTr.ofS hS hs)) (t4.tr (cTr.ofS hS hs) (fun _ _ h => h)) (by omega) (by omega) (lt + 1)) b_K_markAll s_K_markAll v_K_markAll e_K_25 hK rfl rfl hl rfl (Nat.le_of_ble_eq_true rfl) d_K_common_36 (by dsimp only [x_rm]; omega) (by dsimp only [x_rm]; omega) ⟨Nat.le_of_ble_eq_true rfl, Nat.le_of_ble_eq_true rfl⟩) hS (fun _ h => Or.inr h) (fun H locs hM hF hS => ?_)
      have hK := hF.kp hK hka
      refine x_aload_n X d_K_common_39 rfl hl rfl ?_
      refine x_aload X d_K_common_40 hl rfl ?_
      refine x_getN X gT (t1.tr (cTr.ofS hS hs)).2 2 (by decide) e_K_29 rfl d_K_common_42 ?_
      refine x_iload_n X d_K_common_45 rfl hl rfl ?_
      have t5 : cL D A S rh E [] [] H0 := cL_nil.2 rfl
      have h0z : ft_zR [] = 0 := rfl
      have h0l : ([] : List ft_I).length = 0 := rfl
      refine x_go0 (x_runV X (C_K_markAll l D A _ S rh E ne mm zf ks ar (lt + 2) _ hK hM hka hSa hra k [] [] rc (fun y hy => by simp at hy) (t3.tr (cTr.ofS hS hs)) (t5.tr (cTr.ofS hS hs) (fun _ _ h => h)) (by omega) (by omega) (lt + 1)) b_K_markAll s_K_markAll v_K_markAll e_K_25 hK rfl rfl hl rfl (Nat.le_of_ble_eq_true rfl) d_K_common_46 (by dsimp only [x_rm]; omega) (by dsimp only [x_rm]; omega) ⟨Nat.le_of_ble_eq_true rfl, Nat.le_of_ble_eq_true rfl⟩) hS (fun _ h => Or.inr h) (fun H locs hM hF hS => ?_)
      have hK := hF.kp hK hka
      refine x_aload X d_K_common_49 hl rfl ?_
      refine x_getN X gT (t1.tr (cTr.ofS hS hs)).2 1 (by decide) e_K_32 rfl d_K_common_51 ?_
      refine x_astoreN X d_K_common_54 hl (by decide) rfl (fun ls hl => ?_)
      refine x_goto X 24 d_K_common_56 rfl ?_
      refine x_aloadN X d_K_common_24 hl rfl ?_
      refine x_ifnullN X 59 d_K_common_26 rfl ?_
      rw [ft_ma_app, show (ft_nR []).map rh = [] from rfl, List.append_nil] at hM
      exact kk _ _ _ _ hl hK hM hS
    | cons d s1 ih =>
      intro k a mu v6 H locs ls ok hT hz hk hl hK hM hS kk
      obtain ⟨lc, mt, rc, as, bs, t1, t2_, t3, t4, tb, tm⟩ := hT
      obtain ⟨o1, o2_, o3⟩ := ok
      have hzz : ft_zT (d :: s1) o = ft_zR d.1 + ft_zT s1 o + ft_zR d.2 := rfl
      have hll : (d :: s1).length = s1.length + 1 := rfl
      refine x_aload X d_K_common_24 hl rfl ?_
      refine x_ifnull X d_K_common_26 ?_
      refine x_aload_n X d_K_common_29 rfl hl rfl ?_
      refine x_aload X d_K_common_30 hl rfl ?_
      refine x_getN X gT (t1.tr (cTr.ofS hS hs)).2 0 (by decide) e_K_19 rfl d_K_common_32 ?_
      refine x_iload_n X d_K_common_35 rfl hl rfl ?_
      refine x_go0 (x_runV X (C_K_markAll l D A _ S rh E ne mm zf ks ar (lt + 2) mu hK hM hka hSa hra k d.1 as lc o1.2.2 (t2_.tr (cTr.ofS hS hs)) (t4.tr (cTr.ofS hS hs) (fun _ _ h => h)) (by omega) (by omega) (lt + 1)) b_K_markAll s_K_markAll v_K_markAll e_K_25 hK rfl rfl hl rfl (Nat.le_of_ble_eq_true rfl) d_K_common_36 (by dsimp only [x_rm]; omega) (by dsimp only [x_rm]; omega) ⟨Nat.le_of_ble_eq_true rfl, Nat.le_of_ble_eq_true rfl⟩) hS (fun _ h => Or.inr h) (fun H locs hM hF hS => ?_)
      have hK := hF.kp hK hka
      refine x_aload_n X d_K_common_39 rfl hl rfl ?_
      refine x_aload X d_K_common_40 hl rfl ?_
      refine x_getN X gT (t1.tr (cTr.ofS hS hs)).2 2 (by decide) e_K_29 rfl d_K_common_42 ?_
      refine x_iload_n X d_K_common_45 rfl hl rfl ?_
      refine x_go0 (x_runV X (C_K_markAll l D A _ S rh E ne mm zf ks ar (lt + 2) _ hK hM hka hSa hra k d.2 bs rc o2_.2.2 (t3.tr (cTr.ofS hS hs)) (tb.tr (cTr.ofS hS hs) (fun _ _ h => h)) (by omega) (by omega) (lt + 1)) b_K_markAll s_K_markAll v_K_markAll e_K_25 hK rfl rfl hl rfl (Nat.le_of_ble_eq_true rfl) d_K_common_46 (by dsimp only [x_rm]; omega) (by dsimp only [x_rm]; omega) ⟨Nat.le_of_ble_eq_true rfl, Nat.le_of_ble_eq_true rfl⟩) hS (fun _ h => Or.inr h) (fun H locs hM hF hS => ?_)
      have hK := hF.kp hK hka
      refine x_aload X d_K_common_49 hl rfl ?_
      refine x_getN X gT (t1.tr (cTr.ofS hS hs)).2 1 (by decide) e_K_32 rfl d_K_common_51 ?_
      refine x_astore X d_K_common_54 hl (by decide) rfl (fun ls hl => ?_)
      refine x_goto X 24 d_K_common_56 rfl ?_
      rw [ft_ma_app] at hM
      refine ih (k + 1) mt _ v6 _ _ _ o3 tm (by omega) (by omega) hl hK hM hS (fun v5 H locs ls hl hK hM hS => kk v5 H locs ls hl hK ?_ hS)
      rw [ft_nT_cons, List.map_append, List.map_append, ← ft_ma_app]
      exact hM
  refine loop1 sp 0 t mv _ _ _ _ okt hT hz (by omega) hl hK1 hM1 hS ?_
  clear hl hS hK1 hM1 hK hM hP loop1
  intro v5 H locs ls hl hK hM hS
  refine x_iconst (v := nI 0) X d_K_common_59 rfl ?_
  refine x_istore X d_K_common_60 hl (by decide) rfl (fun ls hl => ?_)
  refine x_aload_n X d_K_common_62 rfl hl rfl ?_
  refine x_astore X d_K_common_63 hl (by decide) rfl (fun ls hl => ?_)
  generalize hM1 : (ft_ma (lt + 1) mv ((ft_nT sp o).map rh)) = m1 at hm1 hM ⊢
  have loop2 : ∀ (s1 : ft_S) (k a cn : Nat) (mu : Nat → Nat) (H : Heap) (locs : List Loc) (ls : Array Slot), ft_okT ne mm zf k s1 o2 → cT D A S rh E s1 o2 a H0 → ft_zT s1 o2 < 64 → k + s1.length ≤ 5 → (∀ d, mu d < 2 ^ 31) → lz ls 7 [some (.ref ks), some (.ref t), some (.ref t2), some (.int (nI (lt + 1))), some (.int (nI (lt + 2))), some (.int (nI cn)), some (.ref a)] → va_at D vwCl (ks, .inr (1, [.ref ar, .int (nI (lt + 2))])) H → va_at D vwCl (ar, .inl (A 0, 4642, .inl (fun x_ => nI (mu x_)))) H → va_S (fun q => q = ks ∨ q = ar) H0 H locs → (∀ (v6 : Option Value) (H : Heap) (locs : List Loc) (ls : Array Slot), lz ls 7 [some (.ref ks), some (.ref t), some (.ref t2), some (.int (nI (lt + 1))), some (.int (nI (lt + 2))), some (.int (nI (ft_pn (lt + 1) (lt + 2) mu cn ((ft_nT s1 o2).map rh)).2)), v6] → va_at D vwCl (ks, .inr (1, [.ref ar, .int (nI (lt + 2))])) H → va_at D vwCl (ar, .inl (A 0, 4642, .inl (fun x_ => nI ((ft_pn (lt + 1) (lt + 2) mu cn ((ft_nT s1 o2).map rh)).1 x_)))) H → va_S (fun q => q = ks ∨ q = ar) H0 H locs → W p_ l e_ (x_rm 8 0 0) s_ m_ ar_ bl_ me_ c_ H locs 0 0 (MQ bl_ (xQ (fun q => q = ks ∨ q = ar) (q1 (.int (nI (ft_pn (lt + 1) (lt + 2) m1 0 ((ft_nT sp2 o2).map rh)).2)) (fun H1 => va_at D vwCl (ks, .inr (1, [.ref ar, .int (nI (lt + 2))])) H1 ∧ va_at D vwCl (ar, .inl (A 0, 4642, .inl (fun x_ => nI ((ft_pn (lt + 1) (lt + 2) m1 0 ((ft_nT sp2 o2).map rh)).1 x_)))) H1))) ar_ s_ 0 0 (fun q => q = ks ∨ q = ar)) (F0 m_ 114 ls [])) → W p_ l e_ (x_rm 8 0 0) s_ m_ ar_ bl_ me_ c_ H locs 0 0 (MQ bl_ (xQ (fun q => q = ks ∨ q = ar) (q1 (.int (nI (ft_pn (lt + 1) (lt + 2) m1 0 ((ft_nT sp2 o2).map rh)).2)) (fun H1 => va_at D vwCl (ks, .inr (1, [.ref ar, .int (nI (lt + 2))])) H1 ∧ va_at D vwCl (ar, .inl (A 0, 4642, .inl (fun x_ => nI ((ft_pn (lt + 1) (lt + 2) m1 0 ((ft_nT sp2 o2).map rh)).1 x_)))) H1))) ar_ s_ 0 0 (fun q => q = ks ∨ q = ar)) (F0 m_ 65 ls []) := by
    clear hl hS hK hM hT hT2
    intro s1
    induction s1 with
    | nil =>
      intro k a cn mu H locs ls ok hT hz hk hmu hl hK hM hS kk
      obtain ⟨p1, p2, p3⟩ := ft_okR_o ok
      obtain ⟨lc, rc, as, t1, t2_, t3, t4⟩ := hT
      refine x_aload X d_K_common_65 hl rfl ?_
      refine x_ifnull X d_K_common_67 ?_
      refine x_iload X d_K_common_70 hl rfl ?_
      refine x_aload_n X d_K_common_72 rfl hl rfl ?_
      refine x_aload X d_K_common_73 hl rfl ?_
      refine x_getN X gT (t1.tr (cTr.ofS hS hs)).2 0 (by decide) e_K_19 rfl d_K_common_75 ?_
      refine x_iload_n X d_K_common_78 rfl hl rfl ?_
      refine x_iload X d_K_common_79 hl rfl ?_
      refine x_go1 (x_runV X (C_K_countMarked l D A _ S rh E ne mm zf ks ar (lt + 2) mu hK hM hka hSa hra k o2.toList as lc p1 (t2_.tr (cTr.ofS hS hs)) (t4.tr (cTr.ofS hS hs) (fun _ _ h => h)) (by omega) (by omega) (lt + 1) (lt + 2) hmu (by omega) (by omega)) b_K_countMarked s_K_countMarked v_K_countMarked e_K_36 hK rfl rfl hl rfl (Nat.le_of_ble_eq_true rfl) d_K_common_81 (by dsimp only [x_rm]; omega) (by dsimp only [x_rm]; omega) ⟨Nat.le_of_ble_eq_true rfl, Nat.le_of_ble_eq_true rfl⟩) hS (fun _ h => Or.inr h) (fun H locs hM hF hS => ?_)
      have hK := hF.kp hK hka
      refine n_iadd X d_K_common_84 ?_
      refine x_istore X d_K_common_85 hl (by decide) rfl (fun ls hl => ?_)
      refine x_iload X d_K_common_87 hl rfl ?_
      refine x_aload_n X d_K_common_89 rfl hl rfl ?_
      refine x_aload X d_K_common_90 hl rfl ?_
      refine x_getN X gT (t1.tr (cTr.ofS hS hs)).2 2 (by decide) e_K_29 rfl d_K_common_92 ?_
      refine x_iload_n X d_K_common_95 rfl hl rfl ?_
      refine x_iload X d_K_common_96 hl rfl ?_
      have t5 : cL D A S rh E [] [] H0 := cL_nil.2 rfl
      have h0z : ft_zR [] = 0 := rfl
      have h0l : ([] : List ft_I).length = 0 := rfl
      have hmu2 := ft_pn_lt (f := lt + 1) (g := lt + 2) (by omega : lt + 2 < 2 ^ 31) ((ft_nR o2.toList).map rh) mu 0 hmu
      refine x_go1 (x_runV X (C_K_countMarked l D A _ S rh E ne mm zf ks ar (lt + 2) _ hK hM hka hSa hra k [] [] rc (fun y hy => by simp at hy) (t3.tr (cTr.ofS hS hs)) (t5.tr (cTr.ofS hS hs) (fun _ _ h => h)) (by omega) (by omega) (lt + 1) (lt + 2) hmu2 (by omega) (by omega)) b_K_countMarked s_K_countMarked v_K_countMarked e_K_36 hK rfl rfl hl rfl (Nat.le_of_ble_eq_true rfl) d_K_common_98 (by dsimp only [x_rm]; omega) (by dsimp only [x_rm]; omega) ⟨Nat.le_of_ble_eq_true rfl, Nat.le_of_ble_eq_true rfl⟩) hS (fun _ h => Or.inr h) (fun H locs hM hF hS => ?_)
      have hK := hF.kp hK hka
      refine n_iadd X d_K_common_101 ?_
      refine x_istore X d_K_common_102 hl (by decide) rfl (fun ls hl => ?_)
      refine x_aload X d_K_common_104 hl rfl ?_
      refine x_getN X gT (t1.tr (cTr.ofS hS hs)).2 1 (by decide) e_K_32 rfl d_K_common_106 ?_
      refine x_astoreN X d_K_common_109 hl (by decide) rfl (fun ls hl => ?_)
      refine x_goto X 65 d_K_common_111 rfl ?_
      refine x_aloadN X d_K_common_65 hl rfl ?_
      refine x_ifnullN X 114 d_K_common_67 rfl ?_
      have e1 : (ft_pn (lt + 1) (lt + 2) mu cn ((ft_nT [] o2).map rh)) = ((ft_pn (lt + 1) (lt + 2) mu 0 ((ft_nR o2.toList).map rh)).1, cn + (ft_pn (lt + 1) (lt + 2) mu 0 ((ft_nR o2.toList).map rh)).2) := by rw [ft_nT_nil, ft_pn_add]
      refine kk (some .null) _ _ _ ?_ hK ?_ hS
      · rw [e1]; exact hl
      · rw [e1]; exact hM
    | cons d s1 ih =>
      intro k a cn mu H locs ls ok hT hz hk hmu hl hK hM hS kk
      obtain ⟨lc, mt, rc, as, bs, t1, t2_, t3, t4, tb, tm⟩ := hT
      obtain ⟨o1, o2_, o3⟩ := ok
      have hzz : ft_zT (d :: s1) o2 = ft_zR d.1 + ft_zT s1 o2 + ft_zR d.2 := rfl
      have hll : (d :: s1).length = s1.length + 1 := rfl
      refine x_aload X d_K_common_65 hl rfl ?_
      refine x_ifnull X d_K_common_67 ?_
      refine x_iload X d_K_common_70 hl rfl ?_
      refine x_aload_n X d_K_common_72 rfl hl rfl ?_
      refine x_aload X d_K_common_73 hl rfl ?_
      refine x_getN X gT (t1.tr (cTr.ofS hS hs)).2 0 (by decide) e_K_19 rfl d_K_common_75 ?_
      refine x_iload_n X d_K_common_78 rfl hl rfl ?_
      refine x_iload X d_K_common_79 hl rfl ?_
      refine x_go1 (x_runV X (C_K_countMarked l D A _ S rh E ne mm zf ks ar (lt + 2) mu hK hM hka hSa hra k d.1 as lc o1.2.2 (t2_.tr (cTr.ofS hS hs)) (t4.tr (cTr.ofS hS hs) (fun _ _ h => h)) (by omega) (by omega) (lt + 1) (lt + 2) hmu (by omega) (by omega)) b_K_countMarked s_K_countMarked v_K_countMarked e_K_36 hK rfl rfl hl rfl (Nat.le_of_ble_eq_true rfl) d_K_common_81 (by dsimp only [x_rm]; omega) (by dsimp only [x_rm]; omega) ⟨Nat.le_of_ble_eq_true rfl, Nat.le_of_ble_eq_true rfl⟩) hS (fun _ h => Or.inr h) (fun H locs hM hF hS => ?_)
      have hK := hF.kp hK hka
      refine n_iadd X d_K_common_84 ?_
      refine x_istore X d_K_common_85 hl (by decide) rfl (fun ls hl => ?_)
      refine x_iload X d_K_common_87 hl rfl ?_
      refine x_aload_n X d_K_common_89 rfl hl rfl ?_
      refine x_aload X d_K_common_90 hl rfl ?_
      refine x_getN X gT (t1.tr (cTr.ofS hS hs)).2 2 (by decide) e_K_29 rfl d_K_common_92 ?_
      refine x_iload_n X d_K_common_95 rfl hl rfl ?_
      refine x_iload X d_K_common_96 hl rfl ?_
      have hmu2 := ft_pn_lt (f := lt + 1) (g := lt + 2) (by omega : lt + 2 < 2 ^ 31) ((ft_nR d.1).map rh) mu 0 hmu
      refine x_go1 (x_runV X (C_K_countMarked l D A _ S rh E ne mm zf ks ar (lt + 2) _ hK hM hka hSa hra k d.2 bs rc o2_.2.2 (t3.tr (cTr.ofS hS hs)) (tb.tr (cTr.ofS hS hs) (fun _ _ h => h)) (by omega) (by omega) (lt + 1) (lt + 2) hmu2 (by omega) (by omega)) b_K_countMarked s_K_countMarked v_K_countMarked e_K_36 hK rfl rfl hl rfl (Nat.le_of_ble_eq_true rfl) d_K_common_98 (by dsimp only [x_rm]; omega) (by dsimp only [x_rm]; omega) ⟨Nat.le_of_ble_eq_true rfl, Nat.le_of_ble_eq_true rfl⟩) hS (fun _ h => Or.inr h) (fun H locs hM hF hS => ?_)
      have hK := hF.kp hK hka
      have hmu3 := ft_pn_lt (f := lt + 1) (g := lt + 2) (by omega : lt + 2 < 2 ^ 31) ((ft_nR d.2).map rh) _ 0 hmu2
      refine n_iadd X d_K_common_101 ?_
      refine x_istore X d_K_common_102 hl (by decide) rfl (fun ls hl => ?_)
      refine x_aload X d_K_common_104 hl rfl ?_
      refine x_getN X gT (t1.tr (cTr.ofS hS hs)).2 1 (by decide) e_K_32 rfl d_K_common_106 ?_
      refine x_astore X d_K_common_109 hl (by decide) rfl (fun ls hl => ?_)
      refine x_goto X 65 d_K_common_111 rfl ?_
      have e1 : (ft_pn (lt + 1) (lt + 2) mu cn ((ft_nT (d :: s1) o2).map rh)) = ft_pn (lt + 1) (lt + 2) (ft_pn (lt + 1) (lt + 2) (ft_pn (lt + 1) (lt + 2) mu 0 ((ft_nR d.1).map rh)).1 0 ((ft_nR d.2).map rh)).1 (cn + (ft_pn (lt + 1) (lt + 2) mu 0 ((ft_nR d.1).map rh)).2 + (ft_pn (lt + 1) (lt + 2) (ft_pn (lt + 1) (lt + 2) mu 0 ((ft_nR d.1).map rh)).1 0 ((ft_nR d.2).map rh)).2) ((ft_nT s1 o2).map rh) := by
        rw [ft_nT_cons, List.map_append, List.map_append, ft_pn_app, ft_pn_app, ft_pn_add _ _ _ mu cn, ft_pn_add _ _ ((ft_nR d.2).map rh)]
      rw [e1] at kk
      exact ih (k + 1) mt _ _ _ _ _ o3 tm (by omega) (by omega) hmu3 hl hK hM hS kk
  refine loop2 sp2 0 t2 0 m1 _ _ _ okt2 hT2 hz2 (by omega) hm1 hl hK hM hS ?_
  intro v6 H locs ls hl hK hM hS
  refine x_iload X d_K_common_114 hl rfl ?_
  exact x_iret X hS (Nat.le_refl _) (Nat.le_refl _) d_K_common_116 ⟨rfl, hK, hM⟩
/-- the numbers of the class, counted: as many as those of the picture -/
theorem ft_shc {M N f g : Nat} {rh mv : Nat → Nat} {a b : List Nat} (hfg : f ≠ g) (hin : ∀ m n, 1 ≤ m → m ≤ M → 1 ≤ n → n ≤ M → rh m = rh n → m = n) (hlt : ∀ n, 1 ≤ n → n ≤ M → rh n < N) (ha : ∀ d ∈ a, 1 ≤ d ∧ d ≤ M) (hb : ∀ d ∈ b, 1 ≤ d ∧ d ≤ M) (hm : ∀ d, mv d ≠ f) : (ft_pn f g (ft_ma f mv (a.map rh)) 0 (b.map rh)).2 = ((List.range (M + 1)).filter (fun d => decide (d ∈ a) && decide (d ∈ b))).length := by
  rw [ft_pn_ct hfg N _ _ _ (fun d hd => by
    obtain ⟨x, h1, rfl⟩ := List.mem_map.1 hd
    exact hlt x (hb x h1).1 (hb x h1).2), Nat.zero_add]
  rw [← List.length_map (f := rh) (as := (List.range (M + 1)).filter (fun d => decide (d ∈ a) && decide (d ∈ b)))]
  apply List.Perm.length_eq
  refine (List.perm_ext_iff_of_nodup (List.nodup_range.filter _) ?_).2 (fun x => ?_)
  · refine List.pairwise_map.2 ((List.nodup_range.filter _).imp_of_mem ?_)
    intro m n h1 h2 h3 h4
    simp only [List.mem_filter, Bool.and_eq_true, decide_eq_true_eq] at h1 h2
    exact h3 (hin m n (ha m h1.2.1).1 (ha m h1.2.1).2 (ha n h2.2.1).1 (ha n h2.2.1).2 h4)
  · simp only [List.mem_filter, List.mem_range, Bool.and_eq_true, decide_eq_true_eq, List.mem_map]
    constructor
    · rintro ⟨h1, ⟨n, h2, rfl⟩, h3⟩
      unfold ft_ma at h3
      split at h3
      · rename_i h4
        obtain ⟨m, h5, h6⟩ := List.mem_map.1 h4
        have := hin m n (ha m h5).1 (ha m h5).2 (hb n h2).1 (hb n h2).2 h6
        subst this
        exact ⟨m, ⟨Nat.lt_succ_of_le (ha m h5).2, h5, h2⟩, rfl⟩
      · exact absurd h3 (hm _)
    · rintro ⟨n, ⟨h1, h2, h3⟩, rfl⟩
      refine ⟨hlt n (hb n h3).1 (hb n h3).2, ⟨n, h3, rfl⟩, ?_⟩
      unfold ft_ma
      rw [if_pos (List.mem_map.2 ⟨n, h2, rfl⟩)]
