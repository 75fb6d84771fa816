/-! The class: constructors that look at rows; new rows out of old ones. -/
set_option maxRecDepth 100000 in
set_option maxHeartbeats 4000000 in
theorem C_I_init2 (l : Launch) (D : va_G) (A : Nat → ClassId) (H0 : Heap) (o : Nat) (hP : va_P D vwCl [(o, .inr (0, [.int (nI 0), .int (nI 0), .int (nI 0), .null, .int (nI 0)]))] H0) (S : Nat → Prop) (rh : Nat → Nat) (E : ft_E) (ne mm : Nat) (zf : Nat → Nat) (hSo : S o) (k : Nat) (lr1 : List ft_I) (as1 : List Nat) (r1 : Nat) (ok1 : ft_okR ne mm zf k lr1) (hr1 : cRw D A S as1 r1 H0) (hL1 : cL D A S rh E lr1 as1 H0) (h91 : lr1.length < 64) (hz1 : ft_zR lr1 < 4096) (nu : Int32) : xC l y_I_init2 c_I_init2 3 (none : Option FieldType) 1 D A H0 [.ref o, .int nu, .ref r1] (xA (fun q => q = o) H0) (q0 (fun H1 => va_at D vwCl (o, .inr (0, [.int nu, .int (nI 0), .int (nI 0), .ref r1, .int (nI (ft_zR lr1))])) H1)) 0 0 := by
  have hs : ∀ q, q < H0.size → xA (fun q => q = o) H0 q → S q := fun q h1 h2 => by
    rcases h2 with h2 | h2
    · rw [h2]; exact hSo
    · omega
  refine xC.ofI rfl (Nat.le_of_ble_eq_true rfl) ?_
  intro p_ e_ s_ m_ ar_ bl_ me_ c_ ls X hn hl
  have hl : lz ls 3 [some (.ref o), some (.int nu), some (.ref r1)] := hl
  have hS : va_S (xA (fun q => q = o) H0) H0 H0 [] := va_S.rf
  have hD : va_D (xA (fun q => q = o) H0) [(o, .inr (0, [.int (nI 0), .int (nI 0), .int (nI 0), .null, .int (nI 0)]))] := va_D1 (Or.inl rfl)
  have hA : ∀ q, H0.size ≤ q → xA (fun q => q = o) H0 q := fun q h => Or.inr h
  refine x_aload_n X d_I_init2_0 rfl hl rfl ?_
  refine x_obj X e_I_1 hl d_I_init2_1 (Nat.le_of_ble_eq_true rfl) (Nat.le_of_ble_eq_true rfl) ?_
  refine x_aload_n X d_I_init2_4 rfl hl rfl ?_
  refine x_iload_n X d_I_init2_5 rfl hl rfl ?_
  refine x_putF X hn gI hP hD hS 0 rfl 0 (by decide) e_I_7 rfl rfl rfl (Nat.le_of_ble_eq_true rfl) d_I_init2_6 (fun H locs hP hD hS => ?_)
  have hP : va_P D vwCl [(o, .inr (0, [.int nu, .int (nI 0), .int (nI 0), .null, .int (nI 0)]))] H := hP
  have hD : va_D (xA (fun q => q = o) H0) [(o, .inr (0, [.int nu, .int (nI 0), .int (nI 0), .null, .int (nI 0)]))] := hD
  refine x_aload_n X d_I_init2_9 rfl hl rfl ?_
  refine x_iconst (v := nI 0) X d_I_init2_10 rfl ?_
  refine x_putF X hn gI hP hD hS 0 rfl 1 (by decide) e_I_13 rfl rfl rfl (Nat.le_of_ble_eq_true rfl) d_I_init2_11 (fun H locs hP hD hS => ?_)
  have hP : va_P D vwCl [(o, .inr (0, [.int nu, .int (nI 0), .int (nI 0), .null, .int (nI 0)]))] H := hP
  have hD : va_D (xA (fun q => q = o) H0) [(o, .inr (0, [.int nu, .int (nI 0), .int (nI 0), .null, .int (nI 0)]))] := hD
  refine x_aload_n X d_I_init2_14 rfl hl rfl ?_
  refine x_iconst (v := nI 0) X d_I_init2_15 rfl ?_
  refine x_putF X hn gI hP hD hS 0 rfl 2 (by decide) e_I_16 rfl rfl rfl (Nat.le_of_ble_eq_true rfl) d_I_init2_16 (fun H locs hP hD hS => ?_)
  have hP : va_P D vwCl [(o, .inr (0, [.int nu, .int (nI 0), .int (nI 0), .null, .int (nI 0)]))] H := hP
  have hD : va_D (xA (fun q => q = o) H0) [(o, .inr (0, [.int nu, .int (nI 0), .int (nI 0), .null, .int (nI 0)]))] := hD
  refine x_aload_n X d_I_init2_19 rfl hl rfl ?_
  refine x_aload_n X d_I_init2_20 rfl hl rfl ?_
  refine x_putF X hn gI hP hD hS 0 rfl 3 (by decide) e_I_19 rfl rfl rfl (Nat.le_of_ble_eq_true rfl) d_I_init2_21 (fun H locs hP hD hS => ?_)
  have hP : va_P D vwCl [(o, .inr (0, [.int nu, .int (nI 0), .int (nI 0), .ref r1, .int (nI 0)]))] H := hP
  have hD : va_D (xA (fun q => q = o) H0) [(o, .inr (0, [.int nu, .int (nI 0), .int (nI 0), .ref r1, .int (nI 0)]))] := hD
  refine x_aload_n X d_I_init2_24 rfl hl rfl ?_
  refine x_aload_n X d_I_init2_25 rfl hl rfl ?_
  refine x_goR (x_runSN X (C_R_entriesIn l D A _ S rh E ne mm zf k lr1 as1 r1 ok1 (hr1.tr (cTr.ofS hS hs)) (hL1.tr (cTr.ofS hS hs) (fun _ _ h => h)) h91 hz1) b_R_entriesIn s_R_entriesIn e_I_26 rfl hl rfl (Nat.le_of_ble_eq_true rfl) d_I_init2_26 (Nat.le_of_ble_eq_true rfl) (Nat.le_of_ble_eq_true rfl) ⟨Nat.le_of_ble_eq_true rfl, Nat.le_of_ble_eq_true rfl⟩) hS (fun locs hS => ?_)
  refine x_putF X hn gI hP hD hS 0 rfl 4 (by decide) e_I_23 rfl rfl rfl (Nat.le_of_ble_eq_true rfl) d_I_init2_29 (fun H locs hP hD hS => ?_)
  have hP : va_P D vwCl [(o, .inr (0, [.int nu, .int (nI 0), .int (nI 0), .ref r1, .int (nI (ft_zR lr1))]))] H := hP
  have hD : va_D (xA (fun q => q = o) H0) [(o, .inr (0, [.int nu, .int (nI 0), .int (nI 0), .ref r1, .int (nI (ft_zR lr1))]))] := hD
  exact x_vret X hS (Nat.le_of_ble_eq_true rfl) (Nat.le_of_ble_eq_true rfl) d_I_init2_32 ⟨rfl, hP 0 _ rfl⟩
set_option maxRecDepth 100000 in
set_option maxHeartbeats 4000000 in
theorem C_T_init_n (l : Launch) (D : va_G) (A : Nat → ClassId) (H0 : Heap) (o : Nat) (hP : va_P D vwCl [(o, .inr (3, [.null, .null, .null, .int (nI 0), .int (nI 0)]))] H0) (S : Nat → Prop) (rh : Nat → Nat) (E : ft_E) (ne mm : Nat) (zf : Nat → Nat) (hSo : S o) (k : Nat) (lr1 : List ft_I) (as1 : List Nat) (r1 : Nat) (ok1 : ft_okR ne mm zf k lr1) (hr1 : cRw D A S as1 r1 H0) (hL1 : cL D A S rh E lr1 as1 H0) (h91 : lr1.length < 64) (hz1 : ft_zR lr1 < 4096) (lr2 : List ft_I) (as2 : List Nat) (r2 : Nat) (ok2 : ft_okR ne mm zf k lr2) (hr2 : cRw D A S as2 r2 H0) (hL2 : cL D A S rh E lr2 as2 H0) (h92 : lr2.length < 64) (hz2 : ft_zR lr2 < 4096) : xC l y_T_init c_T_init 4 (none : Option FieldType) 1 D A H0 [.ref o, .ref r1, .null, .ref r2] (xA (fun q => q = o) H0) (q0 (fun H1 => va_at D vwCl (o, .inr (3, [.ref r1, .null, .ref r2, .int (nI (ft_zR lr1)), .int (nI (ft_zR lr1 + ft_zR lr2))])) H1)) 0 0 := by
  have hs : ∀ q, q < H0.size → xA (fun q => q = o) H0 q → S q := fun q h1 h2 => by
    rcases h2 with h2 | h2
    · rw [h2]; exact hSo
    · omega
  refine xC.ofI rfl (Nat.le_of_ble_eq_true rfl) ?_
  intro p_ e_ s_ m_ ar_ bl_ me_ c_ ls X hn hl
  have hl : lz ls 4 [some (.ref o), some (.ref r1), some (.null), some (.ref r2)] := hl
  have hS : va_S (xA (fun q => q = o) H0) H0 H0 [] := va_S.rf
  have hD : va_D (xA (fun q => q = o) H0) [(o, .inr (3, [.null, .null, .null, .int (nI 0), .int (nI 0)]))] := va_D1 (Or.inl rfl)
  have hA : ∀ q, H0.size ≤ q → xA (fun q => q = o) H0 q := fun q h => Or.inr h
  refine x_aload_n X d_T_init_0 rfl hl rfl ?_
  refine x_obj X e_T_1 hl d_T_init_1 (Nat.le_of_ble_eq_true rfl) (Nat.le_of_ble_eq_true rfl) ?_
  refine x_aload_n X d_T_init_4 rfl hl rfl ?_
  refine x_aload_n X d_T_init_5 rfl hl rfl ?_
  refine x_putF X hn gT hP hD hS 0 rfl 0 (by decide) e_T_7 rfl rfl rfl (Nat.le_of_ble_eq_true rfl) d_T_init_6 (fun H locs hP hD hS => ?_)
  have hP : va_P D vwCl [(o, .inr (3, [.ref r1, .null, .null, .int (nI 0), .int (nI 0)]))] H := hP
  have hD : va_D (xA (fun q => q = o) H0) [(o, .inr (3, [.ref r1, .null, .null, .int (nI 0), .int (nI 0)]))] := hD
  refine x_aload_n X d_T_init_9 rfl hl rfl ?_
  refine x_aload_nN X d_T_init_10 rfl hl rfl ?_
  refine x_putF X hn gT hP hD hS 0 rfl 1 (by decide) e_T_13 rfl rfl rfl (Nat.le_of_ble_eq_true rfl) d_T_init_11 (fun H locs hP hD hS => ?_)
  have hP : va_P D vwCl [(o, .inr (3, [.ref r1, .null, .null, .int (nI 0), .int (nI 0)]))] H := hP
  have hD : va_D (xA (fun q => q = o) H0) [(o, .inr (3, [.ref r1, .null, .null, .int (nI 0), .int (nI 0)]))] := hD
  refine x_aload_n X d_T_init_14 rfl hl rfl ?_
  refine x_aload_n X d_T_init_15 rfl hl rfl ?_
  refine x_putF X hn gT hP hD hS 0 rfl 2 (by decide) e_T_17 rfl rfl rfl (Nat.le_of_ble_eq_true rfl) d_T_init_16 (fun H locs hP hD hS => ?_)
  have hP : va_P D vwCl [(o, .inr (3, [.ref r1, .null, .ref r2, .int (nI 0), .int (nI 0)]))] H := hP
  have hD : va_D (xA (fun q => q = o) H0) [(o, .inr (3, [.ref r1, .null, .ref r2, .int (nI 0), .int (nI 0)]))] := hD
  refine x_aload_n X d_T_init_19 rfl hl rfl ?_
  refine x_aload_n X d_T_init_20 rfl hl rfl ?_
  refine x_goR (x_runSN X (C_R_entriesIn l D A _ S rh E ne mm zf k lr1 as1 r1 ok1 (hr1.tr (cTr.ofS hS hs)) (hL1.tr (cTr.ofS hS hs) (fun _ _ h => h)) h91 hz1) b_R_entriesIn s_R_entriesIn e_T_20 rfl hl rfl (Nat.le_of_ble_eq_true rfl) d_T_init_21 (Nat.le_of_ble_eq_true rfl) (Nat.le_of_ble_eq_true rfl) ⟨Nat.le_of_ble_eq_true rfl, Nat.le_of_ble_eq_true rfl⟩) hS (fun locs hS => ?_)
  refine x_aload_nN X d_T_init_24 rfl hl rfl ?_
  refine x_ifnonnullN X d_T_init_25 ?_
  refine x_iconst (v := nI 0) X d_T_init_28 rfl ?_
  refine x_goto X 36 d_T_init_29 rfl ?_
  refine n_iadd X d_T_init_36 ?_
  refine x_putF X hn gT hP hD hS 0 rfl 3 (by decide) e_T_30 rfl rfl rfl (Nat.le_of_ble_eq_true rfl) d_T_init_37 (fun H locs hP hD hS => ?_)
  have hP : va_P D vwCl [(o, .inr (3, [.ref r1, .null, .ref r2, .int (nI (ft_zR lr1)), .int (nI 0)]))] H := hP
  have hD : va_D (xA (fun q => q = o) H0) [(o, .inr (3, [.ref r1, .null, .ref r2, .int (nI (ft_zR lr1)), .int (nI 0)]))] := hD
  refine x_aload_n X d_T_init_40 rfl hl rfl ?_
  refine x_aload_n X d_T_init_41 rfl hl rfl ?_
  refine x_get X gT (hP 0 _ rfl) 3 (by decide) e_T_30 rfl d_T_init_42 ?_
  refine x_aload_n X d_T_init_45 rfl hl rfl ?_
  refine x_goR (x_runSN X (C_R_entriesIn l D A _ S rh E ne mm zf k lr2 as2 r2 ok2 (hr2.tr (cTr.ofS hS hs)) (hL2.tr (cTr.ofS hS hs) (fun _ _ h => h)) h92 hz2) b_R_entriesIn s_R_entriesIn e_T_20 rfl hl rfl (Nat.le_of_ble_eq_true rfl) d_T_init_46 (Nat.le_of_ble_eq_true rfl) (Nat.le_of_ble_eq_true rfl) ⟨Nat.le_of_ble_eq_true rfl, Nat.le_of_ble_eq_true rfl⟩) hS (fun locs hS => ?_)
  refine n_iadd X d_T_init_49 ?_
  refine x_putF X hn gT hP hD hS 0 rfl 4 (by decide) e_T_26 rfl rfl rfl (Nat.le_of_ble_eq_true rfl) d_T_init_50 (fun H locs hP hD hS => ?_)
  have hP : va_P D vwCl [(o, .inr (3, [.ref r1, .null, .ref r2, .int (nI (ft_zR lr1)), .int (nI (ft_zR lr1 + ft_zR lr2))]))] H := hP
  have hD : va_D (xA (fun q => q = o) H0) [(o, .inr (3, [.ref r1, .null, .ref r2, .int (nI (ft_zR lr1)), .int (nI (ft_zR lr1 + ft_zR lr2))]))] := hD
  exact x_vret X hS (Nat.le_of_ble_eq_true rfl) (Nat.le_of_ble_eq_true rfl) d_T_init_53 ⟨rfl, hP 0 _ rfl⟩
set_option maxRecDepth 100000 in
set_option maxHeartbeats 4000000 in
theorem C_T_init_d (l : Launch) (D : va_G) (A : Nat → ClassId) (H0 : Heap) (o : Nat) (hP : va_P D vwCl [(o, .inr (3, [.null, .null, .null, .int (nI 0), .int (nI 0)]))] H0) (S : Nat → Prop) (rh : Nat → Nat) (E : ft_E) (ne mm : Nat) (zf : Nat → Nat) (hSo : S o) (k : Nat) (lr1 : List ft_I) (as1 : List Nat) (r1 : Nat) (ok1 : ft_okR ne mm zf k lr1) (hr1 : cRw D A S as1 r1 H0) (hL1 : cL D A S rh E lr1 as1 H0) (h91 : lr1.length < 64) (hz1 : ft_zR lr1 < 4096) (lr2 : List ft_I) (as2 : List Nat) (r2 : Nat) (ok2 : ft_okR ne mm zf k lr2) (hr2 : cRw D A S as2 r2 H0) (hL2 : cL D A S rh E lr2 as2 H0) (h92 : lr2.length < 64) (hz2 : ft_zR lr2 < 4096) (sp : ft_S) (om : Option ft_I) (mt : Nat) (hT : cT D A S rh E sp om mt H0) : xC l y_T_init c_T_init 4 (none : Option FieldType) 1 D A H0 [.ref o, .ref r1, .ref mt, .ref r2] (xA (fun q => q = o) H0) (q0 (fun H1 => va_at D vwCl (o, .inr (3, [.ref r1, .ref mt, .ref r2, .int (nI (ft_zR lr1 + ft_zT sp om)), .int (nI (ft_zR lr1 + ft_zT sp om + ft_zR lr2))])) H1)) 0 0 := by
  have hs : ∀ q, q < H0.size → xA (fun q => q = o) H0 q → S q := fun q h1 h2 => by
    rcases h2 with h2 | h2
    · rw [h2]; exact hSo
    · omega
  refine xC.ofI rfl (Nat.le_of_ble_eq_true rfl) ?_
  intro p_ e_ s_ m_ ar_ bl_ me_ c_ ls X hn hl
  have hl : lz ls 4 [some (.ref o), some (.ref r1), some (.ref mt), some (.ref r2)] := hl
  have hS : va_S (xA (fun q => q = o) H0) H0 H0 [] := va_S.rf
  have hD : va_D (xA (fun q => q = o) H0) [(o, .inr (3, [.null, .null, .null, .int (nI 0), .int (nI 0)]))] := va_D1 (Or.inl rfl)
  have hA : ∀ q, H0.size ≤ q → xA (fun q => q = o) H0 q := fun q h => Or.inr h
  refine x_aload_n X d_T_init_0 rfl hl rfl ?_
  refine x_obj X e_T_1 hl d_T_init_1 (Nat.le_of_ble_eq_true rfl) (Nat.le_of_ble_eq_true rfl) ?_
  refine x_aload_n X d_T_init_4 rfl hl rfl ?_
  refine x_aload_n X d_T_init_5 rfl hl rfl ?_
  refine x_putF X hn gT hP hD hS 0 rfl 0 (by decide) e_T_7 rfl rfl rfl (Nat.le_of_ble_eq_true rfl) d_T_init_6 (fun H locs hP hD hS => ?_)
  have hP : va_P D vwCl [(o, .inr (3, [.ref r1, .null, .null, .int (nI 0), .int (nI 0)]))] H := hP
  have hD : va_D (xA (fun q => q = o) H0) [(o, .inr (3, [.ref r1, .null, .null, .int (nI 0), .int (nI 0)]))] := hD
  refine x_aload_n X d_T_init_9 rfl hl rfl ?_
  refine x_aload_n X d_T_init_10 rfl hl rfl ?_
  refine x_putF X hn gT hP hD hS 0 rfl 1 (by decide) e_T_13 rfl rfl rfl (Nat.le_of_ble_eq_true rfl) d_T_init_11 (fun H locs hP hD hS => ?_)
  have hP : va_P D vwCl [(o, .inr (3, [.ref r1, .ref mt, .null, .int (nI 0), .int (nI 0)]))] H := hP
  have hD : va_D (xA (fun q => q = o) H0) [(o, .inr (3, [.ref r1, .ref mt, .null, .int (nI 0), .int (nI 0)]))] := hD
  refine x_aload_n X d_T_init_14 rfl hl rfl ?_
  refine x_aload_n X d_T_init_15 rfl hl rfl ?_
  refine x_putF X hn gT hP hD hS 0 rfl 2 (by decide) e_T_17 rfl rfl rfl (Nat.le_of_ble_eq_true rfl) d_T_init_16 (fun H locs hP hD hS => ?_)
  have hP : va_P D vwCl [(o, .inr (3, [.ref r1, .ref mt, .ref r2, .int (nI 0), .int (nI 0)]))] H := hP
  have hD : va_D (xA (fun q => q = o) H0) [(o, .inr (3, [.ref r1, .ref mt, .ref r2, .int (nI 0), .int (nI 0)]))] := hD
  refine x_aload_n X d_T_init_19 rfl hl rfl ?_
  refine x_aload_n X d_T_init_20 rfl hl rfl ?_
  refine x_goR (x_runSN X (C_R_entriesIn l D A _ S rh E ne mm zf k lr1 as1 r1 ok1 (hr1.tr (cTr.ofS hS hs)) (hL1.tr (cTr.ofS hS hs) (fun _ _ h => h)) h91 hz1) b_R_entriesIn s_R_entriesIn e_T_20 rfl hl rfl (Nat.le_of_ble_eq_true rfl) d_T_init_21 (Nat.le_of_ble_eq_true rfl) (Nat.le_of_ble_eq_true rfl) ⟨Nat.le_of_ble_eq_true rfl, Nat.le_of_ble_eq_true rfl⟩) hS (fun locs hS => ?_)
  refine x_aload_n X d_T_init_24 rfl hl rfl ?_
  refine x_ifnonnull X 32 d_T_init_25 rfl ?_
  obtain ⟨l9, r9, mv9, rs9, t9⟩ := cT_obj (hT.tr (cTr.ofS hS hs) (fun _ _ h => h))
  refine x_aload_n X d_T_init_32 rfl hl rfl ?_
  refine x_get X gT t9.2 4 (by decide) e_T_26 rfl d_T_init_33 ?_
  refine n_iadd X d_T_init_36 ?_
  refine x_putF X hn gT hP hD hS 0 rfl 3 (by decide) e_T_30 rfl rfl rfl (Nat.le_of_ble_eq_true rfl) d_T_init_37 (fun H locs hP hD hS => ?_)
  have hP : va_P D vwCl [(o, .inr (3, [.ref r1, .ref mt, .ref r2, .int (nI (ft_zR lr1 + ft_zT sp om)), .int (nI 0)]))] H := hP
  have hD : va_D (xA (fun q => q = o) H0) [(o, .inr (3, [.ref r1, .ref mt, .ref r2, .int (nI (ft_zR lr1 + ft_zT sp om)), .int (nI 0)]))] := hD
  refine x_aload_n X d_T_init_40 rfl hl rfl ?_
  refine x_aload_n X d_T_init_41 rfl hl rfl ?_
  refine x_get X gT (hP 0 _ rfl) 3 (by decide) e_T_30 rfl d_T_init_42 ?_
  refine x_aload_n X d_T_init_45 rfl hl rfl ?_
  refine x_goR (x_runSN X (C_R_entriesIn l D A _ S rh E ne mm zf k lr2 as2 r2 ok2 (hr2.tr (cTr.ofS hS hs)) (hL2.tr (cTr.ofS hS hs) (fun _ _ h => h)) h92 hz2) b_R_entriesIn s_R_entriesIn e_T_20 rfl hl rfl (Nat.le_of_ble_eq_true rfl) d_T_init_46 (Nat.le_of_ble_eq_true rfl) (Nat.le_of_ble_eq_true rfl) ⟨Nat.le_of_ble_eq_true rfl, Nat.le_of_ble_eq_true rfl⟩) hS (fun locs hS => ?_)
  refine n_iadd X d_T_init_49 ?_
  refine x_putF X hn gT hP hD hS 0 rfl 4 (by decide) e_T_26 rfl rfl rfl (Nat.le_of_ble_eq_true rfl) d_T_init_50 (fun H locs hP hD hS => ?_)
  have hP : va_P D vwCl [(o, .inr (3, [.ref r1, .ref mt, .ref r2, .int (nI (ft_zR lr1 + ft_zT sp om)), .int (nI (ft_zR lr1 + ft_zT sp om + ft_zR lr2))]))] H := hP
  have hD : va_D (xA (fun q => q = o) H0) [(o, .inr (3, [.ref r1, .ref mt, .ref r2, .int (nI (ft_zR lr1 + ft_zT sp om)), .int (nI (ft_zR lr1 + ft_zT sp om + ft_zR lr2))]))] := hD
  exact x_vret X hS (Nat.le_of_ble_eq_true rfl) (Nat.le_of_ble_eq_true rfl) d_T_init_53 ⟨rfl, hP 0 _ rfl⟩
/-- a new row: these -/
def cNR (D : va_G) (A : Nat → ClassId) (as : List Nat) (q : Nat) (H0 H : Heap) : Prop := H0.size ≤ q ∧ va_at D vwCl (q, cArr A 3 as.length (fun i => as[i]?)) H
theorem cNR.rw {D : va_G} {A : Nat → ClassId} {S : Nat → Prop} {as : List Nat} {q : Nat} {H0 H : Heap} (h : cNR D A as q H0 H) (hS : ∀ q, S q → q < H0.size) : cRw D A S as q H := ⟨fun h2 => absurd (hS q h2) (by have := h.1; omega), h.2⟩
/-- an array filled up to i -/
def c_fl (as : List Nat) (i : Nat) : Nat → Option Nat := fun x => if x < i then as[x]? else none
theorem c_fl_0 (as : List Nat) : c_fl as 0 = fun _ => none := funext fun x => by unfold c_fl; rw [if_neg (by omega)]
theorem c_fl_s {as : List Nat} {i b : Nat} (h : as[i]? = some b) : va_up (c_fl as i) i (some b) = c_fl as (i + 1) := funext fun x => by
  unfold va_up c_fl
  by_cases e : x = i
  · subst e; rw [if_pos rfl, if_pos (by omega), h]
  · rw [if_neg e]
    by_cases e2 : x < i
    · rw [if_pos e2, if_pos (by omega)]
    · rw [if_neg e2, if_neg (by omega)]
theorem c_fl_e {D : va_G} {A : Nat → ClassId} {as bs : List Nat} {a n : Nat} {H : Heap} (h : va_at D vwCl (a, cArr A 3 n (c_fl as n)) H) (hb : bs.length = n) (e : ∀ i, i < n → as[i]? = bs[i]?) : va_at D vwCl (a, cArr A 3 bs.length (fun i => bs[i]?)) H := by
  rw [hb]
  exact cArr_ext h (fun i hi => by unfold c_fl; rw [if_pos hi]; exact e i hi)
set_option maxRecDepth 100000 in
set_option maxHeartbeats 4000000 in
theorem C_R_slice (l : Launch) (D : va_G) (A : Nat → ClassId) (H0 : Heap) (S : Nat → Prop) (rh : Nat → Nat) (E : ft_E) (ne mm : Nat) (zf : Nat → Nat) (k : Nat) (lr1 : List ft_I) (as1 : List Nat) (r1 : Nat) (ok1 : ft_okR ne mm zf k lr1) (hr1 : cRw D A S as1 r1 H0) (hL1 : cL D A S rh E lr1 as1 H0) (h91 : lr1.length < 64) (hz1 : ft_zR lr1 < 4096) (f t : Nat) (hft : f ≤ t) (ht : t ≤ lr1.length) (h12 : t - f ≤ 12) : xC l y_R_slice c_R_slice 5 (some (.array (.object "FingerSpans$Item"))) 0 D A H0 [.ref r1, .int (nI f), .int (nI t)] (xA (fun _ => False) H0) (qr (fun q H1 => cNR D A ((as1.drop f).take (t - f)) q H0 H1)) 1 12 := by
  have hs : ∀ q, q < H0.size → xA (fun _ => False) H0 q → S q := fun q h1 h2 => by
    rcases h2 with h2 | h2
    · exact h2.elim
    · omega
  have hA : ∀ q, H0.size ≤ q → xA (fun _ => False) H0 q := fun q h => Or.inr h
  have hlen := cL_len hL1
  refine xC.of rfl (Nat.le_of_ble_eq_true rfl) ?_
  intro p_ e_ s_ m_ ar_ bl_ me_ c_ ls X hl
  have hl : lz ls 5 [some (.ref r1), some (.int (nI f)), some (.int (nI t)), none, none] := hl
  have hS : va_S (xA (fun _ => False) H0) H0 H0 [] := va_S.rf
  refine x_iload_n X d_R_slice_0 rfl hl rfl ?_
  refine x_iload_n X d_R_slice_1 rfl hl rfl ?_
  refine n_isub X d_R_slice_2 (by omega) ?_
  refine x_newq X e_R_8 (ws := []) (fun k x hk => by simp at hk) ⟨fun i j x y hx => by simp at hx, fun k x hx => by simp at hx⟩ hS hA (by omega) (Nat.le_of_ble_eq_true rfl) (by dsimp only [x_rm]; omega) d_R_slice_3 (fun q H hP hD hS => ?_)
  refine x_astore_n X d_R_slice_6 rfl hl (by decide) rfl (fun ls hl => ?_)
  refine x_iconst (v := nI 0) X d_R_slice_7 rfl ?_
  refine x_istore X d_R_slice_8 hl (by decide) rfl (fun ls hl => ?_)
  have hP : va_P D vwCl [(q, cArr A 3 (t - f) (c_fl (as1.drop f) 0))] H := by rw [c_fl_0]; exact hP
  have hD : va_D (xA (fun _ => False) H0) [(q, cArr A 3 (t - f) (c_fl (as1.drop f) 0))] := by rw [c_fl_0]; exact hD
  have loop : ∀ (g i : Nat) (H : Heap) (locs : List Loc) (ls : Array Slot), t - f - i = g → i ≤ t - f → lz ls 5 [some (.ref r1), some (.int (nI f)), some (.int (nI t)), some (.ref q), some (.int (nI i))] → va_P D vwCl [(q, cArr A 3 (t - f) (c_fl (as1.drop f) i))] H → va_D (xA (fun _ => False) H0) [(q, cArr A 3 (t - f) (c_fl (as1.drop f) i))] → va_S (xA (fun _ => False) H0) H0 H locs → W p_ l e_ (x_rm 0 1 12) s_ m_ ar_ bl_ me_ c_ H locs (0 + 1) (0 + (t - f)) (MQ bl_ (xQ (xA (fun _ => False) H0) (qr (fun q H1 => cNR D A ((as1.drop f).take (t - f)) q H0 H1))) ar_ s_ 1 12 (xA (fun _ => False) H0)) (F0 m_ 10 ls []) := by
    clear hl hP hD hS
    intro g
    induction g with
    | zero =>
      intro i H locs ls hg hi2 hl hP hD hS
      have hie : i = t - f := by omega
      subst hie
      refine x_iload X d_R_slice_10 hl rfl ?_
      refine x_aload_n X d_R_slice_12 rfl hl rfl ?_
      refine x_alenW X hP 0 3 (t - f) rfl rfl d_R_slice_13 ?_
      refine n_icmp_ge X 33 d_R_slice_14 rfl (by omega) (by omega) (fun hc => ?_) (fun hc => absurd hc (by omega))
      refine x_aload_n X d_R_slice_33 rfl hl rfl ?_
      have hq : H0.size ≤ q := by
        rcases hD.2 0 _ rfl with h | h
        · exact h.elim
        · exact h
      exact x_aret X (Or.inr ⟨_, rfl⟩) hS (Nat.le_of_ble_eq_true rfl) (by omega) d_R_slice_34 ⟨_, rfl, hq, c_fl_e (hP 0 _ rfl) (by rw [List.length_take, List.length_drop]; omega) (fun i hi => by rw [List.getElem?_take, if_pos hi])⟩
    | succ g ih =>
      intro i H locs ls hg hi2 hl hP hD hS
      obtain ⟨b, hb, okx, hx⟩ := cL_at ok1 hL1 (i := f + i) (by omega)
      obtain ⟨nu, lo, hi, r', bs, c1, c2, c3, c4, c5⟩ := cI_has okx hx
      have hb2 : (as1.drop f)[i]? = some b := by rw [List.getElem?_drop]; exact hb
      refine x_iload X d_R_slice_10 hl rfl ?_
      refine x_aload_n X d_R_slice_12 rfl hl rfl ?_
      refine x_alenW X hP 0 3 (t - f) rfl rfl d_R_slice_13 ?_
      refine n_icmp_ge X 33 d_R_slice_14 rfl (by omega) (by omega) (fun hc => absurd hc (by omega)) (fun hc => ?_)
      refine x_aload_n X d_R_slice_17 rfl hl rfl ?_
      refine x_iload X d_R_slice_18 hl rfl ?_
      refine x_aload_n X d_R_slice_20 rfl hl rfl ?_
      refine x_iload_n X d_R_slice_21 rfl hl rfl ?_
      refine x_iload X d_R_slice_22 hl rfl ?_
      refine n_iadd X d_R_slice_24 ?_
      refine x_aald X (hr1.tr (cTr.ofS hS hs)) hb (by omega) d_R_slice_25 ?_
      refine x_aast X hP hD hS 0 rfl (c1.tr (cTr.ofS hS hs)).2 (by omega) (by omega) d_R_slice_26 (fun H locs hP hD hS => ?_)
      rw [c_fl_s hb2] at hP hD
      refine n_iinc (d := 1) X d_R_slice_27 rfl hl rfl (by decide) rfl (fun ls hl => ?_)
      refine x_goto X 10 d_R_slice_30 rfl ?_
      exact ih (i + 1) _ _ _ (by omega) (by omega) hl hP hD hS
  exact loop _ 0 _ _ _ rfl (Nat.zero_le _) hl hP hD hS
