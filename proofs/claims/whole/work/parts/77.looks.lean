/-! The class, call by call: those that only look. -/
theorem ft_k4 {kd : Int32} (h : ¬ (kd < 0 ∨ nI 3 < kd)) : ∃ n, n ≤ 3 ∧ kd = nI n := by
  obtain ⟨n, hn, rfl⟩ := nI_of (fun h1 => h (Or.inl h1))
  refine ⟨n, ?_, rfl⟩
  apply Nat.le_of_not_lt
  intro h2
  exact h (Or.inr ((nI_ltI (by decide) hn).2 h2))
set_option maxRecDepth 100000 in
set_option maxHeartbeats 4000000 in
theorem A_F_made (l : Launch) (D : va_G) (A : Nat → ClassId) (H0 : Heap) (S : Nat → Prop) (b0 u ks bv ar : Nat) (rh : Nat → Nat) (q : ft_Q) (hq : sp_ok2 q) (w nn em lt : Nat) (vs : List Nat) (mv : Nat → Nat) (hF : cF D A S b0 u ks bv ar rh q w nn em lt vs mv H0)  : xC l y_F_made c_F_made 1 (some .int) 0 D A H0 [.ref b0] (fun _ => False) (q1 (.int (sp_made q)) (fun H1 => H1 = H0)) 0 0 := by
  obtain ⟨hO, hU, hKs, hV, hMk, hmv, hlt, hvs, hver⟩ := hF
  have hl1 := hq.1.1
  have hl2 := hq.1.2.1
  refine xC.of rfl (Nat.le_of_ble_eq_true rfl) ?_
  intro p_ e_ s_ m_ ar_ bl_ me_ c_ ls X hl
  have hl : lz ls 1 [some (.ref b0)] := hl
  have hS : va_S (fun _ => False) H0 H0 [] := va_S.rf
  refine x_aload_n X d_F_made_0 rfl hl rfl ?_
  refine x_get X gF hO 0 (by decide) e_F_12 rfl d_F_made_1 ?_
  refine x_getN X gU hU.1 2 (by decide) e_F_158 rfl d_F_made_4 ?_
  exact x_iret X hS (Nat.le_refl _) (Nat.le_refl _) d_F_made_7 ⟨rfl, rfl⟩
set_option maxRecDepth 100000 in
set_option maxHeartbeats 4000000 in
theorem A_F_length (l : Launch) (D : va_G) (A : Nat → ClassId) (H0 : Heap) (S : Nat → Prop) (b0 u ks bv ar : Nat) (rh : Nat → Nat) (q : ft_Q) (hq : sp_ok2 q) (w nn em lt : Nat) (vs : List Nat) (mv : Nat → Nat) (hF : cF D A S b0 u ks bv ar rh q w nn em lt vs mv H0) (v : Int32) : xC l y_F_length c_F_length 2 (some .int) 17 D A H0 [.ref b0, .int v] (fun _ => False) (q1 (.int (sp_length q v)) (fun H1 => H1 = H0)) 0 0 := by
  obtain ⟨hO, hU, hKs, hV, hMk, hmv, hlt, hvs, hver⟩ := hF
  have hl1 := hq.1.1
  have hl2 := hq.1.2.1
  rcases sp_at_cases hq v with ⟨hv, hat⟩ | ⟨j, t, rfl, hj, hjt, hat⟩
  · rw [show sp_length q v = -1 from by unfold sp_length; rw [hat]]
    refine xC.of rfl (Nat.le_of_ble_eq_true rfl) ?_
    intro p_ e_ s_ m_ ar_ bl_ me_ c_ ls X hl
    have hl : lz ls 2 [some (.ref b0), some (.int v)] := hl
    have hS : va_S (fun _ => False) H0 H0 [] := va_S.rf
    refine x_aload_n X d_F_length_0 rfl hl rfl ?_
    refine x_iload_n X d_F_length_1 rfl hl rfl ?_
    refine x_goR (x_runV X (C_F_isVersion_f l D A _ b0 u ks bv q.1.length hO hl2 v hv) b_F_isVersion s_F_isVersion v_F_isVersion e_F_37 hO rfl rfl hl rfl (Nat.le_of_ble_eq_true rfl) d_F_length_2 (by dsimp only [x_rm]; omega) (by dsimp only [x_rm]; omega) ⟨(by dsimp only [x_rm]; omega), (by dsimp only [x_rm]; omega)⟩) hS (fun locs hS => ?_)
    refine n_if_eq X 20 d_F_length_5 rfl (by decide) (fun hc_ => ?_) (fun hc => absurd rfl hc)
    refine x_iconst (v := -1) X d_F_length_20 rfl ?_
    exact x_iret X hS (Nat.le_refl _) (Nat.le_refl _) d_F_length_21 ⟨rfl, rfl⟩
  have ht := hq.1.2.2.1 t (List.mem_of_getElem? hjt)
  have hz40 := ht.2
  obtain ⟨ta, hta, hT⟩ := hver j t hjt
  obtain ⟨tl, tr, tmv, trs, tO⟩ := cT_obj hT
  have hz : ft_zT t.1 t.2 < 64 := by omega
  have h5 := ft_len5 ht.1 hz
  rw [show sp_length q (nI j) = nI (ft_zT t.1 t.2) from by unfold sp_length; rw [hat]]
  refine xC.of rfl (Nat.le_of_ble_eq_true rfl) ?_
  intro p_ e_ s_ m_ ar_ bl_ me_ c_ ls X hl
  have hl : lz ls 2 [some (.ref b0), some (.int (nI j))] := hl
  have hS : va_S (fun _ => False) H0 H0 [] := va_S.rf
  refine x_aload_n X d_F_length_0 rfl hl rfl ?_
  refine x_iload_n X d_F_length_1 rfl hl rfl ?_
  refine x_goR (x_runV X (C_F_isVersion_t l D A _ b0 u ks bv q.1.length hO hl2 j hj) b_F_isVersion s_F_isVersion v_F_isVersion e_F_37 hO rfl rfl hl rfl (Nat.le_of_ble_eq_true rfl) d_F_length_2 (by dsimp only [x_rm]; omega) (by dsimp only [x_rm]; omega) ⟨(by dsimp only [x_rm]; omega), (by dsimp only [x_rm]; omega)⟩) hS (fun locs hS => ?_)
  refine n_if_eq X 20 d_F_length_5 rfl (by decide) (fun hc => absurd hc (by decide)) (fun hc_ => ?_)
  refine x_aload_n X d_F_length_8 rfl hl rfl ?_
  refine x_get X gF hO 2 (by decide) e_F_25 rfl d_F_length_9 ?_
  refine x_iload_n X d_F_length_12 rfl hl rfl ?_
  refine x_ver X hV hta (by omega) d_F_length_13 ?_
  refine x_getN X gT tO.2 4 (by decide) e_F_44 rfl d_F_length_14 ?_
  refine x_goto X 21 d_F_length_17 rfl ?_
  exact x_iret X hS (Nat.le_refl _) (Nat.le_refl _) d_F_length_21 ⟨rfl, rfl⟩
set_option maxRecDepth 100000 in
set_option maxHeartbeats 4000000 in
theorem A_F_low (l : Launch) (D : va_G) (A : Nat → ClassId) (H0 : Heap) (S : Nat → Prop) (b0 u ks bv ar : Nat) (rh : Nat → Nat) (q : ft_Q) (hq : sp_ok2 q) (w nn em lt : Nat) (vs : List Nat) (mv : Nat → Nat) (hF : cF D A S b0 u ks bv ar rh q w nn em lt vs mv H0) (v : Int32) (p : Int32) : xC l y_F_low c_F_low 3 (some .int) 17 D A H0 [.ref b0, .int v, .int p] (fun _ => False) (q1 (.int (sp_low q v p)) (fun H1 => H1 = H0)) 0 0 := by
  obtain ⟨hO, hU, hKs, hV, hMk, hmv, hlt, hvs, hver⟩ := hF
  have hl1 := hq.1.1
  have hl2 := hq.1.2.1
  rcases sp_pl_cases hq v p with ⟨ho, he, -⟩ | ⟨j, t, pp, rfl, rfl, hj, hjt, hpp, he, -⟩
  · rw [show sp_low q v p = nI 0 from by unfold sp_low; rw [he]; rfl]
    rcases ho with hv | ⟨j, t, rfl, hj, hjt, hp⟩
    · skip
      refine xC.of rfl (Nat.le_of_ble_eq_true rfl) ?_
      intro p_ e_ s_ m_ ar_ bl_ me_ c_ ls X hl
      have hl : lz ls 3 [some (.ref b0), some (.int v), some (.int p)] := hl
      have hS : va_S (fun _ => False) H0 H0 [] := va_S.rf
      refine x_aload_n X d_F_low_0 rfl hl rfl ?_
      refine x_iload_n X d_F_low_1 rfl hl rfl ?_
      refine x_iload_n X d_F_low_2 rfl hl rfl ?_
      refine x_goR (x_runV X (C_F_isPlace_n l D A _ b0 u ks bv q.1.length hO hl2 v p hv) b_F_isPlace s_F_isPlace v_F_isPlace e_F_95 hO rfl rfl hl rfl (Nat.le_of_ble_eq_true rfl) d_F_low_3 (by dsimp only [x_rm]; omega) (by dsimp only [x_rm]; omega) ⟨(by dsimp only [x_rm]; omega), (by dsimp only [x_rm]; omega)⟩) hS (fun locs hS => ?_)
      refine n_if_eq X 25 d_F_low_6 rfl (by decide) (fun hc_ => ?_) (fun hc => absurd rfl hc)
      refine x_iconst (v := nI 0) X d_F_low_25 rfl ?_
      exact x_iret X hS (Nat.le_refl _) (Nat.le_refl _) d_F_low_26 ⟨rfl, rfl⟩
    · skip
      have ht := hq.1.2.2.1 t (List.mem_of_getElem? hjt)
      have hz40 := ht.2
      obtain ⟨ta, hta, hT⟩ := hver j t hjt
      obtain ⟨tl, tr, tmv, trs, tO⟩ := cT_obj hT
      have hz : ft_zT t.1 t.2 < 64 := by omega
      have h5 := ft_len5 ht.1 hz
      refine xC.of rfl (Nat.le_of_ble_eq_true rfl) ?_
      intro p_ e_ s_ m_ ar_ bl_ me_ c_ ls X hl
      have hl : lz ls 3 [some (.ref b0), some (.int (nI j)), some (.int p)] := hl
      have hS : va_S (fun _ => False) H0 H0 [] := va_S.rf
      refine x_aload_n X d_F_low_0 rfl hl rfl ?_
      refine x_iload_n X d_F_low_1 rfl hl rfl ?_
      refine x_iload_n X d_F_low_2 rfl hl rfl ?_
      refine x_goR (x_runV X (C_F_isPlace_f l D A _ b0 u ks bv q.1.length hO hl2 vs hV hvs j ta (ft_zT t.1 t.2) hj hta tl tr tmv trs tO.2 hz p hp) b_F_isPlace s_F_isPlace v_F_isPlace e_F_95 hO rfl rfl hl rfl (Nat.le_of_ble_eq_true rfl) d_F_low_3 (by dsimp only [x_rm]; omega) (by dsimp only [x_rm]; omega) ⟨(by dsimp only [x_rm]; omega), (by dsimp only [x_rm]; omega)⟩) hS (fun locs hS => ?_)
      refine n_if_eq X 25 d_F_low_6 rfl (by decide) (fun hc_ => ?_) (fun hc => absurd rfl hc)
      refine x_iconst (v := nI 0) X d_F_low_25 rfl ?_
      exact x_iret X hS (Nat.le_refl _) (Nat.le_refl _) d_F_low_26 ⟨rfl, rfl⟩
  have ht := hq.1.2.2.1 t (List.mem_of_getElem? hjt)
  have hz40 := ht.2
  obtain ⟨ta, hta, hT⟩ := hver j t hjt
  obtain ⟨tl, tr, tmv, trs, tO⟩ := cT_obj hT
  have hz : ft_zT t.1 t.2 < 64 := by omega
  have h5 := ft_len5 ht.1 hz
  refine xC.of rfl (Nat.le_of_ble_eq_true rfl) ?_
  intro p_ e_ s_ m_ ar_ bl_ me_ c_ ls X hl
  have hl : lz ls 3 [some (.ref b0), some (.int (nI j)), some (.int (nI pp))] := hl
  have hS : va_S (fun _ => False) H0 H0 [] := va_S.rf
  refine x_aload_n X d_F_low_0 rfl hl rfl ?_
  refine x_iload_n X d_F_low_1 rfl hl rfl ?_
  refine x_iload_n X d_F_low_2 rfl hl rfl ?_
  refine x_goR (x_runV X (C_F_isPlace_t l D A _ b0 u ks bv q.1.length hO hl2 vs hV hvs j ta (ft_zT t.1 t.2) hj hta tl tr tmv trs tO.2 hz pp hpp) b_F_isPlace s_F_isPlace v_F_isPlace e_F_95 hO rfl rfl hl rfl (Nat.le_of_ble_eq_true rfl) d_F_low_3 (by dsimp only [x_rm]; omega) (by dsimp only [x_rm]; omega) ⟨(by dsimp only [x_rm]; omega), (by dsimp only [x_rm]; omega)⟩) hS (fun locs hS => ?_)
  refine n_if_eq X 25 d_F_low_6 rfl (by decide) (fun hc => absurd hc (by decide)) (fun hc_ => ?_)
  refine x_aload_n X d_F_low_9 rfl hl rfl ?_
  refine x_get X gF hO 2 (by decide) e_F_25 rfl d_F_low_10 ?_
  refine x_iload_n X d_F_low_13 rfl hl rfl ?_
  refine x_ver X hV hta (by omega) d_F_low_14 ?_
  refine x_iload_n X d_F_low_15 rfl hl rfl ?_
  refine x_goRr (x_runVN X (C_T_entryAt l D A _ S rh q.2.2 q.2.2.length q.2.1.1 q.2.1.2 0 t.1 t.2 ta ht.1 hT hz pp hpp) b_T_entryAt s_T_entryAt v_T_entryAt e_F_119 tO.2 rfl rfl hl rfl (Nat.le_of_ble_eq_true rfl) d_F_low_16 (by dsimp only [x_rm]; omega) (by dsimp only [x_rm]; omega) ⟨(by dsimp only [x_rm]; omega), (by dsimp only [x_rm]; omega)⟩) hS (fun b locs hE hS => ?_)
  obtain ⟨en, pa, q1, hI⟩ := hE
  obtain ⟨b', r, lo, hi, e1, e2, e3, -⟩ := hI
  cases e1
  have hes : (sp_es q t)[pp]? = some (lo, hi) := ft_es_at q1 e2
  rw [show sp_low q (nI j) (nI pp) = lo from by unfold sp_low; rw [he, hes]; rfl]
  refine x_getN X gI e3.2 1 (by decide) e_F_123 rfl d_F_low_19 ?_
  refine x_goto X 26 d_F_low_22 rfl ?_
  exact x_iret X hS (Nat.le_refl _) (Nat.le_refl _) d_F_low_26 ⟨rfl, rfl⟩
set_option maxRecDepth 100000 in
set_option maxHeartbeats 4000000 in
theorem A_F_high (l : Launch) (D : va_G) (A : Nat → ClassId) (H0 : Heap) (S : Nat → Prop) (b0 u ks bv ar : Nat) (rh : Nat → Nat) (q : ft_Q) (hq : sp_ok2 q) (w nn em lt : Nat) (vs : List Nat) (mv : Nat → Nat) (hF : cF D A S b0 u ks bv ar rh q w nn em lt vs mv H0) (v : Int32) (p : Int32) : xC l y_F_high c_F_high 3 (some .int) 17 D A H0 [.ref b0, .int v, .int p] (fun _ => False) (q1 (.int (sp_high q v p)) (fun H1 => H1 = H0)) 0 0 := by
  obtain ⟨hO, hU, hKs, hV, hMk, hmv, hlt, hvs, hver⟩ := hF
  have hl1 := hq.1.1
  have hl2 := hq.1.2.1
  rcases sp_pl_cases hq v p with ⟨ho, he, -⟩ | ⟨j, t, pp, rfl, rfl, hj, hjt, hpp, he, -⟩
  · rw [show sp_high q v p = nI 0 from by unfold sp_high; rw [he]; rfl]
    rcases ho with hv | ⟨j, t, rfl, hj, hjt, hp⟩
    · skip
      refine xC.of rfl (Nat.le_of_ble_eq_true rfl) ?_
      intro p_ e_ s_ m_ ar_ bl_ me_ c_ ls X hl
      have hl : lz ls 3 [some (.ref b0), some (.int v), some (.int p)] := hl
      have hS : va_S (fun _ => False) H0 H0 [] := va_S.rf
      refine x_aload_n X d_F_high_0 rfl hl rfl ?_
      refine x_iload_n X d_F_high_1 rfl hl rfl ?_
      refine x_iload_n X d_F_high_2 rfl hl rfl ?_
      refine x_goR (x_runV X (C_F_isPlace_n l D A _ b0 u ks bv q.1.length hO hl2 v p hv) b_F_isPlace s_F_isPlace v_F_isPlace e_F_95 hO rfl rfl hl rfl (Nat.le_of_ble_eq_true rfl) d_F_high_3 (by dsimp only [x_rm]; omega) (by dsimp only [x_rm]; omega) ⟨(by dsimp only [x_rm]; omega), (by dsimp only [x_rm]; omega)⟩) hS (fun locs hS => ?_)
      refine n_if_eq X 25 d_F_high_6 rfl (by decide) (fun hc_ => ?_) (fun hc => absurd rfl hc)
      refine x_iconst (v := nI 0) X d_F_high_25 rfl ?_
      exact x_iret X hS (Nat.le_refl _) (Nat.le_refl _) d_F_high_26 ⟨rfl, rfl⟩
    · skip
      have ht := hq.1.2.2.1 t (List.mem_of_getElem? hjt)
      have hz40 := ht.2
      obtain ⟨ta, hta, hT⟩ := hver j t hjt
      obtain ⟨tl, tr, tmv, trs, tO⟩ := cT_obj hT
      have hz : ft_zT t.1 t.2 < 64 := by omega
      have h5 := ft_len5 ht.1 hz
      refine xC.of rfl (Nat.le_of_ble_eq_true rfl) ?_
      intro p_ e_ s_ m_ ar_ bl_ me_ c_ ls X hl
      have hl : lz ls 3 [some (.ref b0), some (.int (nI j)), some (.int p)] := hl
      have hS : va_S (fun _ => False) H0 H0 [] := va_S.rf
      refine x_aload_n X d_F_high_0 rfl hl rfl ?_
      refine x_iload_n X d_F_high_1 rfl hl rfl ?_
      refine x_iload_n X d_F_high_2 rfl hl rfl ?_
      refine x_goR (x_runV X (C_F_isPlace_f l D A _ b0 u ks bv q.1.length hO hl2 vs hV hvs j ta (ft_zT t.1 t.2) hj hta tl tr tmv trs tO.2 hz p hp) b_F_isPlace s_F_isPlace v_F_isPlace e_F_95 hO rfl rfl hl rfl (Nat.le_of_ble_eq_true rfl) d_F_high_3 (by dsimp only [x_rm]; omega) (by dsimp only [x_rm]; omega) ⟨(by dsimp only [x_rm]; omega), (by dsimp only [x_rm]; omega)⟩) hS (fun locs hS => ?_)
      refine n_if_eq X 25 d_F_high_6 rfl (by decide) (fun hc_ => ?_) (fun hc => absurd rfl hc)
      refine x_iconst (v := nI 0) X d_F_high_25 rfl ?_
      exact x_iret X hS (Nat.le_refl _) (Nat.le_refl _) d_F_high_26 ⟨rfl, rfl⟩
  have ht := hq.1.2.2.1 t (List.mem_of_getElem? hjt)
  have hz40 := ht.2
  obtain ⟨ta, hta, hT⟩ := hver j t hjt
  obtain ⟨tl, tr, tmv, trs, tO⟩ := cT_obj hT
  have hz : ft_zT t.1 t.2 < 64 := by omega
  have h5 := ft_len5 ht.1 hz
  refine xC.of rfl (Nat.le_of_ble_eq_true rfl) ?_
  intro p_ e_ s_ m_ ar_ bl_ me_ c_ ls X hl
  have hl : lz ls 3 [some (.ref b0), some (.int (nI j)), some (.int (nI pp))] := hl
  have hS : va_S (fun _ => False) H0 H0 [] := va_S.rf
  refine x_aload_n X d_F_high_0 rfl hl rfl ?_
  refine x_iload_n X d_F_high_1 rfl hl rfl ?_
  refine x_iload_n X d_F_high_2 rfl hl rfl ?_
  refine x_goR (x_runV X (C_F_isPlace_t l D A _ b0 u ks bv q.1.length hO hl2 vs hV hvs j ta (ft_zT t.1 t.2) hj hta tl tr tmv trs tO.2 hz pp hpp) b_F_isPlace s_F_isPlace v_F_isPlace e_F_95 hO rfl rfl hl rfl (Nat.le_of_ble_eq_true rfl) d_F_high_3 (by dsimp only [x_rm]; omega) (by dsimp only [x_rm]; omega) ⟨(by dsimp only [x_rm]; omega), (by dsimp only [x_rm]; omega)⟩) hS (fun locs hS => ?_)
  refine n_if_eq X 25 d_F_high_6 rfl (by decide) (fun hc => absurd hc (by decide)) (fun hc_ => ?_)
  refine x_aload_n X d_F_high_9 rfl hl rfl ?_
  refine x_get X gF hO 2 (by decide) e_F_25 rfl d_F_high_10 ?_
  refine x_iload_n X d_F_high_13 rfl hl rfl ?_
  refine x_ver X hV hta (by omega) d_F_high_14 ?_
  refine x_iload_n X d_F_high_15 rfl hl rfl ?_
  refine x_goRr (x_runVN X (C_T_entryAt l D A _ S rh q.2.2 q.2.2.length q.2.1.1 q.2.1.2 0 t.1 t.2 ta ht.1 hT hz pp hpp) b_T_entryAt s_T_entryAt v_T_entryAt e_F_119 tO.2 rfl rfl hl rfl (Nat.le_of_ble_eq_true rfl) d_F_high_16 (by dsimp only [x_rm]; omega) (by dsimp only [x_rm]; omega) ⟨(by dsimp only [x_rm]; omega), (by dsimp only [x_rm]; omega)⟩) hS (fun b locs hE hS => ?_)
  obtain ⟨en, pa, q1, hI⟩ := hE
  obtain ⟨b', r, lo, hi, e1, e2, e3, -⟩ := hI
  cases e1
  have hes : (sp_es q t)[pp]? = some (lo, hi) := ft_es_at q1 e2
  rw [show sp_high q (nI j) (nI pp) = hi from by unfold sp_high; rw [he, hes]; rfl]
  refine x_getN X gI e3.2 2 (by decide) e_F_126 rfl d_F_high_19 ?_
  refine x_goto X 26 d_F_high_22 rfl ?_
  exact x_iret X hS (Nat.le_refl _) (Nat.le_refl _) d_F_high_26 ⟨rfl, rfl⟩
theorem ft_lR_at {ne mm : Nat} {zf : Nat → Nat} {k : Nat} {l : List ft_I} (h : ft_okR ne mm zf k l) {p : Nat} {x : Nat × List Nat} (hx : (ft_lR l)[p]? = some x) : x.2.length = k := by
  obtain ⟨y, h3, h4⟩ := ft_lR_mem.1 (List.mem_of_getElem? hx)
  exact (ft_ok_leaf (h y h3) x h4).2.1
/-- the level of a place is the number of nodes that hold its entry -/
theorem ft_lo_at {ne mm : Nat} {zf : Nat → Nat} {o : Option ft_I} : ∀ {sp : ft_S} {k p : Nat} {x : Nat × List Nat}, ft_okT ne mm zf k sp o → (ft_lT sp o)[p]? = some x → x.2.length = k + ft_lo sp o p := by
  intro sp
  induction sp with
  | nil =>
    intro k p x h hx
    cases o with
    | none => simp [ft_lT] at hx
    | some y => exact (ft_ok_leaf h x (List.mem_of_getElem? hx)).2.1
  | cons d sp ih =>
    intro k p x h hx
    have hx : (ft_lR d.1 ++ ft_lT sp o ++ ft_lR d.2)[p]? = some x := hx
    have e1 := ft_lR_len d.1
    have e2 := ft_lT_len sp o
    show x.2.length = k + if ft_zR d.1 ≤ p ∧ p < ft_zR d.1 + ft_zT sp o then 1 + ft_lo sp o (p - ft_zR d.1) else 0
    by_cases h1 : p < ft_zR d.1
    · rw [if_neg (by omega), List.append_assoc, List.getElem?_append_left (by omega)] at *
      exact ft_lR_at h.1.2.2 hx
    · by_cases h2 : p < ft_zR d.1 + ft_zT sp o
      · rw [if_pos ⟨by omega, h2⟩]
        rw [List.append_assoc, List.getElem?_append_right (by omega), List.getElem?_append_left (by omega), e1] at hx
        rw [ih h.2.2 hx]
        omega
      · rw [if_neg (by omega)]
        rw [List.getElem?_append_right (by rw [List.length_append]; omega)] at hx
        exact ft_lR_at h.2.1.2.2 hx
set_option maxRecDepth 100000 in
set_option maxHeartbeats 4000000 in
theorem A_F_rank (l : Launch) (D : va_G) (A : Nat → ClassId) (H0 : Heap) (S : Nat → Prop) (b0 u ks bv ar : Nat) (rh : Nat → Nat) (q : ft_Q) (hq : sp_ok2 q) (w nn em lt : Nat) (vs : List Nat) (mv : Nat → Nat) (hF : cF D A S b0 u ks bv ar rh q w nn em lt vs mv H0) (v : Int32) (p : Int32) : xC l y_F_rank c_F_rank 3 (some .int) 17 D A H0 [.ref b0, .int v, .int p] (fun _ => False) (q1 (.int (sp_rank q v p)) (fun H1 => H1 = H0)) 0 0 := by
  obtain ⟨hO, hU, hKs, hV, hMk, hmv, hlt, hvs, hver⟩ := hF
  have hl1 := hq.1.1
  have hl2 := hq.1.2.1
  rcases sp_pl_cases hq v p with ⟨ho, -, he⟩ | ⟨j, t, pp, rfl, rfl, hj, hjt, hpp, -, he⟩
  · rw [show sp_rank q v p = -1 from by exact he]
    rcases ho with hv | ⟨j, t, rfl, hj, hjt, hp⟩
    · skip
      refine xC.of rfl (Nat.le_of_ble_eq_true rfl) ?_
      intro p_ e_ s_ m_ ar_ bl_ me_ c_ ls X hl
      have hl : lz ls 3 [some (.ref b0), some (.int v), some (.int p)] := hl
      have hS : va_S (fun _ => False) H0 H0 [] := va_S.rf
      refine x_aload_n X d_F_rank_0 rfl hl rfl ?_
      refine x_iload_n X d_F_rank_1 rfl hl rfl ?_
      refine x_iload_n X d_F_rank_2 rfl hl rfl ?_
      refine x_goR (x_runV X (C_F_isPlace_n l D A _ b0 u ks bv q.1.length hO hl2 v p hv) b_F_isPlace s_F_isPlace v_F_isPlace e_F_95 hO rfl rfl hl rfl (Nat.le_of_ble_eq_true rfl) d_F_rank_3 (by dsimp only [x_rm]; omega) (by dsimp only [x_rm]; omega) ⟨(by dsimp only [x_rm]; omega), (by dsimp only [x_rm]; omega)⟩) hS (fun locs hS => ?_)
      refine n_if_eq X 22 d_F_rank_6 rfl (by decide) (fun hc_ => ?_) (fun hc => absurd rfl hc)
      refine x_iconst (v := -1) X d_F_rank_22 rfl ?_
      exact x_iret X hS (Nat.le_refl _) (Nat.le_refl _) d_F_rank_23 ⟨rfl, rfl⟩
    · skip
      have ht := hq.1.2.2.1 t (List.mem_of_getElem? hjt)
      have hz40 := ht.2
      obtain ⟨ta, hta, hT⟩ := hver j t hjt
      obtain ⟨tl, tr, tmv, trs, tO⟩ := cT_obj hT
      have hz : ft_zT t.1 t.2 < 64 := by omega
      have h5 := ft_len5 ht.1 hz
      refine xC.of rfl (Nat.le_of_ble_eq_true rfl) ?_
      intro p_ e_ s_ m_ ar_ bl_ me_ c_ ls X hl
      have hl : lz ls 3 [some (.ref b0), some (.int (nI j)), some (.int p)] := hl
      have hS : va_S (fun _ => False) H0 H0 [] := va_S.rf
      refine x_aload_n X d_F_rank_0 rfl hl rfl ?_
      refine x_iload_n X d_F_rank_1 rfl hl rfl ?_
      refine x_iload_n X d_F_rank_2 rfl hl rfl ?_
      refine x_goR (x_runV X (C_F_isPlace_f l D A _ b0 u ks bv q.1.length hO hl2 vs hV hvs j ta (ft_zT t.1 t.2) hj hta tl tr tmv trs tO.2 hz p hp) b_F_isPlace s_F_isPlace v_F_isPlace e_F_95 hO rfl rfl hl rfl (Nat.le_of_ble_eq_true rfl) d_F_rank_3 (by dsimp only [x_rm]; omega) (by dsimp only [x_rm]; omega) ⟨(by dsimp only [x_rm]; omega), (by dsimp only [x_rm]; omega)⟩) hS (fun locs hS => ?_)
      refine n_if_eq X 22 d_F_rank_6 rfl (by decide) (fun hc_ => ?_) (fun hc => absurd rfl hc)
      refine x_iconst (v := -1) X d_F_rank_22 rfl ?_
      exact x_iret X hS (Nat.le_refl _) (Nat.le_refl _) d_F_rank_23 ⟨rfl, rfl⟩
  have ht := hq.1.2.2.1 t (List.mem_of_getElem? hjt)
  have hz40 := ht.2
  obtain ⟨ta, hta, hT⟩ := hver j t hjt
  obtain ⟨tl, tr, tmv, trs, tO⟩ := cT_obj hT
  have hz : ft_zT t.1 t.2 < 64 := by omega
  have h5 := ft_len5 ht.1 hz
  obtain ⟨lf, hlf⟩ : ∃ x, (ft_lT t.1 t.2)[pp]? = some x := ⟨_, List.getElem?_eq_getElem (by rw [ft_lT_len]; exact hpp)⟩
  have hlo := ft_lo_at ht.1 hlf
  rw [Nat.zero_add] at hlo
  rw [show sp_rank q (nI j) (nI pp) = nI (ft_lo t.1 t.2 pp) from by rw [he, hlf]; dsimp only; rw [hlo]]
  refine xC.of rfl (Nat.le_of_ble_eq_true rfl) ?_
  intro p_ e_ s_ m_ ar_ bl_ me_ c_ ls X hl
  have hl : lz ls 3 [some (.ref b0), some (.int (nI j)), some (.int (nI pp))] := hl
  have hS : va_S (fun _ => False) H0 H0 [] := va_S.rf
  refine x_aload_n X d_F_rank_0 rfl hl rfl ?_
  refine x_iload_n X d_F_rank_1 rfl hl rfl ?_
  refine x_iload_n X d_F_rank_2 rfl hl rfl ?_
  refine x_goR (x_runV X (C_F_isPlace_t l D A _ b0 u ks bv q.1.length hO hl2 vs hV hvs j ta (ft_zT t.1 t.2) hj hta tl tr tmv trs tO.2 hz pp hpp) b_F_isPlace s_F_isPlace v_F_isPlace e_F_95 hO rfl rfl hl rfl (Nat.le_of_ble_eq_true rfl) d_F_rank_3 (by dsimp only [x_rm]; omega) (by dsimp only [x_rm]; omega) ⟨(by dsimp only [x_rm]; omega), (by dsimp only [x_rm]; omega)⟩) hS (fun locs hS => ?_)
  refine n_if_eq X 22 d_F_rank_6 rfl (by decide) (fun hc => absurd hc (by decide)) (fun hc_ => ?_)
  refine x_aload_n X d_F_rank_9 rfl hl rfl ?_
  refine x_get X gF hO 2 (by decide) e_F_25 rfl d_F_rank_10 ?_
  refine x_iload_n X d_F_rank_13 rfl hl rfl ?_
  refine x_ver X hV hta (by omega) d_F_rank_14 ?_
  refine x_iload_n X d_F_rank_15 rfl hl rfl ?_
  refine x_goR (x_runVN X (C_T_levelOf l D A _ S rh q.2.2 q.2.2.length q.2.1.1 q.2.1.2 0 t.1 t.2 ta ht.1 hT hz pp (by omega)) b_T_levelOf s_T_levelOf v_T_levelOf e_F_150 tO.2 rfl rfl hl rfl (Nat.le_of_ble_eq_true rfl) d_F_rank_16 (by dsimp only [x_rm]; omega) (by dsimp only [x_rm]; omega) ⟨(by dsimp only [x_rm]; omega), (by dsimp only [x_rm]; omega)⟩) hS (fun locs hS => ?_)
  refine x_goto X 23 d_F_rank_19 rfl ?_
  exact x_iret X hS (Nat.le_refl _) (Nat.le_refl _) d_F_rank_23 ⟨rfl, rfl⟩
set_option maxRecDepth 100000 in
set_option maxHeartbeats 4000000 in
theorem A_F_measure (l : Launch) (D : va_G) (A : Nat → ClassId) (H0 : Heap) (S : Nat → Prop) (b0 u ks bv ar : Nat) (rh : Nat → Nat) (q : ft_Q) (hq : sp_ok2 q) (w nn em lt : Nat) (vs : List Nat) (mv : Nat → Nat) (hF : cF D A S b0 u ks bv ar rh q w nn em lt vs mv H0) (v : Int32) (kd : Int32) : xC l y_F_measure c_F_measure 3 (some .long) 17 D A H0 [.ref b0, .int v, .int kd] (fun _ => False) (q1 (.long (sp_measure q v kd)) (fun H1 => H1 = H0)) 0 0 := by
  obtain ⟨hO, hU, hKs, hV, hMk, hmv, hlt, hvs, hver⟩ := hF
  have hl1 := hq.1.1
  have hl2 := hq.1.2.1
  rcases sp_at_cases hq v with ⟨hv, hat⟩ | ⟨j, t, rfl, hj, hjt, hat⟩
  · rw [show sp_measure q v kd = lN 0 from by unfold sp_measure; rw [hat]; rfl]
    refine xC.of rfl (Nat.le_of_ble_eq_true rfl) ?_
    intro p_ e_ s_ m_ ar_ bl_ me_ c_ ls X hl
    have hl : lz ls 3 [some (.ref b0), some (.int v), some (.int kd)] := hl
    have hS : va_S (fun _ => False) H0 H0 [] := va_S.rf
    refine x_aload_n X d_F_measure_0 rfl hl rfl ?_
    refine x_iload_n X d_F_measure_1 rfl hl rfl ?_
    refine x_goR (x_runV X (C_F_isVersion_f l D A _ b0 u ks bv q.1.length hO hl2 v hv) b_F_isVersion s_F_isVersion v_F_isVersion e_F_37 hO rfl rfl hl rfl (Nat.le_of_ble_eq_true rfl) d_F_measure_2 (by dsimp only [x_rm]; omega) (by dsimp only [x_rm]; omega) ⟨(by dsimp only [x_rm]; omega), (by dsimp only [x_rm]; omega)⟩) hS (fun locs hS => ?_)
    refine n_if_eq X 27 d_F_measure_5 rfl (by decide) (fun hc_ => ?_) (fun hc => absurd rfl hc)
    refine x_lconst (v := lN 0) X d_F_measure_27 rfl ?_
    exact x_lret X hS (Nat.le_refl _) (Nat.le_refl _) d_F_measure_28 ⟨rfl, rfl⟩
  have ht := hq.1.2.2.1 t (List.mem_of_getElem? hjt)
  have hz40 := ht.2
  obtain ⟨ta, hta, hT⟩ := hver j t hjt
  obtain ⟨tl, tr, tmv, trs, tO⟩ := cT_obj hT
  have hz : ft_zT t.1 t.2 < 64 := by omega
  have h5 := ft_len5 ht.1 hz
  have hms0 : sp_measure q (nI j) kd = if ft_zT t.1 t.2 = 0 ∨ kd < 0 ∨ 3 < kd then 0 else sp_tot kd (sp_es q t) := by unfold sp_measure; rw [hat]
  have hms : sp_measure q (nI j) kd = if ft_zT t.1 t.2 = 0 ∨ kd < 0 ∨ nI 3 < kd then 0 else sp_tot kd (sp_es q t) := hms0
  by_cases hz0 : ft_zT t.1 t.2 = 0
  · rw [hms, if_pos (Or.inl hz0), show (0 : Int64) = lN 0 from rfl]
    refine xC.of rfl (Nat.le_of_ble_eq_true rfl) ?_
    intro p_ e_ s_ m_ ar_ bl_ me_ c_ ls X hl
    have hl : lz ls 3 [some (.ref b0), some (.int (nI j)), some (.int kd)] := hl
    have hS : va_S (fun _ => False) H0 H0 [] := va_S.rf
    refine x_aload_n X d_F_measure_0 rfl hl rfl ?_
    refine x_iload_n X d_F_measure_1 rfl hl rfl ?_
    refine x_goR (x_runV X (C_F_isVersion_t l D A _ b0 u ks bv q.1.length hO hl2 j hj) b_F_isVersion s_F_isVersion v_F_isVersion e_F_37 hO rfl rfl hl rfl (Nat.le_of_ble_eq_true rfl) d_F_measure_2 (by dsimp only [x_rm]; omega) (by dsimp only [x_rm]; omega) ⟨(by dsimp only [x_rm]; omega), (by dsimp only [x_rm]; omega)⟩) hS (fun locs hS => ?_)
    refine n_if_eq X 27 d_F_measure_5 rfl (by decide) (fun hc => absurd hc (by decide)) (fun hc_ => ?_)
    refine x_aload_n X d_F_measure_8 rfl hl rfl ?_
    refine x_get X gF hO 2 (by decide) e_F_25 rfl d_F_measure_9 ?_
    refine x_iload_n X d_F_measure_12 rfl hl rfl ?_
    refine x_ver X hV hta (by omega) d_F_measure_13 ?_
    refine x_goR (x_runVN X (C_T_isEmpty l D A _ S rh q.2.2 q.2.2.length q.2.1.1 q.2.1.2 0 t.1 t.2 ta ht.1 hT hz) b_T_isEmpty s_T_isEmpty v_T_isEmpty e_F_64 tO.2 rfl rfl hl rfl (Nat.le_of_ble_eq_true rfl) d_F_measure_14 (by dsimp only [x_rm]; omega) (by dsimp only [x_rm]; omega) ⟨(by dsimp only [x_rm]; omega), (by dsimp only [x_rm]; omega)⟩) hS (fun locs hS => ?_)
    rw [show (if ft_em t.1 t.2 then 1 else 0) = 1 from by rw [(ft_em_z ht.1).2 hz0]; rfl]
    refine n_if_ne X 27 d_F_measure_17 rfl (by decide) (fun hc_ => ?_) (fun hc => absurd hc (by decide))
    refine x_lconst (v := lN 0) X d_F_measure_27 rfl ?_
    exact x_lret X hS (Nat.le_refl _) (Nat.le_refl _) d_F_measure_28 ⟨rfl, rfl⟩
  have hne := ft_zem ht.1 hz0
  by_cases hk : kd < 0 ∨ nI 3 < kd
  · rw [hms, if_pos (Or.inr hk), show (0 : Int64) = lN 0 from rfl]
    refine xC.of rfl (Nat.le_of_ble_eq_true rfl) ?_
    intro p_ e_ s_ m_ ar_ bl_ me_ c_ ls X hl
    have hl : lz ls 3 [some (.ref b0), some (.int (nI j)), some (.int kd)] := hl
    have hS : va_S (fun _ => False) H0 H0 [] := va_S.rf
    refine x_aload_n X d_F_measure_0 rfl hl rfl ?_
    refine x_iload_n X d_F_measure_1 rfl hl rfl ?_
    refine x_goR (x_runV X (C_F_isVersion_t l D A _ b0 u ks bv q.1.length hO hl2 j hj) b_F_isVersion s_F_isVersion v_F_isVersion e_F_37 hO rfl rfl hl rfl (Nat.le_of_ble_eq_true rfl) d_F_measure_2 (by dsimp only [x_rm]; omega) (by dsimp only [x_rm]; omega) ⟨(by dsimp only [x_rm]; omega), (by dsimp only [x_rm]; omega)⟩) hS (fun locs hS => ?_)
    refine n_if_eq X 27 d_F_measure_5 rfl (by decide) (fun hc => absurd hc (by decide)) (fun hc_ => ?_)
    refine x_aload_n X d_F_measure_8 rfl hl rfl ?_
    refine x_get X gF hO 2 (by decide) e_F_25 rfl d_F_measure_9 ?_
    refine x_iload_n X d_F_measure_12 rfl hl rfl ?_
    refine x_ver X hV hta (by omega) d_F_measure_13 ?_
    refine x_goR (x_runVN X (C_T_isEmpty l D A _ S rh q.2.2 q.2.2.length q.2.1.1 q.2.1.2 0 t.1 t.2 ta ht.1 hT hz) b_T_isEmpty s_T_isEmpty v_T_isEmpty e_F_64 tO.2 rfl rfl hl rfl (Nat.le_of_ble_eq_true rfl) d_F_measure_14 (by dsimp only [x_rm]; omega) (by dsimp only [x_rm]; omega) ⟨(by dsimp only [x_rm]; omega), (by dsimp only [x_rm]; omega)⟩) hS (fun locs hS => ?_)
    rw [show (if ft_em t.1 t.2 then 1 else 0) = 0 from by rw [hne]; rfl]
    refine n_if_ne X 27 d_F_measure_17 rfl (by decide) (fun hc => absurd rfl hc) (fun hc_ => ?_)
    refine x_iload_n X d_F_measure_20 rfl hl rfl ?_
    refine x_goR (x_runS X (C_F_isKind_f l D A _ kd hk) b_F_isKind s_F_isKind e_F_129 rfl hl rfl (Nat.le_of_ble_eq_true rfl) d_F_measure_21 (by dsimp only [x_rm]; omega) (by dsimp only [x_rm]; omega) ⟨(by dsimp only [x_rm]; omega), (by dsimp only [x_rm]; omega)⟩) hS (fun locs hS => ?_)
    refine n_if_ne X 29 d_F_measure_24 rfl (by decide) (fun hc => absurd rfl hc) (fun hc_ => ?_)
    refine x_lconst (v := lN 0) X d_F_measure_27 rfl ?_
    exact x_lret X hS (Nat.le_refl _) (Nat.le_refl _) d_F_measure_28 ⟨rfl, rfl⟩
  obtain ⟨n, hn, rfl⟩ := ft_k4 hk
  rw [hms, if_neg (fun h => h.elim hz0 hk)]
  refine xC.of rfl (Nat.le_of_ble_eq_true rfl) ?_
  intro p_ e_ s_ m_ ar_ bl_ me_ c_ ls X hl
  have hl : lz ls 3 [some (.ref b0), some (.int (nI j)), some (.int (nI n))] := hl
  have hS : va_S (fun _ => False) H0 H0 [] := va_S.rf
  refine x_aload_n X d_F_measure_0 rfl hl rfl ?_
  refine x_iload_n X d_F_measure_1 rfl hl rfl ?_
  refine x_goR (x_runV X (C_F_isVersion_t l D A _ b0 u ks bv q.1.length hO hl2 j hj) b_F_isVersion s_F_isVersion v_F_isVersion e_F_37 hO rfl rfl hl rfl (Nat.le_of_ble_eq_true rfl) d_F_measure_2 (by dsimp only [x_rm]; omega) (by dsimp only [x_rm]; omega) ⟨(by dsimp only [x_rm]; omega), (by dsimp only [x_rm]; omega)⟩) hS (fun locs hS => ?_)
  refine n_if_eq X 27 d_F_measure_5 rfl (by decide) (fun hc => absurd hc (by decide)) (fun hc_ => ?_)
  refine x_aload_n X d_F_measure_8 rfl hl rfl ?_
  refine x_get X gF hO 2 (by decide) e_F_25 rfl d_F_measure_9 ?_
  refine x_iload_n X d_F_measure_12 rfl hl rfl ?_
  refine x_ver X hV hta (by omega) d_F_measure_13 ?_
  refine x_goR (x_runVN X (C_T_isEmpty l D A _ S rh q.2.2 q.2.2.length q.2.1.1 q.2.1.2 0 t.1 t.2 ta ht.1 hT hz) b_T_isEmpty s_T_isEmpty v_T_isEmpty e_F_64 tO.2 rfl rfl hl rfl (Nat.le_of_ble_eq_true rfl) d_F_measure_14 (by dsimp only [x_rm]; omega) (by dsimp only [x_rm]; omega) ⟨(by dsimp only [x_rm]; omega), (by dsimp only [x_rm]; omega)⟩) hS (fun locs hS => ?_)
  rw [show (if ft_em t.1 t.2 then 1 else 0) = 0 from by rw [hne]; rfl]
  refine n_if_ne X 27 d_F_measure_17 rfl (by decide) (fun hc => absurd rfl hc) (fun hc_ => ?_)
  refine x_iload_n X d_F_measure_20 rfl hl rfl ?_
  refine x_goR (x_runS X (C_F_isKind_t l D A _ (nI n) (fun h => hk (Or.inl h)) (fun h => hk (Or.inr h))) b_F_isKind s_F_isKind e_F_129 rfl hl rfl (Nat.le_of_ble_eq_true rfl) d_F_measure_21 (by dsimp only [x_rm]; omega) (by dsimp only [x_rm]; omega) ⟨(by dsimp only [x_rm]; omega), (by dsimp only [x_rm]; omega)⟩) hS (fun locs hS => ?_)
  refine n_if_ne X 29 d_F_measure_24 rfl (by decide) (fun hc_ => ?_) (fun hc => absurd hc (by decide))
  refine x_aload_n X d_F_measure_29 rfl hl rfl ?_
  refine x_get X gF hO 2 (by decide) e_F_25 rfl d_F_measure_30 ?_
  refine x_iload_n X d_F_measure_33 rfl hl rfl ?_
  refine x_ver X hV hta (by omega) d_F_measure_34 ?_
  refine x_iload_n X d_F_measure_35 rfl hl rfl ?_
  refine x_goR (x_runS X (C_F_total l D A _ S rh q.2.2 q.2.2.length q.2.1.1 q.2.1.2 t.1 t.2 ta ht.1 hT hz n hn) b_F_total s_F_total e_F_107 rfl hl rfl (Nat.le_of_ble_eq_true rfl) d_F_measure_36 (by dsimp only [x_rm]; omega) (by dsimp only [x_rm]; omega) ⟨(by dsimp only [x_rm]; omega), (by dsimp only [x_rm]; omega)⟩) hS (fun locs hS => ?_)
  exact x_lret X hS (Nat.le_refl _) (Nat.le_refl _) d_F_measure_39 ⟨rfl, rfl⟩
set_option maxRecDepth 100000 in
set_option maxHeartbeats 4000000 in
theorem A_F_search (l : Launch) (D : va_G) (A : Nat → ClassId) (H0 : Heap) (S : Nat → Prop) (b0 u ks bv ar : Nat) (rh : Nat → Nat) (q : ft_Q) (hq : sp_ok2 q) (w nn em lt : Nat) (vs : List Nat) (mv : Nat → Nat) (hF : cF D A S b0 u ks bv ar rh q w nn em lt vs mv H0) (v : Int32) (kd : Int32) (lim : Int64) : xC l y_F_search c_F_search 5 (some .int) 17 D A H0 [.ref b0, .int v, .int kd, .long lim] (fun _ => False) (q1 (.int (sp_search q v kd lim)) (fun H1 => H1 = H0)) 0 0 := by
  obtain ⟨hO, hU, hKs, hV, hMk, hmv, hlt, hvs, hver⟩ := hF
  have hl1 := hq.1.1
  have hl2 := hq.1.2.1
  rcases sp_at_cases hq v with ⟨hv, hat⟩ | ⟨j, t, rfl, hj, hjt, hat⟩
  · rw [show sp_search q v kd lim = -1 from by unfold sp_search; rw [hat]]
    refine xC.of rfl (Nat.le_of_ble_eq_true rfl) ?_
    intro p_ e_ s_ m_ ar_ bl_ me_ c_ ls X hl
    have hl : lz ls 5 [some (.ref b0), some (.int v), some (.int kd), some (.long lim), none] := hl
    have hS : va_S (fun _ => False) H0 H0 [] := va_S.rf
    refine x_aload_n X d_F_search_0 rfl hl rfl ?_
    refine x_iload_n X d_F_search_1 rfl hl rfl ?_
    refine x_goR (x_runV X (C_F_isVersion_f l D A _ b0 u ks bv q.1.length hO hl2 v hv) b_F_isVersion s_F_isVersion v_F_isVersion e_F_37 hO rfl rfl hl rfl (Nat.le_of_ble_eq_true rfl) d_F_search_2 (by dsimp only [x_rm]; omega) (by dsimp only [x_rm]; omega) ⟨(by dsimp only [x_rm]; omega), (by dsimp only [x_rm]; omega)⟩) hS (fun locs hS => ?_)
    refine n_if_eq X 15 d_F_search_5 rfl (by decide) (fun hc_ => ?_) (fun hc => absurd rfl hc)
    refine x_iconst (v := -1) X d_F_search_15 rfl ?_
    exact x_iret X hS (Nat.le_refl _) (Nat.le_refl _) d_F_search_16 ⟨rfl, rfl⟩
  have ht := hq.1.2.2.1 t (List.mem_of_getElem? hjt)
  have hz40 := ht.2
  obtain ⟨ta, hta, hT⟩ := hver j t hjt
  obtain ⟨tl, tr, tmv, trs, tO⟩ := cT_obj hT
  have hz : ft_zT t.1 t.2 < 64 := by omega
  have h5 := ft_len5 ht.1 hz
  have hms0 : sp_search q (nI j) kd lim = if kd < 0 ∨ 3 < kd then -1 else nI (sp_find (fun j => decide (lim < sp_tot kd ((sp_es q t).take (j + 1))) || (decide (sp_tot kd ((sp_es q t).take (j + 1)) = lim) && (decide (kd = 1) || decide (kd = 2)))) (ft_zT t.1 t.2) 0) := by unfold sp_search; rw [hat]
  have hms : sp_search q (nI j) kd lim = if kd < 0 ∨ nI 3 < kd then -1 else nI (sp_find (fun j => decide (lim < sp_tot kd ((sp_es q t).take (j + 1))) || (decide (sp_tot kd ((sp_es q t).take (j + 1)) = lim) && (decide (kd = 1) || decide (kd = 2)))) (ft_zT t.1 t.2) 0) := hms0
  by_cases hk : kd < 0 ∨ nI 3 < kd
  · rw [hms, if_pos hk]
    refine xC.of rfl (Nat.le_of_ble_eq_true rfl) ?_
    intro p_ e_ s_ m_ ar_ bl_ me_ c_ ls X hl
    have hl : lz ls 5 [some (.ref b0), some (.int (nI j)), some (.int kd), some (.long lim), none] := hl
    have hS : va_S (fun _ => False) H0 H0 [] := va_S.rf
    refine x_aload_n X d_F_search_0 rfl hl rfl ?_
    refine x_iload_n X d_F_search_1 rfl hl rfl ?_
    refine x_goR (x_runV X (C_F_isVersion_t l D A _ b0 u ks bv q.1.length hO hl2 j hj) b_F_isVersion s_F_isVersion v_F_isVersion e_F_37 hO rfl rfl hl rfl (Nat.le_of_ble_eq_true rfl) d_F_search_2 (by dsimp only [x_rm]; omega) (by dsimp only [x_rm]; omega) ⟨(by dsimp only [x_rm]; omega), (by dsimp only [x_rm]; omega)⟩) hS (fun locs hS => ?_)
    refine n_if_eq X 15 d_F_search_5 rfl (by decide) (fun hc => absurd hc (by decide)) (fun hc_ => ?_)
    refine x_iload_n X d_F_search_8 rfl hl rfl ?_
    refine x_goR (x_runS X (C_F_isKind_f l D A _ kd hk) b_F_isKind s_F_isKind e_F_129 rfl hl rfl (Nat.le_of_ble_eq_true rfl) d_F_search_9 (by dsimp only [x_rm]; omega) (by dsimp only [x_rm]; omega) ⟨(by dsimp only [x_rm]; omega), (by dsimp only [x_rm]; omega)⟩) hS (fun locs hS => ?_)
    refine n_if_ne X 17 d_F_search_12 rfl (by decide) (fun hc => absurd rfl hc) (fun hc_ => ?_)
    refine x_iconst (v := -1) X d_F_search_15 rfl ?_
    exact x_iret X hS (Nat.le_refl _) (Nat.le_refl _) d_F_search_16 ⟨rfl, rfl⟩
  obtain ⟨n, hn, rfl⟩ := ft_k4 hk
  rw [hms, if_neg hk]
  refine xC.of rfl (Nat.le_of_ble_eq_true rfl) ?_
  intro p_ e_ s_ m_ ar_ bl_ me_ c_ ls X hl
  have hl : lz ls 5 [some (.ref b0), some (.int (nI j)), some (.int (nI n)), some (.long lim), none] := hl
  have hS : va_S (fun _ => False) H0 H0 [] := va_S.rf
  refine x_aload_n X d_F_search_0 rfl hl rfl ?_
  refine x_iload_n X d_F_search_1 rfl hl rfl ?_
  refine x_goR (x_runV X (C_F_isVersion_t l D A _ b0 u ks bv q.1.length hO hl2 j hj) b_F_isVersion s_F_isVersion v_F_isVersion e_F_37 hO rfl rfl hl rfl (Nat.le_of_ble_eq_true rfl) d_F_search_2 (by dsimp only [x_rm]; omega) (by dsimp only [x_rm]; omega) ⟨(by dsimp only [x_rm]; omega), (by dsimp only [x_rm]; omega)⟩) hS (fun locs hS => ?_)
  refine n_if_eq X 15 d_F_search_5 rfl (by decide) (fun hc => absurd hc (by decide)) (fun hc_ => ?_)
  refine x_iload_n X d_F_search_8 rfl hl rfl ?_
  refine x_goR (x_runS X (C_F_isKind_t l D A _ (nI n) (fun h => hk (Or.inl h)) (fun h => hk (Or.inr h))) b_F_isKind s_F_isKind e_F_129 rfl hl rfl (Nat.le_of_ble_eq_true rfl) d_F_search_9 (by dsimp only [x_rm]; omega) (by dsimp only [x_rm]; omega) ⟨(by dsimp only [x_rm]; omega), (by dsimp only [x_rm]; omega)⟩) hS (fun locs hS => ?_)
  refine n_if_ne X 17 d_F_search_12 rfl (by decide) (fun hc_ => ?_) (fun hc => absurd hc (by decide))
  refine x_aload_n X d_F_search_17 rfl hl rfl ?_
  refine x_get X gF hO 2 (by decide) e_F_25 rfl d_F_search_18 ?_
  refine x_iload_n X d_F_search_21 rfl hl rfl ?_
  refine x_ver X hV hta (by omega) d_F_search_22 ?_
  refine x_iload_n X d_F_search_23 rfl hl rfl ?_
  refine x_lload_n X d_F_search_24 rfl hl rfl ?_
  refine x_goR (x_runS X (C_F_firstPlace l D A _ S rh q.2.2 q.2.2.length q.2.1.1 q.2.1.2 t.1 t.2 ta ht.1 hT hz n hn lim) b_F_firstPlace s_F_firstPlace e_F_103 rfl hl rfl (Nat.le_of_ble_eq_true rfl) d_F_search_25 (by dsimp only [x_rm]; omega) (by dsimp only [x_rm]; omega) ⟨(by dsimp only [x_rm]; omega), (by dsimp only [x_rm]; omega)⟩) hS (fun locs hS => ?_)
  exact x_iret X hS (Nat.le_refl _) (Nat.le_refl _) d_F_search_28 ⟨rfl, rfl⟩
set_option maxRecDepth 100000 in
set_option maxHeartbeats 4000000 in
theorem A_F_meeting (l : Launch) (D : va_G) (A : Nat → ClassId) (H0 : Heap) (S : Nat → Prop) (b0 u ks bv ar : Nat) (rh : Nat → Nat) (q : ft_Q) (hq : sp_ok2 q) (w nn em lt : Nat) (vs : List Nat) (mv : Nat → Nat) (hF : cF D A S b0 u ks bv ar rh q w nn em lt vs mv H0) (v : Int32) (f : Int32) (si : Int32) (to : Int32) : xC l y_F_meeting c_F_meeting 8 (some .int) 17 D A H0 [.ref b0, .int v, .int f, .int si, .int to] (fun _ => False) (q1 (.int (sp_meeting q v f si to)) (fun H1 => H1 = H0)) 0 0 := by
  obtain ⟨hO, hU, hKs, hV, hMk, hmv, hlt, hvs, hver⟩ := hF
  have hl1 := hq.1.1
  have hl2 := hq.1.2.1
  rcases sp_at_cases hq v with ⟨hv, hat⟩ | ⟨j, t, rfl, hj, hjt, hat⟩
  · rw [show sp_meeting q v f si to = -1 from by unfold sp_meeting; rw [hat]]
    refine xC.of rfl (Nat.le_of_ble_eq_true rfl) ?_
    intro p_ e_ s_ m_ ar_ bl_ me_ c_ ls X hl
    have hl : lz ls 8 [some (.ref b0), some (.int v), some (.int f), some (.int si), some (.int to), none, none, none] := hl
    have hS : va_S (fun _ => False) H0 H0 [] := va_S.rf
    refine x_aload_n X d_F_meeting_0 rfl hl rfl ?_
    refine x_iload_n X d_F_meeting_1 rfl hl rfl ?_
    refine x_goR (x_runV X (C_F_isVersion_f l D A _ b0 u ks bv q.1.length hO hl2 v hv) b_F_isVersion s_F_isVersion v_F_isVersion e_F_37 hO rfl rfl hl rfl (Nat.le_of_ble_eq_true rfl) d_F_meeting_2 (by dsimp only [x_rm]; omega) (by dsimp only [x_rm]; omega) ⟨(by dsimp only [x_rm]; omega), (by dsimp only [x_rm]; omega)⟩) hS (fun locs hS => ?_)
    refine n_if_ne X 10 d_F_meeting_5 rfl (by decide) (fun hc => absurd rfl hc) (fun hc_ => ?_)
    refine x_iconst (v := -1) X d_F_meeting_8 rfl ?_
    exact x_iret X hS (Nat.le_refl _) (Nat.le_refl _) d_F_meeting_9 ⟨rfl, rfl⟩
  have ht := hq.1.2.2.1 t (List.mem_of_getElem? hjt)
  have hz40 := ht.2
  obtain ⟨ta, hta, hT⟩ := hver j t hjt
  obtain ⟨tl, tr, tmv, trs, tO⟩ := cT_obj hT
  have hz : ft_zT t.1 t.2 < 64 := by omega
  have h5 := ft_len5 ht.1 hz
  rw [show sp_meeting q (nI j) f si to = (if (sp_find (sp_meet (sp_es q t) si to) (ft_zT t.1 t.2 - f.toNatClampNeg) f.toNatClampNeg) < ft_zT t.1 t.2 then nI (sp_find (sp_meet (sp_es q t) si to) (ft_zT t.1 t.2 - f.toNatClampNeg) f.toNatClampNeg) else -1) from by unfold sp_meeting; rw [hat]]
  refine xC.of rfl (Nat.le_of_ble_eq_true rfl) ?_
  intro p_ e_ s_ m_ ar_ bl_ me_ c_ ls X hl
  have hl : lz ls 8 [some (.ref b0), some (.int (nI j)), some (.int f), some (.int si), some (.int to), none, none, none] := hl
  have hS : va_S (fun _ => False) H0 H0 [] := va_S.rf
  refine x_aload_n X d_F_meeting_0 rfl hl rfl ?_
  refine x_iload_n X d_F_meeting_1 rfl hl rfl ?_
  refine x_goR (x_runV X (C_F_isVersion_t l D A _ b0 u ks bv q.1.length hO hl2 j hj) b_F_isVersion s_F_isVersion v_F_isVersion e_F_37 hO rfl rfl hl rfl (Nat.le_of_ble_eq_true rfl) d_F_meeting_2 (by dsimp only [x_rm]; omega) (by dsimp only [x_rm]; omega) ⟨(by dsimp only [x_rm]; omega), (by dsimp only [x_rm]; omega)⟩) hS (fun locs hS => ?_)
  refine n_if_ne X 10 d_F_meeting_5 rfl (by decide) (fun hc_ => ?_) (fun hc => absurd hc (by decide))
  refine x_aload_n X d_F_meeting_10 rfl hl rfl ?_
  refine x_get X gF hO 2 (by decide) e_F_25 rfl d_F_meeting_11 ?_
  refine x_iload_n X d_F_meeting_14 rfl hl rfl ?_
  refine x_ver X hV hta (by omega) d_F_meeting_15 ?_
  refine x_astore X d_F_meeting_16 hl (by decide) rfl (fun ls hl => ?_)
  refine x_iload_n X d_F_meeting_18 rfl hl rfl ?_
  refine x_iconst (v := nI 0) X d_F_meeting_19 rfl ?_
  refine x_maxI X hl (by dsimp only [x_rm]; omega) (by show 0 + _ ≤ _; dsimp only [x_rm]; omega) (by dsimp only [x_rm]; omega) (by dsimp only [x_rm]; omega) d_F_meeting_20 ?_
  obtain ⟨fi, hfi, hfe, hfc⟩ : ∃ fi, fi < 2 ^ 31 ∧ (if f < nI 0 then nI 0 else f) = nI fi ∧ f.toNatClampNeg = fi := by
    by_cases h : f < nI 0
    · exact ⟨0, by decide, if_pos h, sp_neg h⟩
    · obtain ⟨fi, h1, rfl⟩ := nI_of h
      exact ⟨fi, h1, if_neg h, nI_clamp h1⟩
  rw [hfe]
  refine x_istore X d_F_meeting_23 hl (by decide) rfl (fun ls hl => ?_)
  have loop : ∀ (g i : Nat) (v7 : Option Value) (locs : List Loc) (ls : Array Slot), ft_zT t.1 t.2 - i = g → i < 2 ^ 31 → sp_find (sp_meet (sp_es q t) si to) (ft_zT t.1 t.2 - i) i = (sp_find (sp_meet (sp_es q t) si to) (ft_zT t.1 t.2 - f.toNatClampNeg) f.toNatClampNeg) → lz ls 8 [some (.ref b0), some (.int (nI j)), some (.int f), some (.int si), some (.int to), some (.ref ta), some (.int (nI i)), v7] → va_S (fun _ => False) H0 H0 locs → W p_ l e_ (x_rm 17 0 0) s_ m_ ar_ bl_ me_ c_ H0 locs 0 0 (MQ bl_ (xQ (fun _ => False) (q1 (.int (if (sp_find (sp_meet (sp_es q t) si to) (ft_zT t.1 t.2 - f.toNatClampNeg) f.toNatClampNeg) < ft_zT t.1 t.2 then nI (sp_find (sp_meet (sp_es q t) si to) (ft_zT t.1 t.2 - f.toNatClampNeg) f.toNatClampNeg) else -1)) (fun H1 => H1 = H0))) ar_ s_ 0 0 (fun _ => False)) (F0 m_ 25 ls []) := by
    clear hl hS
    intro g
    induction g with
    | zero =>
      intro i v7 locs ls hg hi31 hfi hl hS
      rw [hg, show sp_find (sp_meet (sp_es q t) si to) 0 i = i from rfl] at hfi
      rw [← hfi, if_neg (by omega)]
      refine x_iload X d_F_meeting_25 hl rfl ?_
      refine x_aload X d_F_meeting_27 hl rfl ?_
      refine x_getN X gT tO.2 4 (by decide) e_F_44 rfl d_F_meeting_29 ?_
      refine n_icmp_ge X 72 d_F_meeting_32 rfl (by omega) (by omega) (fun hc_ => ?_) (fun hc => absurd hc (by omega))
      refine x_iconst (v := -1) X d_F_meeting_72 rfl ?_
      exact x_iret X hS (Nat.le_refl _) (Nat.le_refl _) d_F_meeting_73 ⟨rfl, rfl⟩
    | succ g ih =>
      intro i v7 locs ls hg hi31 hfi hl hS
      have hiz : i < ft_zT t.1 t.2 := by omega
      rw [hg] at hfi
      rw [show sp_find (sp_meet (sp_es q t) si to) (g + 1) i = if sp_meet (sp_es q t) si to i = true then i else sp_find (sp_meet (sp_es q t) si to) g (i + 1) from rfl] at hfi
      have next : ∀ (v7 : Option Value) (locs : List Loc) (ls : Array Slot), sp_meet (sp_es q t) si to i = false → lz ls 8 [some (.ref b0), some (.int (nI j)), some (.int f), some (.int si), some (.int to), some (.ref ta), some (.int (nI i)), v7] → va_S (fun _ => False) H0 H0 locs → W p_ l e_ (x_rm 17 0 0) s_ m_ ar_ bl_ me_ c_ H0 locs 0 0 (MQ bl_ (xQ (fun _ => False) (q1 (.int (if (sp_find (sp_meet (sp_es q t) si to) (ft_zT t.1 t.2 - f.toNatClampNeg) f.toNatClampNeg) < ft_zT t.1 t.2 then nI (sp_find (sp_meet (sp_es q t) si to) (ft_zT t.1 t.2 - f.toNatClampNeg) f.toNatClampNeg) else -1)) (fun H1 => H1 = H0))) ar_ s_ 0 0 (fun _ => False)) (F0 m_ 66 ls []) := by
        intro v7 locs ls hm hl hS
        rw [hm] at hfi
        simp only [Bool.false_eq_true, if_false] at hfi
        refine n_iinc (d := 1) X d_F_meeting_66 rfl hl rfl (by decide) rfl (fun ls hl => ?_)
        refine x_goto X 25 d_F_meeting_69 rfl ?_
        exact ih (i + 1) v7 _ _ (by omega) (by omega) (by rw [show ft_zT t.1 t.2 - (i + 1) = g from by omega]; exact hfi) hl hS
      refine x_iload X d_F_meeting_25 hl rfl ?_
      refine x_aload X d_F_meeting_27 hl rfl ?_
      refine x_getN X gT tO.2 4 (by decide) e_F_44 rfl d_F_meeting_29 ?_
      refine n_icmp_ge X 72 d_F_meeting_32 rfl (by omega) (by omega) (fun hc => absurd hc (by omega)) (fun hc_ => ?_)
      refine x_aload X d_F_meeting_35 hl rfl ?_
      refine x_iload X d_F_meeting_37 hl rfl ?_
      refine x_goRr (x_runVN X (C_T_entryAt l D A _ S rh q.2.2 q.2.2.length q.2.1.1 q.2.1.2 0 t.1 t.2 ta ht.1 hT hz i hiz) b_T_entryAt s_T_entryAt v_T_entryAt e_F_119 tO.2 rfl rfl hl rfl (Nat.le_of_ble_eq_true rfl) d_F_meeting_39 (by dsimp only [x_rm]; omega) (by dsimp only [x_rm]; omega) ⟨(by dsimp only [x_rm]; omega), (by dsimp only [x_rm]; omega)⟩) hS (fun b locs hE hS => ?_)
      obtain ⟨en, pa, q1, hI⟩ := hE
      obtain ⟨b', r, lo, hi, e1, e2, e3, -⟩ := hI
      cases e1
      have hes : (sp_es q t)[i]? = some (lo, hi) := ft_es_at q1 e2
      have hme : sp_meet (sp_es q t) si to i = (decide (lo ≤ to) && decide (si ≤ hi)) := by
        unfold sp_meet
        rw [List.getD_eq_getElem?_getD, hes]
        rfl
      refine x_astore X d_F_meeting_42 hl (by decide) rfl (fun ls hl => ?_)
      refine x_aload X d_F_meeting_44 hl rfl ?_
      refine x_getN X gI e3.2 1 (by decide) e_F_123 rfl d_F_meeting_46 ?_
      refine x_iload X d_F_meeting_49 hl rfl ?_
      refine x_icmp_gt X 66 d_F_meeting_51 rfl (fun h => next _ _ _ (by rw [hme, decide_eq_false (Int32.not_le.2 h), Bool.false_and]) hl hS) (fun h => ?_)
      refine x_aload X d_F_meeting_54 hl rfl ?_
      refine x_getN X gI e3.2 2 (by decide) e_F_126 rfl d_F_meeting_56 ?_
      refine x_iload_n X d_F_meeting_59 rfl hl rfl ?_
      refine x_icmp_lt X 66 d_F_meeting_60 rfl (fun h2 => next _ _ _ (by rw [hme, decide_eq_false (Int32.not_le.2 h2), Bool.and_false]) hl hS) (fun h2 => ?_)
      have hmt : sp_meet (sp_es q t) si to i = true := by rw [hme, decide_eq_true (Int32.not_lt.1 h), decide_eq_true (Int32.not_lt.1 h2)]; rfl
      rw [hmt, if_pos rfl] at hfi
      rw [← hfi, if_pos hiz]
      refine x_iload X d_F_meeting_63 hl rfl ?_
      exact x_iret X hS (Nat.le_refl _) (Nat.le_refl _) d_F_meeting_65 ⟨rfl, rfl⟩
  exact loop _ fi none _ _ rfl hfi (by rw [hfc]) hl hS
set_option maxRecDepth 100000 in
set_option maxHeartbeats 4000000 in
theorem A_F_spine (l : Launch) (D : va_G) (A : Nat → ClassId) (H0 : Heap) (S : Nat → Prop) (b0 u ks bv ar : Nat) (rh : Nat → Nat) (q : ft_Q) (hq : sp_ok2 q) (w nn em lt : Nat) (vs : List Nat) (mv : Nat → Nat) (hF : cF D A S b0 u ks bv ar rh q w nn em lt vs mv H0) (v : Int32) : xC l y_F_spine c_F_spine 4 (some .int) 17 D A H0 [.ref b0, .int v] (fun _ => False) (q1 (.int (sp_spine q v)) (fun H1 => H1 = H0)) 0 0 := by
  obtain ⟨hO, hU, hKs, hV, hMk, hmv, hlt, hvs, hver⟩ := hF
  have hl1 := hq.1.1
  have hl2 := hq.1.2.1
  rcases sp_at_cases hq v with ⟨hv, hat⟩ | ⟨j, t, rfl, hj, hjt, hat⟩
  · rw [show sp_spine q v = -1 from by unfold sp_spine; rw [hat]]
    refine xC.of rfl (Nat.le_of_ble_eq_true rfl) ?_
    intro p_ e_ s_ m_ ar_ bl_ me_ c_ ls X hl
    have hl : lz ls 4 [some (.ref b0), some (.int v), none, none] := hl
    have hS : va_S (fun _ => False) H0 H0 [] := va_S.rf
    refine x_aload_n X d_F_spine_0 rfl hl rfl ?_
    refine x_iload_n X d_F_spine_1 rfl hl rfl ?_
    refine x_goR (x_runV X (C_F_isVersion_f l D A _ b0 u ks bv q.1.length hO hl2 v hv) b_F_isVersion s_F_isVersion v_F_isVersion e_F_37 hO rfl rfl hl rfl (Nat.le_of_ble_eq_true rfl) d_F_spine_2 (by dsimp only [x_rm]; omega) (by dsimp only [x_rm]; omega) ⟨(by dsimp only [x_rm]; omega), (by dsimp only [x_rm]; omega)⟩) hS (fun locs hS => ?_)
    refine n_if_ne X 10 d_F_spine_5 rfl (by decide) (fun hc => absurd rfl hc) (fun hc_ => ?_)
    refine x_iconst (v := -1) X d_F_spine_8 rfl ?_
    exact x_iret X hS (Nat.le_refl _) (Nat.le_refl _) d_F_spine_9 ⟨rfl, rfl⟩
  have ht := hq.1.2.2.1 t (List.mem_of_getElem? hjt)
  have hz40 := ht.2
  obtain ⟨ta, hta, hT⟩ := hver j t hjt
  obtain ⟨tl, tr, tmv, trs, tO⟩ := cT_obj hT
  have hz : ft_zT t.1 t.2 < 64 := by omega
  have h5 := ft_len5 ht.1 hz
  rw [show sp_spine q (nI j) = nI (2 * t.1.length + if t.2.isSome then 1 else 0) from by unfold sp_spine; rw [hat]]
  refine xC.of rfl (Nat.le_of_ble_eq_true rfl) ?_
  intro p_ e_ s_ m_ ar_ bl_ me_ c_ ls X hl
  have hl : lz ls 4 [some (.ref b0), some (.int (nI j)), none, none] := hl
  have hS : va_S (fun _ => False) H0 H0 [] := va_S.rf
  refine x_aload_n X d_F_spine_0 rfl hl rfl ?_
  refine x_iload_n X d_F_spine_1 rfl hl rfl ?_
  refine x_goR (x_runV X (C_F_isVersion_t l D A _ b0 u ks bv q.1.length hO hl2 j hj) b_F_isVersion s_F_isVersion v_F_isVersion e_F_37 hO rfl rfl hl rfl (Nat.le_of_ble_eq_true rfl) d_F_spine_2 (by dsimp only [x_rm]; omega) (by dsimp only [x_rm]; omega) ⟨(by dsimp only [x_rm]; omega), (by dsimp only [x_rm]; omega)⟩) hS (fun locs hS => ?_)
  refine n_if_ne X 10 d_F_spine_5 rfl (by decide) (fun hc_ => ?_) (fun hc => absurd hc (by decide))
  refine x_iconst (v := nI 0) X d_F_spine_10 rfl ?_
  refine x_istore_n X d_F_spine_11 rfl hl (by decide) rfl (fun ls hl => ?_)
  refine x_aload_n X d_F_spine_12 rfl hl rfl ?_
  refine x_get X gF hO 2 (by decide) e_F_25 rfl d_F_spine_13 ?_
  refine x_iload_n X d_F_spine_16 rfl hl rfl ?_
  refine x_ver X hV hta (by omega) d_F_spine_17 ?_
  refine x_astore_n X d_F_spine_18 rfl hl (by decide) rfl (fun ls hl => ?_)
  have loop : ∀ (sp : ft_S) (k m a : Nat) (locs : List Loc) (ls : Array Slot), ft_okT q.2.2.length q.2.1.1 q.2.1.2 k sp t.2 → cT D A S rh q.2.2 sp t.2 a H0 → ft_zT sp t.2 < 64 → m + 2 * sp.length = 2 * t.1.length → lz ls 4 [some (.ref b0), some (.int (nI j)), some (.int (nI m)), some (.ref a)] → va_S (fun _ => False) H0 H0 locs → W p_ l e_ (x_rm 17 0 0) s_ m_ ar_ bl_ me_ c_ H0 locs 0 0 (MQ bl_ (xQ (fun _ => False) (q1 (.int (nI (2 * t.1.length + if t.2.isSome then 1 else 0))) (fun H1 => H1 = H0))) ar_ s_ 0 0 (fun _ => False)) (F0 m_ 19 ls []) := by
    clear hl hS
    intro sp
    induction sp with
    | nil =>
      intro k m a locs ls ok hT hz hm hl hS
      obtain ⟨tl, tr, tmv, trs, tO⟩ := cT_obj hT
      have hm : m = 2 * t.1.length := hm
      rw [← hm]
      refine x_aload_n X d_F_spine_19 rfl hl rfl ?_
      refine x_goR (x_runVN X (C_T_isDeep l D A _ S rh q.2.2 q.2.2.length q.2.1.1 q.2.1.2 k [] t.2 a ok hT hz) b_T_isDeep s_T_isDeep v_T_isDeep e_F_138 tO.2 rfl rfl hl rfl (Nat.le_of_ble_eq_true rfl) d_F_spine_20 (by dsimp only [x_rm]; omega) (by dsimp only [x_rm]; omega) ⟨(by dsimp only [x_rm]; omega), (by dsimp only [x_rm]; omega)⟩) hS (fun locs hS => ?_)
      rw [show ft_de [] = 0 from rfl]
      refine n_if_eq X 37 d_F_spine_23 rfl (by decide) (fun hc_ => ?_) (fun hc => absurd rfl hc)
      refine x_aload_n X d_F_spine_37 rfl hl rfl ?_
      refine x_goR (x_runVN X (C_T_isEmpty l D A _ S rh q.2.2 q.2.2.length q.2.1.1 q.2.1.2 k [] t.2 a ok hT hz) b_T_isEmpty s_T_isEmpty v_T_isEmpty e_F_64 tO.2 rfl rfl hl rfl (Nat.le_of_ble_eq_true rfl) d_F_spine_38 (by dsimp only [x_rm]; omega) (by dsimp only [x_rm]; omega) ⟨(by dsimp only [x_rm]; omega), (by dsimp only [x_rm]; omega)⟩) hS (fun locs hS => ?_)
      cases ho : t.2 with
      | none =>
        rw [show (if ft_em [] (none : Option ft_I) then 1 else 0) = 1 from rfl]
        refine n_if_eq X 48 d_F_spine_41 rfl (by decide) (fun hc => absurd hc (by decide)) (fun hc_ => ?_)
        refine x_iload_n X d_F_spine_44 rfl hl rfl ?_
        refine x_goto X 51 d_F_spine_45 rfl ?_
        exact x_iret X hS (Nat.le_refl _) (Nat.le_refl _) d_F_spine_51 ⟨rfl, rfl⟩
      | some x =>
        rw [show (if ft_em [] (some x) then 1 else 0) = 0 from rfl]
        refine n_if_eq X 48 d_F_spine_41 rfl (by decide) (fun hc_ => ?_) (fun hc => absurd rfl hc)
        refine x_iload_n X d_F_spine_48 rfl hl rfl ?_
        refine x_iconst (v := nI 1) X d_F_spine_49 rfl ?_
        refine n_iadd X d_F_spine_50 ?_
        exact x_iret X hS (Nat.le_refl _) (Nat.le_refl _) d_F_spine_51 ⟨rfl, rfl⟩
    | cons d sp ih =>
      intro k m a locs ls ok hT hz hm hl hS
      have hT0 := hT
      obtain ⟨lc, mt, rc, as, bs, t1, t2, t3, t4, tb, tm⟩ := hT
      have hzz : ft_zT (d :: sp) t.2 = ft_zR d.1 + ft_zT sp t.2 + ft_zR d.2 := rfl
      have hll : (d :: sp).length = sp.length + 1 := rfl
      refine x_aload_n X d_F_spine_19 rfl hl rfl ?_
      refine x_goR (x_runVN X (C_T_isDeep l D A _ S rh q.2.2 q.2.2.length q.2.1.1 q.2.1.2 k (d :: sp) t.2 a ok hT0 hz) b_T_isDeep s_T_isDeep v_T_isDeep e_F_138 t1.2 rfl rfl hl rfl (Nat.le_of_ble_eq_true rfl) d_F_spine_20 (by dsimp only [x_rm]; omega) (by dsimp only [x_rm]; omega) ⟨(by dsimp only [x_rm]; omega), (by dsimp only [x_rm]; omega)⟩) hS (fun locs hS => ?_)
      rw [show ft_de (d :: sp) = 1 from rfl]
      refine n_if_eq X 37 d_F_spine_23 rfl (by decide) (fun hc => absurd hc (by decide)) (fun hc_ => ?_)
      refine n_iinc (d := 2) X d_F_spine_26 rfl hl rfl (by decide) rfl (fun ls hl => ?_)
      refine x_aload_n X d_F_spine_29 rfl hl rfl ?_
      refine x_getN X gT t1.2 1 (by decide) e_F_141 rfl d_F_spine_30 ?_
      refine x_astore_n X d_F_spine_33 rfl hl (by decide) rfl (fun ls hl => ?_)
      refine x_goto X 19 d_F_spine_34 rfl ?_
      exact ih (k + 1) (m + 2) mt _ _ ok.2.2 tm (by omega) (by omega) hl hS
  exact loop t.1 0 0 ta _ _ ht.1 hT hz (by omega) hl hS
