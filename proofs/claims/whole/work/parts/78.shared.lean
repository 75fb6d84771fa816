/-! The class, call by call: digit, shared. -/
set_option maxRecDepth 100000 in
set_option maxHeartbeats 4000000 in
theorem A_F_digit (l : Launch) (D : va_G) (A : Nat → ClassId) (H0 : Heap) (S : Nat → Prop) (b0 u ks bv ar : Nat) (rh : Nat → Nat) (q : ft_Q) (hq : sp_ok2 q) (w nn em lt : Nat) (vs : List Nat) (mv : Nat → Nat) (hF : cF D A S b0 u ks bv ar rh q w nn em lt vs mv H0) (v lev : Int32) (rr : Nat) (hrr : rr < 2) : xC l y_F_digit c_F_digit 6 (some .int) 17 D A H0 [.ref b0, .int v, .int lev, .int (nI rr)] (fun _ => False) (q1 (.int (sp_digit q v lev (decide (rr ≠ 0)))) (fun H1 => H1 = H0)) 0 0 := by
  obtain ⟨hO, hU, hKs, hV, hMk, hmv, hlt, hvs, hver⟩ := hF
  have hl1 := hq.1.1
  have hl2 := hq.1.2.1
  rcases sp_at_cases hq v with ⟨hv, hat⟩ | ⟨j, t, rfl, hj, hjt, hat⟩
  · rw [show sp_digit q v lev (decide (rr ≠ 0)) = -1 from by unfold sp_digit; rw [hat]]
    refine xC.of rfl (Nat.le_of_ble_eq_true rfl) ?_
    intro p_ e_ s_ m_ ar_ bl_ me_ c_ ls X hl
    have hl : lz ls 6 [some (.ref b0), some (.int v), some (.int lev), some (.int (nI rr)), none, none] := hl
    have hS : va_S (fun _ => False) H0 H0 [] := va_S.rf
    refine x_aload_n X d_F_digit_0 rfl hl rfl ?_
    refine x_iload_n X d_F_digit_1 rfl hl rfl ?_
    refine x_goR (x_runV X (C_F_isVersion_f l D A _ b0 u ks bv q.1.length hO hl2 v hv) b_F_isVersion s_F_isVersion v_F_isVersion e_F_37 hO rfl rfl hl rfl (Nat.le_of_ble_eq_true rfl) d_F_digit_2 (by dsimp only [x_rm]; omega) (by dsimp only [x_rm]; omega) ⟨(by dsimp only [x_rm]; omega), (by dsimp only [x_rm]; omega)⟩) hS (fun locs hS => ?_)
    refine n_if_ne X 10 d_F_digit_5 rfl (by decide) (fun hc => absurd rfl hc) (fun hc_ => ?_)
    refine x_iconst (v := -1) X d_F_digit_8 rfl ?_
    exact x_iret X hS (Nat.le_refl _) (Nat.le_refl _) d_F_digit_9 ⟨rfl, rfl⟩
  have ht := hq.1.2.2.1 t (List.mem_of_getElem? hjt)
  have hz40 := ht.2
  obtain ⟨ta, hta, hT⟩ := hver j t hjt
  obtain ⟨tl, tr, tmv, trs, tO⟩ := cT_obj hT
  have hz : ft_zT t.1 t.2 < 64 := by omega
  have h5 := ft_len5 ht.1 hz
  have hdg0 : sp_digit q (nI j) lev (decide (rr ≠ 0)) = if lev < 0 then 0 else match t.1[lev.toNatClampNeg]? with
      | none => 0
      | some d => nI (if decide (rr ≠ 0) then d.2.length else d.1.length) := by unfold sp_digit; rw [hat]; rfl
  by_cases h0 : lev < 0
  · rw [hdg0, if_pos h0, show (0 : Int32) = nI 0 from rfl]
    refine xC.of rfl (Nat.le_of_ble_eq_true rfl) ?_
    intro p_ e_ s_ m_ ar_ bl_ me_ c_ ls X hl
    have hl : lz ls 6 [some (.ref b0), some (.int (nI j)), some (.int lev), some (.int (nI rr)), none, none] := hl
    have hS : va_S (fun _ => False) H0 H0 [] := va_S.rf
    refine x_aload_n X d_F_digit_0 rfl hl rfl ?_
    refine x_iload_n X d_F_digit_1 rfl hl rfl ?_
    refine x_goR (x_runV X (C_F_isVersion_t l D A _ b0 u ks bv q.1.length hO hl2 j hj) b_F_isVersion s_F_isVersion v_F_isVersion e_F_37 hO rfl rfl hl rfl (Nat.le_of_ble_eq_true rfl) d_F_digit_2 (by dsimp only [x_rm]; omega) (by dsimp only [x_rm]; omega) ⟨(by dsimp only [x_rm]; omega), (by dsimp only [x_rm]; omega)⟩) hS (fun locs hS => ?_)
    refine n_if_ne X 10 d_F_digit_5 rfl (by decide) (fun hc_ => ?_) (fun hc => absurd hc (by decide))
    refine x_aload_n X d_F_digit_10 rfl hl rfl ?_
    refine x_get X gF hO 2 (by decide) e_F_25 rfl d_F_digit_11 ?_
    refine x_iload_n X d_F_digit_14 rfl hl rfl ?_
    refine x_ver X hV hta (by omega) d_F_digit_15 ?_
    refine x_astore X d_F_digit_16 hl (by decide) rfl (fun ls hl => ?_)
    refine x_iconst (v := nI 0) X d_F_digit_18 rfl ?_
    refine x_istore X d_F_digit_19 hl (by decide) rfl (fun ls hl => ?_)
    refine x_iload X d_F_digit_21 hl rfl ?_
    refine x_iload_n X d_F_digit_23 rfl hl rfl ?_
    refine x_icmp_ge X 45 d_F_digit_24 rfl (fun _ => ?_) (fun hc => absurd (Int32.le_of_lt h0) hc)
    refine x_iload_n X d_F_digit_45 rfl hl rfl ?_
    refine x_if_lt X 62 d_F_digit_46 rfl (fun _ => ?_) (fun hc => absurd h0 hc)
    refine x_iconst (v := nI 0) X d_F_digit_62 rfl ?_
    exact x_iret X hS (Nat.le_refl _) (Nat.le_refl _) d_F_digit_63 ⟨rfl, rfl⟩
  obtain ⟨n, hn, rfl⟩ := nI_of h0
  rw [hdg0, if_neg h0, nI_clamp hn]
  obtain ⟨dv, hdv⟩ : ∃ d, (match t.1[n]? with
      | none => (0 : Int32)
      | some d => nI (if decide (rr ≠ 0) then d.2.length else d.1.length)) = d := ⟨_, rfl⟩
  rw [hdv]
  refine xC.of rfl (Nat.le_of_ble_eq_true rfl) ?_
  intro p_ e_ s_ m_ ar_ bl_ me_ c_ ls X hl
  have hl : lz ls 6 [some (.ref b0), some (.int (nI j)), some (.int (nI n)), some (.int (nI rr)), none, none] := hl
  have hS : va_S (fun _ => False) H0 H0 [] := va_S.rf
  refine x_aload_n X d_F_digit_0 rfl hl rfl ?_
  refine x_iload_n X d_F_digit_1 rfl hl rfl ?_
  refine x_goR (x_runV X (C_F_isVersion_t l D A _ b0 u ks bv q.1.length hO hl2 j hj) b_F_isVersion s_F_isVersion v_F_isVersion e_F_37 hO rfl rfl hl rfl (Nat.le_of_ble_eq_true rfl) d_F_digit_2 (by dsimp only [x_rm]; omega) (by dsimp only [x_rm]; omega) ⟨(by dsimp only [x_rm]; omega), (by dsimp only [x_rm]; omega)⟩) hS (fun locs hS => ?_)
  refine n_if_ne X 10 d_F_digit_5 rfl (by decide) (fun hc_ => ?_) (fun hc => absurd hc (by decide))
  refine x_aload_n X d_F_digit_10 rfl hl rfl ?_
  refine x_get X gF hO 2 (by decide) e_F_25 rfl d_F_digit_11 ?_
  refine x_iload_n X d_F_digit_14 rfl hl rfl ?_
  refine x_ver X hV hta (by omega) d_F_digit_15 ?_
  refine x_astore X d_F_digit_16 hl (by decide) rfl (fun ls hl => ?_)
  refine x_iconst (v := nI 0) X d_F_digit_18 rfl ?_
  refine x_istore X d_F_digit_19 hl (by decide) rfl (fun ls hl => ?_)
  have none45 : ∀ (i : Nat) (locs : List Loc) (ls : Array Slot), t.1[n]? = none → lz ls 6 [some (.ref b0), some (.int (nI j)), some (.int (nI n)), some (.int (nI rr)), some .null, some (.int (nI i))] → va_S (fun _ => False) H0 H0 locs → W p_ l e_ (x_rm 17 0 0) s_ m_ ar_ bl_ me_ c_ H0 locs 0 0 (MQ bl_ (xQ (fun _ => False) (q1 (.int dv) (fun H1 => H1 = H0))) ar_ s_ 0 0 (fun _ => False)) (F0 m_ 45 ls []) := by
    clear hl hS
    intro i locs ls hno hl hS
    rw [hno] at hdv
    rw [← hdv, show (0 : Int32) = nI 0 from rfl]
    refine x_iload_n X d_F_digit_45 rfl hl rfl ?_
    refine n_if_lt X 62 d_F_digit_46 rfl (by omega) (fun hc => absurd hc (by omega)) (fun hc_ => ?_)
    refine x_aloadN X d_F_digit_49 hl rfl ?_
    refine x_ifnullN X 62 d_F_digit_51 rfl ?_
    refine x_iconst (v := nI 0) X d_F_digit_62 rfl ?_
    exact x_iret X hS (Nat.le_refl _) (Nat.le_refl _) d_F_digit_63 ⟨rfl, rfl⟩
  have loop : ∀ (sp : ft_S) (k i a : Nat) (locs : List Loc) (ls : Array Slot), ft_okT q.2.2.length q.2.1.1 q.2.1.2 k sp t.2 → cT D A S rh q.2.2 sp t.2 a H0 → ft_zT sp t.2 < 64 → t.1.drop i = sp → i ≤ n → i + sp.length = t.1.length → lz ls 6 [some (.ref b0), some (.int (nI j)), some (.int (nI n)), some (.int (nI rr)), some (.ref a), some (.int (nI i))] → va_S (fun _ => False) H0 H0 locs → W p_ l e_ (x_rm 17 0 0) s_ m_ ar_ bl_ me_ c_ H0 locs 0 0 (MQ bl_ (xQ (fun _ => False) (q1 (.int dv) (fun H1 => H1 = H0))) ar_ s_ 0 0 (fun _ => False)) (F0 m_ 21 ls []) := by
    clear hl hS
    intro sp
    induction sp with
    | nil =>
      intro k i a locs ls ok hT hz hdr hin hil hl hS
      have hil : i = t.1.length := hil
      have hno : t.1[n]? = none := List.getElem?_eq_none (by omega)
      obtain ⟨lc, rc, as, t1, -⟩ := id hT
      by_cases hc : n = i
      · rw [hno] at hdv
        rw [← hdv, show (0 : Int32) = nI 0 from rfl]
        refine x_iload X d_F_digit_21 hl rfl ?_
        refine x_iload_n X d_F_digit_23 rfl hl rfl ?_
        refine n_icmp_ge X 45 d_F_digit_24 rfl (by omega) (by omega) (fun h => ?_) (fun h => absurd h (by omega))
        refine x_iload_n X d_F_digit_45 rfl hl rfl ?_
        refine n_if_lt X 62 d_F_digit_46 rfl (by omega) (fun hc => absurd hc (by omega)) (fun hc_ => ?_)
        refine x_aload X d_F_digit_49 hl rfl ?_
        refine x_ifnull X d_F_digit_51 ?_
        refine x_aload X d_F_digit_54 hl rfl ?_
        refine x_goR (x_runVN X (C_T_isDeep l D A _ S rh q.2.2 q.2.2.length q.2.1.1 q.2.1.2 k [] t.2 a ok hT hz) b_T_isDeep s_T_isDeep v_T_isDeep e_F_138 t1.2 rfl rfl hl rfl (Nat.le_of_ble_eq_true rfl) d_F_digit_56 (by dsimp only [x_rm]; omega) (by dsimp only [x_rm]; omega) ⟨(by dsimp only [x_rm]; omega), (by dsimp only [x_rm]; omega)⟩) hS (fun locs hS => ?_)
        rw [show ft_de [] = 0 from rfl]
        refine n_if_ne X 64 d_F_digit_59 rfl (by decide) (fun hc => absurd rfl hc) (fun hc_ => ?_)
        refine x_iconst (v := nI 0) X d_F_digit_62 rfl ?_
        exact x_iret X hS (Nat.le_refl _) (Nat.le_refl _) d_F_digit_63 ⟨rfl, rfl⟩
      · skip
        refine x_iload X d_F_digit_21 hl rfl ?_
        refine x_iload_n X d_F_digit_23 rfl hl rfl ?_
        refine n_icmp_ge X 45 d_F_digit_24 rfl (by omega) (by omega) (fun h => absurd h (by omega)) (fun h => ?_)
        refine x_aload X d_F_digit_27 hl rfl ?_
        refine x_ifnull X d_F_digit_29 ?_
        refine x_aload X d_F_digit_32 hl rfl ?_
        refine x_getN X gT t1.2 1 (by decide) e_F_141 rfl d_F_digit_34 ?_
        refine x_astoreN X d_F_digit_37 hl (by decide) rfl (fun ls hl => ?_)
        refine n_iinc (d := 1) X d_F_digit_39 rfl hl rfl (by decide) rfl (fun ls hl => ?_)
        refine x_goto X 21 d_F_digit_42 rfl ?_
        refine x_iload X d_F_digit_21 hl rfl ?_
        refine x_iload_n X d_F_digit_23 rfl hl rfl ?_
        refine n_icmp_ge X 45 d_F_digit_24 rfl (by omega) (by omega) (fun _ => none45 _ _ _ hno hl hS) (fun hc_ => ?_)
        refine x_aloadN X d_F_digit_27 hl rfl ?_
        refine x_ifnullN X 45 d_F_digit_29 rfl ?_
        exact none45 _ _ _ hno hl hS
    | cons d sp ih =>
      intro k i a locs ls ok hT hz hdr hin hil hl hS
      have hT0 := hT
      obtain ⟨lc, mt, rc, as, bs, t1, t2, t3, t4, tb, tm⟩ := hT
      have hzz : ft_zT (d :: sp) t.2 = ft_zR d.1 + ft_zT sp t.2 + ft_zR d.2 := rfl
      have hll : (d :: sp).length = sp.length + 1 := rfl
      have hla := cL_len t4
      have hlb := cL_len tb
      have hdr1 : t.1.drop (i + 1) = sp := by rw [← List.drop_drop, hdr]; rfl
      by_cases hc : n = i
      · have hso : t.1[n]? = some d := by rw [hc, ← List.head?_drop, hdr]; rfl
        rw [hso] at hdv
        dsimp only at hdv
        refine x_iload X d_F_digit_21 hl rfl ?_
        refine x_iload_n X d_F_digit_23 rfl hl rfl ?_
        refine n_icmp_ge X 45 d_F_digit_24 rfl (by omega) (by omega) (fun h => ?_) (fun h => absurd h (by omega))
        refine x_iload_n X d_F_digit_45 rfl hl rfl ?_
        refine n_if_lt X 62 d_F_digit_46 rfl (by omega) (fun hc => absurd hc (by omega)) (fun hc_ => ?_)
        refine x_aload X d_F_digit_49 hl rfl ?_
        refine x_ifnull X d_F_digit_51 ?_
        refine x_aload X d_F_digit_54 hl rfl ?_
        refine x_goR (x_runVN X (C_T_isDeep l D A _ S rh q.2.2 q.2.2.length q.2.1.1 q.2.1.2 k (d :: sp) t.2 a ok hT0 hz) b_T_isDeep s_T_isDeep v_T_isDeep e_F_138 t1.2 rfl rfl hl rfl (Nat.le_of_ble_eq_true rfl) d_F_digit_56 (by dsimp only [x_rm]; omega) (by dsimp only [x_rm]; omega) ⟨(by dsimp only [x_rm]; omega), (by dsimp only [x_rm]; omega)⟩) hS (fun locs hS => ?_)
        rw [show ft_de (d :: sp) = 1 from rfl]
        refine n_if_ne X 64 d_F_digit_59 rfl (by decide) (fun hc_ => ?_) (fun hc => absurd hc (by decide))
        refine x_iload_n X d_F_digit_64 rfl hl rfl ?_
        by_cases hr0 : rr = 0
        · rw [if_neg (by simp [hr0])] at hdv
          rw [← hdv]
          refine n_if_eq X 77 d_F_digit_65 rfl (by omega) (fun h => ?_) (fun h => absurd hr0 h)
          refine x_aload X d_F_digit_77 hl rfl ?_
          refine x_getN X gT t1.2 0 (by decide) e_F_147 rfl d_F_digit_79 ?_
          refine x_alen X t2 d_F_digit_82 ?_
          rw [hla]
          exact x_iret X hS (Nat.le_refl _) (Nat.le_refl _) d_F_digit_83 ⟨rfl, rfl⟩
        · rw [if_pos (by simp [hr0])] at hdv
          rw [← hdv]
          refine n_if_eq X 77 d_F_digit_65 rfl (by omega) (fun h => absurd h hr0) (fun h => ?_)
          refine x_aload X d_F_digit_68 hl rfl ?_
          refine x_getN X gT t1.2 2 (by decide) e_F_144 rfl d_F_digit_70 ?_
          refine x_alen X t3 d_F_digit_73 ?_
          rw [hlb]
          refine x_goto X 83 d_F_digit_74 rfl ?_
          exact x_iret X hS (Nat.le_refl _) (Nat.le_refl _) d_F_digit_83 ⟨rfl, rfl⟩
      · skip
        refine x_iload X d_F_digit_21 hl rfl ?_
        refine x_iload_n X d_F_digit_23 rfl hl rfl ?_
        refine n_icmp_ge X 45 d_F_digit_24 rfl (by omega) (by omega) (fun h => absurd h (by omega)) (fun h => ?_)
        refine x_aload X d_F_digit_27 hl rfl ?_
        refine x_ifnull X d_F_digit_29 ?_
        refine x_aload X d_F_digit_32 hl rfl ?_
        refine x_getN X gT t1.2 1 (by decide) e_F_141 rfl d_F_digit_34 ?_
        refine x_astore X d_F_digit_37 hl (by decide) rfl (fun ls hl => ?_)
        refine n_iinc (d := 1) X d_F_digit_39 rfl hl rfl (by decide) rfl (fun ls hl => ?_)
        refine x_goto X 21 d_F_digit_42 rfl ?_
        exact ih (k + 1) (i + 1) mt _ _ ok.2.2 tm (by omega) hdr1 (by omega) (by omega) hl hS
  exact loop t.1 0 0 ta _ _ ht.1 hT hz rfl (by omega) (by omega) hl hS
set_option maxRecDepth 100000 in
set_option maxHeartbeats 4000000 in
theorem A_F_shared (l : Launch) (D : va_G) (A : Nat → ClassId) (H0 : Heap) (S : Nat → Prop) (b0 u ks bv ar : Nat) (hd : cDs b0 u ks bv ar) (q : ft_Q) (hq : sp_ok2 q) (w : Nat) (hw : w < 100000) (hG : cG D A S b0 u ks bv ar q w H0) (v v2 : Int32) : xC l y_F_shared c_F_shared 3 (some .int) 17 D A H0 [.ref b0, .int v, .int v2] (fun x => x = ks ∨ x = ar) (q1 (.int (sp_shared q v v2)) (fun H1 => cG D A S b0 u ks bv ar q (w + 1) H1)) 0 0 := by
  obtain ⟨hSS, hSb, rh, nn, em, lt, vs, mv, hR, hF⟩ := hG
  obtain ⟨hO, hU, hKs, hV, hMk, hmv, hlt, hvs, hver⟩ := hF
  have hl1 := hq.1.1
  have hl2 := hq.1.2.1
  obtain ⟨d1, d2, d3, d4, d5, d6, d7, d8, d9, d10⟩ := hd
  have hmd0 := sp_md hq
  have hkeep : cG D A S b0 u ks bv ar q (w + 1) H0 := ⟨hSS, hSb, rh, nn, em, lt, vs, mv, hR, hO, hU, hKs, hV, hMk, hmv, by omega, hvs, hver⟩
  rcases sp_at_cases hq v with ⟨hv, hat⟩ | ⟨j, t, rfl, hj, hjt, hat⟩
  · rw [show sp_shared q v v2 = -1 from by unfold sp_shared; rw [hat]]
    refine xC.of rfl (Nat.le_of_ble_eq_true rfl) ?_
    intro p_ e_ s_ m_ ar_ bl_ me_ c_ ls X hl
    have hl : lz ls 3 [some (.ref b0), some (.int v), some (.int v2)] := hl
    have hS : va_S (fun x => x = ks ∨ x = ar) H0 H0 [] := va_S.rf
    refine x_aload_n X d_F_shared_0 rfl hl rfl ?_
    refine x_iload_n X d_F_shared_1 rfl hl rfl ?_
    refine x_goR (x_runV X (C_F_isVersion_f l D A _ b0 u ks bv q.1.length hO hl2 v hv) b_F_isVersion s_F_isVersion v_F_isVersion e_F_37 hO rfl rfl hl rfl (Nat.le_of_ble_eq_true rfl) d_F_shared_2 (by dsimp only [x_rm]; omega) (by dsimp only [x_rm]; omega) ⟨(by dsimp only [x_rm]; omega), (by dsimp only [x_rm]; omega)⟩) hS (fun locs hS => ?_)
    refine n_if_eq X 16 d_F_shared_5 rfl (by decide) (fun hc_ => ?_) (fun hc => absurd rfl hc)
    refine x_iconst (v := -1) X d_F_shared_16 rfl ?_
    exact x_iret X hS (Nat.le_refl _) (Nat.le_refl _) d_F_shared_17 ⟨rfl, hkeep⟩
  rcases sp_at_cases hq v2 with ⟨hv, hat2⟩ | ⟨j2, t2, rfl, hj2, hjt2, hat2⟩
  · rw [show sp_shared q (nI j) v2 = -1 from by unfold sp_shared; rw [hat, hat2]]
    refine xC.of rfl (Nat.le_of_ble_eq_true rfl) ?_
    intro p_ e_ s_ m_ ar_ bl_ me_ c_ ls X hl
    have hl : lz ls 3 [some (.ref b0), some (.int (nI j)), some (.int v2)] := hl
    have hS : va_S (fun x => x = ks ∨ x = ar) H0 H0 [] := va_S.rf
    refine x_aload_n X d_F_shared_0 rfl hl rfl ?_
    refine x_iload_n X d_F_shared_1 rfl hl rfl ?_
    refine x_goR (x_runV X (C_F_isVersion_t l D A _ b0 u ks bv q.1.length hO hl2 j hj) b_F_isVersion s_F_isVersion v_F_isVersion e_F_37 hO rfl rfl hl rfl (Nat.le_of_ble_eq_true rfl) d_F_shared_2 (by dsimp only [x_rm]; omega) (by dsimp only [x_rm]; omega) ⟨(by dsimp only [x_rm]; omega), (by dsimp only [x_rm]; omega)⟩) hS (fun locs hS => ?_)
    refine n_if_eq X 16 d_F_shared_5 rfl (by decide) (fun hc => absurd hc (by decide)) (fun hc_ => ?_)
    refine x_aload_n X d_F_shared_8 rfl hl rfl ?_
    refine x_iload_n X d_F_shared_9 rfl hl rfl ?_
    refine x_goR (x_runV X (C_F_isVersion_f l D A _ b0 u ks bv q.1.length hO hl2 v2 hv) b_F_isVersion s_F_isVersion v_F_isVersion e_F_37 hO rfl rfl hl rfl (Nat.le_of_ble_eq_true rfl) d_F_shared_10 (by dsimp only [x_rm]; omega) (by dsimp only [x_rm]; omega) ⟨(by dsimp only [x_rm]; omega), (by dsimp only [x_rm]; omega)⟩) hS (fun locs hS => ?_)
    refine n_if_ne X 18 d_F_shared_13 rfl (by decide) (fun hc => absurd rfl hc) (fun hc_ => ?_)
    refine x_iconst (v := -1) X d_F_shared_16 rfl ?_
    exact x_iret X hS (Nat.le_refl _) (Nat.le_refl _) d_F_shared_17 ⟨rfl, hkeep⟩
  have ht := hq.1.2.2.1 t (List.mem_of_getElem? hjt)
  have hz40 := ht.2
  obtain ⟨ta, hta, hT⟩ := hver j t hjt
  obtain ⟨tl, tr, tmv, trs, tO⟩ := cT_obj hT
  have hz : ft_zT t.1 t.2 < 64 := by omega
  have h5 := ft_len5 ht.1 hz
  have ht2 := hq.1.2.2.1 t2 (List.mem_of_getElem? hjt2)
  have hz402 := ht2.2
  obtain ⟨ta2, hta2, hT2⟩ := hver j2 t2 hjt2
  obtain ⟨tl2, tr2, tmv2, trs2, tO2⟩ := cT_obj hT2
  have hra : ∀ n, 1 ≤ n → n ≤ q.2.1.1 → rh n < 4642 := fun n h1 h2 => by have := (hR.2.1 n h1 h2).2; omega
  have hsh : sp_shared q (nI j) (nI j2) = nI (ft_pn (lt + 1) (lt + 2) (ft_ma (lt + 1) mv ((ft_nT t.1 t.2).map rh)) 0 ((ft_nT t2.1 t2.2).map rh)).2 := by
    rw [ft_shc (M := q.2.1.1) (N := 4642) (by omega) hR.2.2 hra (ft_nT_in ht.1) (ft_nT_in ht2.1) (fun d => by have := hmv d; omega)]
    unfold sp_shared
    rw [hat, hat2]
    dsimp only
    congr 3
    funext d
    rw [decide_eq_decide.2 (ft_nT_ns ht.1 d), decide_eq_decide.2 (ft_nT_ns ht2.1 d)]
  rw [hsh]
  refine xC.of rfl (Nat.le_of_ble_eq_true rfl) ?_
  intro p_ e_ s_ m_ ar_ bl_ me_ c_ ls X hl
  have hl : lz ls 3 [some (.ref b0), some (.int (nI j)), some (.int (nI j2))] := hl
  have hS : va_S (fun x => x = ks ∨ x = ar) H0 H0 [] := va_S.rf
  refine x_aload_n X d_F_shared_0 rfl hl rfl ?_
  refine x_iload_n X d_F_shared_1 rfl hl rfl ?_
  refine x_goR (x_runV X (C_F_isVersion_t l D A _ b0 u ks bv q.1.length hO hl2 j hj) b_F_isVersion s_F_isVersion v_F_isVersion e_F_37 hO rfl rfl hl rfl (Nat.le_of_ble_eq_true rfl) d_F_shared_2 (by dsimp only [x_rm]; omega) (by dsimp only [x_rm]; omega) ⟨(by dsimp only [x_rm]; omega), (by dsimp only [x_rm]; omega)⟩) hS (fun locs hS => ?_)
  refine n_if_eq X 16 d_F_shared_5 rfl (by decide) (fun hc => absurd hc (by decide)) (fun hc_ => ?_)
  refine x_aload_n X d_F_shared_8 rfl hl rfl ?_
  refine x_iload_n X d_F_shared_9 rfl hl rfl ?_
  refine x_goR (x_runV X (C_F_isVersion_t l D A _ b0 u ks bv q.1.length hO hl2 j2 hj2) b_F_isVersion s_F_isVersion v_F_isVersion e_F_37 hO rfl rfl hl rfl (Nat.le_of_ble_eq_true rfl) d_F_shared_10 (by dsimp only [x_rm]; omega) (by dsimp only [x_rm]; omega) ⟨(by dsimp only [x_rm]; omega), (by dsimp only [x_rm]; omega)⟩) hS (fun locs hS => ?_)
  refine n_if_ne X 18 d_F_shared_13 rfl (by decide) (fun hc_ => ?_) (fun hc => absurd hc (by decide))
  refine x_aload_n X d_F_shared_18 rfl hl rfl ?_
  refine x_get X gF hO 1 (by decide) e_F_19 rfl d_F_shared_19 ?_
  refine x_aload_n X d_F_shared_22 rfl hl rfl ?_
  refine x_get X gF hO 2 (by decide) e_F_25 rfl d_F_shared_23 ?_
  refine x_iload_n X d_F_shared_26 rfl hl rfl ?_
  refine x_ver X hV hta (by omega) d_F_shared_27 ?_
  refine x_aload_n X d_F_shared_28 rfl hl rfl ?_
  refine x_get X gF hO 2 (by decide) e_F_25 rfl d_F_shared_29 ?_
  refine x_iload_n X d_F_shared_32 rfl hl rfl ?_
  refine x_ver X hV hta2 (by omega) d_F_shared_33 ?_
  refine x_go1 (x_runVN X (C_K_common l D A _ S rh q.2.2 q.2.2.length q.2.1.1 q.2.1.2 ks ar lt mv hKs hMk d9 (hSS ar (Or.inr (Or.inr (Or.inr (Or.inr rfl))))) (hSS ks (Or.inr (Or.inr (Or.inl rfl)))) hra t.1 t.2 ta ht.1 hT t2.1 t2.2 ta2 ht2.1 hT2 (by omega) (by omega) hmv (by omega)) b_K_common s_K_common v_K_common e_F_154 hKs rfl rfl hl rfl (Nat.le_of_ble_eq_true rfl) d_F_shared_34 (by dsimp only [x_rm]; omega) (by dsimp only [x_rm]; omega) ⟨Nat.le_of_ble_eq_true rfl, Nat.le_of_ble_eq_true rfl⟩) hS (fun _ h => h) (fun H locs hC hF hS => ?_)
  have tt : cTr S S H0 H := cTr.of hF (fun x _ h => by
    rcases h with h | h
    · rw [h]; exact hSS ks (Or.inr (Or.inr (Or.inl rfl)))
    · rw [h]; exact hSS ar (Or.inr (Or.inr (Or.inr (Or.inr rfl)))))
  have no : ∀ x, x ≠ ks → x ≠ ar → ¬ (fun x => x = ks ∨ x = ar) x := fun x h1 h2 h => h.elim h1 h2
  refine x_iret X hS (Nat.le_refl _) (Nat.le_refl _) d_F_shared_37 ⟨rfl, hSS, c_sb hSb hF.1, rh, nn, em, lt + 2, vs, _, hR, hF.kp hO (no _ d2 d4), hU.mv tt hF (no _ d5 d7) hU.2.2.2, hC.1, hF.kp hV (no _ (fun h => d8 h.symm) d10), hC.2, fun d => ?_, by omega, hvs, fun i t hi => ?_⟩
  · rw [ft_pn_mk (by omega)]
    split
    · omega
    · unfold ft_ma
      split
      · omega
      · have := hmv d; omega
  · obtain ⟨a, h1, h2⟩ := hver i t hi
    exact ⟨a, h1, h2.tr tt (fun _ _ h => h)⟩
