/-! Contract of the reference: join. -/
theorem ft_trb0 {n j k : Nat} {w : Nat → Nat} (h : 1 ≤ j → ft_le8 (w (j - 1)) < k) : ft_trb n w j k = 0 := by
  unfold ft_trb ft_tr
  split
  · rw [if_neg (fun h2 => by have := h (by assumption); omega)]
  · rfl
theorem ft_trb1 {n j k : Nat} {w : Nat → Nat} (h1 : 1 ≤ j) (hn : j ≤ n) (h : ft_le8 (w (j - 1)) = k) : ft_trb n w j k = 1 := by
  unfold ft_trb ft_tr
  rw [if_pos h1, if_pos ⟨by omega, by omega⟩]
theorem ft_tr0 {n j k : Nat} {w : Nat → Nat} (h : j < n → ft_le8 (w j) < k) : ft_tr n w j k = 0 := by
  unfold ft_tr
  rw [if_neg (fun h2 => by have := h h2.1; omega)]
theorem ft_tr1 {n j k : Nat} {w : Nat → Nat} (hn : j < n) (h : ft_le8 (w j) = k) : ft_tr n w j k = 1 := by
  unfold ft_tr
  rw [if_pos ⟨hn, by omega⟩]
theorem ft_isE {n j k s : Nat} {w : Nat → Nat} (h : j < n → ft_le8 (w j) < k) : ft_is n w j k s = 0 := by
  unfold ft_is
  rw [if_neg (fun h2 => by have := h h2.1; have := h2.2.1; omega)]
set_option maxRecDepth 100000 in
set_option maxHeartbeats 4000000 in
theorem C_M_join (l : Launch) (D : va_G) (A : Nat → ClassId) (H0 : Heap) (a : Nat → Nat) (lo hi : Nat → Int32) (en md vs n : Nat) (zf mk pl ct w : Nat → Nat) (hP : mH D a A lo hi en zf mk md pl ct vs w n H0) (hd : mDs a) (hw : ft_bw w) (hz : ∀ i, zf i < 128) (he : en ≤ 128) (hn : n ≤ 48) (sp : ft_S) (o : Option ft_I) (sp2 : ft_S) (o2 : Option ft_I) (ok1 : ft_okT en md zf 0 sp o) (ok2 : ft_okT en md zf 0 sp2 o2) (h1 : ft_hd w 0 (ft_wT sp o)) (h2 : ft_hd w (ft_zT sp o) (ft_wT sp2 o2)) (h40 : ft_zT sp o + ft_zT sp2 o2 ≤ 40) (hnn : n = ft_zT sp o + ft_zT sp2 o2) (hmd : (ft_jn sp o [] sp2 o2 (md, zf)).2.1 < 4200) : xC l y_M_join c_M_join 7 (none : Option FieldType) 5 D A H0 [.ref (a 0), .int (nI (ft_zT sp o))] (mFr a) (q0 (fun H1 => ∃ w', mH D a A lo hi en (ft_jn sp o [] sp2 o2 (md, zf)).2.2 mk (ft_jn sp o [] sp2 o2 (md, zf)).2.1 pl ct vs w' n H1 ∧ ft_bw w' ∧ ft_hd w' 0 (ft_wT (ft_jn sp o [] sp2 o2 (md, zf)).1.1 (ft_jn sp o [] sp2 o2 (md, zf)).1.2))) 0 0 := by
  refine xC.of rfl (Nat.le_of_ble_eq_true rfl) ?_
  intro p_ e_ s_ m_ ar_ bl_ me_ c_ ls X hl
  have hl : lz ls 7 [some (.ref (a 0)), some (.int (nI (ft_zT sp o))), none, none, none, none, none] := hl
  have hS : va_S (mFr a) H0 H0 [] := va_S.rf
  refine x_iload_n X d_M_join_0 rfl hl rfl ?_
  refine x_istore_n X d_M_join_1 rfl hl (by decide) rfl (fun ls hl => ?_)
  refine x_iload_n X d_M_join_2 rfl hl rfl ?_
  refine x_istore_n X d_M_join_3 rfl hl (by decide) rfl (fun ls hl => ?_)
  refine x_iconst (v := nI 0) X d_M_join_4 rfl ?_
  refine x_istore X d_M_join_5 hl (by decide) rfl (fun ls hl => ?_)
  generalize hPost : (fun H1 => ∃ w', mH D a A lo hi en (ft_jn sp o [] sp2 o2 (md, zf)).2.2 mk (ft_jn sp o [] sp2 o2 (md, zf)).2.1 pl ct vs w' n H1 ∧ ft_bw w' ∧ ft_hd w' 0 (ft_wT (ft_jn sp o [] sp2 o2 (md, zf)).1.1 (ft_jn sp o [] sp2 o2 (md, zf)).1.2)) = Post
  have loop : ∀ (p0 : Int32) (sp : ft_S) (row : List ft_I) (sp2 : ft_S) (k f md : Nat) (zf w : Nat → Nat) (v5 v6 : Option Value) (H1 : Heap) (locs : List Loc) (ls : Array Slot), lz ls 7 [some (.ref (a 0)), some (.int p0), some (.int (nI (f + ft_zT sp o))), some (.int (nI (f + ft_zT sp o + ft_zR row))), some (.int (nI k)), v5, v6] → mH D a A lo hi en zf mk md pl ct vs w n H1 → ft_bw w → (∀ i, zf i < 128) → ft_okR en md zf k row → ft_okT en md zf k sp o → ft_okT en md zf k sp2 o2 → ft_hd w f (ft_wT sp o) → ft_hx w (f + ft_zT sp o) row → ft_hd w (f + ft_zT sp o + ft_zR row) (ft_wT sp2 o2) → row.length ≤ 4 → k ≤ 3 → 2 * 2 ^ k + (ft_zT sp o + ft_zR row + ft_zT sp2 o2) ≤ 42 → (f + ft_zT sp o + ft_zR row + ft_zT sp2 o2) ≤ n → ((f + ft_zT sp o + ft_zR row + ft_zT sp2 o2) < n → ft_le8 (w (f + ft_zT sp o + ft_zR row + ft_zT sp2 o2)) < k) → (0 < f → ft_le8 (w (f - 1)) < k) → (ft_jn sp o row sp2 o2 (md, zf)).2.1 < 4200 →
      (∀ (w' : Nat → Nat) (H1 : Heap), mH D a A lo hi en (ft_jn sp o row sp2 o2 (md, zf)).2.2 mk (ft_jn sp o row sp2 o2 (md, zf)).2.1 pl ct vs w' n H1 → ft_bw w' → ft_hd w' f (ft_wT (ft_jn sp o row sp2 o2 (md, zf)).1.1 (ft_jn sp o row sp2 o2 (md, zf)).1.2) → ft_eo w w' f (f + ft_zT sp o + ft_zR row + ft_zT sp2 o2) → Post H1) → va_S (mFr a) H0 H1 locs → W p_ l e_ (x_rm 5 0 0) s_ m_ ar_ bl_ me_ c_ H1 locs 0 0 (MQ bl_ (xQ (mFr a) (q0 Post)) ar_ s_ 0 0 (mFr a)) (F0 m_ 7 ls []) := by
    clear hPost hP hw hz ok1 ok2 h1 h2 h40 hnn hmd hl hS
    intro p0 sp
    induction sp with
    | nil =>
      intro row sp2 k f md zf w v5 v6 H1 locs ls hl hP hw hz okr ok1 ok2 h1 hr h2 hr4 hk hB hf hend hbeg hmd hQ hS
      have h2k := Nat.one_le_two_pow (n := k)
      have hmd0 : md < 4200 := Nat.lt_of_le_of_lt (ft_jn_ok (ne := en) [] o row sp2 o2 (md, zf) k hr4 okr ok1 ok2).1.1 hmd
      have hu : ft_em sp2 o2 = false → ft_le8 (w (f + ft_zT [] o + ft_zR row)) = k ∧ 1 ≤ ft_zT sp2 o2 := fun hem => ⟨(ft_wT_first ok2 hem h2 he (by omega) hk).1, by have := ft_okT_z ok2 hem; omega⟩
      cases o with
      | none =>
        simp only [ft_zT, Nat.add_zero, Nat.zero_add] at hl hr h2 hB hf hend hQ hu
        have hbeg1 : 1 ≤ f → ft_le8 (w (f - 1)) < k := hbeg
        refine x_aload_n X d_M_join_7 rfl hl rfl ?_
        refine x_iload_n X d_M_join_8 rfl hl rfl ?_
        refine x_iconst (v := nI 1) X d_M_join_9 rfl ?_
        refine x_isub X d_M_join_10 ?_
        refine x_iload X d_M_join_11 hl rfl ?_
        refine x_iconst (v := nI 1) X d_M_join_13 rfl ?_
        refine x_goR (x_runV X (C_M_isb l D A _ a lo hi en md vs n zf mk pl ct w hP hw hn f k 1 (by omega) (by omega) (by decide)) b_M_is s_M_is v_M_is e_M_64 (m_at hP) rfl rfl hl rfl (Nat.le_of_ble_eq_true rfl) d_M_join_14 (Nat.le_of_ble_eq_true rfl) (Nat.le_of_ble_eq_true rfl) ⟨Nat.le_of_ble_eq_true rfl, Nat.le_of_ble_eq_true rfl⟩) hS (fun locs hS => ?_)
        rw [ft_isb0 (fun h3 h4 => by have := hbeg1 h3; omega)]
        refine n_if_eq X 97 d_M_join_17 rfl (by omega) (fun hc => ?_) (fun hc => absurd rfl hc)
        refine x_aload_n X d_M_join_97 rfl hl rfl ?_
        refine x_iload_n X d_M_join_98 rfl hl rfl ?_
        refine x_iconst (v := nI 1) X d_M_join_99 rfl ?_
        refine x_isub X d_M_join_100 ?_
        refine x_iload X d_M_join_101 hl rfl ?_
        refine x_goR (x_runV X (C_M_treeb l D A _ a lo hi en md vs n zf mk pl ct w hP hw hn f k (by omega) (by omega)) b_M_tree s_M_tree v_M_tree e_M_88 (m_at hP) rfl rfl hl rfl (Nat.le_of_ble_eq_true rfl) d_M_join_103 (Nat.le_of_ble_eq_true rfl) (Nat.le_of_ble_eq_true rfl) ⟨Nat.le_of_ble_eq_true rfl, Nat.le_of_ble_eq_true rfl⟩) hS (fun locs hS => ?_)
        rw [ft_trb0 hbeg1]
        refine x_istore X d_M_join_106 hl (by decide) rfl (fun ls hl => ?_)
        refine x_iload X d_M_join_108 hl rfl ?_
        refine n_if_eq X 138 d_M_join_110 rfl (by omega) (fun hc => ?_) (fun hc => absurd rfl hc)
        refine x_aload_n X d_M_join_138 rfl hl rfl ?_
        refine x_iload X d_M_join_139 hl rfl ?_
        refine n_if_eq X 154 d_M_join_141 rfl (by omega) (fun hc => ?_) (fun hc => absurd rfl hc)
        refine x_iload_n X d_M_join_154 rfl hl rfl ?_
        refine x_iload_n X d_M_join_155 rfl hl rfl ?_
        refine x_iload X d_M_join_156 hl rfl ?_
        refine x_go0 (x_runV X (C_M_frontAll l D A _ a lo hi en md vs n zf mk pl ct w hP hd hw hz he hn k f row sp2 o2 okr ok2 hr h2 hk (by omega) hf hend hmd) b_M_frontAll s_M_frontAll v_M_frontAll e_M_92 (m_at hP) rfl rfl hl rfl (Nat.le_of_ble_eq_true rfl) d_M_join_158 (Nat.le_of_ble_eq_true rfl) (Nat.le_of_ble_eq_true rfl) ⟨Nat.le_of_ble_eq_true rfl, Nat.le_of_ble_eq_true rfl⟩) hS (fun _ h => h) (fun H locs hP hF hS => ?_)
        refine x_goto X 192 d_M_join_161 rfl ?_
        obtain ⟨w', hP', hw', hh', heo'⟩ := hP
        exact x_vret X hS (Nat.le_refl _) (Nat.le_refl _) d_M_join_192 ⟨rfl, hQ _ _ hP' hw' hh' (heo')⟩
      | some x =>
        have okx : ft_ok en md zf k x := ok1
        have hx : ft_hd w f (ft_wI 2 x) := h1
        have hzx := ft_ok_zpos okx
        simp only [ft_zT, Nat.zero_add] at hl hr h2 hB hf hend hQ hu
        have hat := ft_wI_at (i := ft_z x - 1) okx hx he (by omega) hk (by decide) (by omega)
        rw [show f + (ft_z x - 1) = f + ft_z x - 1 from by omega] at hat
        have hwa := hw (f + ft_z x - 1)
        refine x_aload_n X d_M_join_7 rfl hl rfl ?_
        refine x_iload_n X d_M_join_8 rfl hl rfl ?_
        refine x_iconst (v := nI 1) X d_M_join_9 rfl ?_
        refine x_isub X d_M_join_10 ?_
        refine x_iload X d_M_join_11 hl rfl ?_
        refine x_iconst (v := nI 1) X d_M_join_13 rfl ?_
        refine x_goR (x_runV X (C_M_isb l D A _ a lo hi en md vs n zf mk pl ct w hP hw hn (f + ft_z x) k 1 (by omega) (by omega) (by decide)) b_M_is s_M_is v_M_is e_M_64 (m_at hP) rfl rfl hl rfl (Nat.le_of_ble_eq_true rfl) d_M_join_14 (Nat.le_of_ble_eq_true rfl) (Nat.le_of_ble_eq_true rfl) ⟨Nat.le_of_ble_eq_true rfl, Nat.le_of_ble_eq_true rfl⟩) hS (fun locs hS => ?_)
        rw [ft_isb0 (fun h3 h4 => by omega)]
        refine n_if_eq X 97 d_M_join_17 rfl (by omega) (fun hc => ?_) (fun hc => absurd rfl hc)
        refine x_aload_n X d_M_join_97 rfl hl rfl ?_
        refine x_iload_n X d_M_join_98 rfl hl rfl ?_
        refine x_iconst (v := nI 1) X d_M_join_99 rfl ?_
        refine x_isub X d_M_join_100 ?_
        refine x_iload X d_M_join_101 hl rfl ?_
        refine x_goR (x_runV X (C_M_treeb l D A _ a lo hi en md vs n zf mk pl ct w hP hw hn (f + ft_z x) k (by omega) (by omega)) b_M_tree s_M_tree v_M_tree e_M_88 (m_at hP) rfl rfl hl rfl (Nat.le_of_ble_eq_true rfl) d_M_join_103 (Nat.le_of_ble_eq_true rfl) (Nat.le_of_ble_eq_true rfl) ⟨Nat.le_of_ble_eq_true rfl, Nat.le_of_ble_eq_true rfl⟩) hS (fun locs hS => ?_)
        rw [ft_trb1 (by omega) (by omega) hat.2.1]
        refine x_istore X d_M_join_106 hl (by decide) rfl (fun ls hl => ?_)
        refine x_iload X d_M_join_108 hl rfl ?_
        refine n_if_eq X 138 d_M_join_110 rfl (by omega) (fun hc => absurd hc (by decide)) (fun hc => ?_)
        refine x_aload_n X d_M_join_113 rfl hl rfl ?_
        refine x_iload_n X d_M_join_114 rfl hl rfl ?_
        refine x_iload X d_M_join_115 hl rfl ?_
        refine x_goR (x_runV X (C_M_tree l D A _ a lo hi en md vs n zf mk pl ct w hP hw hn (f + ft_z x + ft_zR row) k (by omega) (by omega)) b_M_tree s_M_tree v_M_tree e_M_88 (m_at hP) rfl rfl hl rfl (Nat.le_of_ble_eq_true rfl) d_M_join_117 (Nat.le_of_ble_eq_true rfl) (Nat.le_of_ble_eq_true rfl) ⟨Nat.le_of_ble_eq_true rfl, Nat.le_of_ble_eq_true rfl⟩) hS (fun locs hS => ?_)
        cases hem : ft_em sp2 o2 with
        | true =>
          have hz2 := (ft_em_z ok2).1 hem
          simp only [hz2, Nat.add_zero] at hB hf hend hQ
          have hjn : ft_jn [] (some x) row sp2 o2 (md, zf) = ft_ab row (([], some x), (md, zf)) := by simp only [ft_jn, hem, if_true]
          rw [hjn] at hQ hmd
          rw [ft_tr0 hend]
          refine n_if_eq X 164 d_M_join_120 rfl (by omega) (fun hc => ?_) (fun hc => absurd rfl hc)
          refine x_aload_n X d_M_join_164 rfl hl rfl ?_
          refine x_iload_n X d_M_join_165 rfl hl rfl ?_
          refine x_aload_n X d_M_join_166 rfl hl rfl ?_
          refine x_iload_n X d_M_join_167 rfl hl rfl ?_
          refine x_iload X d_M_join_168 hl rfl ?_
          refine x_goR (x_runV X (C_M_tree l D A _ a lo hi en md vs n zf mk pl ct w hP hw hn (f + ft_z x + ft_zR row) k (by omega) (by omega)) b_M_tree s_M_tree v_M_tree e_M_88 (m_at hP) rfl rfl hl rfl (Nat.le_of_ble_eq_true rfl) d_M_join_170 (Nat.le_of_ble_eq_true rfl) (Nat.le_of_ble_eq_true rfl) ⟨Nat.le_of_ble_eq_true rfl, Nat.le_of_ble_eq_true rfl⟩) hS (fun locs hS => ?_)
          rw [ft_tr0 hend]
          refine n_if_eq X 186 d_M_join_173 rfl (by omega) (fun hc => ?_) (fun hc => absurd rfl hc)
          refine x_iload_n X d_M_join_186 rfl hl rfl ?_
          refine x_iload X d_M_join_187 hl rfl ?_
          refine x_go0 (x_runV X (C_M_backAll l D A _ a lo hi en md vs n zf mk pl ct w hP hd hw hz he hn k f row [] (some x) okr ok1 h1 hr hk (by simp only [ft_zT]; omega) hf hbeg hmd) b_M_backAll s_M_backAll v_M_backAll e_M_95 (m_at hP) rfl rfl hl rfl (Nat.le_of_ble_eq_true rfl) d_M_join_189 (Nat.le_of_ble_eq_true rfl) (Nat.le_of_ble_eq_true rfl) ⟨Nat.le_of_ble_eq_true rfl, Nat.le_of_ble_eq_true rfl⟩) hS (fun _ h => h) (fun H locs hP hF hS => ?_)
          obtain ⟨w', hP', hw', hh', heo'⟩ := hP
          exact x_vret X hS (Nat.le_refl _) (Nat.le_refl _) d_M_join_192 ⟨rfl, hQ _ _ hP' hw' hh' (heo')⟩
        | false =>
          obtain ⟨hu1, hu2⟩ := hu hem
          have hjn : ft_jn [] (some x) row sp2 o2 (md, zf) = ft_af (x :: row) ((sp2, o2), (md, zf)) := by
            rw [ft_af_cons]
            simp only [ft_jn, hem, Bool.false_eq_true, if_false]
          rw [hjn] at hQ hmd
          rw [ft_tr1 (by omega) hu1]
          have hside := hat.1
          dsimp only [ft_sd] at hside
          have hzc : ft_zR (x :: row) = ft_z x + ft_zR row := rfl
          refine n_if_eq X 164 d_M_join_120 rfl (by omega) (fun hc => absurd hc (by decide)) (fun hc => ?_)
          refine x_aload_n X d_M_join_123 rfl hl rfl ?_
          refine m_get X hP 9 (by decide) e_M_34 rfl d_M_join_124 ?_
          refine x_iload_n X d_M_join_127 rfl hl rfl ?_
          refine x_iconst (v := nI 1) X d_M_join_128 rfl ?_
          refine n_isub X d_M_join_129 (by omega) ?_
          refine m_ld_w X hP (by omega) d_M_join_130 ?_
          refine x_goR (x_runS X (C_M_side l D A _ (w (f + ft_z x - 1)) (by omega)) b_M_side s_M_side e_M_44 rfl hl rfl (Nat.le_of_ble_eq_true rfl) d_M_join_131 (Nat.le_of_ble_eq_true rfl) (Nat.le_of_ble_eq_true rfl) ⟨Nat.le_of_ble_eq_true rfl, Nat.le_of_ble_eq_true rfl⟩) hS (fun locs hS => ?_)
          refine x_iconst (v := nI 2) X d_M_join_134 rfl ?_
          refine n_icmp_ne X 164 d_M_join_135 rfl (by omega) (by omega) (fun hc => absurd hside hc) (fun hc => ?_)
          refine x_aload_n X d_M_join_138 rfl hl rfl ?_
          refine x_iload X d_M_join_139 hl rfl ?_
          refine n_if_eq X 154 d_M_join_141 rfl (by omega) (fun hc => absurd hc (by decide)) (fun hc => ?_)
          refine x_aload_n X d_M_join_144 rfl hl rfl ?_
          refine x_iload_n X d_M_join_145 rfl hl rfl ?_
          refine x_iload X d_M_join_146 hl rfl ?_
          refine x_goR (x_runV X (C_M_begI l D A _ a lo hi en md vs n zf mk pl ct w hP hw en md k f 2 x okx hx he hmd0 hk (by decide) (by omega)) b_M_begin s_M_begin v_M_begin e_M_72 (m_at hP) rfl rfl hl rfl (Nat.le_of_ble_eq_true rfl) d_M_join_148 (Nat.le_of_ble_eq_true rfl) (Nat.le_of_ble_eq_true rfl) ⟨Nat.le_of_ble_eq_true rfl, Nat.le_of_ble_eq_true rfl⟩) hS (fun locs hS => ?_)
          refine x_goto X 155 d_M_join_151 rfl ?_
          refine x_iload_n X d_M_join_155 rfl hl rfl ?_
          refine x_iload X d_M_join_156 hl rfl ?_
          rw [show f + ft_z x + ft_zR row = f + ft_zR (x :: row) from by rw [hzc]; omega] at h2 hf hend hQ hl ⊢
          refine x_go0 (x_runV X (C_M_frontAll l D A _ a lo hi en md vs n zf mk pl ct w hP hd hw hz he hn k f (x :: row) sp2 o2 (ft_okR_cons okx okr) ok2 ⟨⟨2, by decide, hx⟩, hr⟩ h2 hk (by rw [hzc]; omega) hf hend hmd) b_M_frontAll s_M_frontAll v_M_frontAll e_M_92 (m_at hP) rfl rfl hl rfl (Nat.le_of_ble_eq_true rfl) d_M_join_158 (Nat.le_of_ble_eq_true rfl) (Nat.le_of_ble_eq_true rfl) ⟨Nat.le_of_ble_eq_true rfl, Nat.le_of_ble_eq_true rfl⟩) hS (fun _ h => h) (fun H locs hP hF hS => ?_)
          refine x_goto X 192 d_M_join_161 rfl ?_
          obtain ⟨w', hP', hw', hh', heo'⟩ := hP
          exact x_vret X hS (Nat.le_refl _) (Nat.le_refl _) d_M_join_192 ⟨rfl, hQ _ _ hP' hw' hh' (heo')⟩
    | cons d sp ih =>
      intro row sp2 k f md zf w v5 v6 H1 locs ls hl hP hw hz okr ok1 ok2 h1 hr h2 hr4 hk hB hf hend hbeg hmd hQ hS
      have h2k := Nat.one_le_two_pow (n := k)
      have hmd0 : md < 4200 := Nat.lt_of_le_of_lt (ft_jn_ok (ne := en) (d :: sp) o row sp2 o2 (md, zf) k hr4 okr ok1 ok2).1.1 hmd
      have hat := ft_wT_last ok1 rfl h1 he (by omega) hk
      simp only [List.isEmpty_cons, Bool.false_eq_true, if_false] at hat
      have hzd := ft_okT_zd ok1
      have hT : ft_zT (d :: sp) o = ft_zR d.1 + ft_zT sp o + ft_zR d.2 := rfl
      have hwa := hw (f + ft_zT (d :: sp) o - 1)
      have hside := hat.2.1
      dsimp only [ft_sd] at hside
      refine x_aload_n X d_M_join_7 rfl hl rfl ?_
      refine x_iload_n X d_M_join_8 rfl hl rfl ?_
      refine x_iconst (v := nI 1) X d_M_join_9 rfl ?_
      refine x_isub X d_M_join_10 ?_
      refine x_iload X d_M_join_11 hl rfl ?_
      refine x_iconst (v := nI 1) X d_M_join_13 rfl ?_
      refine x_goR (x_runV X (C_M_isb l D A _ a lo hi en md vs n zf mk pl ct w hP hw hn (f + ft_zT (d :: sp) o) k 1 (by omega) (by omega) (by decide)) b_M_is s_M_is v_M_is e_M_64 (m_at hP) rfl rfl hl rfl (Nat.le_of_ble_eq_true rfl) d_M_join_14 (Nat.le_of_ble_eq_true rfl) (Nat.le_of_ble_eq_true rfl) ⟨Nat.le_of_ble_eq_true rfl, Nat.le_of_ble_eq_true rfl⟩) hS (fun locs hS => ?_)
      rw [ft_isb1 (by omega) (by omega) ⟨hat.1, hat.2.1⟩]
      refine n_if_eq X 97 d_M_join_17 rfl (by omega) (fun hc => absurd hc (by decide)) (fun hc => ?_)
      refine x_aload_n X d_M_join_20 rfl hl rfl ?_
      refine x_iload_n X d_M_join_21 rfl hl rfl ?_
      refine x_iload X d_M_join_22 hl rfl ?_
      refine x_iconst (v := nI 0) X d_M_join_24 rfl ?_
      refine x_goR (x_runV X (C_M_is l D A _ a lo hi en md vs n zf mk pl ct w hP hw hn (f + ft_zT (d :: sp) o + ft_zR row) k 0 (by omega) (by omega) (by decide)) b_M_is s_M_is v_M_is e_M_64 (m_at hP) rfl rfl hl rfl (Nat.le_of_ble_eq_true rfl) d_M_join_25 (Nat.le_of_ble_eq_true rfl) (Nat.le_of_ble_eq_true rfl) ⟨Nat.le_of_ble_eq_true rfl, Nat.le_of_ble_eq_true rfl⟩) hS (fun locs hS => ?_)
      cases sp2 with
      | nil =>
        cases o2 with
        | none =>
          have hz2 : ft_zT [] none = 0 := rfl
          rw [hz2, Nat.add_zero] at hend hf hQ hB
          have hjn : ft_jn (d :: sp) o row [] none (md, zf) = ft_ab row ((d :: sp, o), (md, zf)) := rfl
          rw [hjn] at hQ hmd
          rw [ft_isE hend]
          refine n_if_eq X 97 d_M_join_28 rfl (by omega) (fun hc => ?_) (fun hc => absurd rfl hc)
          refine x_aload_n X d_M_join_97 rfl hl rfl ?_
          refine x_iload_n X d_M_join_98 rfl hl rfl ?_
          refine x_iconst (v := nI 1) X d_M_join_99 rfl ?_
          refine x_isub X d_M_join_100 ?_
          refine x_iload X d_M_join_101 hl rfl ?_
          refine x_goR (x_runV X (C_M_treeb l D A _ a lo hi en md vs n zf mk pl ct w hP hw hn (f + ft_zT (d :: sp) o) k (by omega) (by omega)) b_M_tree s_M_tree v_M_tree e_M_88 (m_at hP) rfl rfl hl rfl (Nat.le_of_ble_eq_true rfl) d_M_join_103 (Nat.le_of_ble_eq_true rfl) (Nat.le_of_ble_eq_true rfl) ⟨Nat.le_of_ble_eq_true rfl, Nat.le_of_ble_eq_true rfl⟩) hS (fun locs hS => ?_)
          rw [ft_trb1 (by omega) (by omega) hat.1]
          refine x_istore X d_M_join_106 hl (by decide) rfl (fun ls hl => ?_)
          refine x_iload X d_M_join_108 hl rfl ?_
          refine n_if_eq X 138 d_M_join_110 rfl (by omega) (fun hc => absurd hc (by decide)) (fun hc => ?_)
          refine x_aload_n X d_M_join_113 rfl hl rfl ?_
          refine x_iload_n X d_M_join_114 rfl hl rfl ?_
          refine x_iload X d_M_join_115 hl rfl ?_
          refine x_goR (x_runV X (C_M_tree l D A _ a lo hi en md vs n zf mk pl ct w hP hw hn (f + ft_zT (d :: sp) o + ft_zR row) k (by omega) (by omega)) b_M_tree s_M_tree v_M_tree e_M_88 (m_at hP) rfl rfl hl rfl (Nat.le_of_ble_eq_true rfl) d_M_join_117 (Nat.le_of_ble_eq_true rfl) (Nat.le_of_ble_eq_true rfl) ⟨Nat.le_of_ble_eq_true rfl, Nat.le_of_ble_eq_true rfl⟩) hS (fun locs hS => ?_)
          rw [ft_tr0 hend]
          refine n_if_eq X 164 d_M_join_120 rfl (by omega) (fun hc => ?_) (fun hc => absurd rfl hc)
          refine x_aload_n X d_M_join_164 rfl hl rfl ?_
          refine x_iload_n X d_M_join_165 rfl hl rfl ?_
          refine x_aload_n X d_M_join_166 rfl hl rfl ?_
          refine x_iload_n X d_M_join_167 rfl hl rfl ?_
          refine x_iload X d_M_join_168 hl rfl ?_
          refine x_goR (x_runV X (C_M_tree l D A _ a lo hi en md vs n zf mk pl ct w hP hw hn (f + ft_zT (d :: sp) o + ft_zR row) k (by omega) (by omega)) b_M_tree s_M_tree v_M_tree e_M_88 (m_at hP) rfl rfl hl rfl (Nat.le_of_ble_eq_true rfl) d_M_join_170 (Nat.le_of_ble_eq_true rfl) (Nat.le_of_ble_eq_true rfl) ⟨Nat.le_of_ble_eq_true rfl, Nat.le_of_ble_eq_true rfl⟩) hS (fun locs hS => ?_)
          rw [ft_tr0 hend]
          refine n_if_eq X 186 d_M_join_173 rfl (by omega) (fun hc => ?_) (fun hc => absurd rfl hc)
          refine x_iload_n X d_M_join_186 rfl hl rfl ?_
          refine x_iload X d_M_join_187 hl rfl ?_
          refine x_go0 (x_runV X (C_M_backAll l D A _ a lo hi en md vs n zf mk pl ct w hP hd hw hz he hn k f row (d :: sp) o okr ok1 h1 hr hk (by omega) hf hbeg hmd) b_M_backAll s_M_backAll v_M_backAll e_M_95 (m_at hP) rfl rfl hl rfl (Nat.le_of_ble_eq_true rfl) d_M_join_189 (Nat.le_of_ble_eq_true rfl) (Nat.le_of_ble_eq_true rfl) ⟨Nat.le_of_ble_eq_true rfl, Nat.le_of_ble_eq_true rfl⟩) hS (fun _ h => h) (fun H locs hP hF hS => ?_)
          obtain ⟨w', hP', hw', hh', heo'⟩ := hP
          exact x_vret X hS (Nat.le_refl _) (Nat.le_refl _) d_M_join_192 ⟨rfl, hQ _ _ hP' hw' hh' (heo')⟩
        | some y =>
          have oky : ft_ok en md zf k y := ok2
          have hy : ft_hd w (f + ft_zT (d :: sp) o + ft_zR row) (ft_wI 2 y) := h2
          have hzy := ft_ok_zpos oky
          have hz2 : ft_zT [] (some y) = ft_z y := rfl
          rw [hz2] at hend hf hQ hB
          have hjn : ft_jn (d :: sp) o row [] (some y) (md, zf) = ft_ab (row ++ [y]) ((d :: sp, o), (md, zf)) := by rw [ft_ab_app]; rfl
          rw [hjn] at hQ hmd
          have haty := ft_wI_at (i := 0) oky hy he (by omega) hk (by decide) hzy
          rw [Nat.add_zero] at haty
          have hzc : ft_zR (row ++ [y]) = ft_zR row + ft_z y := by rw [ft_zR_app]; simp [ft_zR]
          rw [ft_is0 (fun h => by omega)]
          refine n_if_eq X 97 d_M_join_28 rfl (by omega) (fun hc => ?_) (fun hc => absurd rfl hc)
          refine x_aload_n X d_M_join_97 rfl hl rfl ?_
          refine x_iload_n X d_M_join_98 rfl hl rfl ?_
          refine x_iconst (v := nI 1) X d_M_join_99 rfl ?_
          refine x_isub X d_M_join_100 ?_
          refine x_iload X d_M_join_101 hl rfl ?_
          refine x_goR (x_runV X (C_M_treeb l D A _ a lo hi en md vs n zf mk pl ct w hP hw hn (f + ft_zT (d :: sp) o) k (by omega) (by omega)) b_M_tree s_M_tree v_M_tree e_M_88 (m_at hP) rfl rfl hl rfl (Nat.le_of_ble_eq_true rfl) d_M_join_103 (Nat.le_of_ble_eq_true rfl) (Nat.le_of_ble_eq_true rfl) ⟨Nat.le_of_ble_eq_true rfl, Nat.le_of_ble_eq_true rfl⟩) hS (fun locs hS => ?_)
          rw [ft_trb1 (by omega) (by omega) hat.1]
          refine x_istore X d_M_join_106 hl (by decide) rfl (fun ls hl => ?_)
          refine x_iload X d_M_join_108 hl rfl ?_
          refine n_if_eq X 138 d_M_join_110 rfl (by omega) (fun hc => absurd hc (by decide)) (fun hc => ?_)
          refine x_aload_n X d_M_join_113 rfl hl rfl ?_
          refine x_iload_n X d_M_join_114 rfl hl rfl ?_
          refine x_iload X d_M_join_115 hl rfl ?_
          refine x_goR (x_runV X (C_M_tree l D A _ a lo hi en md vs n zf mk pl ct w hP hw hn (f + ft_zT (d :: sp) o + ft_zR row) k (by omega) (by omega)) b_M_tree s_M_tree v_M_tree e_M_88 (m_at hP) rfl rfl hl rfl (Nat.le_of_ble_eq_true rfl) d_M_join_117 (Nat.le_of_ble_eq_true rfl) (Nat.le_of_ble_eq_true rfl) ⟨Nat.le_of_ble_eq_true rfl, Nat.le_of_ble_eq_true rfl⟩) hS (fun locs hS => ?_)
          rw [ft_tr1 (by omega) haty.2.1]
          refine n_if_eq X 164 d_M_join_120 rfl (by omega) (fun hc => absurd hc (by decide)) (fun hc => ?_)
          refine x_aload_n X d_M_join_123 rfl hl rfl ?_
          refine m_get X hP 9 (by decide) e_M_34 rfl d_M_join_124 ?_
          refine x_iload_n X d_M_join_127 rfl hl rfl ?_
          refine x_iconst (v := nI 1) X d_M_join_128 rfl ?_
          refine n_isub X d_M_join_129 (by omega) ?_
          refine m_ld_w X hP (by omega) d_M_join_130 ?_
          refine x_goR (x_runS X (C_M_side l D A _ (w (f + ft_zT (d :: sp) o - 1)) (by omega)) b_M_side s_M_side e_M_44 rfl hl rfl (Nat.le_of_ble_eq_true rfl) d_M_join_131 (Nat.le_of_ble_eq_true rfl) (Nat.le_of_ble_eq_true rfl) ⟨Nat.le_of_ble_eq_true rfl, Nat.le_of_ble_eq_true rfl⟩) hS (fun locs hS => ?_)
          refine x_iconst (v := nI 2) X d_M_join_134 rfl ?_
          refine n_icmp_ne X 164 d_M_join_135 rfl (by omega) (by omega) (fun hc => ?_) (fun hc => absurd hc (by omega))
          refine x_aload_n X d_M_join_164 rfl hl rfl ?_
          refine x_iload_n X d_M_join_165 rfl hl rfl ?_
          refine x_aload_n X d_M_join_166 rfl hl rfl ?_
          refine x_iload_n X d_M_join_167 rfl hl rfl ?_
          refine x_iload X d_M_join_168 hl rfl ?_
          refine x_goR (x_runV X (C_M_tree l D A _ a lo hi en md vs n zf mk pl ct w hP hw hn (f + ft_zT (d :: sp) o + ft_zR row) k (by omega) (by omega)) b_M_tree s_M_tree v_M_tree e_M_88 (m_at hP) rfl rfl hl rfl (Nat.le_of_ble_eq_true rfl) d_M_join_170 (Nat.le_of_ble_eq_true rfl) (Nat.le_of_ble_eq_true rfl) ⟨Nat.le_of_ble_eq_true rfl, Nat.le_of_ble_eq_true rfl⟩) hS (fun locs hS => ?_)
          rw [ft_tr1 (by omega) haty.2.1]
          refine n_if_eq X 186 d_M_join_173 rfl (by omega) (fun hc => absurd hc (by decide)) (fun hc => ?_)
          refine x_aload_n X d_M_join_176 rfl hl rfl ?_
          refine x_iload_n X d_M_join_177 rfl hl rfl ?_
          refine x_iload X d_M_join_178 hl rfl ?_
          refine x_goR (x_runV X (C_M_endI l D A _ a lo hi en md vs n zf mk pl ct w hP hw hz en md k _ 2 y oky hy he hmd0 hk (by decide) (by omega)) b_M_end s_M_end v_M_end e_M_60 (m_at hP) rfl rfl hl rfl (Nat.le_of_ble_eq_true rfl) d_M_join_180 (Nat.le_of_ble_eq_true rfl) (Nat.le_of_ble_eq_true rfl) ⟨Nat.le_of_ble_eq_true rfl, Nat.le_of_ble_eq_true rfl⟩) hS (fun locs hS => ?_)
          refine x_goto X 187 d_M_join_183 rfl ?_
          refine x_iload X d_M_join_187 hl rfl ?_
          rw [show (f + ft_zT (d :: sp) o + ft_zR row) + ft_z y = (f + ft_zT (d :: sp) o) + ft_zR (row ++ [y]) from by rw [hzc]; omega] at hf hQ ⊢
          refine x_go0 (x_runV X (C_M_backAll l D A _ a lo hi en md vs n zf mk pl ct w hP hd hw hz he hn k f (row ++ [y]) (d :: sp) o (ft_okR_app okr (ft_okR_one oky)) ok1 h1 (ft_hx_app.2 ⟨hr, ⟨2, by decide, hy⟩, trivial⟩) hk (by rw [hzc]; omega) hf hbeg hmd) b_M_backAll s_M_backAll v_M_backAll e_M_95 (m_at hP) rfl rfl hl rfl (Nat.le_of_ble_eq_true rfl) d_M_join_189 (Nat.le_of_ble_eq_true rfl) (Nat.le_of_ble_eq_true rfl) ⟨Nat.le_of_ble_eq_true rfl, Nat.le_of_ble_eq_true rfl⟩) hS (fun _ h => h) (fun H locs hP hF hS => ?_)
          obtain ⟨w', hP', hw', hh', heo'⟩ := hP
          exact x_vret X hS (Nat.le_refl _) (Nat.le_refl _) d_M_join_192 ⟨rfl, hQ _ _ hP' hw' hh' (heo')⟩
      | cons d2 sp2 =>
        have hat2 := ft_wT_first ok2 rfl h2 he (by omega) hk
        simp only [List.isEmpty_cons, Bool.false_eq_true, if_false] at hat2
        have hzd2 := ft_okT_zd ok2
        have hT2 : ft_zT (d2 :: sp2) o2 = ft_zR d2.1 + ft_zT sp2 o2 + ft_zR d2.2 := rfl
        obtain ⟨a1, a2, a3⟩ := ft_hd3 h1
        obtain ⟨b1, b2, b3⟩ := ft_hd3 h2
        have hk2 : k < 3 := by
          have : 2 ^ k < 2 ^ 3 := by omega
          exact (Nat.pow_lt_pow_iff_right (by decide)).1 this
        rw [ft_is1 (by omega) ⟨hat2.1, hat2.2.1⟩]
        have hah := ft_ahead ok1.2.2 ok1.1.2.2 ok1.1.1 a1 a2 he (by omega) hk (fun _ => by omega)
        have hpa := ft_past ok2.2.2 ok2.2.1.2.2 ok2.2.1.1 b2 b3 he (by omega) hk (fun _ => by omega)
        refine n_if_eq X 97 d_M_join_28 rfl (by omega) (fun hc => absurd hc (by decide)) (fun hc => ?_)
        refine x_iload_n X d_M_join_31 rfl hl rfl ?_
        refine x_istore X d_M_join_32 hl (by decide) rfl (fun ls hl => ?_)
        have down : ∀ (i : Nat) (locs : List Loc) (ls : Array Slot), i ≤ ft_zR d.2 → lz ls 7 [some (.ref (a 0)), some (.int p0), some (.int (nI (f + ft_zT (d :: sp) o))), some (.int (nI (f + ft_zT (d :: sp) o + ft_zR row))), some (.int (nI k)), some (.int (nI ((f + ft_zR d.1 + ft_zT sp o) + i))), v6] → va_S (mFr a) H0 H1 locs →
            (∀ (locs : List Loc) (ls : Array Slot), lz ls 7 [some (.ref (a 0)), some (.int p0), some (.int (nI (f + ft_zT (d :: sp) o))), some (.int (nI (f + ft_zT (d :: sp) o + ft_zR row))), some (.int (nI k)), some (.int (nI (f + ft_zR d.1 + ft_zT sp o))), v6] → va_S (mFr a) H0 H1 locs → W p_ l e_ (x_rm 5 0 0) s_ m_ ar_ bl_ me_ c_ H1 locs 0 0 (MQ bl_ (xQ (mFr a) (q0 Post)) ar_ s_ 0 0 (mFr a)) (F0 m_ 54 ls [])) → W p_ l e_ (x_rm 5 0 0) s_ m_ ar_ bl_ me_ c_ H1 locs 0 0 (MQ bl_ (xQ (mFr a) (q0 Post)) ar_ s_ 0 0 (mFr a)) (F0 m_ 34 ls []) := by
          intro i
          induction i with
          | zero =>
            intro locs ls hi2 hl hS kk
            rw [Nat.add_zero] at hl
            refine x_aload_n X d_M_join_34 rfl hl rfl ?_
            refine x_iload X d_M_join_35 hl rfl ?_
            refine x_iconst (v := nI 1) X d_M_join_37 rfl ?_
            refine x_isub X d_M_join_38 ?_
            refine x_iload X d_M_join_39 hl rfl ?_
            refine x_iconst (v := nI 1) X d_M_join_41 rfl ?_
            refine x_goR (x_runV X (C_M_isb l D A _ a lo hi en md vs n zf mk pl ct w hP hw hn (f + ft_zR d.1 + ft_zT sp o) k 1 (by omega) (by omega) (by decide)) b_M_is s_M_is v_M_is e_M_64 (m_at hP) rfl rfl hl rfl (Nat.le_of_ble_eq_true rfl) d_M_join_42 (Nat.le_of_ble_eq_true rfl) (Nat.le_of_ble_eq_true rfl) ⟨Nat.le_of_ble_eq_true rfl, Nat.le_of_ble_eq_true rfl⟩) hS (fun locs hS => ?_)
            rw [ft_isb0 (fun h3 h4 => by omega)]
            refine n_if_eq X 54 d_M_join_45 rfl (by omega) (fun hc => ?_) (fun hc => absurd rfl hc)
            exact kk _ _ hl hS
          | succ i ih2 =>
            intro locs ls hi2 hl hS kk
            have hati := ft_wR_at (i := i) ok1.2.1.2.2 a3 he (by omega) hk (by decide) (by omega)
            refine x_aload_n X d_M_join_34 rfl hl rfl ?_
            refine x_iload X d_M_join_35 hl rfl ?_
            refine x_iconst (v := nI 1) X d_M_join_37 rfl ?_
            refine x_isub X d_M_join_38 ?_
            refine x_iload X d_M_join_39 hl rfl ?_
            refine x_iconst (v := nI 1) X d_M_join_41 rfl ?_
            refine x_goR (x_runV X (C_M_isb l D A _ a lo hi en md vs n zf mk pl ct w hP hw hn ((f + ft_zR d.1 + ft_zT sp o) + (i + 1)) k 1 (by omega) (by omega) (by decide)) b_M_is s_M_is v_M_is e_M_64 (m_at hP) rfl rfl hl rfl (Nat.le_of_ble_eq_true rfl) d_M_join_42 (Nat.le_of_ble_eq_true rfl) (Nat.le_of_ble_eq_true rfl) ⟨Nat.le_of_ble_eq_true rfl, Nat.le_of_ble_eq_true rfl⟩) hS (fun locs hS => ?_)
            rw [ft_isb1 (by omega) (by omega) ⟨hati.2.1, hati.1⟩]
            refine n_if_eq X 54 d_M_join_45 rfl (by omega) (fun hc => absurd hc (by decide)) (fun hc => ?_)
            refine n_idec X d_M_join_48 (by omega) hl rfl (by decide) rfl (fun ls hl => ?_)
            refine x_goto X 34 d_M_join_51 rfl ?_
            exact ih2 _ _ (by omega) hl hS kk
        refine down (ft_zR d.2) _ _ (Nat.le_refl _) (by rw [show (f + ft_zR d.1 + ft_zT sp o) + ft_zR d.2 = (f + ft_zT (d :: sp) o) from by omega]; exact hl) hS (fun locs ls hl hS => ?_)
        clear down
        refine x_iload_n X d_M_join_54 rfl hl rfl ?_
        refine x_istore X d_M_join_55 hl (by decide) rfl (fun ls hl => ?_)
        have up : ∀ (g i : Nat) (locs : List Loc) (ls : Array Slot), ft_zR d2.1 - i = g → i ≤ ft_zR d2.1 → lz ls 7 [some (.ref (a 0)), some (.int p0), some (.int (nI (f + ft_zT (d :: sp) o))), some (.int (nI (f + ft_zT (d :: sp) o + ft_zR row))), some (.int (nI k)), some (.int (nI (f + ft_zR d.1 + ft_zT sp o))), some (.int (nI ((f + ft_zT (d :: sp) o + ft_zR row) + i)))] → va_S (mFr a) H0 H1 locs →
            (∀ (locs : List Loc) (ls : Array Slot), lz ls 7 [some (.ref (a 0)), some (.int p0), some (.int (nI (f + ft_zT (d :: sp) o))), some (.int (nI (f + ft_zT (d :: sp) o + ft_zR row))), some (.int (nI k)), some (.int (nI (f + ft_zR d.1 + ft_zT sp o))), some (.int (nI ((f + ft_zT (d :: sp) o + ft_zR row) + ft_zR d2.1)))] → va_S (mFr a) H0 H1 locs → W p_ l e_ (x_rm 5 0 0) s_ m_ ar_ bl_ me_ c_ H1 locs 0 0 (MQ bl_ (xQ (mFr a) (q0 Post)) ar_ s_ 0 0 (mFr a)) (F0 m_ 75 ls [])) → W p_ l e_ (x_rm 5 0 0) s_ m_ ar_ bl_ me_ c_ H1 locs 0 0 (MQ bl_ (xQ (mFr a) (q0 Post)) ar_ s_ 0 0 (mFr a)) (F0 m_ 57 ls []) := by
          intro g
          induction g with
          | zero =>
            intro i locs ls hg hi2 hl hS kk
            have hie : i = ft_zR d2.1 := by omega
            subst hie
            refine x_aload_n X d_M_join_57 rfl hl rfl ?_
            refine x_iload X d_M_join_58 hl rfl ?_
            refine x_iload X d_M_join_60 hl rfl ?_
            refine x_iconst (v := nI 0) X d_M_join_62 rfl ?_
            refine x_goR (x_runV X (C_M_is l D A _ a lo hi en md vs n zf mk pl ct w hP hw hn ((f + ft_zT (d :: sp) o + ft_zR row) + ft_zR d2.1) k 0 (by omega) (by omega) (by decide)) b_M_is s_M_is v_M_is e_M_64 (m_at hP) rfl rfl hl rfl (Nat.le_of_ble_eq_true rfl) d_M_join_63 (Nat.le_of_ble_eq_true rfl) (Nat.le_of_ble_eq_true rfl) ⟨Nat.le_of_ble_eq_true rfl, Nat.le_of_ble_eq_true rfl⟩) hS (fun locs hS => ?_)
            rw [ft_is0 (fun h4 => by omega)]
            refine n_if_eq X 75 d_M_join_66 rfl (by omega) (fun hc => ?_) (fun hc => absurd rfl hc)
            exact kk _ _ hl hS
          | succ g ih2 =>
            intro i locs ls hg hi2 hl hS kk
            have hati := ft_wR_at (i := i) ok2.1.2.2 b1 he (by omega) hk (by decide) (by omega)
            refine x_aload_n X d_M_join_57 rfl hl rfl ?_
            refine x_iload X d_M_join_58 hl rfl ?_
            refine x_iload X d_M_join_60 hl rfl ?_
            refine x_iconst (v := nI 0) X d_M_join_62 rfl ?_
            refine x_goR (x_runV X (C_M_is l D A _ a lo hi en md vs n zf mk pl ct w hP hw hn ((f + ft_zT (d :: sp) o + ft_zR row) + i) k 0 (by omega) (by omega) (by decide)) b_M_is s_M_is v_M_is e_M_64 (m_at hP) rfl rfl hl rfl (Nat.le_of_ble_eq_true rfl) d_M_join_63 (Nat.le_of_ble_eq_true rfl) (Nat.le_of_ble_eq_true rfl) ⟨Nat.le_of_ble_eq_true rfl, Nat.le_of_ble_eq_true rfl⟩) hS (fun locs hS => ?_)
            rw [ft_is1 (by omega) ⟨hati.2.1, hati.1⟩]
            refine n_if_eq X 75 d_M_join_66 rfl (by omega) (fun hc => absurd hc (by decide)) (fun hc => ?_)
            refine n_iinc (d := 1) X d_M_join_69 rfl hl rfl (by decide) rfl (fun ls hl => ?_)
            refine x_goto X 57 d_M_join_72 rfl ?_
            exact ih2 (i + 1) _ _ (by omega) (by omega) hl hS kk
        refine up (ft_zR d2.1) 0 _ _ rfl (Nat.zero_le _) hl hS (fun locs ls hl hS => ?_)
        clear up
        have hzrow : ft_zR (d.2 ++ row ++ d2.1) = ft_zR d.2 + ft_zR row + ft_zR d2.1 := by rw [ft_zR_app, ft_zR_app]
        have hlrow : (d.2 ++ row ++ d2.1).length = d.2.length + row.length + d2.1.length := by simp; omega
        have okrow := ft_okR_app (ft_okR_app ok1.2.1.2.2 okr) ok2.1.2.2
        have q1 := ok1.2.1.1
        have q2 := ok1.2.1.2.1
        have q3 := ok2.1.1
        have q4 := ok2.1.2.1
        obtain ⟨g1, g2, g3, g4, g5⟩ := ft_gr_ok (ne := en) (k := k) 16 (d.2 ++ row ++ d2.1) (md, zf) (by omega) (by omega) okrow
        have hjn : ft_jn (d :: sp) o row (d2 :: sp2) o2 (md, zf) = (((d.1, d2.2) :: (ft_jn sp o (ft_gr 16 (d.2 ++ row ++ d2.1) (md, zf)).1 sp2 o2 (ft_gr 16 (d.2 ++ row ++ d2.1) (md, zf)).2).1.1, (ft_jn sp o (ft_gr 16 (d.2 ++ row ++ d2.1) (md, zf)).1 sp2 o2 (ft_gr 16 (d.2 ++ row ++ d2.1) (md, zf)).2).1.2), (ft_jn sp o (ft_gr 16 (d.2 ++ row ++ d2.1) (md, zf)).1 sp2 o2 (ft_gr 16 (d.2 ++ row ++ d2.1) (md, zf)).2).2) := rfl
        have ok1' := ft_okT_ex g1 ok1.2.2
        have ok2' := ft_okT_ex g1 ok2.2.2
        rw [hjn] at hQ hmd
        have hgl : (ft_gr 16 (d.2 ++ row ++ d2.1) (md, zf)).1.length ≤ 4 := by rw [g3, hlrow]; omega
        have hmdg : (ft_gr 16 (d.2 ++ row ++ d2.1) (md, zf)).2.1 < 4200 := by
          have := (ft_jn_ok (ne := en) sp o (ft_gr 16 (d.2 ++ row ++ d2.1) (md, zf)).1 sp2 o2 (ft_gr 16 (d.2 ++ row ++ d2.1) (md, zf)).2 (k + 1) hgl g2 ok1' ok2').1.1
          exact Nat.lt_of_le_of_lt this hmd
        have hxrow : ft_hx w (f + ft_zR d.1 + ft_zT sp o) (d.2 ++ row ++ d2.1) := by
          rw [ft_hx_app, ft_hx_app, ft_zR_app]
          refine ⟨⟨ft_hx_of (by decide) a3, ?_⟩, ?_⟩
          · rw [show (f + ft_zR d.1 + ft_zT sp o) + ft_zR d.2 = (f + ft_zT (d :: sp) o) from by omega]; exact hr
          · rw [show (f + ft_zR d.1 + ft_zT sp o) + (ft_zR d.2 + ft_zR row) = (f + ft_zT (d :: sp) o + ft_zR row) from by omega]; exact ft_hx_of (by decide) b1
        refine x_aload_n X d_M_join_75 rfl hl rfl ?_
        refine x_iload X d_M_join_76 hl rfl ?_
        refine x_iload X d_M_join_78 hl rfl ?_
        refine x_iload X d_M_join_80 hl rfl ?_
        rw [show (f + ft_zT (d :: sp) o + ft_zR row) + ft_zR d2.1 = (f + ft_zR d.1 + ft_zT sp o) + ft_zR (d.2 ++ row ++ d2.1) from by rw [hzrow]; omega] at hl ⊢
        refine x_go0 (x_runV X (C_M_group l D A _ a lo hi en md vs n zf mk pl ct w hP hd hw hz he hn k (f + ft_zR d.1 + ft_zT sp o) (d.2 ++ row ++ d2.1) okrow hxrow hk2 (by omega) (by omega) (by rw [hzrow]; omega) hmdg) b_M_group s_M_group v_M_group e_M_85 (m_at hP) rfl rfl hl rfl (Nat.le_of_ble_eq_true rfl) d_M_join_82 (Nat.le_of_ble_eq_true rfl) (Nat.le_of_ble_eq_true rfl) ⟨Nat.le_of_ble_eq_true rfl, Nat.le_of_ble_eq_true rfl⟩) hS (fun _ h => h) (fun H locs hP hF hS => ?_)
        obtain ⟨w3, hP, hw3, hh3, heo3⟩ := hP
        have hzg : ft_zR (ft_gr 16 (d.2 ++ row ++ d2.1) (md, zf)).1 = ft_zR d.2 + ft_zR row + ft_zR d2.1 := by rw [g4, hzrow]
        rw [hzrow] at heo3
        rw [hzrow, ← hzg] at hl
        refine x_iload X d_M_join_85 hl rfl ?_
        refine x_istore_n X d_M_join_87 rfl hl (by decide) rfl (fun ls hl => ?_)
        refine x_iload X d_M_join_88 hl rfl ?_
        refine x_istore_n X d_M_join_90 rfl hl (by decide) rfl (fun ls hl => ?_)
        refine n_iinc (d := 1) X d_M_join_91 rfl hl rfl (by decide) rfl (fun ls hl => ?_)
        refine x_goto X 7 d_M_join_94 rfl ?_
        have z1 := ft_wR_at (i := ft_zR d.1 - 1) ok1.1.2.2 a1 he (by omega) hk (by decide) (by omega)
        rw [show f + (ft_zR d.1 - 1) = f + ft_zR d.1 - 1 from by omega] at z1
        have z2 := ft_wR_at (i := 0) ok2.2.1.2.2 b3 he (by omega) hk (by decide) (by omega)
        rw [Nat.add_zero] at z2
        have hce : (f + ft_zT (d :: sp) o + ft_zR row) + ft_zR d2.1 = (f + ft_zR d.1 + ft_zT sp o + (ft_zR d.2 + ft_zR row + ft_zR d2.1)) := by omega
        rw [hce] at b2 b3 z2
        refine ih (ft_gr 16 (d.2 ++ row ++ d2.1) (md, zf)).1 sp2 (k + 1) (f + ft_zR d.1) (ft_gr 16 (d.2 ++ row ++ d2.1) (md, zf)).2.1 (ft_gr 16 (d.2 ++ row ++ d2.1) (md, zf)).2.2 w3 _ _ _ _ _ hl hP hw3 (ft_gr_128 16 _ _ hz (by rw [hzrow]; omega)) g2 ok1' ok2' (ft_eo_hd heo3 a2 (Or.inl (by rw [ft_wT_len]; exact Nat.le_refl _))) (ft_hx_of (by decide) hh3) (by rw [hzg]; exact ft_eo_hd heo3 b2 (Or.inr (Nat.le_refl _))) hgl (by omega) (by rw [Nat.pow_succ, hzg]; omega) (by rw [hzg]; omega) (fun _ => ?_) (fun _ => ?_) hmd ?_ hS
        · rw [hzg, heo3 _ (Or.inr (by omega)), z2.2.1]; omega
        · rw [heo3 _ (Or.inl (by omega)), z1.2.1]; omega
        · intro w4 H4 hP4 hw4 hh4 heo4
          rw [hzg] at heo4
          have hzj := (ft_jn_ok (ne := en) sp o (ft_gr 16 (d.2 ++ row ++ d2.1) (md, zf)).1 sp2 o2 (ft_gr 16 (d.2 ++ row ++ d2.1) (md, zf)).2 (k + 1) hgl g2 ok1' ok2').2.2
          rw [hzg] at hzj
          have heo34 : ft_eo w w4 (f + ft_zR d.1) ((f + ft_zR d.1 + ft_zT sp o + (ft_zR d.2 + ft_zR row + ft_zR d2.1)) + ft_zT sp2 o2) := ft_eo_tr (ft_eo_wd heo3 (by omega) (by omega)) heo4
          refine hQ w4 H4 hP4 hw4 (ft_hd3' ?_ hh4 ?_) (ft_eo_wd heo34 (by omega) (by omega))
          · exact ft_eo_hd heo34 a1 (Or.inl (by rw [ft_wR_len]; exact Nat.le_refl _))
          · rw [hzj, show f + ft_zR d.1 + (ft_zT sp o + (ft_zR d.2 + ft_zR row + ft_zR d2.1) + ft_zT sp2 o2) = (f + ft_zR d.1 + ft_zT sp o + (ft_zR d.2 + ft_zR row + ft_zR d2.1)) + ft_zT sp2 o2 from by omega]
            exact ft_eo_hd heo34 b3 (Or.inr (Nat.le_refl _))
  refine loop (nI (ft_zT sp o)) sp [] sp2 0 0 md zf w none none H0 [] _ ?_ hP hw hz (fun y hy => by simp at hy) ok1 ok2 h1 trivial ?_ (by simp) (by decide) ?_ ?_ (fun h => ?_) (fun h => absurd h (by decide)) hmd (fun w' H1 h1 h2 h3 h4 => by rw [← hPost]; exact ⟨w', h1, h2, h3⟩) hS
  · simp only [ft_zR, Nat.zero_add, Nat.add_zero]; exact hl
  · simp only [ft_zR, Nat.zero_add, Nat.add_zero]; exact h2
  · simp only [ft_zR]; omega
  · simp only [ft_zR]; omega
  · simp only [ft_zR] at h; omega
