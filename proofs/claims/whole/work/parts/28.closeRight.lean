/-! Contract of the reference: closeRight. -/
theorem ft_op_r0 {dl : List ft_I} {sp : ft_S} {o : Option ft_I} (hl : 1 ≤ dl.length) : ft_op dl sp o [] = if ft_em sp o then ft_ln dl else ((dl, ft_ps (ft_la sp o)) :: (ft_le sp o).1, (ft_le sp o).2) := by
  have hn : dl.length ≠ 0 := by omega
  unfold ft_op
  rw [if_neg (by simp)]
  simp only [if_neg hn]
set_option maxRecDepth 100000 in
set_option maxHeartbeats 4000000 in
theorem C_M_closeRight (l : Launch) (D : va_G) (A : Nat → ClassId) (H0 : Heap) (a : Nat → Nat) (lo hi : Nat → Int32) (en md vs n : Nat) (zf mk pl ct w : Nat → Nat) (hP : mH D a A lo hi en zf mk md pl ct vs w n H0) (hd : mDs a) (hw : ft_bw w) (hz : ∀ i, zf i < 128) (he : en ≤ 128) (hm : md < 4200) (hn : n ≤ 48) (k f : Nat) (dl dr : List ft_I) (sp : ft_S) (o : Option ft_I) (okl : ft_okR en md zf k dl) (okr : ft_okR en md zf k dr) (okm : ft_okT en md zf (k + 1) sp o) (h1 : ft_hd w f (ft_wR 0 dl)) (h2 : ft_hd w (f + ft_zR dl) (ft_wT sp o)) (h3 : ft_hd w (f + ft_zR dl + ft_zT sp o) (ft_wR 1 dr)) (hl1 : 1 ≤ dl.length) (hl4 : dl.length ≤ 4) (hr4 : dr.length ≤ 4) (hB : 3 * 2 ^ k + (ft_zR dl + ft_zT sp o + ft_zR dr) ≤ 42) (hf : f + (ft_zR dl + ft_zT sp o + ft_zR dr) ≤ n) (hend : (0 < f → ft_le8 (w (f - 1)) < k)) : xC l y_M_closeRight c_M_closeRight 7 (none : Option FieldType) 3 D A H0 [.ref (a 0), .int (nI (f + (ft_zR dl + ft_zT sp o + ft_zR dr))), .int (nI k)] (mFr a) (q0 (fun H1 => ∃ w', mH D a A lo hi en zf mk md pl ct vs w' n H1 ∧ ft_bw w' ∧ ft_hd w' f (ft_wT (ft_op dl sp o dr).1 (ft_op dl sp o dr).2) ∧ ft_eo w w' f (f + (ft_zR dl + ft_zT sp o + ft_zR dr)))) 0 0 := by
  refine xC.of rfl (Nat.le_of_ble_eq_true rfl) ?_
  intro p_ e_ s_ m_ ar_ bl_ me_ c_ ls X hl
  have hl : lz ls 7 [some (.ref (a 0)), some (.int (nI (f + (ft_zR dl + ft_zT sp o + ft_zR dr)))), some (.int (nI k)), none, none, none, none] := hl
  have hS : va_S (mFr a) H0 H0 [] := va_S.rf
  refine x_iload_n X d_M_closeRight_0 rfl hl rfl ?_
  refine x_istore_n X d_M_closeRight_1 rfl hl (by decide) rfl (fun ls hl => ?_)
  refine x_iload_n X d_M_closeRight_2 rfl hl rfl ?_
  refine x_istore X d_M_closeRight_3 hl (by decide) rfl (fun ls hl => ?_)
  generalize hPost : (fun H1 => ∃ w', mH D a A lo hi en zf mk md pl ct vs w' n H1 ∧ ft_bw w' ∧ ft_hd w' f (ft_wT (ft_op dl sp o dr).1 (ft_op dl sp o dr).2) ∧ ft_eo w w' f (f + (ft_zR dl + ft_zT sp o + ft_zR dr))) = Post
  have loop : ∀ (s0 k0 : Int32) (sp : ft_S) (dl dr : List ft_I) (k f : Nat) (w : Nat → Nat) (v5 v6 : Option Value) (H1 : Heap) (locs : List Loc) (ls : Array Slot), lz ls 7 [some (.ref (a 0)), some (.int s0), some (.int k0), some (.int (nI (f + (ft_zR dl + ft_zT sp o + ft_zR dr)))), some (.int (nI k)), v5, v6] → mH D a A lo hi en zf mk md pl ct vs w n H1 → ft_bw w → ft_okR en md zf k dl → ft_okR en md zf k dr → ft_okT en md zf (k + 1) sp o → ft_hd w f (ft_wR 0 dl) → ft_hd w (f + ft_zR dl) (ft_wT sp o) → ft_hd w (f + ft_zR dl + ft_zT sp o) (ft_wR 1 dr) → 1 ≤ dl.length → dl.length ≤ 4 → dr.length ≤ 4 → 3 * 2 ^ k + (ft_zR dl + ft_zT sp o + ft_zR dr) ≤ 42 → f + (ft_zR dl + ft_zT sp o + ft_zR dr) ≤ n → (0 < f → ft_le8 (w (f - 1)) < k) →
      (∀ (w' : Nat → Nat) (H1 : Heap), mH D a A lo hi en zf mk md pl ct vs w' n H1 → ft_bw w' → ft_hd w' f (ft_wT (ft_op dl sp o dr).1 (ft_op dl sp o dr).2) → ft_eo w w' f (f + (ft_zR dl + ft_zT sp o + ft_zR dr)) → Post H1) → va_S (mFr a) H0 H1 locs → W p_ l e_ (x_rm 3 0 0) s_ m_ ar_ bl_ me_ c_ H1 locs 0 0 (MQ bl_ (xQ (mFr a) (q0 Post)) ar_ s_ 0 0 (mFr a)) (F0 m_ 5 ls []) := by
    clear hPost hP hw okl okr okm h1 h2 h3 hl4 hl1 hr4 hB hf hend hl hS
    intro s0 k0 sp
    induction sp with
    | nil =>
      intro dl dr k f w v5 v6 H1 locs ls hl hP hw okl okr okm h1 h2 h3 hl1 hl4 hr4 hB hf hend hQ hS
      have hzl := ft_okR_z okl
      have hzl1 : 1 * 2 ^ k ≤ dl.length * 2 ^ k := Nat.mul_le_mul_right _ hl1
      have h2k := Nat.one_le_two_pow (n := k)
      have hk3 : k ≤ 3 := ft_k3 (by omega)
      dsimp only [ft_le8] at hend
      rcases Nat.eq_zero_or_pos dr.length with hdl | hdl
      rotate_left
      · have hzr := ft_okR_z okr
        have hzr1 : 1 * 2 ^ k ≤ dr.length * 2 ^ k := Nat.mul_le_mul_right _ hdl
        have hat := ft_wR_at (i := ft_zR dr - 1) okr h3 he (by omega) hk3 (by decide) (by omega)
        rw [show f + ft_zR dl + ft_zT [] o + (ft_zR dr - 1) = f + (ft_zR dl + ft_zT [] o + ft_zR dr) - 1 from by omega] at hat
        rw [ft_op_lr hl1 hdl] at hQ
        refine x_aload_n X d_M_closeRight_5 rfl hl rfl ?_
        refine x_iload_n X d_M_closeRight_6 rfl hl rfl ?_
        refine x_iconst (v := nI 1) X d_M_closeRight_7 rfl ?_
        refine x_isub X d_M_closeRight_8 ?_
        refine x_iload X d_M_closeRight_9 hl rfl ?_
        refine x_iconst (v := nI 1) X d_M_closeRight_11 rfl ?_
        refine x_goR (x_runV X (C_M_isb l D A _ a lo hi en md vs n zf mk pl ct w hP hw hn _ k 1 (by omega) (by omega) (by decide)) b_M_is s_M_is v_M_is e_M_64 (m_at hP) rfl rfl hl rfl (Nat.le_of_ble_eq_true rfl) d_M_closeRight_12 (Nat.le_of_ble_eq_true rfl) (Nat.le_of_ble_eq_true rfl) ⟨Nat.le_of_ble_eq_true rfl, Nat.le_of_ble_eq_true rfl⟩) hS (fun locs hS => ?_)
        rw [ft_isb1 (by omega) (by omega) ⟨hat.2.1, hat.1⟩]
        refine n_if_ne X 129 d_M_closeRight_15 rfl (by omega) (fun hc => ?_) (fun hc => absurd hc (by decide))
        exact x_vret X hS (Nat.le_refl _) (Nat.le_refl _) d_M_closeRight_129 ⟨rfl, hQ _ _ hP hw (ft_hd3' h1 h2 h3) (ft_eo_rf _ _ _)⟩
      · have hdl0 : dr = [] := List.length_eq_zero_iff.1 hdl
        subst hdl0
        simp only [ft_zR, Nat.zero_add, Nat.add_zero] at hB hf hQ hl
        have hp := ft_ahead okm okl hl1 h1 h2 he (by omega) hk3 (fun hem => ft_k3 (by
          have := ft_okT_z okm hem
          rw [Nat.pow_succ] at this ⊢
          omega))
        rw [Nat.add_assoc] at hp
        refine x_aload_n X d_M_closeRight_5 rfl hl rfl ?_
        refine x_iload_n X d_M_closeRight_6 rfl hl rfl ?_
        refine x_iconst (v := nI 1) X d_M_closeRight_7 rfl ?_
        refine x_isub X d_M_closeRight_8 ?_
        refine x_iload X d_M_closeRight_9 hl rfl ?_
        refine x_iconst (v := nI 1) X d_M_closeRight_11 rfl ?_
        refine x_goR (x_runV X (C_M_isb l D A _ a lo hi en md vs n zf mk pl ct w hP hw hn _ k 1 (by omega) (by omega) (by decide)) b_M_is s_M_is v_M_is e_M_64 (m_at hP) rfl rfl hl rfl (Nat.le_of_ble_eq_true rfl) d_M_closeRight_12 (Nat.le_of_ble_eq_true rfl) (Nat.le_of_ble_eq_true rfl) ⟨Nat.le_of_ble_eq_true rfl, Nat.le_of_ble_eq_true rfl⟩) hS (fun locs hS => ?_)
        rw [ft_isb0 (fun _ h => by omega)]
        dsimp only [ft_le8, ft_sd] at hp
        refine n_if_ne X 129 d_M_closeRight_15 rfl (by omega) (fun hc => absurd rfl hc) (fun hc => ?_)
        refine x_iload_n X d_M_closeRight_18 rfl hl rfl ?_
        cases o with
        | none =>
          simp only [ft_zT, Nat.zero_add, Nat.add_zero] at hB hf hQ hl hp ⊢
          rw [ft_op_r0 hl1, if_pos (show ft_em [] none = true from rfl)] at hQ
          have hwf := hw (f + ft_zR dl - 1)
          have hat := ft_wR_at (i := ft_zR dl - 1) okl h1 he (by omega) hk3 (by decide) (by omega)
          rw [show f + (ft_zR dl - 1) = f + ft_zR dl - 1 from by omega] at hat
          dsimp only [ft_le8] at hat
          refine n_if_le X 38 d_M_closeRight_19 rfl (by omega) (fun hc => absurd hc (by omega)) (fun hc => ?_)
          refine x_aload_n X d_M_closeRight_22 rfl hl rfl ?_
          refine m_get X hP 9 (by decide) e_M_34 rfl d_M_closeRight_23 ?_
          refine x_iload_n X d_M_closeRight_26 rfl hl rfl ?_
          refine x_iconst (v := nI 1) X d_M_closeRight_27 rfl ?_
          refine n_isub X d_M_closeRight_28 (by omega) ?_
          refine m_ld_w X hP (by omega) d_M_closeRight_29 ?_
          refine x_goR (x_runS X (C_M_level l D A _ (w (f + ft_zR dl - 1)) (by omega)) b_M_level s_M_level e_M_40 rfl hl rfl (Nat.le_of_ble_eq_true rfl) d_M_closeRight_30 (Nat.le_of_ble_eq_true rfl) (Nat.le_of_ble_eq_true rfl) ⟨Nat.le_of_ble_eq_true rfl, Nat.le_of_ble_eq_true rfl⟩) hS (fun locs hS => ?_)
          refine x_iload X d_M_closeRight_33 hl rfl ?_
          refine n_icmp_gt X 71 d_M_closeRight_35 rfl (by omega) (by omega) (fun hc => absurd hc (by omega)) (fun hc => ?_)
          refine x_iload_n X d_M_closeRight_38 rfl hl rfl ?_
          refine x_istore X d_M_closeRight_39 hl (by decide) rfl (fun ls hl => ?_)
          have cnt : ∀ (g i : Nat) (locs : List Loc) (ls : Array Slot), i = g → i ≤ ft_zR dl → lz ls 7 [some (.ref (a 0)), some (.int s0), some (.int k0), some (.int (nI (f + ft_zR dl))), some (.int (nI k)), some (.int (nI (f + i))), v6] → va_S (mFr a) H0 H1 locs → W p_ l e_ (x_rm 3 0 0) s_ m_ ar_ bl_ me_ c_ H1 locs 0 0 (MQ bl_ (xQ (mFr a) (q0 Post)) ar_ s_ 0 0 (mFr a)) (F0 m_ 41 ls []) := by
            intro g
            induction g with
            | zero =>
              intro i locs ls hg hiz hl hS
              subst hg
              rw [Nat.add_zero] at hl
              refine x_aload_n X d_M_closeRight_41 rfl hl rfl ?_
              refine x_iload X d_M_closeRight_42 hl rfl ?_
              refine x_iconst (v := nI 1) X d_M_closeRight_44 rfl ?_
              refine x_isub X d_M_closeRight_45 ?_
              refine x_iload X d_M_closeRight_46 hl rfl ?_
              refine x_iconst (v := nI 0) X d_M_closeRight_48 rfl ?_
              refine x_goR (x_runV X (C_M_isb l D A _ a lo hi en md vs n zf mk pl ct w hP hw hn _ k 0 (by omega) (by omega) (by decide)) b_M_is s_M_is v_M_is e_M_64 (m_at hP) rfl rfl hl rfl (Nat.le_of_ble_eq_true rfl) d_M_closeRight_49 (Nat.le_of_ble_eq_true rfl) (Nat.le_of_ble_eq_true rfl) ⟨Nat.le_of_ble_eq_true rfl, Nat.le_of_ble_eq_true rfl⟩) hS (fun locs hS => ?_)
              rw [ft_isb0 (fun h5 h6 => by
                have h7 := hend (by omega)
                have h8 := h6.1
                dsimp only [ft_le8] at h8
                omega)]
              refine n_if_eq X 61 d_M_closeRight_52 rfl (by omega) (fun hc => ?_) (fun hc => absurd rfl hc)
              refine x_aload_n X d_M_closeRight_61 rfl hl rfl ?_
              refine x_iload X d_M_closeRight_62 hl rfl ?_
              refine x_iload_n X d_M_closeRight_64 rfl hl rfl ?_
              refine x_iload X d_M_closeRight_65 hl rfl ?_
              refine x_go0 (x_runV X (C_M_line l D A _ a lo hi en md vs n zf mk pl ct w hP hd hw hz he hm k f 0 dl okl h1 hk3 (by decide) (by omega) (by omega)) b_M_line s_M_line v_M_line e_M_75 (m_at hP) rfl rfl hl rfl (Nat.le_of_ble_eq_true rfl) d_M_closeRight_67 (Nat.le_of_ble_eq_true rfl) (Nat.le_of_ble_eq_true rfl) ⟨Nat.le_of_ble_eq_true rfl, Nat.le_of_ble_eq_true rfl⟩) hS (fun _ h => h) (fun H locs hP hF hS => ?_)
              obtain ⟨w', hP', hw', hh', heo'⟩ := hP
              exact x_vret X hS (Nat.le_refl _) (Nat.le_refl _) d_M_closeRight_70 ⟨rfl, hQ _ _ hP' hw' hh' heo'⟩
            | succ g ih =>
              intro i locs ls hg hiz hl hS
              have hati := ft_wR_at (i := i - 1) okl h1 he (by omega) hk3 (by decide) (by omega)
              rw [show f + (i - 1) = f + i - 1 from by omega] at hati
              refine x_aload_n X d_M_closeRight_41 rfl hl rfl ?_
              refine x_iload X d_M_closeRight_42 hl rfl ?_
              refine x_iconst (v := nI 1) X d_M_closeRight_44 rfl ?_
              refine x_isub X d_M_closeRight_45 ?_
              refine x_iload X d_M_closeRight_46 hl rfl ?_
              refine x_iconst (v := nI 0) X d_M_closeRight_48 rfl ?_
              refine x_goR (x_runV X (C_M_isb l D A _ a lo hi en md vs n zf mk pl ct w hP hw hn _ k 0 (by omega) (by omega) (by decide)) b_M_is s_M_is v_M_is e_M_64 (m_at hP) rfl rfl hl rfl (Nat.le_of_ble_eq_true rfl) d_M_closeRight_49 (Nat.le_of_ble_eq_true rfl) (Nat.le_of_ble_eq_true rfl) ⟨Nat.le_of_ble_eq_true rfl, Nat.le_of_ble_eq_true rfl⟩) hS (fun locs hS => ?_)
              rw [ft_isb1 (by omega) (by omega) ⟨hati.2.1, hati.1⟩]
              refine n_if_eq X 61 d_M_closeRight_52 rfl (by omega) (fun hc => absurd hc (by decide)) (fun hc => ?_)
              refine n_idec X d_M_closeRight_55 (by omega) hl rfl (by decide) rfl (fun ls hl => ?_)
              refine x_goto X 41 d_M_closeRight_58 rfl ?_
              rw [show f + i - 1 = f + (i - 1) from by omega] at hl
              exact ih (i - 1) _ _ (by omega) (by omega) hl hS
          exact cnt (ft_zR dl) (ft_zR dl) _ _ rfl (Nat.le_refl _) hl hS
        | some y =>
          have oky : ft_ok en md zf (k + 1) y := okm
          have hy : ft_hd w (f + ft_zR dl) (ft_wI 2 y) := h2
          simp only [ft_zT] at hB hf hQ hl hp ⊢
          rw [← Nat.add_assoc] at hf hQ hl hp ⊢
          have hzy := ft_ok_z oky
          rw [Nat.pow_succ] at hzy
          have hk2 : k < 3 := by
            have : 2 ^ k < 2 ^ 3 := by omega
            exact (Nat.pow_lt_pow_iff_right (by decide)).1 this
          rw [ft_op_r0 hl1, if_neg (by simp [ft_em])] at hQ
          have hwf := hw (f + ft_zR dl + ft_z y - 1)
          have hat := ft_wI_at (i := ft_z y - 1) oky hy he (by omega) (by omega) (by decide) (by omega)
          rw [show f + ft_zR dl + (ft_z y - 1) = f + ft_zR dl + ft_z y - 1 from by omega] at hat
          dsimp only [ft_le8, ft_sd] at hat
          have hps := ft_okR_ps oky
          refine n_if_le X 38 d_M_closeRight_19 rfl (by omega) (fun hc => absurd hc (by omega)) (fun hc => ?_)
          refine x_aload_n X d_M_closeRight_22 rfl hl rfl ?_
          refine m_get X hP 9 (by decide) e_M_34 rfl d_M_closeRight_23 ?_
          refine x_iload_n X d_M_closeRight_26 rfl hl rfl ?_
          refine x_iconst (v := nI 1) X d_M_closeRight_27 rfl ?_
          refine n_isub X d_M_closeRight_28 (by omega) ?_
          refine m_ld_w X hP (by omega) d_M_closeRight_29 ?_
          refine x_goR (x_runS X (C_M_level l D A _ (w (f + ft_zR dl + ft_z y - 1)) (by omega)) b_M_level s_M_level e_M_40 rfl hl rfl (Nat.le_of_ble_eq_true rfl) d_M_closeRight_30 (Nat.le_of_ble_eq_true rfl) (Nat.le_of_ble_eq_true rfl) ⟨Nat.le_of_ble_eq_true rfl, Nat.le_of_ble_eq_true rfl⟩) hS (fun locs hS => ?_)
          refine x_iload X d_M_closeRight_33 hl rfl ?_
          refine n_icmp_gt X 71 d_M_closeRight_35 rfl (by omega) (by omega) (fun hc => ?_) (fun hc => absurd hc (by omega))
          refine x_aload_n X d_M_closeRight_71 rfl hl rfl ?_
          refine m_get X hP 9 (by decide) e_M_34 rfl d_M_closeRight_72 ?_
          refine x_iload_n X d_M_closeRight_75 rfl hl rfl ?_
          refine x_iconst (v := nI 1) X d_M_closeRight_76 rfl ?_
          refine n_isub X d_M_closeRight_77 (by omega) ?_
          refine m_ld_w X hP (by omega) d_M_closeRight_78 ?_
          refine x_goR (x_runS X (C_M_side l D A _ (w (f + ft_zR dl + ft_z y - 1)) (by omega)) b_M_side s_M_side e_M_44 rfl hl rfl (Nat.le_of_ble_eq_true rfl) d_M_closeRight_79 (Nat.le_of_ble_eq_true rfl) (Nat.le_of_ble_eq_true rfl) ⟨Nat.le_of_ble_eq_true rfl, Nat.le_of_ble_eq_true rfl⟩) hS (fun locs hS => ?_)
          refine x_iconst (v := nI 2) X d_M_closeRight_82 rfl ?_
          refine n_icmp_ne X 90 d_M_closeRight_83 rfl (by omega) (by omega) (fun hc => absurd hat.1 hc) (fun hc => ?_)
          refine x_iconst (v := nI 1) X d_M_closeRight_86 rfl ?_
          refine x_goto X 91 d_M_closeRight_87 rfl ?_
          refine x_istore X d_M_closeRight_91 hl (by decide) rfl (fun ls hl => ?_)
          refine x_aload_n X d_M_closeRight_93 rfl hl rfl ?_
          refine x_iload_n X d_M_closeRight_94 rfl hl rfl ?_
          refine x_iload X d_M_closeRight_95 hl rfl ?_
          refine x_iconst (v := nI 1) X d_M_closeRight_97 rfl ?_
          refine n_iadd X d_M_closeRight_98 ?_
          refine x_goR (x_runV X (C_M_begI l D A _ a lo hi en md vs n zf mk pl ct w hP hw en md (k + 1) _ 2 y oky hy he (by omega) (by omega) (by decide) (by omega)) b_M_begin s_M_begin v_M_begin e_M_72 (m_at hP) rfl rfl hl rfl (Nat.le_of_ble_eq_true rfl) d_M_closeRight_99 (Nat.le_of_ble_eq_true rfl) (Nat.le_of_ble_eq_true rfl) ⟨Nat.le_of_ble_eq_true rfl, Nat.le_of_ble_eq_true rfl⟩) hS (fun locs hS => ?_)
          refine x_istore X d_M_closeRight_102 hl (by decide) rfl (fun ls hl => ?_)
          refine x_aload_n X d_M_closeRight_104 rfl hl rfl ?_
          refine x_iload X d_M_closeRight_105 hl rfl ?_
          refine x_iload_n X d_M_closeRight_107 rfl hl rfl ?_
          refine x_iload X d_M_closeRight_108 hl rfl ?_
          refine x_iconst (v := nI 1) X d_M_closeRight_110 rfl ?_
          refine x_go0 (x_runV X (C_M_settle l D A _ a lo hi en md vs n zf mk pl ct w hP hd hw (f + ft_zR dl) (f + ft_zR dl + ft_z y) k 1 (by omega) (by omega) (by omega) (by decide)) b_M_settle s_M_settle v_M_settle e_M_56 (m_at hP) rfl rfl hl rfl (Nat.le_of_ble_eq_true rfl) d_M_closeRight_111 (Nat.le_of_ble_eq_true rfl) (Nat.le_of_ble_eq_true rfl) ⟨Nat.le_of_ble_eq_true rfl, Nat.le_of_ble_eq_true rfl⟩) hS (fun _ h => h) (fun H locs hP hF hS => ?_)
          refine x_iload X d_M_closeRight_114 hl rfl ?_
          refine n_if_eq X 120 d_M_closeRight_116 rfl (by omega) (fun hc => absurd hc (by decide)) (fun hc => ?_)
          refine x_vret X hS (Nat.le_refl _) (Nat.le_refl _) d_M_closeRight_119 ⟨rfl, hQ _ _ hP (ft_bw_sw hw (by omega) (by decide)) (ft_hd3' ?_ (ft_hd_nil _ _) ?_) (ft_eo_wd (ft_eo_sw _ _ _ _ _) (by omega) (Nat.le_refl _))⟩
          · exact ft_sw_out h1 (Or.inl (by rw [ft_wR_len]; exact Nat.le_refl _))
          · exact ft_sw_U oky hy he (by omega) (by omega) (by decide) (Nat.le_refl _) (Nat.le_refl _)
    | cons d sp ih =>
      intro dl dr k f w v5 v6 H1 locs ls hl hP hw okl okr okm h1 h2 h3 hl1 hl4 hr4 hB hf hend hQ hS
      have hzl := ft_okR_z okl
      have hzl1 : 1 * 2 ^ k ≤ dl.length * 2 ^ k := Nat.mul_le_mul_right _ hl1
      have h2k := Nat.one_le_two_pow (n := k)
      have hk3 : k ≤ 3 := ft_k3 (by omega)
      dsimp only [ft_le8] at hend
      rcases Nat.eq_zero_or_pos dr.length with hdl | hdl
      rotate_left
      · have hzr := ft_okR_z okr
        have hzr1 : 1 * 2 ^ k ≤ dr.length * 2 ^ k := Nat.mul_le_mul_right _ hdl
        have hat := ft_wR_at (i := ft_zR dr - 1) okr h3 he (by omega) hk3 (by decide) (by omega)
        rw [show f + ft_zR dl + ft_zT (d :: sp) o + (ft_zR dr - 1) = f + (ft_zR dl + ft_zT (d :: sp) o + ft_zR dr) - 1 from by omega] at hat
        rw [ft_op_lr hl1 hdl] at hQ
        refine x_aload_n X d_M_closeRight_5 rfl hl rfl ?_
        refine x_iload_n X d_M_closeRight_6 rfl hl rfl ?_
        refine x_iconst (v := nI 1) X d_M_closeRight_7 rfl ?_
        refine x_isub X d_M_closeRight_8 ?_
        refine x_iload X d_M_closeRight_9 hl rfl ?_
        refine x_iconst (v := nI 1) X d_M_closeRight_11 rfl ?_
        refine x_goR (x_runV X (C_M_isb l D A _ a lo hi en md vs n zf mk pl ct w hP hw hn _ k 1 (by omega) (by omega) (by decide)) b_M_is s_M_is v_M_is e_M_64 (m_at hP) rfl rfl hl rfl (Nat.le_of_ble_eq_true rfl) d_M_closeRight_12 (Nat.le_of_ble_eq_true rfl) (Nat.le_of_ble_eq_true rfl) ⟨Nat.le_of_ble_eq_true rfl, Nat.le_of_ble_eq_true rfl⟩) hS (fun locs hS => ?_)
        rw [ft_isb1 (by omega) (by omega) ⟨hat.2.1, hat.1⟩]
        refine n_if_ne X 129 d_M_closeRight_15 rfl (by omega) (fun hc => ?_) (fun hc => absurd hc (by decide))
        exact x_vret X hS (Nat.le_refl _) (Nat.le_refl _) d_M_closeRight_129 ⟨rfl, hQ _ _ hP hw (ft_hd3' h1 h2 h3) (ft_eo_rf _ _ _)⟩
      · have hdl0 : dr = [] := List.length_eq_zero_iff.1 hdl
        subst hdl0
        simp only [ft_zR, Nat.zero_add, Nat.add_zero] at hB hf hQ hl
        have hp := ft_ahead okm okl hl1 h1 h2 he (by omega) hk3 (fun hem => ft_k3 (by
          have := ft_okT_z okm hem
          rw [Nat.pow_succ] at this ⊢
          omega))
        rw [Nat.add_assoc] at hp
        refine x_aload_n X d_M_closeRight_5 rfl hl rfl ?_
        refine x_iload_n X d_M_closeRight_6 rfl hl rfl ?_
        refine x_iconst (v := nI 1) X d_M_closeRight_7 rfl ?_
        refine x_isub X d_M_closeRight_8 ?_
        refine x_iload X d_M_closeRight_9 hl rfl ?_
        refine x_iconst (v := nI 1) X d_M_closeRight_11 rfl ?_
        refine x_goR (x_runV X (C_M_isb l D A _ a lo hi en md vs n zf mk pl ct w hP hw hn _ k 1 (by omega) (by omega) (by decide)) b_M_is s_M_is v_M_is e_M_64 (m_at hP) rfl rfl hl rfl (Nat.le_of_ble_eq_true rfl) d_M_closeRight_12 (Nat.le_of_ble_eq_true rfl) (Nat.le_of_ble_eq_true rfl) ⟨Nat.le_of_ble_eq_true rfl, Nat.le_of_ble_eq_true rfl⟩) hS (fun locs hS => ?_)
        rw [ft_isb0 (fun _ h => by omega)]
        dsimp only [ft_le8, ft_sd] at hp
        have hwf := hw (f + (ft_zR dl + ft_zT (d :: sp) o) - 1)
        have hat := ft_wT_last okm rfl h2 he (by omega) (ft_k3 (by
          have := ft_okT_z okm rfl
          rw [Nat.pow_succ] at this ⊢
          omega))
        simp only [List.isEmpty_cons, Bool.false_eq_true, if_false] at hat
        rw [Nat.add_assoc] at hat
        dsimp only [ft_le8, ft_sd] at hat
        have hzm := ft_okT_zd okm
        rw [Nat.pow_succ] at hzm
        obtain ⟨m1, m2, m3⟩ := ft_hd3 h2
        have hT : ft_zT (d :: sp) o = ft_zR d.1 + ft_zT sp o + ft_zR d.2 := rfl
        obtain ⟨r', rl, hrl⟩ := ft_rev (l := d.2) (fun e => by have := okm.2.1.1; rw [e] at this; simp at this)
        have ok0 : ft_ok en md zf (k + 1) rl := okm.2.1.2.2 rl (by rw [hrl]; simp)
        have okr' : ft_okR en md zf (k + 1) r' := fun y hy => okm.2.1.2.2 y (by rw [hrl]; simp [hy])
        have hz02 := ft_ok_z ok0
        rw [Nat.pow_succ] at hz02
        have hzd2 : ft_zR d.2 = ft_zR r' + ft_z rl := by rw [hrl, ft_zR_app]; simp [ft_zR]
        have hlen : d.2.length = r'.length + 1 := by rw [hrl]; simp
        have hdr : d.2.take (d.2.length - 1) = r' := by rw [hlen, Nat.add_sub_cancel, hrl, List.take_left]
        have hla : ft_la (d :: sp) o = rl := by simp only [ft_la, hrl, List.getLastD_eq_getLast?, List.getLast?_append, List.getLast?_singleton, Option.some_or, Option.getD_some]
        have hps := ft_okR_ps ok0
        have hl41 := okm.2.1.2.1
        rw [ft_op_r0 hl1, if_neg (by simp [ft_em]), hla, ft_le_op okm.1.1 okm.2.1.1, hdr] at hQ
        rw [hrl, ft_wR_app, ft_wR_one] at m3
        obtain ⟨mr, m0⟩ := ft_hd_app.1 m3
        rw [ft_wR_len] at m0
        have hk2 : k < 3 := by
          have : 2 ^ k < 2 ^ 3 := by omega
          exact (Nat.pow_lt_pow_iff_right (by decide)).1 this
        have hrat := ft_wR_at (i := ft_zR dl - 1) okl h1 he (by omega) hk3 (by decide) (by omega)
        rw [show f + (ft_zR dl - 1) = f + ft_zR dl - 1 from by omega] at hrat
        have hse : f + (ft_zR dl + ft_zT (d :: sp) o) = f + ft_zR dl + ft_zR d.1 + ft_zT sp o + ft_zR r' + ft_z rl := by omega
        refine n_if_ne X 129 d_M_closeRight_15 rfl (by omega) (fun hc => absurd rfl hc) (fun hc => ?_)
        refine x_iload_n X d_M_closeRight_18 rfl hl rfl ?_
        refine n_if_le X 38 d_M_closeRight_19 rfl (by omega) (fun hc => absurd hc (by omega)) (fun hc => ?_)
        refine x_aload_n X d_M_closeRight_22 rfl hl rfl ?_
        refine m_get X hP 9 (by decide) e_M_34 rfl d_M_closeRight_23 ?_
        refine x_iload_n X d_M_closeRight_26 rfl hl rfl ?_
        refine x_iconst (v := nI 1) X d_M_closeRight_27 rfl ?_
        refine n_isub X d_M_closeRight_28 (by omega) ?_
        refine m_ld_w X hP (by omega) d_M_closeRight_29 ?_
        refine x_goR (x_runS X (C_M_level l D A _ (w (f + (ft_zR dl + ft_zT (d :: sp) o) - 1)) (by omega)) b_M_level s_M_level e_M_40 rfl hl rfl (Nat.le_of_ble_eq_true rfl) d_M_closeRight_30 (Nat.le_of_ble_eq_true rfl) (Nat.le_of_ble_eq_true rfl) ⟨Nat.le_of_ble_eq_true rfl, Nat.le_of_ble_eq_true rfl⟩) hS (fun locs hS => ?_)
        refine x_iload X d_M_closeRight_33 hl rfl ?_
        refine n_icmp_gt X 71 d_M_closeRight_35 rfl (by omega) (by omega) (fun hc => ?_) (fun hc => absurd hc (by omega))
        refine x_aload_n X d_M_closeRight_71 rfl hl rfl ?_
        refine m_get X hP 9 (by decide) e_M_34 rfl d_M_closeRight_72 ?_
        refine x_iload_n X d_M_closeRight_75 rfl hl rfl ?_
        refine x_iconst (v := nI 1) X d_M_closeRight_76 rfl ?_
        refine n_isub X d_M_closeRight_77 (by omega) ?_
        refine m_ld_w X hP (by omega) d_M_closeRight_78 ?_
        refine x_goR (x_runS X (C_M_side l D A _ (w (f + (ft_zR dl + ft_zT (d :: sp) o) - 1)) (by omega)) b_M_side s_M_side e_M_44 rfl hl rfl (Nat.le_of_ble_eq_true rfl) d_M_closeRight_79 (Nat.le_of_ble_eq_true rfl) (Nat.le_of_ble_eq_true rfl) ⟨Nat.le_of_ble_eq_true rfl, Nat.le_of_ble_eq_true rfl⟩) hS (fun locs hS => ?_)
        refine x_iconst (v := nI 2) X d_M_closeRight_82 rfl ?_
        refine n_icmp_ne X 90 d_M_closeRight_83 rfl (by omega) (by omega) (fun hc => ?_) (fun hc => absurd hc (by omega))
        rw [hse] at hl
        refine x_iconst (v := nI 0) X d_M_closeRight_90 rfl ?_
        refine x_istore X d_M_closeRight_91 hl (by decide) rfl (fun ls hl => ?_)
        refine x_aload_n X d_M_closeRight_93 rfl hl rfl ?_
        refine x_iload_n X d_M_closeRight_94 rfl hl rfl ?_
        refine x_iload X d_M_closeRight_95 hl rfl ?_
        refine x_iconst (v := nI 1) X d_M_closeRight_97 rfl ?_
        refine n_iadd X d_M_closeRight_98 ?_
        refine x_goR (x_runV X (C_M_begI l D A _ a lo hi en md vs n zf mk pl ct w hP hw en md (k + 1) _ 1 rl ok0 m0 he (by omega) (by omega) (by decide) (by omega)) b_M_begin s_M_begin v_M_begin e_M_72 (m_at hP) rfl rfl hl rfl (Nat.le_of_ble_eq_true rfl) d_M_closeRight_99 (Nat.le_of_ble_eq_true rfl) (Nat.le_of_ble_eq_true rfl) ⟨Nat.le_of_ble_eq_true rfl, Nat.le_of_ble_eq_true rfl⟩) hS (fun locs hS => ?_)
        refine x_istore X d_M_closeRight_102 hl (by decide) rfl (fun ls hl => ?_)
        refine x_aload_n X d_M_closeRight_104 rfl hl rfl ?_
        refine x_iload X d_M_closeRight_105 hl rfl ?_
        refine x_iload_n X d_M_closeRight_107 rfl hl rfl ?_
        refine x_iload X d_M_closeRight_108 hl rfl ?_
        refine x_iconst (v := nI 1) X d_M_closeRight_110 rfl ?_
        refine x_go0 (x_runV X (C_M_settle l D A _ a lo hi en md vs n zf mk pl ct w hP hd hw (f + ft_zR dl + ft_zR d.1 + ft_zT sp o + ft_zR r') (f + ft_zR dl + ft_zR d.1 + ft_zT sp o + ft_zR r' + ft_z rl) k 1 (by omega) (by omega) (by omega) (by decide)) b_M_settle s_M_settle v_M_settle e_M_56 (m_at hP) rfl rfl hl rfl (Nat.le_of_ble_eq_true rfl) d_M_closeRight_111 (Nat.le_of_ble_eq_true rfl) (Nat.le_of_ble_eq_true rfl) ⟨Nat.le_of_ble_eq_true rfl, Nat.le_of_ble_eq_true rfl⟩) hS (fun _ h => h) (fun H locs hP hF hS => ?_)
        refine x_iload X d_M_closeRight_114 hl rfl ?_
        refine n_if_eq X 120 d_M_closeRight_116 rfl (by omega) (fun hc => ?_) (fun hc => absurd rfl hc)
        have hw1 := ft_bw_sw (a := (f + ft_zR dl + ft_zR d.1 + ft_zT sp o + ft_zR r')) (b := (f + ft_zR dl + ft_zR d.1 + ft_zT sp o + ft_zR r' + ft_z rl)) (k := k) (s := 1) hw (by omega) (by decide)
        have u0 := ft_sw_U (s := 1) ok0 m0 he (by omega) (by omega) (by decide) (Nat.le_refl (f + ft_zR dl + ft_zR d.1 + ft_zT sp o + ft_zR r')) (Nat.le_refl _)
        have u1 := ft_sw_out (a := (f + ft_zR dl + ft_zR d.1 + ft_zT sp o + ft_zR r')) (b := (f + ft_zR dl + ft_zR d.1 + ft_zT sp o + ft_zR r' + ft_z rl)) (k := k) (s := 1) h1 (Or.inl (by rw [ft_wR_len]; omega))
        have u2 := ft_sw_out (a := (f + ft_zR dl + ft_zR d.1 + ft_zT sp o + ft_zR r')) (b := (f + ft_zR dl + ft_zR d.1 + ft_zT sp o + ft_zR r' + ft_z rl)) (k := k) (s := 1) m1 (Or.inl (by rw [ft_wR_len]; omega))
        have u3 := ft_sw_out (a := (f + ft_zR dl + ft_zR d.1 + ft_zT sp o + ft_zR r')) (b := (f + ft_zR dl + ft_zR d.1 + ft_zT sp o + ft_zR r' + ft_z rl)) (k := k) (s := 1) m2 (Or.inl (by rw [ft_wT_len]; omega))
        have u4 := ft_sw_out (a := (f + ft_zR dl + ft_zR d.1 + ft_zT sp o + ft_zR r')) (b := (f + ft_zR dl + ft_zR d.1 + ft_zT sp o + ft_zR r' + ft_z rl)) (k := k) (s := 1) mr (Or.inl (by rw [ft_wR_len]; exact Nat.le_refl _))
        have heo1 := ft_eo_sw w (f + ft_zR dl + ft_zR d.1 + ft_zT sp o + ft_zR r') (f + ft_zR dl + ft_zR d.1 + ft_zT sp o + ft_zR r' + ft_z rl) k 1
        generalize ft_sw w (f + ft_zR dl + ft_zR d.1 + ft_zT sp o + ft_zR r') (f + ft_zR dl + ft_zR d.1 + ft_zT sp o + ft_zR r' + ft_z rl) k 1 = w1 at hP hw1 u0 u1 u2 u3 u4 heo1
        have hfe : (f + ft_zR dl + ft_zR d.1 + ft_zT sp o + ft_zR r') = f + ft_zR dl + (ft_zR d.1 + ft_zT sp o + ft_zR r') := by omega
        refine x_iload X d_M_closeRight_120 hl rfl ?_
        refine x_istore_n X d_M_closeRight_122 rfl hl (by decide) rfl (fun ls hl => ?_)
        refine n_iinc (d := 1) X d_M_closeRight_123 rfl hl rfl (by decide) rfl (fun ls hl => ?_)
        refine x_goto X 5 d_M_closeRight_126 rfl ?_
        rw [hfe] at hl
        refine ih d.1 r' (k + 1) (f + ft_zR dl) w1 _ _ _ _ _ hl hP hw1 okm.1.2.2 okr' okm.2.2 u2 u3 u4 okm.1.1 okm.1.2.1 (by omega) (by rw [Nat.pow_succ]; omega) (by omega) (fun _ => ?_) ?_ hS
        · rw [heo1 _ (Or.inl (by omega)), hrat.2.1]
          omega
        · intro w4 H4 hP4 hw4 hh4 heo4
          have hop := ft_op_ok okm.2.2 okm.1.2.2 okr' okm.1.2.1 (by omega) (Or.inl okm.1.1)
          refine hQ w4 H4 hP4 hw4 (ft_hd3' (l := dl) (r := ft_ps rl) ?_ hh4 ?_) (ft_eo_tr (ft_eo_wd heo1 (by omega) (by omega)) (ft_eo_wd heo4 (by omega) (by omega)))
          · exact ft_eo_hd heo4 u1 (Or.inl (by rw [ft_wR_len]; exact Nat.le_refl _))
          · rw [hop.2, ← hfe]
            exact ft_eo_hd heo4 u0 (Or.inr (by omega))
  exact loop (nI (f + (ft_zR dl + ft_zT sp o + ft_zR dr))) (nI k) sp dl dr k f w none none H0 [] _ hl hP hw okl okr okm h1 h2 h3 hl1 hl4 hr4 hB hf hend (fun w' H1 h1 h2 h3 h4 => by rw [← hPost]; exact ⟨w', h1, h2, h3, h4⟩) hS
