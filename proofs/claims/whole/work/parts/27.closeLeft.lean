/-! Contract of the reference: closeLeft. -/
theorem ft_re_op {d : List ft_I × List ft_I} {sp : ft_S} {o : Option ft_I} (h1 : 1 ≤ d.1.length) (h2 : 1 ≤ d.2.length) : ft_re (d :: sp) o = ft_op (d.1.drop 1) sp o d.2 := by
  unfold ft_re ft_op
  by_cases h : 1 < d.1.length
  · rw [if_pos h, if_pos ⟨by rw [List.length_drop]; omega, h2⟩]
  · have e : d.1.drop 1 = [] := List.drop_of_length_le (by omega)
    rw [if_neg h, e]
    simp only [List.length_nil, Nat.lt_irrefl, false_and, if_false, if_true]
theorem ft_le_op {d : List ft_I × List ft_I} {sp : ft_S} {o : Option ft_I} (h1 : 1 ≤ d.1.length) (h2 : 1 ≤ d.2.length) : ft_le (d :: sp) o = ft_op d.1 sp o (d.2.take (d.2.length - 1)) := by
  unfold ft_le ft_op
  by_cases h : 1 < d.2.length
  · rw [if_pos h, if_pos ⟨h1, by rw [List.length_take]; omega⟩]
  · have e : d.2.take (d.2.length - 1) = [] := by rw [show d.2.length - 1 = 0 from by omega]; rfl
    have hn : d.1.length ≠ 0 := by omega
    rw [if_neg h, e]
    simp only [List.length_nil, Nat.lt_irrefl, and_false, if_false, if_neg hn]
theorem ft_is_ge {n j k s : Nat} {w : Nat → Nat} (h : n ≤ j) : ft_is n w j k s = 0 := by
  unfold ft_is
  rw [if_neg (by omega)]
theorem ft_op_lr {l r : List ft_I} {sp : ft_S} {o : Option ft_I} (hl : 1 ≤ l.length) (hr : 1 ≤ r.length) : ft_op l sp o r = ((l, r) :: sp, o) := by
  unfold ft_op
  rw [if_pos ⟨hl, hr⟩]
theorem ft_op_l0 {r : List ft_I} {sp : ft_S} {o : Option ft_I} : ft_op [] sp o r = if ft_em sp o then ft_ln r else ((ft_ps (ft_fi sp o), r) :: (ft_re sp o).1, (ft_re sp o).2) := by
  unfold ft_op
  rw [if_neg (by simp)]
  simp only [List.length_nil, if_true]
set_option maxRecDepth 100000 in
set_option maxHeartbeats 4000000 in
theorem C_M_closeLeft (l : Launch) (D : va_G) (A : Nat → ClassId) (H0 : Heap) (a : Nat → Nat) (lo hi : Nat → Int32) (en md vs n : Nat) (zf mk pl ct w : Nat → Nat) (hP : mH D a A lo hi en zf mk md pl ct vs w n H0) (hd : mDs a) (hw : ft_bw w) (hz : ∀ i, zf i < 128) (he : en ≤ 128) (hm : md < 4200) (hn : n ≤ 48) (k f : Nat) (dl dr : List ft_I) (sp : ft_S) (o : Option ft_I) (okl : ft_okR en md zf k dl) (okr : ft_okR en md zf k dr) (okm : ft_okT en md zf (k + 1) sp o) (h1 : ft_hd w f (ft_wR 0 dl)) (h2 : ft_hd w (f + ft_zR dl) (ft_wT sp o)) (h3 : ft_hd w (f + ft_zR dl + ft_zT sp o) (ft_wR 1 dr)) (hl4 : dl.length ≤ 4) (hr1 : 1 ≤ dr.length) (hr4 : dr.length ≤ 4) (hB : 3 * 2 ^ k + (ft_zR dl + ft_zT sp o + ft_zR dr) ≤ 42) (hf : f + (ft_zR dl + ft_zT sp o + ft_zR dr) ≤ n) (hend : (f + (ft_zR dl + ft_zT sp o + ft_zR dr) < n → ft_le8 (w (f + (ft_zR dl + ft_zT sp o + ft_zR dr))) < k)) : xC l y_M_closeLeft c_M_closeLeft 7 (none : Option FieldType) 3 D A H0 [.ref (a 0), .int (nI f), .int (nI k)] (mFr a) (q0 (fun H1 => ∃ w', mH D a A lo hi en zf mk md pl ct vs w' n H1 ∧ ft_bw w' ∧ ft_hd w' f (ft_wT (ft_op dl sp o dr).1 (ft_op dl sp o dr).2) ∧ ft_eo w w' f (f + (ft_zR dl + ft_zT sp o + ft_zR dr)))) 0 0 := by
  refine xC.of rfl (Nat.le_of_ble_eq_true rfl) ?_
  intro p_ e_ s_ m_ ar_ bl_ me_ c_ ls X hl
  have hl : lz ls 7 [some (.ref (a 0)), some (.int (nI f)), some (.int (nI k)), none, none, none, none] := hl
  have hS : va_S (mFr a) H0 H0 [] := va_S.rf
  refine x_iload_n X d_M_closeLeft_0 rfl hl rfl ?_
  refine x_istore_n X d_M_closeLeft_1 rfl hl (by decide) rfl (fun ls hl => ?_)
  refine x_iload_n X d_M_closeLeft_2 rfl hl rfl ?_
  refine x_istore X d_M_closeLeft_3 hl (by decide) rfl (fun ls hl => ?_)
  generalize hPost : (fun H1 => ∃ w', mH D a A lo hi en zf mk md pl ct vs w' n H1 ∧ ft_bw w' ∧ ft_hd w' f (ft_wT (ft_op dl sp o dr).1 (ft_op dl sp o dr).2) ∧ ft_eo w w' f (f + (ft_zR dl + ft_zT sp o + ft_zR dr))) = Post
  have loop : ∀ (s0 k0 : Int32) (sp : ft_S) (dl dr : List ft_I) (k f : Nat) (w : Nat → Nat) (v5 v6 : Option Value) (H1 : Heap) (locs : List Loc) (ls : Array Slot), lz ls 7 [some (.ref (a 0)), some (.int s0), some (.int k0), some (.int (nI f)), some (.int (nI k)), v5, v6] → mH D a A lo hi en zf mk md pl ct vs w n H1 → ft_bw w → ft_okR en md zf k dl → ft_okR en md zf k dr → ft_okT en md zf (k + 1) sp o → ft_hd w f (ft_wR 0 dl) → ft_hd w (f + ft_zR dl) (ft_wT sp o) → ft_hd w (f + ft_zR dl + ft_zT sp o) (ft_wR 1 dr) → dl.length ≤ 4 → 1 ≤ dr.length → dr.length ≤ 4 → 3 * 2 ^ k + (ft_zR dl + ft_zT sp o + ft_zR dr) ≤ 42 → f + (ft_zR dl + ft_zT sp o + ft_zR dr) ≤ n → (f + (ft_zR dl + ft_zT sp o + ft_zR dr) < n → ft_le8 (w (f + (ft_zR dl + ft_zT sp o + ft_zR dr))) < k) →
      (∀ (w' : Nat → Nat) (H1 : Heap), mH D a A lo hi en zf mk md pl ct vs w' n H1 → ft_bw w' → ft_hd w' f (ft_wT (ft_op dl sp o dr).1 (ft_op dl sp o dr).2) → ft_eo w w' f (f + (ft_zR dl + ft_zT sp o + ft_zR dr)) → Post H1) → va_S (mFr a) H0 H1 locs → W p_ l e_ (x_rm 3 0 0) s_ m_ ar_ bl_ me_ c_ H1 locs 0 0 (MQ bl_ (xQ (mFr a) (q0 Post)) ar_ s_ 0 0 (mFr a)) (F0 m_ 5 ls []) := by
    clear hPost hP hw okl okr okm h1 h2 h3 hl4 hr1 hr4 hB hf hend hl hS
    intro s0 k0 sp
    induction sp with
    | nil =>
      intro dl dr k f w v5 v6 H1 locs ls hl hP hw okl okr okm h1 h2 h3 hl4 hr1 hr4 hB hf hend hQ hS
      have hzr := ft_okR_z okr
      have hzr1 : 1 * 2 ^ k ≤ dr.length * 2 ^ k := Nat.mul_le_mul_right _ hr1
      have h2k := Nat.one_le_two_pow (n := k)
      have hk3 : k ≤ 3 := ft_k3 (by omega)
      have hwf := hw f
      dsimp only [ft_le8] at hend
      rcases Nat.eq_zero_or_pos dl.length with hdl | hdl
      rotate_left
      · have hzl := ft_okR_z okl
        have hzl1 : 1 * 2 ^ k ≤ dl.length * 2 ^ k := Nat.mul_le_mul_right _ hdl
        have hat := ft_wR_at (i := 0) okl h1 he (by omega) hk3 (by decide) (by omega)
        rw [Nat.add_zero] at hat
        rw [ft_op_lr hdl hr1] at hQ
        refine x_aload_n X d_M_closeLeft_5 rfl hl rfl ?_
        refine x_iload_n X d_M_closeLeft_6 rfl hl rfl ?_
        refine x_iload X d_M_closeLeft_7 hl rfl ?_
        refine x_iconst (v := nI 0) X d_M_closeLeft_9 rfl ?_
        refine x_goR (x_runV X (C_M_is l D A _ a lo hi en md vs n zf mk pl ct w hP hw hn f k 0 (by omega) (by omega) (by decide)) b_M_is s_M_is v_M_is e_M_64 (m_at hP) rfl rfl hl rfl (Nat.le_of_ble_eq_true rfl) d_M_closeLeft_10 (Nat.le_of_ble_eq_true rfl) (Nat.le_of_ble_eq_true rfl) ⟨Nat.le_of_ble_eq_true rfl, Nat.le_of_ble_eq_true rfl⟩) hS (fun locs hS => ?_)
        rw [ft_is1 (by omega) ⟨hat.2.1, hat.1⟩]
        refine n_if_ne X 125 d_M_closeLeft_13 rfl (by omega) (fun hc => ?_) (fun hc => absurd hc (by decide))
        exact x_vret X hS (Nat.le_refl _) (Nat.le_refl _) d_M_closeLeft_125 ⟨rfl, hQ _ _ hP hw (ft_hd3' h1 h2 h3) (ft_eo_rf _ _ _)⟩
      · have hdl0 : dl = [] := List.length_eq_zero_iff.1 hdl
        subst hdl0
        simp only [ft_zR, Nat.zero_add, Nat.add_zero] at h2 h3 hB hf hend hQ
        refine x_aload_n X d_M_closeLeft_5 rfl hl rfl ?_
        refine x_iload_n X d_M_closeLeft_6 rfl hl rfl ?_
        refine x_iload X d_M_closeLeft_7 hl rfl ?_
        refine x_iconst (v := nI 0) X d_M_closeLeft_9 rfl ?_
        refine x_goR (x_runV X (C_M_is l D A _ a lo hi en md vs n zf mk pl ct w hP hw hn f k 0 (by omega) (by omega) (by decide)) b_M_is s_M_is v_M_is e_M_64 (m_at hP) rfl rfl hl rfl (Nat.le_of_ble_eq_true rfl) d_M_closeLeft_10 (Nat.le_of_ble_eq_true rfl) (Nat.le_of_ble_eq_true rfl) ⟨Nat.le_of_ble_eq_true rfl, Nat.le_of_ble_eq_true rfl⟩) hS (fun locs hS => ?_)
        have hp := ft_past okm okr hr1 h2 h3 he (by omega) hk3 (fun hem => ft_k3 (by
          have := ft_okT_z okm hem
          rw [Nat.pow_succ] at this ⊢
          omega))
        rw [ft_is0 (fun h => by omega)]
        dsimp only [ft_le8, ft_sd] at hp
        refine n_if_ne X 125 d_M_closeLeft_13 rfl (by omega) (fun hc => absurd rfl hc) (fun hc => ?_)
        refine x_iload_n X d_M_closeLeft_16 rfl hl rfl ?_
        refine x_aload_n X d_M_closeLeft_17 rfl hl rfl ?_
        refine m_get X hP 10 (by decide) e_M_37 rfl d_M_closeLeft_18 ?_
        cases o with
        | none =>
          simp only [ft_zT, Nat.zero_add, Nat.add_zero] at h3 hB hf hend hQ
          rw [ft_op_l0, if_pos (show ft_em [] none = true from rfl)] at hQ
          have hat := ft_wR_at (i := 0) okr h3 he (by omega) hk3 (by decide) (by omega)
          rw [Nat.add_zero] at hat
          dsimp only [ft_le8] at hat
          refine n_icmp_ge X 38 d_M_closeLeft_21 rfl (by omega) (by omega) (fun hc => absurd hc (by omega)) (fun hc => ?_)
          refine x_aload_n X d_M_closeLeft_24 rfl hl rfl ?_
          refine m_get X hP 9 (by decide) e_M_34 rfl d_M_closeLeft_25 ?_
          refine x_iload_n X d_M_closeLeft_28 rfl hl rfl ?_
          refine m_ld_w X hP (by omega) d_M_closeLeft_29 ?_
          refine x_goR (x_runS X (C_M_level l D A _ (w f) (by omega)) b_M_level s_M_level e_M_40 rfl hl rfl (Nat.le_of_ble_eq_true rfl) d_M_closeLeft_30 (Nat.le_of_ble_eq_true rfl) (Nat.le_of_ble_eq_true rfl) ⟨Nat.le_of_ble_eq_true rfl, Nat.le_of_ble_eq_true rfl⟩) hS (fun locs hS => ?_)
          refine x_iload X d_M_closeLeft_33 hl rfl ?_
          refine n_icmp_gt X 69 d_M_closeLeft_35 rfl (by omega) (by omega) (fun hc => absurd hc (by omega)) (fun hc => ?_)
          refine x_iload_n X d_M_closeLeft_38 rfl hl rfl ?_
          refine x_istore X d_M_closeLeft_39 hl (by decide) rfl (fun ls hl => ?_)
          have cnt : ∀ (g i : Nat) (locs : List Loc) (ls : Array Slot), ft_zR dr - i = g → i ≤ ft_zR dr → lz ls 7 [some (.ref (a 0)), some (.int s0), some (.int k0), some (.int (nI f)), some (.int (nI k)), some (.int (nI (f + i))), v6] → va_S (mFr a) H0 H1 locs → W p_ l e_ (x_rm 3 0 0) s_ m_ ar_ bl_ me_ c_ H1 locs 0 0 (MQ bl_ (xQ (mFr a) (q0 Post)) ar_ s_ 0 0 (mFr a)) (F0 m_ 41 ls []) := by
            intro g
            induction g with
            | zero =>
              intro i locs ls hg hiz hl hS
              have hie : i = ft_zR dr := by omega
              subst hie
              refine x_aload_n X d_M_closeLeft_41 rfl hl rfl ?_
              refine x_iload X d_M_closeLeft_42 hl rfl ?_
              refine x_iload X d_M_closeLeft_44 hl rfl ?_
              refine x_iconst (v := nI 1) X d_M_closeLeft_46 rfl ?_
              refine x_goR (x_runV X (C_M_is l D A _ a lo hi en md vs n zf mk pl ct w hP hw hn _ k 1 (by omega) (by omega) (by decide)) b_M_is s_M_is v_M_is e_M_64 (m_at hP) rfl rfl hl rfl (Nat.le_of_ble_eq_true rfl) d_M_closeLeft_47 (Nat.le_of_ble_eq_true rfl) (Nat.le_of_ble_eq_true rfl) ⟨Nat.le_of_ble_eq_true rfl, Nat.le_of_ble_eq_true rfl⟩) hS (fun locs hS => ?_)
              have e0 : ft_is n w (f + ft_zR dr) k 1 = 0 := by
                rcases Nat.lt_or_ge (f + ft_zR dr) n with h | h
                · have h5 := hend h
                  exact ft_is0 (fun h6 => by have h7 := h6.1; dsimp only [ft_le8] at h7; omega)
                · exact ft_is_ge h
              rw [e0]
              refine n_if_eq X 59 d_M_closeLeft_50 rfl (by omega) (fun hc => ?_) (fun hc => absurd rfl hc)
              refine x_aload_n X d_M_closeLeft_59 rfl hl rfl ?_
              refine x_iload_n X d_M_closeLeft_60 rfl hl rfl ?_
              refine x_iload X d_M_closeLeft_61 hl rfl ?_
              refine x_iload X d_M_closeLeft_63 hl rfl ?_
              refine x_go0 (x_runV X (C_M_line l D A _ a lo hi en md vs n zf mk pl ct w hP hd hw hz he hm k f 1 dr okr h3 hk3 (by decide) (by omega) (by omega)) b_M_line s_M_line v_M_line e_M_75 (m_at hP) rfl rfl hl rfl (Nat.le_of_ble_eq_true rfl) d_M_closeLeft_65 (Nat.le_of_ble_eq_true rfl) (Nat.le_of_ble_eq_true rfl) ⟨Nat.le_of_ble_eq_true rfl, Nat.le_of_ble_eq_true rfl⟩) hS (fun _ h => h) (fun H locs hP hF hS => ?_)
              obtain ⟨w', hP', hw', hh', heo'⟩ := hP
              exact x_vret X hS (Nat.le_refl _) (Nat.le_refl _) d_M_closeLeft_68 ⟨rfl, hQ _ _ hP' hw' hh' heo'⟩
            | succ g ih =>
              intro i locs ls hg hiz hl hS
              have hati := ft_wR_at (i := i) okr h3 he (by omega) hk3 (by decide) (by omega)
              refine x_aload_n X d_M_closeLeft_41 rfl hl rfl ?_
              refine x_iload X d_M_closeLeft_42 hl rfl ?_
              refine x_iload X d_M_closeLeft_44 hl rfl ?_
              refine x_iconst (v := nI 1) X d_M_closeLeft_46 rfl ?_
              refine x_goR (x_runV X (C_M_is l D A _ a lo hi en md vs n zf mk pl ct w hP hw hn _ k 1 (by omega) (by omega) (by decide)) b_M_is s_M_is v_M_is e_M_64 (m_at hP) rfl rfl hl rfl (Nat.le_of_ble_eq_true rfl) d_M_closeLeft_47 (Nat.le_of_ble_eq_true rfl) (Nat.le_of_ble_eq_true rfl) ⟨Nat.le_of_ble_eq_true rfl, Nat.le_of_ble_eq_true rfl⟩) hS (fun locs hS => ?_)
              rw [ft_is1 (by omega) ⟨hati.2.1, hati.1⟩]
              refine n_if_eq X 59 d_M_closeLeft_50 rfl (by omega) (fun hc => absurd hc (by decide)) (fun hc => ?_)
              refine n_iinc (d := 1) X d_M_closeLeft_53 rfl hl rfl (by decide) rfl (fun ls hl => ?_)
              refine x_goto X 41 d_M_closeLeft_56 rfl ?_
              exact ih (i + 1) _ _ (by omega) (by omega) hl hS
          exact cnt (ft_zR dr) 0 _ _ rfl (Nat.zero_le _) hl hS
        | some y =>
          have oky : ft_ok en md zf (k + 1) y := okm
          have hy : ft_hd w f (ft_wI 2 y) := h2
          simp only [ft_zT] at h3 hB hf hend hQ
          have hzy := ft_ok_z oky
          rw [Nat.pow_succ] at hzy
          have hk2 : k < 3 := by
            have : 2 ^ k < 2 ^ 3 := by omega
            exact (Nat.pow_lt_pow_iff_right (by decide)).1 this
          rw [ft_op_l0, if_neg (by simp [ft_em])] at hQ
          have hat := ft_wI_at (i := 0) oky hy he (by omega) (by omega) (by decide) (by omega)
          rw [Nat.add_zero] at hat
          dsimp only [ft_le8, ft_sd] at hat
          have hps := ft_okR_ps oky
          refine n_icmp_ge X 38 d_M_closeLeft_21 rfl (by omega) (by omega) (fun hc => absurd hc (by omega)) (fun hc => ?_)
          refine x_aload_n X d_M_closeLeft_24 rfl hl rfl ?_
          refine m_get X hP 9 (by decide) e_M_34 rfl d_M_closeLeft_25 ?_
          refine x_iload_n X d_M_closeLeft_28 rfl hl rfl ?_
          refine m_ld_w X hP (by omega) d_M_closeLeft_29 ?_
          refine x_goR (x_runS X (C_M_level l D A _ (w f) (by omega)) b_M_level s_M_level e_M_40 rfl hl rfl (Nat.le_of_ble_eq_true rfl) d_M_closeLeft_30 (Nat.le_of_ble_eq_true rfl) (Nat.le_of_ble_eq_true rfl) ⟨Nat.le_of_ble_eq_true rfl, Nat.le_of_ble_eq_true rfl⟩) hS (fun locs hS => ?_)
          refine x_iload X d_M_closeLeft_33 hl rfl ?_
          refine n_icmp_gt X 69 d_M_closeLeft_35 rfl (by omega) (by omega) (fun hc => ?_) (fun hc => absurd hc (by omega))
          refine x_aload_n X d_M_closeLeft_69 rfl hl rfl ?_
          refine m_get X hP 9 (by decide) e_M_34 rfl d_M_closeLeft_70 ?_
          refine x_iload_n X d_M_closeLeft_73 rfl hl rfl ?_
          refine m_ld_w X hP (by omega) d_M_closeLeft_74 ?_
          refine x_goR (x_runS X (C_M_side l D A _ (w f) (by omega)) b_M_side s_M_side e_M_44 rfl hl rfl (Nat.le_of_ble_eq_true rfl) d_M_closeLeft_75 (Nat.le_of_ble_eq_true rfl) (Nat.le_of_ble_eq_true rfl) ⟨Nat.le_of_ble_eq_true rfl, Nat.le_of_ble_eq_true rfl⟩) hS (fun locs hS => ?_)
          refine x_iconst (v := nI 2) X d_M_closeLeft_78 rfl ?_
          refine n_icmp_ne X 86 d_M_closeLeft_79 rfl (by omega) (by omega) (fun hc => absurd hat.1 hc) (fun hc => ?_)
          refine x_iconst (v := nI 1) X d_M_closeLeft_82 rfl ?_
          refine x_goto X 87 d_M_closeLeft_83 rfl ?_
          refine x_istore X d_M_closeLeft_87 hl (by decide) rfl (fun ls hl => ?_)
          refine x_aload_n X d_M_closeLeft_89 rfl hl rfl ?_
          refine x_iload_n X d_M_closeLeft_90 rfl hl rfl ?_
          refine x_iload X d_M_closeLeft_91 hl rfl ?_
          refine x_iconst (v := nI 1) X d_M_closeLeft_93 rfl ?_
          refine n_iadd X d_M_closeLeft_94 ?_
          refine x_goR (x_runV X (C_M_endI l D A _ a lo hi en md vs n zf mk pl ct w hP hw hz en md (k + 1) f 2 y oky hy he (by omega) (by omega) (by decide) (by omega)) b_M_end s_M_end v_M_end e_M_60 (m_at hP) rfl rfl hl rfl (Nat.le_of_ble_eq_true rfl) d_M_closeLeft_95 (Nat.le_of_ble_eq_true rfl) (Nat.le_of_ble_eq_true rfl) ⟨Nat.le_of_ble_eq_true rfl, Nat.le_of_ble_eq_true rfl⟩) hS (fun locs hS => ?_)
          refine x_istore X d_M_closeLeft_98 hl (by decide) rfl (fun ls hl => ?_)
          refine x_aload_n X d_M_closeLeft_100 rfl hl rfl ?_
          refine x_iload_n X d_M_closeLeft_101 rfl hl rfl ?_
          refine x_iload X d_M_closeLeft_102 hl rfl ?_
          refine x_iload X d_M_closeLeft_104 hl rfl ?_
          refine x_iconst (v := nI 0) X d_M_closeLeft_106 rfl ?_
          refine x_go0 (x_runV X (C_M_settle l D A _ a lo hi en md vs n zf mk pl ct w hP hd hw f (f + ft_z y) k 0 (by omega) (by omega) (by omega) (by decide)) b_M_settle s_M_settle v_M_settle e_M_56 (m_at hP) rfl rfl hl rfl (Nat.le_of_ble_eq_true rfl) d_M_closeLeft_107 (Nat.le_of_ble_eq_true rfl) (Nat.le_of_ble_eq_true rfl) ⟨Nat.le_of_ble_eq_true rfl, Nat.le_of_ble_eq_true rfl⟩) hS (fun _ h => h) (fun H locs hP hF hS => ?_)
          refine x_iload X d_M_closeLeft_110 hl rfl ?_
          refine n_if_eq X 116 d_M_closeLeft_112 rfl (by omega) (fun hc => absurd hc (by decide)) (fun hc => ?_)
          refine x_vret X hS (Nat.le_refl _) (Nat.le_refl _) d_M_closeLeft_115 ⟨rfl, hQ _ _ hP (ft_bw_sw hw (by omega) (by decide)) (ft_hd3' ?_ (ft_hd_nil _ _) ?_) (ft_eo_wd (ft_eo_sw _ _ _ _ _) (Nat.le_refl _) (by omega))⟩
          · exact ft_sw_U oky hy he (by omega) (by omega) (by decide) (Nat.le_refl _) (Nat.le_refl _)
          · show ft_hd _ (f + ft_zR (ft_ps y) + 0) (ft_wR 1 dr)
            rw [hps.2.1, Nat.add_zero]
            exact ft_sw_out h3 (Or.inr (Nat.le_refl _))
    | cons d sp ih =>
      intro dl dr k f w v5 v6 H1 locs ls hl hP hw okl okr okm h1 h2 h3 hl4 hr1 hr4 hB hf hend hQ hS
      have hzr := ft_okR_z okr
      have hzr1 : 1 * 2 ^ k ≤ dr.length * 2 ^ k := Nat.mul_le_mul_right _ hr1
      have h2k := Nat.one_le_two_pow (n := k)
      have hk3 : k ≤ 3 := ft_k3 (by omega)
      have hwf := hw f
      dsimp only [ft_le8] at hend
      rcases Nat.eq_zero_or_pos dl.length with hdl | hdl
      rotate_left
      · have hzl := ft_okR_z okl
        have hzl1 : 1 * 2 ^ k ≤ dl.length * 2 ^ k := Nat.mul_le_mul_right _ hdl
        have hat := ft_wR_at (i := 0) okl h1 he (by omega) hk3 (by decide) (by omega)
        rw [Nat.add_zero] at hat
        rw [ft_op_lr hdl hr1] at hQ
        refine x_aload_n X d_M_closeLeft_5 rfl hl rfl ?_
        refine x_iload_n X d_M_closeLeft_6 rfl hl rfl ?_
        refine x_iload X d_M_closeLeft_7 hl rfl ?_
        refine x_iconst (v := nI 0) X d_M_closeLeft_9 rfl ?_
        refine x_goR (x_runV X (C_M_is l D A _ a lo hi en md vs n zf mk pl ct w hP hw hn f k 0 (by omega) (by omega) (by decide)) b_M_is s_M_is v_M_is e_M_64 (m_at hP) rfl rfl hl rfl (Nat.le_of_ble_eq_true rfl) d_M_closeLeft_10 (Nat.le_of_ble_eq_true rfl) (Nat.le_of_ble_eq_true rfl) ⟨Nat.le_of_ble_eq_true rfl, Nat.le_of_ble_eq_true rfl⟩) hS (fun locs hS => ?_)
        rw [ft_is1 (by omega) ⟨hat.2.1, hat.1⟩]
        refine n_if_ne X 125 d_M_closeLeft_13 rfl (by omega) (fun hc => ?_) (fun hc => absurd hc (by decide))
        exact x_vret X hS (Nat.le_refl _) (Nat.le_refl _) d_M_closeLeft_125 ⟨rfl, hQ _ _ hP hw (ft_hd3' h1 h2 h3) (ft_eo_rf _ _ _)⟩
      · have hdl0 : dl = [] := List.length_eq_zero_iff.1 hdl
        subst hdl0
        simp only [ft_zR, Nat.zero_add, Nat.add_zero] at h2 h3 hB hf hend hQ
        refine x_aload_n X d_M_closeLeft_5 rfl hl rfl ?_
        refine x_iload_n X d_M_closeLeft_6 rfl hl rfl ?_
        refine x_iload X d_M_closeLeft_7 hl rfl ?_
        refine x_iconst (v := nI 0) X d_M_closeLeft_9 rfl ?_
        refine x_goR (x_runV X (C_M_is l D A _ a lo hi en md vs n zf mk pl ct w hP hw hn f k 0 (by omega) (by omega) (by decide)) b_M_is s_M_is v_M_is e_M_64 (m_at hP) rfl rfl hl rfl (Nat.le_of_ble_eq_true rfl) d_M_closeLeft_10 (Nat.le_of_ble_eq_true rfl) (Nat.le_of_ble_eq_true rfl) ⟨Nat.le_of_ble_eq_true rfl, Nat.le_of_ble_eq_true rfl⟩) hS (fun locs hS => ?_)
        have hp := ft_past okm okr hr1 h2 h3 he (by omega) hk3 (fun hem => ft_k3 (by
          have := ft_okT_z okm hem
          rw [Nat.pow_succ] at this ⊢
          omega))
        rw [ft_is0 (fun h => by omega)]
        have hat := ft_wT_first okm rfl h2 he (by omega) (ft_k3 (by
          have := ft_okT_z okm rfl
          rw [Nat.pow_succ] at this ⊢
          omega))
        simp only [List.isEmpty_cons, Bool.false_eq_true, if_false] at hat
        dsimp only [ft_le8, ft_sd] at hat
        have hzm := ft_okT_zd okm
        rw [Nat.pow_succ] at hzm
        obtain ⟨m1, m2, m3⟩ := ft_hd3 h2
        have hT : ft_zT (d :: sp) o = ft_zR d.1 + ft_zT sp o + ft_zR d.2 := rfl
        obtain ⟨l0, l', hl0⟩ : ∃ l0 l', d.1 = l0 :: l' := by
          cases hd1 : d.1 with
          | nil => have := okm.1.1; rw [hd1] at this; simp at this
          | cons l0 l' => exact ⟨l0, l', rfl⟩
        have ok0 : ft_ok en md zf (k + 1) l0 := okm.1.2.2 l0 (by rw [hl0]; simp)
        have okl' : ft_okR en md zf (k + 1) l' := fun y hy => okm.1.2.2 y (by rw [hl0]; simp [hy])
        have hz02 := ft_ok_z ok0
        rw [Nat.pow_succ] at hz02
        have hzd1 : ft_zR d.1 = ft_z l0 + ft_zR l' := by rw [hl0]; rfl
        have hlen : d.1.length = l'.length + 1 := by rw [hl0]; rfl
        have hdr : d.1.drop 1 = l' := by rw [hl0]; rfl
        have hfi : ft_fi (d :: sp) o = l0 := by simp only [ft_fi, hl0, List.headD_cons]
        have hps := ft_okR_ps ok0
        have hl41 := okm.1.2.1
        rw [ft_op_l0, if_neg (by simp [ft_em]), hfi, ft_re_op okm.1.1 okm.2.1.1, hdr] at hQ
        rw [hl0, ft_wR_cons] at m1
        obtain ⟨m0, ml⟩ := ft_hd_app.1 m1
        rw [ft_wI_len] at ml
        have hk2 : k < 3 := by
          have : 2 ^ k < 2 ^ 3 := by omega
          exact (Nat.pow_lt_pow_iff_right (by decide)).1 this
        have hrat := ft_wR_at (i := 0) okr h3 he (by omega) hk3 (by decide) (by omega)
        rw [Nat.add_zero] at hrat
        refine n_if_ne X 125 d_M_closeLeft_13 rfl (by omega) (fun hc => absurd rfl hc) (fun hc => ?_)
        refine x_iload_n X d_M_closeLeft_16 rfl hl rfl ?_
        refine x_aload_n X d_M_closeLeft_17 rfl hl rfl ?_
        refine m_get X hP 10 (by decide) e_M_37 rfl d_M_closeLeft_18 ?_
        refine n_icmp_ge X 38 d_M_closeLeft_21 rfl (by omega) (by omega) (fun hc => absurd hc (by omega)) (fun hc => ?_)
        refine x_aload_n X d_M_closeLeft_24 rfl hl rfl ?_
        refine m_get X hP 9 (by decide) e_M_34 rfl d_M_closeLeft_25 ?_
        refine x_iload_n X d_M_closeLeft_28 rfl hl rfl ?_
        refine m_ld_w X hP (by omega) d_M_closeLeft_29 ?_
        refine x_goR (x_runS X (C_M_level l D A _ (w f) (by omega)) b_M_level s_M_level e_M_40 rfl hl rfl (Nat.le_of_ble_eq_true rfl) d_M_closeLeft_30 (Nat.le_of_ble_eq_true rfl) (Nat.le_of_ble_eq_true rfl) ⟨Nat.le_of_ble_eq_true rfl, Nat.le_of_ble_eq_true rfl⟩) hS (fun locs hS => ?_)
        refine x_iload X d_M_closeLeft_33 hl rfl ?_
        refine n_icmp_gt X 69 d_M_closeLeft_35 rfl (by omega) (by omega) (fun hc => ?_) (fun hc => absurd hc (by omega))
        refine x_aload_n X d_M_closeLeft_69 rfl hl rfl ?_
        refine m_get X hP 9 (by decide) e_M_34 rfl d_M_closeLeft_70 ?_
        refine x_iload_n X d_M_closeLeft_73 rfl hl rfl ?_
        refine m_ld_w X hP (by omega) d_M_closeLeft_74 ?_
        refine x_goR (x_runS X (C_M_side l D A _ (w f) (by omega)) b_M_side s_M_side e_M_44 rfl hl rfl (Nat.le_of_ble_eq_true rfl) d_M_closeLeft_75 (Nat.le_of_ble_eq_true rfl) (Nat.le_of_ble_eq_true rfl) ⟨Nat.le_of_ble_eq_true rfl, Nat.le_of_ble_eq_true rfl⟩) hS (fun locs hS => ?_)
        refine x_iconst (v := nI 2) X d_M_closeLeft_78 rfl ?_
        refine n_icmp_ne X 86 d_M_closeLeft_79 rfl (by omega) (by omega) (fun hc => ?_) (fun hc => absurd hc (by omega))
        refine x_iconst (v := nI 0) X d_M_closeLeft_86 rfl ?_
        refine x_istore X d_M_closeLeft_87 hl (by decide) rfl (fun ls hl => ?_)
        refine x_aload_n X d_M_closeLeft_89 rfl hl rfl ?_
        refine x_iload_n X d_M_closeLeft_90 rfl hl rfl ?_
        refine x_iload X d_M_closeLeft_91 hl rfl ?_
        refine x_iconst (v := nI 1) X d_M_closeLeft_93 rfl ?_
        refine n_iadd X d_M_closeLeft_94 ?_
        refine x_goR (x_runV X (C_M_endI l D A _ a lo hi en md vs n zf mk pl ct w hP hw hz en md (k + 1) f 0 l0 ok0 m0 he (by omega) (by omega) (by decide) (by omega)) b_M_end s_M_end v_M_end e_M_60 (m_at hP) rfl rfl hl rfl (Nat.le_of_ble_eq_true rfl) d_M_closeLeft_95 (Nat.le_of_ble_eq_true rfl) (Nat.le_of_ble_eq_true rfl) ⟨Nat.le_of_ble_eq_true rfl, Nat.le_of_ble_eq_true rfl⟩) hS (fun locs hS => ?_)
        refine x_istore X d_M_closeLeft_98 hl (by decide) rfl (fun ls hl => ?_)
        refine x_aload_n X d_M_closeLeft_100 rfl hl rfl ?_
        refine x_iload_n X d_M_closeLeft_101 rfl hl rfl ?_
        refine x_iload X d_M_closeLeft_102 hl rfl ?_
        refine x_iload X d_M_closeLeft_104 hl rfl ?_
        refine x_iconst (v := nI 0) X d_M_closeLeft_106 rfl ?_
        refine x_go0 (x_runV X (C_M_settle l D A _ a lo hi en md vs n zf mk pl ct w hP hd hw f (f + ft_z l0) k 0 (by omega) (by omega) (by omega) (by decide)) b_M_settle s_M_settle v_M_settle e_M_56 (m_at hP) rfl rfl hl rfl (Nat.le_of_ble_eq_true rfl) d_M_closeLeft_107 (Nat.le_of_ble_eq_true rfl) (Nat.le_of_ble_eq_true rfl) ⟨Nat.le_of_ble_eq_true rfl, Nat.le_of_ble_eq_true rfl⟩) hS (fun _ h => h) (fun H locs hP hF hS => ?_)
        refine x_iload X d_M_closeLeft_110 hl rfl ?_
        refine n_if_eq X 116 d_M_closeLeft_112 rfl (by omega) (fun hc => ?_) (fun hc => absurd rfl hc)
        have hw1 := ft_bw_sw (a := f) (b := f + ft_z l0) (k := k) (s := 0) hw (by omega) (by decide)
        have u0 := ft_sw_U (s := 0) ok0 m0 he (by omega) (by omega) (by decide) (Nat.le_refl f) (Nat.le_refl _)
        have u1 := ft_sw_out (a := f) (b := f + ft_z l0) (k := k) (s := 0) ml (Or.inr (Nat.le_refl _))
        have u2 := ft_sw_out (a := f) (b := f + ft_z l0) (k := k) (s := 0) m2 (Or.inr (by omega))
        have u3 := ft_sw_out (a := f) (b := f + ft_z l0) (k := k) (s := 0) m3 (Or.inr (by omega))
        have u4 := ft_sw_out (a := f) (b := f + ft_z l0) (k := k) (s := 0) h3 (Or.inr (by omega))
        have heo1 := ft_eo_sw w f (f + ft_z l0) k 0
        generalize ft_sw w f (f + ft_z l0) k 0 = w1 at hP hw1 u0 u1 u2 u3 u4 heo1
        have hfe : f + ft_zR d.1 = f + ft_z l0 + ft_zR l' := by omega
        rw [hfe] at u2 u3
        refine x_iload X d_M_closeLeft_116 hl rfl ?_
        refine x_istore_n X d_M_closeLeft_118 rfl hl (by decide) rfl (fun ls hl => ?_)
        refine n_iinc (d := 1) X d_M_closeLeft_119 rfl hl rfl (by decide) rfl (fun ls hl => ?_)
        refine x_goto X 5 d_M_closeLeft_122 rfl ?_
        refine ih l' d.2 (k + 1) (f + ft_z l0) w1 _ _ _ _ _ hl hP hw1 okl' okm.2.1.2.2 okm.2.2 u1 u2 u3 (by omega) okm.2.1.1 okm.2.1.2.1 (by rw [Nat.pow_succ]; omega) (by omega) (fun _ => ?_) ?_ hS
        · rw [show f + ft_z l0 + (ft_zR l' + ft_zT sp o + ft_zR d.2) = f + ft_zT (d :: sp) o from by omega, heo1 _ (Or.inr (by omega)), hrat.2.1]
          omega
        · intro w4 H4 hP4 hw4 hh4 heo4
          have hop := ft_op_ok okm.2.2 okl' okm.2.1.2.2 (by omega) okm.2.1.2.1 (Or.inr okm.2.1.1)
          refine hQ w4 H4 hP4 hw4 (ft_hd3' (l := ft_ps l0) (r := dr) ?_ ?_ ?_) (ft_eo_tr (ft_eo_wd heo1 (Nat.le_refl _) (by omega)) (ft_eo_wd heo4 (by omega) (by omega)))
          · exact ft_eo_hd heo4 u0 (Or.inl (by rw [ft_wR_len, hps.2.1]; exact Nat.le_refl _))
          · rw [hps.2.1]; exact hh4
          · rw [hps.2.1, hop.2, show f + ft_z l0 + (ft_zR l' + ft_zT sp o + ft_zR d.2) = f + ft_zT (d :: sp) o from by omega]
            exact ft_eo_hd heo4 u4 (Or.inr (by omega))
  exact loop (nI f) (nI k) sp dl dr k f w none none H0 [] _ hl hP hw okl okr okm h1 h2 h3 hl4 hr1 hr4 hB hf hend (fun w' H1 h1 h2 h3 h4 => by rw [← hPost]; exact ⟨w', h1, h2, h3, h4⟩) hS
