/-! Contract of the reference: back. -/
/-- ahead of the right digit comes no item of it -/
theorem ft_ahead {ne mm : Nat} {zf w : Nat → Nat} {k f : Nat} {sp : ft_S} {o : Option ft_I} {r : List ft_I} (okm : ft_okT ne mm zf (k + 1) sp o) (okr : ft_okR ne mm zf k r) (hr : 1 ≤ r.length) (h1 : ft_hd w f (ft_wR 0 r)) (h2 : ft_hd w (f + ft_zR r) (ft_wT sp o)) (hne : ne ≤ 128) (hmm : mm < 8192) (hk : k ≤ 3) (hk2 : ft_em sp o = false → k + 1 ≤ 3) : ft_le8 (w (f + ft_zR r + ft_zT sp o - 1)) = k ∧ ft_sd (w (f + ft_zR r + ft_zT sp o - 1)) = 0 ∨ ft_le8 (w (f + ft_zR r + ft_zT sp o - 1)) = k + 1 := by
  cases he : ft_em sp o with
  | true =>
    have hz := (ft_em_z okm).1 he
    rw [hz, Nat.add_zero]
    have hzr := ft_okR_z okr
    have h9 : 1 * 2 ^ k ≤ r.length * 2 ^ k := Nat.mul_le_mul_right _ hr
    have := Nat.one_le_two_pow (n := k)
    have := ft_wR_at (i := ft_zR r - 1) okr h1 hne hmm hk (by decide) (by omega)
    rw [show f + (ft_zR r - 1) = f + ft_zR r - 1 from by omega] at this
    exact Or.inl ⟨this.2.1, this.1⟩
  | false =>
    exact Or.inr (ft_wT_last okm he h2 hne hmm (hk2 he)).1
theorem ft_isb0 {n j k s : Nat} {w : Nat → Nat} (h : 1 ≤ j → ¬ (ft_le8 (w (j - 1)) = k ∧ ft_sd (w (j - 1)) = s)) : ft_isb n w j k s = 0 := by
  unfold ft_isb
  split
  · exact ft_is0 (h (by assumption))
  · rfl
theorem ft_isb1 {n j k s : Nat} {w : Nat → Nat} (hj : 1 ≤ j) (hn : j ≤ n) (h : ft_le8 (w (j - 1)) = k ∧ ft_sd (w (j - 1)) = s) : ft_isb n w j k s = 1 := by
  unfold ft_isb
  rw [if_pos hj]
  exact ft_is1 (by omega) h
theorem ft_rev {l : List ft_I} (h : l ≠ []) : ∃ l' x, l = l' ++ [x] := ⟨l.dropLast, l.getLast h, (List.dropLast_concat_getLast h).symm⟩
set_option maxRecDepth 100000 in
set_option maxHeartbeats 4000000 in
theorem C_M_back (l : Launch) (D : va_G) (A : Nat → ClassId) (H0 : Heap) (a : Nat → Nat) (lo hi : Nat → Int32) (en md vs n : Nat) (zf mk pl ct w : Nat → Nat) (hP : mH D a A lo hi en zf mk md pl ct vs w n H0) (hd : mDs a) (hw : ft_bw w) (hz : ∀ i, zf i < 128) (he : en ≤ 128) (hn : n ≤ 48) (k f : Nat) (x : ft_I) (sp : ft_S) (o : Option ft_I) (sd : Nat) (okx : ft_ok en md zf k x) (okt : ft_okT en md zf k sp o) (ht : ft_hd w f (ft_wT sp o)) (hx : ft_hd w (f + ft_zT sp o) (ft_wI sd x)) (hsd : sd < 4) (hB : 2 * 2 ^ k + ft_z x + ft_zT sp o ≤ 42) (hf : f + ft_zT sp o + ft_z x ≤ n) (hend : 0 < f → ft_le8 (w (f - 1)) < k) (hmd : (ft_bk sp o x (md, zf)).2.1 < 4200) : xC l y_M_back c_M_back 10 (none : Option FieldType) 3 D A H0 [.ref (a 0), .int (nI (f + ft_zT sp o + ft_z x)), .int (nI k)] (mFr a) (q0 (fun H1 => ∃ w', mH D a A lo hi en (ft_bk sp o x (md, zf)).2.2 mk (ft_bk sp o x (md, zf)).2.1 pl ct vs w' n H1 ∧ ft_bw w' ∧ ft_hd w' f (ft_wT (ft_bk sp o x (md, zf)).1.1 (ft_bk sp o x (md, zf)).1.2) ∧ ft_eo w w' f (f + ft_zT sp o + ft_z x))) 0 0 := by
  refine xC.of rfl (Nat.le_of_ble_eq_true rfl) ?_
  intro p_ e_ s_ m_ ar_ bl_ me_ c_ ls X hl
  have hl : lz ls 10 [some (.ref (a 0)), some (.int (nI (f + ft_zT sp o + ft_z x))), some (.int (nI k)), none, none, none, none, none, none, none] := hl
  have hS : va_S (mFr a) H0 H0 [] := va_S.rf
  refine x_iload_n X d_M_back_0 rfl hl rfl ?_
  refine x_istore_n X d_M_back_1 rfl hl (by decide) rfl (fun ls hl => ?_)
  refine x_iload_n X d_M_back_2 rfl hl rfl ?_
  refine x_istore X d_M_back_3 hl (by decide) rfl (fun ls hl => ?_)
  refine x_iconst (v := nI 1) X d_M_back_5 rfl ?_
  refine x_istore X d_M_back_6 hl (by decide) rfl (fun ls hl => ?_)
  generalize hPost : (fun H1 => ∃ w', mH D a A lo hi en (ft_bk sp o x (md, zf)).2.2 mk (ft_bk sp o x (md, zf)).2.1 pl ct vs w' n H1 ∧ ft_bw w' ∧ ft_hd w' f (ft_wT (ft_bk sp o x (md, zf)).1.1 (ft_bk sp o x (md, zf)).1.2) ∧ ft_eo w w' f (f + ft_zT sp o + ft_z x)) = Post
  have loop : ∀ (s0 k0 : Int32) (sp : ft_S) (x : ft_I) (k f sd md : Nat) (zf w : Nat → Nat) (v6 v7 v8 v9 : Option Value) (H1 : Heap) (locs : List Loc) (ls : Array Slot), lz ls 10 [some (.ref (a 0)), some (.int s0), some (.int k0), some (.int (nI (f + ft_zT sp o + ft_z x))), some (.int (nI k)), some (.int (nI 1)), v6, v7, v8, v9] → mH D a A lo hi en zf mk md pl ct vs w n H1 → ft_bw w → (∀ i, zf i < 128) → ft_ok en md zf k x → ft_okT en md zf k sp o → ft_hd w f (ft_wT sp o) → ft_hd w (f + ft_zT sp o) (ft_wI sd x) → sd < 4 → 2 * 2 ^ k + ft_z x + ft_zT sp o ≤ 42 → f + ft_zT sp o + ft_z x ≤ n → (0 < f → ft_le8 (w (f - 1)) < k) → (ft_bk sp o x (md, zf)).2.1 < 4200 →
      (∀ (w' : Nat → Nat) (H1 : Heap), mH D a A lo hi en (ft_bk sp o x (md, zf)).2.2 mk (ft_bk sp o x (md, zf)).2.1 pl ct vs w' n H1 → ft_bw w' → ft_hd w' f (ft_wT (ft_bk sp o x (md, zf)).1.1 (ft_bk sp o x (md, zf)).1.2) → ft_eo w w' f (f + ft_zT sp o + ft_z x) → Post H1) → va_S (mFr a) H0 H1 locs → W p_ l e_ (x_rm 3 0 0) s_ m_ ar_ bl_ me_ c_ H1 locs 0 0 (MQ bl_ (xQ (mFr a) (q0 Post)) ar_ s_ 0 0 (mFr a)) (F0 m_ 8 ls []) := by
    clear hPost hP hw hz okx okt hx ht hsd hB hf hend hmd hl hS
    intro s0 k0 sp
    induction sp with
    | nil =>
      intro x k f sd md zf w v6 v7 v8 v9 H1 locs ls hl hP hw hz okx okt ht hx hsd hB hf hend hmd hQ hS
      have hk3 : k ≤ 3 := ft_k3 (by have := ft_ok_z okx; omega)
      have hzx := ft_ok_zpos okx
      refine x_iload X d_M_back_8 hl rfl ?_
      refine n_if_eq X 193 d_M_back_10 rfl (by omega) (fun hc => absurd hc (by decide)) (fun hc => ?_)
      have hmd0 : md < 4200 := by cases o <;> exact hmd
      refine x_aload_n X d_M_back_13 rfl hl rfl ?_
      refine x_iload_n X d_M_back_14 rfl hl rfl ?_
      refine x_iload X d_M_back_15 hl rfl ?_
      refine x_goR (x_runV X (C_M_begI l D A _ a lo hi en md vs n zf mk pl ct w hP hw en md k _ sd x okx hx he (by have := hmd0; omega) hk3 hsd (by omega)) b_M_begin s_M_begin v_M_begin e_M_72 (m_at hP) rfl rfl hl rfl (Nat.le_of_ble_eq_true rfl) d_M_back_17 (Nat.le_of_ble_eq_true rfl) (Nat.le_of_ble_eq_true rfl) ⟨Nat.le_of_ble_eq_true rfl, Nat.le_of_ble_eq_true rfl⟩) hS (fun locs hS => ?_)
      refine x_istore X d_M_back_20 hl (by decide) rfl (fun ls hl => ?_)
      refine x_iconst (v := nI 0) X d_M_back_22 rfl ?_
      refine x_istore X d_M_back_23 hl (by decide) rfl (fun ls hl => ?_)
      refine x_iload X d_M_back_25 hl rfl ?_
      cases o with
      | none =>
        simp only [ft_zT, Nat.add_zero] at hf hx hQ hl
        dsimp only [ft_le8] at hend
        have hwe := hw (f - 1)
        have last : ∀ (locs : List Loc), va_S (mFr a) H0 H1 locs → W p_ l e_ (x_rm 3 0 0) s_ m_ ar_ bl_ me_ c_ H1 locs 0 0 (MQ bl_ (xQ (mFr a) (q0 Post)) ar_ s_ 0 0 (mFr a)) (F0 m_ 47 ls []) := by
          intro locs hS
          refine x_aload_n X d_M_back_47 rfl hl rfl ?_
          refine x_iload X d_M_back_48 hl rfl ?_
          refine x_iload_n X d_M_back_50 rfl hl rfl ?_
          refine x_iload X d_M_back_51 hl rfl ?_
          refine x_iconst (v := nI 2) X d_M_back_53 rfl ?_
          refine x_go0 (x_runV X (C_M_settle l D A _ a lo hi en md vs n zf mk pl ct w hP hd (hw) f (f + ft_z x) k 2 (by omega) (by omega) (by omega) (by decide)) b_M_settle s_M_settle v_M_settle e_M_56 (m_at hP) rfl rfl hl rfl (Nat.le_of_ble_eq_true rfl) d_M_back_54 (Nat.le_of_ble_eq_true rfl) (Nat.le_of_ble_eq_true rfl) ⟨Nat.le_of_ble_eq_true rfl, Nat.le_of_ble_eq_true rfl⟩) hS (fun _ h => h) (fun H locs hP hF hS => ?_)
          refine x_goto X 190 d_M_back_57 rfl ?_
          refine x_goto X 8 d_M_back_190 rfl ?_
          refine x_iload X d_M_back_8 hl rfl ?_
          refine n_if_eq X 193 d_M_back_10 rfl (by omega) (fun hc => ?_) (fun hc => absurd rfl hc)
          exact x_vret X hS (Nat.le_refl _) (Nat.le_refl _) d_M_back_193 ⟨rfl, hQ _ _ hP (ft_bw_sw hw (by omega) (by decide)) (ft_sw_I okx hx he (by omega) hk3 hsd (Nat.le_refl _) (Nat.le_refl _)) (ft_eo_sw _ _ _ _ _)⟩
        simp only [ft_zT, Nat.add_zero]
        refine n_if_le X 47 d_M_back_27 rfl (by omega) (fun hc => ?_) (fun hc => ?_)
        · exact last _ hS
        · refine x_aload_n X d_M_back_30 rfl hl rfl ?_
          refine m_get X hP 9 (by decide) e_M_34 rfl d_M_back_31 ?_
          refine x_iload X d_M_back_34 hl rfl ?_
          refine x_iconst (v := nI 1) X d_M_back_36 rfl ?_
          refine n_isub X d_M_back_37 (by omega) ?_
          refine m_ld_w X hP (by omega) d_M_back_38 ?_
          refine x_goR (x_runS X (C_M_level l D A _ (w (f - 1)) (by omega)) b_M_level s_M_level e_M_40 rfl hl rfl (Nat.le_of_ble_eq_true rfl) d_M_back_39 (Nat.le_of_ble_eq_true rfl) (Nat.le_of_ble_eq_true rfl) ⟨Nat.le_of_ble_eq_true rfl, Nat.le_of_ble_eq_true rfl⟩) hS (fun locs hS => ?_)
          refine x_iload X d_M_back_42 hl rfl ?_
          refine n_icmp_ge X 60 d_M_back_44 rfl (by omega) (by omega) (fun hc => absurd (hend (by assumption)) (by omega)) (fun hc2 => ?_)
          exact last _ hS
      | some y =>
        have oky : ft_ok en md zf k y := okt
        have hzy := ft_ok_zpos oky
        have hy : ft_hd w f (ft_wI 2 y) := ht
        simp only [ft_zT] at hf hend hB hx hl hQ ⊢
        have hyat := ft_wI_at (i := ft_z y - 1) oky hy he (by omega) hk3 (by decide) (by omega)
        rw [show f + (ft_z y - 1) = f + ft_z y - 1 from by omega] at hyat
        dsimp only [ft_le8, ft_sd] at hyat
        refine n_if_le X 47 d_M_back_27 rfl (by omega) (fun hc => absurd hc (by omega)) (fun hc => ?_)
        refine x_aload_n X d_M_back_30 rfl hl rfl ?_
        refine m_get X hP 9 (by decide) e_M_34 rfl d_M_back_31 ?_
        refine x_iload X d_M_back_34 hl rfl ?_
        refine x_iconst (v := nI 1) X d_M_back_36 rfl ?_
        refine n_isub X d_M_back_37 (by omega) ?_
        refine m_ld_w X hP (by omega) d_M_back_38 ?_
        refine x_goR (x_runS X (C_M_level l D A _ (w (f + ft_z y - 1)) (by omega)) b_M_level s_M_level e_M_40 rfl hl rfl (Nat.le_of_ble_eq_true rfl) d_M_back_39 (Nat.le_of_ble_eq_true rfl) (Nat.le_of_ble_eq_true rfl) ⟨Nat.le_of_ble_eq_true rfl, Nat.le_of_ble_eq_true rfl⟩) hS (fun locs hS => ?_)
        refine x_iload X d_M_back_42 hl rfl ?_
        refine n_icmp_ge X 60 d_M_back_44 rfl (by omega) (by omega) (fun hc => ?_) (fun hc => absurd hc (by omega))
        refine x_aload_n X d_M_back_60 rfl hl rfl ?_
        refine m_get X hP 9 (by decide) e_M_34 rfl d_M_back_61 ?_
        refine x_iload X d_M_back_64 hl rfl ?_
        refine x_iconst (v := nI 1) X d_M_back_66 rfl ?_
        refine n_isub X d_M_back_67 (by omega) ?_
        refine m_ld_w X hP (by omega) d_M_back_68 ?_
        refine x_goR (x_runS X (C_M_side l D A _ (w (f + ft_z y - 1)) (by omega)) b_M_side s_M_side e_M_44 rfl hl rfl (Nat.le_of_ble_eq_true rfl) d_M_back_69 (Nat.le_of_ble_eq_true rfl) (Nat.le_of_ble_eq_true rfl) ⟨Nat.le_of_ble_eq_true rfl, Nat.le_of_ble_eq_true rfl⟩) hS (fun locs hS => ?_)
        refine x_iconst (v := nI 2) X d_M_back_72 rfl ?_
        refine n_icmp_ne X 106 d_M_back_73 rfl (by omega) (by omega) (fun hc => absurd hyat.1 hc) (fun hc => ?_)
        refine x_aload_n X d_M_back_76 rfl hl rfl ?_
        refine x_aload_n X d_M_back_77 rfl hl rfl ?_
        refine x_iload X d_M_back_78 hl rfl ?_
        refine x_iload X d_M_back_80 hl rfl ?_
        refine x_goR (x_runV X (C_M_begI l D A _ a lo hi en md vs n zf mk pl ct w hP hw en md k f 2 y oky hy he (by omega) hk3 (by decide) (by omega)) b_M_begin s_M_begin v_M_begin e_M_72 (m_at hP) rfl rfl hl rfl (Nat.le_of_ble_eq_true rfl) d_M_back_82 (Nat.le_of_ble_eq_true rfl) (Nat.le_of_ble_eq_true rfl) ⟨Nat.le_of_ble_eq_true rfl, Nat.le_of_ble_eq_true rfl⟩) hS (fun locs hS => ?_)
        refine x_iload X d_M_back_85 hl rfl ?_
        refine x_iload X d_M_back_87 hl rfl ?_
        refine x_iconst (v := nI 0) X d_M_back_89 rfl ?_
        refine x_go0 (x_runV X (C_M_settle l D A _ a lo hi en md vs n zf mk pl ct w hP hd (hw) f (f + ft_z y) k 0 (by omega) (by omega) (by omega) (by decide)) b_M_settle s_M_settle v_M_settle e_M_56 (m_at hP) rfl rfl hl rfl (Nat.le_of_ble_eq_true rfl) d_M_back_90 (Nat.le_of_ble_eq_true rfl) (Nat.le_of_ble_eq_true rfl) ⟨Nat.le_of_ble_eq_true rfl, Nat.le_of_ble_eq_true rfl⟩) hS (fun _ h => h) (fun H locs hP hF hS => ?_)
        have hw1 := ft_bw_sw (a := f) (b := f + ft_z y) (k := k) (s := 0) hw (by omega) (by decide)
        have hx1 := ft_sw_out (a := f) (b := f + ft_z y) (k := k) (s := 0) hx (Or.inr (Nat.le_refl _))
        have hy1 := ft_sw_I (s := 0) oky hy he (by omega) hk3 (by decide) (Nat.le_refl f) (Nat.le_refl _)
        refine x_aload_n X d_M_back_93 rfl hl rfl ?_
        refine x_iload X d_M_back_94 hl rfl ?_
        refine x_iload_n X d_M_back_96 rfl hl rfl ?_
        refine x_iload X d_M_back_97 hl rfl ?_
        refine x_iconst (v := nI 1) X d_M_back_99 rfl ?_
        refine x_go0 (x_runV X (C_M_settle l D A _ a lo hi en md vs n zf mk pl ct _ hP hd (hw1) (f + ft_z y) (f + ft_z y + ft_z x) k 1 (by omega) (by omega) (by omega) (by decide)) b_M_settle s_M_settle v_M_settle e_M_56 (m_at hP) rfl rfl hl rfl (Nat.le_of_ble_eq_true rfl) d_M_back_100 (Nat.le_of_ble_eq_true rfl) (Nat.le_of_ble_eq_true rfl) ⟨Nat.le_of_ble_eq_true rfl, Nat.le_of_ble_eq_true rfl⟩) hS (fun _ h => h) (fun H locs hP hF hS => ?_)
        refine x_goto X 190 d_M_back_103 rfl ?_
        refine x_goto X 8 d_M_back_190 rfl ?_
        refine x_iload X d_M_back_8 hl rfl ?_
        refine n_if_eq X 193 d_M_back_10 rfl (by omega) (fun hc => ?_) (fun hc => absurd rfl hc)
        refine x_vret X hS (Nat.le_refl _) (Nat.le_refl _) d_M_back_193 ⟨rfl, hQ _ _ hP (ft_bw_sw hw1 (by omega) (by decide)) ?_ (ft_eo_tr (ft_eo_wd (ft_eo_sw _ _ _ _ _) (Nat.le_refl _) (by omega)) (ft_eo_wd (ft_eo_sw _ _ _ _ _) (by omega) (by omega)))⟩
        simp only [ft_bk]
        refine ft_hd3' (l := [y]) (r := [x]) ?_ (ft_hd_nil _ _) ?_
        · rw [ft_wR_one]; exact ft_sw_out hy1 (Or.inl (by rw [ft_wI_len]; exact Nat.le_refl _))
        · rw [ft_wR_one]
          simp only [ft_zR, ft_zT, Nat.add_zero]
          exact ft_sw_I okx hx1 he (by omega) hk3 hsd (Nat.le_refl _) (Nat.le_refl _)
    | cons d sp ih =>
      intro x k f sd md zf w v6 v7 v8 v9 H1 locs ls hl hP hw hz okx okt ht hx hsd hB hf hend hmd hQ hS
      have hk3 : k ≤ 3 := ft_k3 (by have := ft_ok_z okx; omega)
      have hzx := ft_ok_zpos okx
      have hzx2 := ft_ok_z okx
      obtain ⟨h1, h2, h3⟩ := ft_hd3 ht
      have hzd := ft_okT_zd okt
      have hex := (ft_bk_ok (d :: sp) x o (md, zf) k okx okt).1.1
      have hmd0 : md < 4200 := Nat.lt_of_le_of_lt hex hmd
      have h2k := Nat.one_le_two_pow (n := k)
      have hw1at := ft_wT_last okt rfl ht he (by omega) hk3
      simp only [List.isEmpty_cons, Bool.false_eq_true, if_false] at hw1at
      dsimp only [ft_le8, ft_sd] at hw1at
      have hT : ft_zT (d :: sp) o = ft_zR d.1 + ft_zT sp o + ft_zR d.2 := rfl
      obtain ⟨r', rl, hrl⟩ := ft_rev (l := d.2) (fun e => by have := okt.2.1.1; rw [e] at this; simp at this)
      have okl : ft_ok en md zf k rl := okt.2.1.2.2 rl (by rw [hrl]; simp)
      have okr : ft_okR en md zf k r' := fun y hy => okt.2.1.2.2 y (by rw [hrl]; simp [hy])
      have hzl := ft_ok_zpos okl
      have hzl2 := ft_ok_z okl
      have hzd2 : ft_zR d.2 = ft_zR r' + ft_z rl := by rw [hrl, ft_zR_app]; simp [ft_zR]
      have hlen : d.2.length = r'.length + 1 := by rw [hrl]; simp
      refine x_iload X d_M_back_8 hl rfl ?_
      refine n_if_eq X 193 d_M_back_10 rfl (by omega) (fun hc => absurd hc (by decide)) (fun hc => ?_)
      refine x_aload_n X d_M_back_13 rfl hl rfl ?_
      refine x_iload_n X d_M_back_14 rfl hl rfl ?_
      refine x_iload X d_M_back_15 hl rfl ?_
      refine x_goR (x_runV X (C_M_begI l D A _ a lo hi en md vs n zf mk pl ct w hP hw en md k _ sd x okx hx he (by have := hmd0; omega) hk3 hsd (by omega)) b_M_begin s_M_begin v_M_begin e_M_72 (m_at hP) rfl rfl hl rfl (Nat.le_of_ble_eq_true rfl) d_M_back_17 (Nat.le_of_ble_eq_true rfl) (Nat.le_of_ble_eq_true rfl) ⟨Nat.le_of_ble_eq_true rfl, Nat.le_of_ble_eq_true rfl⟩) hS (fun locs hS => ?_)
      refine x_istore X d_M_back_20 hl (by decide) rfl (fun ls hl => ?_)
      refine x_iconst (v := nI 0) X d_M_back_22 rfl ?_
      refine x_istore X d_M_back_23 hl (by decide) rfl (fun ls hl => ?_)
      refine x_iload X d_M_back_25 hl rfl ?_
      refine n_if_le X 47 d_M_back_27 rfl (by omega) (fun hc => absurd hc (by omega)) (fun hc => ?_)
      refine x_aload_n X d_M_back_30 rfl hl rfl ?_
      refine m_get X hP 9 (by decide) e_M_34 rfl d_M_back_31 ?_
      refine x_iload X d_M_back_34 hl rfl ?_
      refine x_iconst (v := nI 1) X d_M_back_36 rfl ?_
      refine n_isub X d_M_back_37 (by omega) ?_
      refine m_ld_w X hP (by omega) d_M_back_38 ?_
      refine x_goR (x_runS X (C_M_level l D A _ (w (f + ft_zT (d :: sp) o - 1)) (by omega)) b_M_level s_M_level e_M_40 rfl hl rfl (Nat.le_of_ble_eq_true rfl) d_M_back_39 (Nat.le_of_ble_eq_true rfl) (Nat.le_of_ble_eq_true rfl) ⟨Nat.le_of_ble_eq_true rfl, Nat.le_of_ble_eq_true rfl⟩) hS (fun locs hS => ?_)
      refine x_iload X d_M_back_42 hl rfl ?_
      refine n_icmp_ge X 60 d_M_back_44 rfl (by omega) (by omega) (fun hc => ?_) (fun hc => absurd hc (by omega))
      refine x_aload_n X d_M_back_60 rfl hl rfl ?_
      refine m_get X hP 9 (by decide) e_M_34 rfl d_M_back_61 ?_
      refine x_iload X d_M_back_64 hl rfl ?_
      refine x_iconst (v := nI 1) X d_M_back_66 rfl ?_
      refine n_isub X d_M_back_67 (by omega) ?_
      refine m_ld_w X hP (by omega) d_M_back_68 ?_
      refine x_goR (x_runS X (C_M_side l D A _ (w (f + ft_zT (d :: sp) o - 1)) (by omega)) b_M_side s_M_side e_M_44 rfl hl rfl (Nat.le_of_ble_eq_true rfl) d_M_back_69 (Nat.le_of_ble_eq_true rfl) (Nat.le_of_ble_eq_true rfl) ⟨Nat.le_of_ble_eq_true rfl, Nat.le_of_ble_eq_true rfl⟩) hS (fun locs hS => ?_)
      refine x_iconst (v := nI 2) X d_M_back_72 rfl ?_
      refine n_icmp_ne X 106 d_M_back_73 rfl (by omega) (by omega) (fun hc => ?_) (fun hc => absurd hc (by omega))
      refine x_aload_n X d_M_back_106 rfl hl rfl ?_
      refine x_iload X d_M_back_107 hl rfl ?_
      refine x_iload_n X d_M_back_109 rfl hl rfl ?_
      refine x_iload X d_M_back_110 hl rfl ?_
      refine x_iconst (v := nI 1) X d_M_back_112 rfl ?_
      refine x_go0 (x_runV X (C_M_settle l D A _ a lo hi en md vs n zf mk pl ct w hP hd (hw) (f + ft_zT (d :: sp) o) (f + ft_zT (d :: sp) o + ft_z x) k 1 (by omega) (by omega) (by omega) (by decide)) b_M_settle s_M_settle v_M_settle e_M_56 (m_at hP) rfl rfl hl rfl (Nat.le_of_ble_eq_true rfl) d_M_back_113 (Nat.le_of_ble_eq_true rfl) (Nat.le_of_ble_eq_true rfl) ⟨Nat.le_of_ble_eq_true rfl, Nat.le_of_ble_eq_true rfl⟩) hS (fun _ h => h) (fun H locs hP hF hS => ?_)
      have hw1 := ft_bw_sw (a := f + ft_zT (d :: sp) o) (b := f + ft_zT (d :: sp) o + ft_z x) (k := k) (s := 1) hw (by omega) (by decide)
      have hx1 := ft_sw_I (s := 1) okx hx he (by omega) hk3 hsd (Nat.le_refl (f + ft_zT (d :: sp) o)) (Nat.le_refl _)
      have g1 := ft_sw_out (a := f + ft_zT (d :: sp) o) (b := f + ft_zT (d :: sp) o + ft_z x) (k := k) (s := 1) h1 (Or.inl (by rw [ft_wR_len]; omega))
      have g2 := ft_sw_out (a := f + ft_zT (d :: sp) o) (b := f + ft_zT (d :: sp) o + ft_z x) (k := k) (s := 1) h2 (Or.inl (by rw [ft_wT_len]; omega))
      have g3 := ft_sw_out (a := f + ft_zT (d :: sp) o) (b := f + ft_zT (d :: sp) o + ft_z x) (k := k) (s := 1) h3 (Or.inl (by rw [ft_wR_len]; omega))
      have heo1 := ft_eo_sw w (f + ft_zT (d :: sp) o) (f + ft_zT (d :: sp) o + ft_z x) k 1
      generalize ft_sw w (f + ft_zT (d :: sp) o) (f + ft_zT (d :: sp) o + ft_z x) k 1 = w1 at hP hw1 hx1 g1 g2 g3 heo1 ⊢
      have g3' := g3
      rw [hrl, ft_wR_app, ft_wR_one] at g3
      obtain ⟨gr, gl⟩ := ft_hd_app.1 g3
      rw [ft_wR_len] at gl
      have hse : f + ft_zT (d :: sp) o = f + ft_zR d.1 + ft_zT sp o + ft_zR r' + ft_z rl := by omega
      refine x_aload_n X d_M_back_116 rfl hl rfl ?_
      refine x_iload X d_M_back_117 hl rfl ?_
      refine x_iload X d_M_back_119 hl rfl ?_
      rw [hse]
      refine x_goR (x_runV X (C_M_begI l D A _ a lo hi en md vs n zf mk pl ct w1 hP hw1 en md k _ 1 rl okl gl he (by omega) hk3 (by decide) (by omega)) b_M_begin s_M_begin v_M_begin e_M_72 (m_at hP) rfl rfl hl rfl (Nat.le_of_ble_eq_true rfl) d_M_back_121 (Nat.le_of_ble_eq_true rfl) (Nat.le_of_ble_eq_true rfl) ⟨Nat.le_of_ble_eq_true rfl, Nat.le_of_ble_eq_true rfl⟩) hS (fun locs hS => ?_)
      refine x_istore X d_M_back_124 hl (by decide) rfl (fun ls hl => ?_)
      refine x_iload X d_M_back_126 hl rfl ?_
      refine x_istore X d_M_back_128 hl (by decide) rfl (fun ls hl => ?_)
      refine x_iconst (v := nI 1) X d_M_back_130 rfl ?_
      refine x_istore X d_M_back_131 hl (by decide) rfl (fun ls hl => ?_)
      have cnt : ∀ (g : Nat) (rest suf : List ft_I) (locs : List Loc) (ls : Array Slot), rest.length = g → rest ++ suf = r' → lz ls 10 [some (.ref (a 0)), some (.int s0), some (.int k0), some (.int (nI (f + ft_zT (d :: sp) o + ft_z x))), some (.int (nI k)), some (.int (nI 0)), some (.int (nI (f + ft_zT (d :: sp) o))), some (.int (nI (f + ft_zR d.1 + ft_zT sp o + ft_zR r'))), some (.int (nI (f + ft_zR d.1 + ft_zT sp o + ft_zR rest))), some (.int (nI (1 + suf.length)))] → ft_hd w1 (f + ft_zR d.1 + ft_zT sp o) (ft_wR 1 rest) → va_S (mFr a) H0 H locs →
          (∀ (locs : List Loc) (ls : Array Slot), lz ls 10 [some (.ref (a 0)), some (.int s0), some (.int k0), some (.int (nI (f + ft_zT (d :: sp) o + ft_z x))), some (.int (nI k)), some (.int (nI 0)), some (.int (nI (f + ft_zT (d :: sp) o))), some (.int (nI (f + ft_zR d.1 + ft_zT sp o + ft_zR r'))), some (.int (nI (f + ft_zR d.1 + ft_zT sp o))), some (.int (nI (1 + r'.length)))] → va_S (mFr a) H0 H locs → W p_ l e_ (x_rm 3 0 0) s_ m_ ar_ bl_ me_ c_ H locs 0 0 (MQ bl_ (xQ (mFr a) (q0 Post)) ar_ s_ 0 0 (mFr a)) (F0 m_ 163 ls [])) → W p_ l e_ (x_rm 3 0 0) s_ m_ ar_ bl_ me_ c_ H locs 0 0 (MQ bl_ (xQ (mFr a) (q0 Post)) ar_ s_ 0 0 (mFr a)) (F0 m_ 133 ls []) := by
        intro g
        induction g with
        | zero =>
          intro rest suf locs ls hg hpr hl hh hS kk
          have : rest = [] := List.length_eq_zero_iff.1 hg
          subst this
          rw [List.nil_append] at hpr
          subst hpr
          have hp := ft_ahead okt.2.2 okt.1.2.2 okt.1.1 g1 g2 he (by omega) hk3 (fun hem => ft_k3 (by
            have := ft_okT_z okt.2.2 hem
            rw [Nat.pow_succ] at this ⊢
            omega))
          simp only [ft_zR, Nat.add_zero] at hl
          refine x_aload_n X d_M_back_133 rfl hl rfl ?_
          refine x_iload X d_M_back_134 hl rfl ?_
          refine x_iconst (v := nI 1) X d_M_back_136 rfl ?_
          refine x_isub X d_M_back_137 ?_
          refine x_iload X d_M_back_138 hl rfl ?_
          refine x_iconst (v := nI 1) X d_M_back_140 rfl ?_
          refine x_goR (x_runV X (C_M_isb l D A _ a lo hi en md vs n zf mk pl ct w1 hP hw1 hn _ k 1 (by omega) (by omega) (by decide)) b_M_is s_M_is v_M_is e_M_64 (m_at hP) rfl rfl hl rfl (Nat.le_of_ble_eq_true rfl) d_M_back_141 (Nat.le_of_ble_eq_true rfl) (Nat.le_of_ble_eq_true rfl) ⟨Nat.le_of_ble_eq_true rfl, Nat.le_of_ble_eq_true rfl⟩) hS (fun locs hS => ?_)
          rw [ft_isb0 (fun _ h => by omega)]
          refine n_if_eq X 163 d_M_back_144 rfl (by omega) (fun hc => ?_) (fun hc => absurd rfl hc)
          exact kk _ _ hl hS
        | succ g ih2 =>
          intro rest suf locs ls hg hpr hl hh hS kk
          obtain ⟨rest', y, hry⟩ := ft_rev (l := rest) (fun e => by rw [e] at hg; simp at hg)
          subst hry
          have hzr : ft_zR r' = ft_zR rest' + ft_z y + ft_zR suf := by rw [← hpr, ft_zR_app, ft_zR_app]; simp [ft_zR]
          have hlr : r'.length = rest'.length + 1 + suf.length := by rw [← hpr]; simp; omega
          have oky : ft_ok en md zf k y := okr y (by rw [← hpr]; simp)
          have hzy := ft_ok_zpos oky
          have hl4 := okt.2.1.2.1
          rw [ft_wR_app, ft_wR_one] at hh
          obtain ⟨hrest, hy⟩ := ft_hd_app.1 hh
          rw [ft_wR_len] at hy
          have hze : ft_zR (rest' ++ [y]) = ft_zR rest' + ft_z y := by rw [ft_zR_app]; simp [ft_zR]
          rw [hze, ← Nat.add_assoc] at hl
          have hyat := ft_wI_at (i := ft_z y - 1) oky hy he (by omega) hk3 (by decide) (by omega)
          rw [show f + ft_zR d.1 + ft_zT sp o + ft_zR rest' + (ft_z y - 1) = f + ft_zR d.1 + ft_zT sp o + ft_zR rest' + ft_z y - 1 from by omega] at hyat
          refine x_aload_n X d_M_back_133 rfl hl rfl ?_
          refine x_iload X d_M_back_134 hl rfl ?_
          refine x_iconst (v := nI 1) X d_M_back_136 rfl ?_
          refine x_isub X d_M_back_137 ?_
          refine x_iload X d_M_back_138 hl rfl ?_
          refine x_iconst (v := nI 1) X d_M_back_140 rfl ?_
          refine x_goR (x_runV X (C_M_isb l D A _ a lo hi en md vs n zf mk pl ct w1 hP hw1 hn _ k 1 (by omega) (by omega) (by decide)) b_M_is s_M_is v_M_is e_M_64 (m_at hP) rfl rfl hl rfl (Nat.le_of_ble_eq_true rfl) d_M_back_141 (Nat.le_of_ble_eq_true rfl) (Nat.le_of_ble_eq_true rfl) ⟨Nat.le_of_ble_eq_true rfl, Nat.le_of_ble_eq_true rfl⟩) hS (fun locs hS => ?_)
          rw [ft_isb1 (by omega) (by omega) ⟨hyat.2.1, hyat.1⟩]
          refine n_if_eq X 163 d_M_back_144 rfl (by omega) (fun hc => absurd hc (by decide)) (fun hc => ?_)
          refine x_aload_n X d_M_back_147 rfl hl rfl ?_
          refine x_iload X d_M_back_148 hl rfl ?_
          refine x_iload X d_M_back_150 hl rfl ?_
          refine x_goR (x_runV X (C_M_begI l D A _ a lo hi en md vs n zf mk pl ct w1 hP hw1 en md k _ 1 y oky hy he (by omega) hk3 (by decide) (by omega)) b_M_begin s_M_begin v_M_begin e_M_72 (m_at hP) rfl rfl hl rfl (Nat.le_of_ble_eq_true rfl) d_M_back_152 (Nat.le_of_ble_eq_true rfl) (Nat.le_of_ble_eq_true rfl) ⟨Nat.le_of_ble_eq_true rfl, Nat.le_of_ble_eq_true rfl⟩) hS (fun locs hS => ?_)
          refine x_istore X d_M_back_155 hl (by decide) rfl (fun ls hl => ?_)
          refine n_iinc (d := 1) X d_M_back_157 rfl hl rfl (by decide) rfl (fun ls hl => ?_)
          refine x_goto X 133 d_M_back_160 rfl ?_
          refine ih2 rest' (y :: suf) _ _ (by simpa using hg) (by rw [← hpr]; simp) ?_ hrest hS kk
          rw [List.length_cons, show 1 + (suf.length + 1) = 1 + suf.length + 1 from by omega]
          exact hl
      refine cnt r'.length r' [] _ _ rfl (List.append_nil _) hl gr hS (fun locs ls hl hS => ?_)
      clear cnt
      have hl4 := okt.2.1.2.1
      refine x_iload X d_M_back_163 hl rfl ?_
      refine x_iconst (v := nI 4) X d_M_back_165 rfl ?_
      refine n_icmp_ne X 190 d_M_back_166 rfl (by omega) (by omega) (fun hc => ?_) (fun hc => ?_)
      · have hlt : d.2.length < 4 := by omega
        have hfr : ft_bk (d :: sp) o x (md, zf) = (((d.1, d.2 ++ [x]) :: sp, o), (md, zf)) := by simp only [ft_bk, if_pos hlt]
        rw [hfr] at hQ
        refine x_goto X 8 d_M_back_190 rfl ?_
        refine x_iload X d_M_back_8 hl rfl ?_
        refine n_if_eq X 193 d_M_back_10 rfl (by omega) (fun hc => ?_) (fun hc => absurd rfl hc)
        refine x_vret X hS (Nat.le_refl _) (Nat.le_refl _) d_M_back_193 ⟨rfl, hQ _ _ hP hw1 (ft_hd3' g1 g2 ?_) (ft_eo_wd heo1 (by omega) (Nat.le_refl _))⟩
        rw [ft_wR_app, ft_wR_one, ft_hd_app, ft_wR_len]
        exact ⟨g3', by rw [show f + ft_zR d.1 + ft_zT sp o + ft_zR d.2 = f + ft_zT (d :: sp) o from by omega]; exact hx1⟩
      · have hl3 : r'.length = 3 := by omega
        have hzr3 := ft_okR_z okr
        have hk2 : k < 3 := by
          rw [hl3] at hzr3
          have : 2 ^ k < 2 ^ 3 := by omega
          exact (Nat.pow_lt_pow_iff_right (by decide)).1 this
        have hnl : ¬ d.2.length < 4 := by omega
        have htk : d.2.take 3 = r' := by rw [hrl, List.take_append_of_le_length (by omega), List.take_of_length_le (by omega)]
        have hdr : d.2.drop 3 = [rl] := by rw [hrl, ← hl3, List.drop_left]
        have hfr : ft_bk (d :: sp) o x (md, zf) = (((d.1, [rl] ++ [x]) :: (ft_bk sp o (ft_nd (md + 1) r') (md + 1, va_up zf (md + 1) (ft_zR r'))).1.1, (ft_bk sp o (ft_nd (md + 1) r') (md + 1, va_up zf (md + 1) (ft_zR r'))).1.2), (ft_bk sp o (ft_nd (md + 1) r') (md + 1, va_up zf (md + 1) (ft_zR r'))).2) := by
          simp only [ft_bk, if_neg hnl, hdr, htk, ft_nw]
        have oknd : ft_ok en (md + 1) (va_up zf (md + 1) (ft_zR r')) (k + 1) (ft_nd (md + 1) r') := ft_ok_nw (c := (md, zf)) okr (Or.inr hl3)
        have okm := ft_okT_ex (ft_ex_nw (md, zf) r') okt.2.2
        rw [hfr] at hQ hmd
        have hmd1 : md + 1 < 4200 := Nat.lt_of_le_of_lt (ft_bk_ok sp (ft_nd (md + 1) r') o (md + 1, va_up zf (md + 1) (ft_zR r')) (k + 1) oknd okm).1.1 hmd
        refine x_aload_n X d_M_back_169 rfl hl rfl ?_
        refine x_iload X d_M_back_170 hl rfl ?_
        refine x_iload X d_M_back_172 hl rfl ?_
        refine x_iload X d_M_back_174 hl rfl ?_
        refine x_iconst (v := nI 1) X d_M_back_176 rfl ?_
        refine n_iadd X d_M_back_177 ?_
        refine x_go0 (x_runV X (C_M_wrap l D A _ a lo hi en md vs n zf mk pl ct w1 hP hd hw1 (f + ft_zR d.1 + ft_zT sp o) (f + ft_zR d.1 + ft_zT sp o + ft_zR r') k (by omega) (by omega) hk2 hmd1) b_M_wrap s_M_wrap v_M_wrap e_M_68 (m_at hP) rfl rfl hl rfl (Nat.le_of_ble_eq_true rfl) d_M_back_178 (Nat.le_of_ble_eq_true rfl) (Nat.le_of_ble_eq_true rfl) ⟨Nat.le_of_ble_eq_true rfl, Nat.le_of_ble_eq_true rfl⟩) hS (fun _ h => h) (fun H locs hP hF hS => ?_)
        rw [Nat.add_sub_cancel_left] at hP
        have q1' := ft_ww_R (s := 3) (m := md + 1) okr gr he (by omega) (by omega) hk3 (by decide) (Nat.le_refl (f + ft_zR d.1 + ft_zT sp o)) (Nat.le_refl _)
        have q2 := ft_sw_out (a := (f + ft_zR d.1 + ft_zT sp o)) (b := (f + ft_zR d.1 + ft_zT sp o + ft_zR r')) (k := k + 1) (s := 3) (ft_ww_out (a := (f + ft_zR d.1 + ft_zT sp o)) (b := (f + ft_zR d.1 + ft_zT sp o + ft_zR r')) (j := k) (m := md + 1) g2 (Or.inl (by rw [ft_wT_len]; exact Nat.le_refl _))) (Or.inl (by rw [ft_wT_len]; exact Nat.le_refl _))
        have heo2 : ft_eo w1 (ft_sw (ft_ww w1 (f + ft_zR d.1 + ft_zT sp o) (f + ft_zR d.1 + ft_zT sp o + ft_zR r') k (md + 1)) (f + ft_zR d.1 + ft_zT sp o) (f + ft_zR d.1 + ft_zT sp o + ft_zR r') (k + 1) 3) (f + ft_zR d.1 + ft_zT sp o) (f + ft_zR d.1 + ft_zT sp o + ft_zR r') := ft_eo_tr (ft_eo_ww _ _ _ _ _) (ft_eo_sw _ _ _ _ _)
        have hw3 := ft_bw_sw (a := (f + ft_zR d.1 + ft_zT sp o)) (b := (f + ft_zR d.1 + ft_zT sp o + ft_zR r')) (k := k + 1) (s := 3) (ft_bw_ww (a := (f + ft_zR d.1 + ft_zT sp o)) (b := (f + ft_zR d.1 + ft_zT sp o + ft_zR r')) (j := k) (m := md + 1) hw1 hk2 (by omega)) (by omega) (by decide)
        generalize ft_sw (ft_ww w1 (f + ft_zR d.1 + ft_zT sp o) (f + ft_zR d.1 + ft_zT sp o + ft_zR r') k (md + 1)) (f + ft_zR d.1 + ft_zT sp o) (f + ft_zR d.1 + ft_zT sp o + ft_zR r') (k + 1) 3 = w3 at hP q1' q2 heo2 hw3
        have hznd : ft_z (ft_nd (md + 1) r') = ft_zR r' := ft_z_nd _ _
        have hr3 := ft_wR_at (i := ft_zR d.1 - 1) okt.1.2.2 g1 he (by omega) hk3 (by decide) (by omega)
        rw [show f + (ft_zR d.1 - 1) = f + ft_zR d.1 - 1 from by omega] at hr3
        refine x_iload X d_M_back_181 hl rfl ?_
        refine x_istore_n X d_M_back_183 rfl hl (by decide) rfl (fun ls hl => ?_)
        refine n_iinc (d := 1) X d_M_back_184 rfl hl rfl (by decide) rfl (fun ls hl => ?_)
        refine x_iconst (v := nI 1) X d_M_back_187 rfl ?_
        refine x_istore X d_M_back_188 hl (by decide) rfl (fun ls hl => ?_)
        refine x_goto X 8 d_M_back_190 rfl ?_
        rw [← hznd] at hl
        refine ih (ft_nd (md + 1) r') (k + 1) (f + ft_zR d.1) 3 (md + 1) (va_up zf (md + 1) (ft_zR r')) w3 _ _ _ _ _ _ _ hl hP hw3 (ft_up128 hz (by omega)) oknd okm q2 q1' (by decide) (by rw [hznd, Nat.pow_succ]; omega) (by rw [hznd]; omega) (fun _ => by rw [heo2 _ (Or.inl (by omega)), hr3.2.1]; omega) hmd ?_ hS
        intro w4 H4 hP4 hw4 hh4 heo4
        rw [hznd] at heo4
        have heo24 : ft_eo w1 w4 (f + ft_zR d.1) (f + ft_zR d.1 + ft_zT sp o + ft_zR r') := ft_eo_tr (ft_eo_wd heo2 (by omega) (by omega)) heo4
        have hzf := ft_bk_z sp (ft_nd (md + 1) r') o (md + 1, va_up zf (md + 1) (ft_zR r'))
        rw [hznd] at hzf
        refine hQ w4 H4 hP4 hw4 (ft_hd3' ?_ hh4 ?_) (ft_eo_tr (ft_eo_wd heo1 (by omega) (Nat.le_refl _)) (ft_eo_wd heo24 (by omega) (by omega)))
        · exact ft_eo_hd heo24 g1 (Or.inl (by rw [ft_wR_len]; exact Nat.le_refl _))
        · rw [show f + ft_zR d.1 + ft_zT (ft_bk sp o (ft_nd (md + 1) r') (md + 1, va_up zf (md + 1) (ft_zR r'))).1.1 (ft_bk sp o (ft_nd (md + 1) r') (md + 1, va_up zf (md + 1) (ft_zR r'))).1.2 = f + ft_zR d.1 + ft_zT sp o + ft_zR r' from by rw [hzf]; omega, ft_wR_app, ft_wR_one, ft_wR_one, ft_hd_app, ft_wI_len]
          exact ⟨ft_eo_hd heo24 gl (Or.inr (Nat.le_refl _)), by rw [← hse]; exact ft_eo_hd heo24 hx1 (Or.inr (by omega))⟩
  exact loop (nI (f + ft_zT sp o + ft_z x)) (nI k) sp x k f sd md zf w none none none none H0 [] _ hl hP hw hz okx okt ht hx hsd hB hf hend hmd (fun w' H1 h1 h2 h3 h4 => by rw [← hPost]; exact ⟨w', h1, h2, h3, h4⟩) hS
