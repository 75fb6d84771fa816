/-! Contract of the reference: front. -/
theorem ft_hd3 {w : Nat → Nat} {e : Nat} {d : List ft_I × List ft_I} {sp : ft_S} {o : Option ft_I} (h : ft_hd w e (ft_wT (d :: sp) o)) : ft_hd w e (ft_wR 0 d.1) ∧ ft_hd w (e + ft_zR d.1) (ft_wT sp o) ∧ ft_hd w (e + ft_zR d.1 + ft_zT sp o) (ft_wR 1 d.2) := by
  simp only [ft_wT] at h
  obtain ⟨h12, h3⟩ := ft_hd_app.1 h
  obtain ⟨h1, h2⟩ := ft_hd_app.1 h12
  rw [ft_wR_len] at h2
  rw [List.length_append, ft_wR_len, ft_wT_len, ← Nat.add_assoc] at h3
  exact ⟨h1, h2, h3⟩
theorem ft_hd3' {w : Nat → Nat} {e : Nat} {l r : List ft_I} {sp : ft_S} {o : Option ft_I} (h1 : ft_hd w e (ft_wR 0 l)) (h2 : ft_hd w (e + ft_zR l) (ft_wT sp o)) (h3 : ft_hd w (e + ft_zR l + ft_zT sp o) (ft_wR 1 r)) : ft_hd w e (ft_wT ((l, r) :: sp) o) := by
  simp only [ft_wT]
  refine ft_hd_app.2 ⟨ft_hd_app.2 ⟨h1, by rw [ft_wR_len]; exact h2⟩, ?_⟩
  rw [List.length_append, ft_wR_len, ft_wT_len, ← Nat.add_assoc]
  exact h3
/-- behind the left digit comes no item of it -/
theorem ft_past {ne mm : Nat} {zf w : Nat → Nat} {k f : Nat} {sp : ft_S} {o : Option ft_I} {r : List ft_I} (okm : ft_okT ne mm zf (k + 1) sp o) (okr : ft_okR ne mm zf k r) (hr : 1 ≤ r.length) (h2 : ft_hd w f (ft_wT sp o)) (h3 : ft_hd w (f + ft_zT sp o) (ft_wR 1 r)) (hne : ne ≤ 128) (hmm : mm < 8192) (hk : k ≤ 3) (hk2 : ft_em sp o = false → k + 1 ≤ 3) : ft_le8 (w f) = k ∧ ft_sd (w f) = 1 ∨ ft_le8 (w f) = k + 1 := by
  cases he : ft_em sp o with
  | true =>
    have hz := (ft_em_z okm).1 he
    rw [hz, Nat.add_zero] at h3
    have hzr := ft_okR_z okr
    have h1 : 1 * 2 ^ k ≤ r.length * 2 ^ k := Nat.mul_le_mul_right _ hr
    have := Nat.one_le_two_pow (n := k)
    have := ft_wR_at (i := 0) okr h3 hne hmm hk (by decide) (by omega)
    exact Or.inl ⟨this.2.1, this.1⟩
  | false =>
    exact Or.inr (ft_wT_first okm he h2 hne hmm (hk2 he)).1
theorem ft_is0 {n j k s : Nat} {w : Nat → Nat} (h : ¬ (ft_le8 (w j) = k ∧ ft_sd (w j) = s)) : ft_is n w j k s = 0 := by
  unfold ft_is
  rw [if_neg (fun h2 => h h2.2)]
theorem ft_is1 {n j k s : Nat} {w : Nat → Nat} (hj : j < n) (h : ft_le8 (w j) = k ∧ ft_sd (w j) = s) : ft_is n w j k s = 1 := by
  unfold ft_is
  rw [if_pos ⟨hj, h⟩]
theorem ft_up128 {zf : Nat → Nat} {i v : Nat} (h : ∀ i, zf i < 128) (hv : v < 128) : ∀ j, va_up zf i v j < 128 := fun j => by
  unfold va_up
  split
  · exact hv
  · exact h j
set_option maxRecDepth 100000 in
set_option maxHeartbeats 4000000 in
theorem C_M_front (l : Launch) (D : va_G) (A : Nat → ClassId) (H0 : Heap) (a : Nat → Nat) (lo hi : Nat → Int32) (en md vs n : Nat) (zf mk pl ct w : Nat → Nat) (hP : mH D a A lo hi en zf mk md pl ct vs w n H0) (hd : mDs a) (hw : ft_bw w) (hz : ∀ i, zf i < 128) (he : en ≤ 128) (hn : n ≤ 48) (k f : Nat) (x : ft_I) (sp : ft_S) (o : Option ft_I) (sd : Nat) (okx : ft_ok en md zf k x) (okt : ft_okT en md zf k sp o) (hx : ft_hd w f (ft_wI sd x)) (ht : ft_hd w (f + ft_z x) (ft_wT sp o)) (hsd : sd < 4) (hB : 2 * 2 ^ k + ft_z x + ft_zT sp o ≤ 42) (hf : f + ft_z x + ft_zT sp o ≤ n) (hend : f + ft_z x + ft_zT sp o < n → ft_le8 (w (f + ft_z x + ft_zT sp o)) < k) (hmd : (ft_fr x sp o (md, zf)).2.1 < 4200) : xC l y_M_front c_M_front 10 (none : Option FieldType) 3 D A H0 [.ref (a 0), .int (nI f), .int (nI k)] (mFr a) (q0 (fun H1 => ∃ w', mH D a A lo hi en (ft_fr x sp o (md, zf)).2.2 mk (ft_fr x sp o (md, zf)).2.1 pl ct vs w' n H1 ∧ ft_bw w' ∧ ft_hd w' f (ft_wT (ft_fr x sp o (md, zf)).1.1 (ft_fr x sp o (md, zf)).1.2) ∧ ft_eo w w' f (f + ft_z x + ft_zT sp o))) 0 0 := by
  refine xC.of rfl (Nat.le_of_ble_eq_true rfl) ?_
  intro p_ e_ s_ m_ ar_ bl_ me_ c_ ls X hl
  have hl : lz ls 10 [some (.ref (a 0)), some (.int (nI f)), some (.int (nI k)), none, none, none, none, none, none, none] := hl
  have hS : va_S (mFr a) H0 H0 [] := va_S.rf
  refine x_iload_n X d_M_front_0 rfl hl rfl ?_
  refine x_istore_n X d_M_front_1 rfl hl (by decide) rfl (fun ls hl => ?_)
  refine x_iload_n X d_M_front_2 rfl hl rfl ?_
  refine x_istore X d_M_front_3 hl (by decide) rfl (fun ls hl => ?_)
  refine x_iconst (v := nI 1) X d_M_front_5 rfl ?_
  refine x_istore X d_M_front_6 hl (by decide) rfl (fun ls hl => ?_)
  generalize hPost : (fun H1 => ∃ w', mH D a A lo hi en (ft_fr x sp o (md, zf)).2.2 mk (ft_fr x sp o (md, zf)).2.1 pl ct vs w' n H1 ∧ ft_bw w' ∧ ft_hd w' f (ft_wT (ft_fr x sp o (md, zf)).1.1 (ft_fr x sp o (md, zf)).1.2) ∧ ft_eo w w' f (f + ft_z x + ft_zT sp o)) = Post
  have loop : ∀ (s0 k0 : Int32) (sp : ft_S) (x : ft_I) (k f sd md : Nat) (zf w : Nat → Nat) (v6 v7 v8 v9 : Option Value) (H1 : Heap) (locs : List Loc) (ls : Array Slot), lz ls 10 [some (.ref (a 0)), some (.int s0), some (.int k0), some (.int (nI f)), some (.int (nI k)), some (.int (nI 1)), v6, v7, v8, v9] → mH D a A lo hi en zf mk md pl ct vs w n H1 → ft_bw w → (∀ i, zf i < 128) → ft_ok en md zf k x → ft_okT en md zf k sp o → ft_hd w f (ft_wI sd x) → ft_hd w (f + ft_z x) (ft_wT sp o) → sd < 4 → 2 * 2 ^ k + ft_z x + ft_zT sp o ≤ 42 → f + ft_z x + ft_zT sp o ≤ n → (f + ft_z x + ft_zT sp o < n → ft_le8 (w (f + ft_z x + ft_zT sp o)) < k) → (ft_fr x sp o (md, zf)).2.1 < 4200 →
      (∀ (w' : Nat → Nat) (H1 : Heap), mH D a A lo hi en (ft_fr x sp o (md, zf)).2.2 mk (ft_fr x sp o (md, zf)).2.1 pl ct vs w' n H1 → ft_bw w' → ft_hd w' f (ft_wT (ft_fr x sp o (md, zf)).1.1 (ft_fr x sp o (md, zf)).1.2) → ft_eo w w' f (f + ft_z x + ft_zT sp o) → Post H1) → va_S (mFr a) H0 H1 locs → W p_ l e_ (x_rm 3 0 0) s_ m_ ar_ bl_ me_ c_ H1 locs 0 0 (MQ bl_ (xQ (mFr a) (q0 Post)) ar_ s_ 0 0 (mFr a)) (F0 m_ 8 ls []) := by
    clear hPost hP hw hz okx okt hx ht hsd hB hf hend hmd hl hS
    intro s0 k0 sp
    induction sp with
    | nil =>
      intro x k f sd md zf w v6 v7 v8 v9 H1 locs ls hl hP hw hz okx okt hx ht hsd hB hf hend hmd hQ hS
      have hk3 : k ≤ 3 := ft_k3 (by have := ft_ok_z okx; omega)
      have hzx := ft_ok_zpos okx
      have hwe := hw (f + ft_z x)
      refine x_iload X d_M_front_8 hl rfl ?_
      refine n_if_eq X 191 d_M_front_10 rfl (by omega) (fun hc => absurd hc (by decide)) (fun hc => ?_)
      have hmd0 : md < 4200 := by cases o <;> exact hmd
      refine x_aload_n X d_M_front_13 rfl hl rfl ?_
      refine x_iload_n X d_M_front_14 rfl hl rfl ?_
      refine x_iload X d_M_front_15 hl rfl ?_
      refine x_goR (x_runV X (C_M_endI l D A _ a lo hi en md vs n zf mk pl ct w hP hw hz en md k f sd x okx hx he (by have := hmd0; omega) hk3 hsd (by omega)) b_M_end s_M_end v_M_end e_M_60 (m_at hP) rfl rfl hl rfl (Nat.le_of_ble_eq_true rfl) d_M_front_17 (Nat.le_of_ble_eq_true rfl) (Nat.le_of_ble_eq_true rfl) ⟨Nat.le_of_ble_eq_true rfl, Nat.le_of_ble_eq_true rfl⟩) hS (fun locs hS => ?_)
      refine x_istore X d_M_front_20 hl (by decide) rfl (fun ls hl => ?_)
      refine x_iconst (v := nI 0) X d_M_front_22 rfl ?_
      refine x_istore X d_M_front_23 hl (by decide) rfl (fun ls hl => ?_)
      refine x_iload X d_M_front_25 hl rfl ?_
      refine x_aload_n X d_M_front_27 rfl hl rfl ?_
      refine m_get X hP 10 (by decide) e_M_37 rfl d_M_front_28 ?_
      cases o with
      | none =>
        simp only [ft_zT, Nat.add_zero] at hf hend
        dsimp only [ft_le8] at hend
        have last : ∀ (locs : List Loc), va_S (mFr a) H0 H1 locs → W p_ l e_ (x_rm 3 0 0) s_ m_ ar_ bl_ me_ c_ H1 locs 0 0 (MQ bl_ (xQ (mFr a) (q0 Post)) ar_ s_ 0 0 (mFr a)) (F0 m_ 49 ls []) := by
          intro locs hS
          refine x_aload_n X d_M_front_49 rfl hl rfl ?_
          refine x_iload_n X d_M_front_50 rfl hl rfl ?_
          refine x_iload X d_M_front_51 hl rfl ?_
          refine x_iload X d_M_front_53 hl rfl ?_
          refine x_iconst (v := nI 2) X d_M_front_55 rfl ?_
          refine x_go0 (x_runV X (C_M_settle l D A _ a lo hi en md vs n zf mk pl ct w hP hd (hw) f (f + ft_z x) k 2 (by omega) (by omega) (by omega) (by decide)) b_M_settle s_M_settle v_M_settle e_M_56 (m_at hP) rfl rfl hl rfl (Nat.le_of_ble_eq_true rfl) d_M_front_56 (Nat.le_of_ble_eq_true rfl) (Nat.le_of_ble_eq_true rfl) ⟨Nat.le_of_ble_eq_true rfl, Nat.le_of_ble_eq_true rfl⟩) hS (fun _ h => h) (fun H locs hP hF hS => ?_)
          refine x_goto X 188 d_M_front_59 rfl ?_
          refine x_goto X 8 d_M_front_188 rfl ?_
          refine x_iload X d_M_front_8 hl rfl ?_
          refine n_if_eq X 191 d_M_front_10 rfl (by omega) (fun hc => ?_) (fun hc => absurd rfl hc)
          exact x_vret X hS (Nat.le_refl _) (Nat.le_refl _) d_M_front_191 ⟨rfl, hQ _ _ hP (ft_bw_sw hw (by omega) (by decide)) (ft_sw_I okx hx he (by omega) hk3 hsd (Nat.le_refl _) (Nat.le_refl _)) (ft_eo_sw _ _ _ _ _)⟩
        refine n_icmp_ge X 49 d_M_front_31 rfl (by omega) (by omega) (fun hc => ?_) (fun hc => ?_)
        · exact last _ hS
        · refine x_aload_n X d_M_front_34 rfl hl rfl ?_
          refine m_get X hP 9 (by decide) e_M_34 rfl d_M_front_35 ?_
          refine x_iload X d_M_front_38 hl rfl ?_
          refine m_ld_w X hP (by omega) d_M_front_40 ?_
          refine x_goR (x_runS X (C_M_level l D A _ (w (f + ft_z x)) (by omega)) b_M_level s_M_level e_M_40 rfl hl rfl (Nat.le_of_ble_eq_true rfl) d_M_front_41 (Nat.le_of_ble_eq_true rfl) (Nat.le_of_ble_eq_true rfl) ⟨Nat.le_of_ble_eq_true rfl, Nat.le_of_ble_eq_true rfl⟩) hS (fun locs hS => ?_)
          refine x_iload X d_M_front_44 hl rfl ?_
          refine n_icmp_ge X 62 d_M_front_46 rfl (by omega) (by omega) (fun hc => absurd (hend (by assumption)) (by omega)) (fun hc => ?_)
          exact last _ hS
      | some y =>
        have oky : ft_ok en md zf k y := okt
        have hzy := ft_ok_zpos oky
        have hy : ft_hd w (f + ft_z x) (ft_wI 2 y) := ht
        simp only [ft_zT] at hf hend hB
        have hyat := ft_wI_at (i := 0) oky hy he (by omega) hk3 (by decide) hzy
        rw [Nat.add_zero] at hyat
        dsimp only [ft_le8, ft_sd] at hyat
        refine n_icmp_ge X 49 d_M_front_31 rfl (by omega) (by omega) (fun hc => absurd hc (by omega)) (fun hc => ?_)
        refine x_aload_n X d_M_front_34 rfl hl rfl ?_
        refine m_get X hP 9 (by decide) e_M_34 rfl d_M_front_35 ?_
        refine x_iload X d_M_front_38 hl rfl ?_
        refine m_ld_w X hP (by omega) d_M_front_40 ?_
        refine x_goR (x_runS X (C_M_level l D A _ (w (f + ft_z x)) (by omega)) b_M_level s_M_level e_M_40 rfl hl rfl (Nat.le_of_ble_eq_true rfl) d_M_front_41 (Nat.le_of_ble_eq_true rfl) (Nat.le_of_ble_eq_true rfl) ⟨Nat.le_of_ble_eq_true rfl, Nat.le_of_ble_eq_true rfl⟩) hS (fun locs hS => ?_)
        refine x_iload X d_M_front_44 hl rfl ?_
        refine n_icmp_ge X 62 d_M_front_46 rfl (by omega) (by omega) (fun hc => ?_) (fun hc => absurd hc (by omega))
        refine x_aload_n X d_M_front_62 rfl hl rfl ?_
        refine m_get X hP 9 (by decide) e_M_34 rfl d_M_front_63 ?_
        refine x_iload X d_M_front_66 hl rfl ?_
        refine m_ld_w X hP (by omega) d_M_front_68 ?_
        refine x_goR (x_runS X (C_M_side l D A _ (w (f + ft_z x)) (by omega)) b_M_side s_M_side e_M_44 rfl hl rfl (Nat.le_of_ble_eq_true rfl) d_M_front_69 (Nat.le_of_ble_eq_true rfl) (Nat.le_of_ble_eq_true rfl) ⟨Nat.le_of_ble_eq_true rfl, Nat.le_of_ble_eq_true rfl⟩) hS (fun locs hS => ?_)
        refine x_iconst (v := nI 2) X d_M_front_72 rfl ?_
        refine n_icmp_ne X 106 d_M_front_73 rfl (by omega) (by omega) (fun hc => absurd hyat.1 hc) (fun hc => ?_)
        refine x_aload_n X d_M_front_76 rfl hl rfl ?_
        refine x_iload_n X d_M_front_77 rfl hl rfl ?_
        refine x_iload X d_M_front_78 hl rfl ?_
        refine x_iload X d_M_front_80 hl rfl ?_
        refine x_iconst (v := nI 0) X d_M_front_82 rfl ?_
        refine x_go0 (x_runV X (C_M_settle l D A _ a lo hi en md vs n zf mk pl ct w hP hd (hw) f (f + ft_z x) k 0 (by omega) (by omega) (by omega) (by decide)) b_M_settle s_M_settle v_M_settle e_M_56 (m_at hP) rfl rfl hl rfl (Nat.le_of_ble_eq_true rfl) d_M_front_83 (Nat.le_of_ble_eq_true rfl) (Nat.le_of_ble_eq_true rfl) ⟨Nat.le_of_ble_eq_true rfl, Nat.le_of_ble_eq_true rfl⟩) hS (fun _ h => h) (fun H locs hP hF hS => ?_)
        have hw1 := ft_bw_sw (a := f) (b := f + ft_z x) (k := k) (s := 0) hw (by omega) (by decide)
        have hy1 := ft_sw_out (a := f) (b := f + ft_z x) (k := k) (s := 0) hy (Or.inr (Nat.le_refl _))
        have hx1 := ft_sw_I (s := 0) okx hx he (by omega) hk3 hsd (Nat.le_refl f) (Nat.le_refl _)
        refine x_aload_n X d_M_front_86 rfl hl rfl ?_
        refine x_iload X d_M_front_87 hl rfl ?_
        refine x_aload_n X d_M_front_89 rfl hl rfl ?_
        refine x_iload X d_M_front_90 hl rfl ?_
        refine x_iload X d_M_front_92 hl rfl ?_
        refine x_goR (x_runV X (C_M_endI l D A _ a lo hi en md vs n zf mk pl ct _ hP hw1 hz en md k _ 2 y oky hy1 he (by omega) hk3 (by decide) (by omega)) b_M_end s_M_end v_M_end e_M_60 (m_at hP) rfl rfl hl rfl (Nat.le_of_ble_eq_true rfl) d_M_front_94 (Nat.le_of_ble_eq_true rfl) (Nat.le_of_ble_eq_true rfl) ⟨Nat.le_of_ble_eq_true rfl, Nat.le_of_ble_eq_true rfl⟩) hS (fun locs hS => ?_)
        refine x_iload X d_M_front_97 hl rfl ?_
        refine x_iconst (v := nI 1) X d_M_front_99 rfl ?_
        refine x_go0 (x_runV X (C_M_settle l D A _ a lo hi en md vs n zf mk pl ct _ hP hd (hw1) (f + ft_z x) (f + ft_z x + ft_z y) k 1 (by omega) (by omega) (by omega) (by decide)) b_M_settle s_M_settle v_M_settle e_M_56 (m_at hP) rfl rfl hl rfl (Nat.le_of_ble_eq_true rfl) d_M_front_100 (Nat.le_of_ble_eq_true rfl) (Nat.le_of_ble_eq_true rfl) ⟨Nat.le_of_ble_eq_true rfl, Nat.le_of_ble_eq_true rfl⟩) hS (fun _ h => h) (fun H locs hP hF hS => ?_)
        refine x_goto X 188 d_M_front_103 rfl ?_
        refine x_goto X 8 d_M_front_188 rfl ?_
        refine x_iload X d_M_front_8 hl rfl ?_
        refine n_if_eq X 191 d_M_front_10 rfl (by omega) (fun hc => ?_) (fun hc => absurd rfl hc)
        refine x_vret X hS (Nat.le_refl _) (Nat.le_refl _) d_M_front_191 ⟨rfl, hQ _ _ hP (ft_bw_sw hw1 (by omega) (by decide)) ?_ (ft_eo_tr (ft_eo_wd (ft_eo_sw _ _ _ _ _) (Nat.le_refl _) (by simp only [ft_zT]; omega)) (ft_eo_wd (ft_eo_sw _ _ _ _ _) (by omega) (by simp only [ft_zT]; omega)))⟩
        simp only [ft_fr]
        refine ft_hd3' (l := [x]) (r := [y]) ?_ (ft_hd_nil _ _) ?_
        · rw [ft_wR_one]; exact ft_sw_out hx1 (Or.inl (by rw [ft_wI_len]; exact Nat.le_refl _))
        · rw [ft_wR_one]
          simp only [ft_zR, ft_zT, Nat.add_zero]
          exact ft_sw_I oky hy1 he (by omega) hk3 (by decide) (Nat.le_refl _) (Nat.le_refl _)
    | cons d sp ih =>
      intro x k f sd md zf w v6 v7 v8 v9 H1 locs ls hl hP hw hz okx okt hx ht hsd hB hf hend hmd hQ hS
      have hk3 : k ≤ 3 := ft_k3 (by have := ft_ok_z okx; omega)
      have hzx := ft_ok_zpos okx
      have hzx2 := ft_ok_z okx
      obtain ⟨h1, h2, h3⟩ := ft_hd3 ht
      have hzd := ft_okT_zd okt
      have hex := (ft_fr_ok (d :: sp) x o (md, zf) k okx okt).1.1
      have hmd0 : md < 4200 := Nat.lt_of_le_of_lt hex hmd
      have h2k := Nat.one_le_two_pow (n := k)
      simp only [ft_zT] at hB hf hend
      have hw1at := ft_wT_first okt rfl ht he (by omega) hk3
      simp only [List.isEmpty_cons, Bool.false_eq_true, if_false] at hw1at
      dsimp only [ft_le8, ft_sd] at hw1at
      obtain ⟨l0, l', hl0⟩ : ∃ l0 l', d.1 = l0 :: l' := by
        cases hd1 : d.1 with
        | nil => have := okt.1.1; rw [hd1] at this; simp at this
        | cons l0 l' => exact ⟨l0, l', rfl⟩
      have ok0 : ft_ok en md zf k l0 := okt.1.2.2 l0 (by rw [hl0]; simp)
      have okl : ft_okR en md zf k l' := fun y hy => okt.1.2.2 y (by rw [hl0]; simp [hy])
      have hz0 := ft_ok_zpos ok0
      have hz02 := ft_ok_z ok0
      have hzd1 : ft_zR d.1 = ft_z l0 + ft_zR l' := by rw [hl0]; rfl
      have hlen : d.1.length = l'.length + 1 := by rw [hl0]; rfl
      refine x_iload X d_M_front_8 hl rfl ?_
      refine n_if_eq X 191 d_M_front_10 rfl (by omega) (fun hc => absurd hc (by decide)) (fun hc => ?_)
      refine x_aload_n X d_M_front_13 rfl hl rfl ?_
      refine x_iload_n X d_M_front_14 rfl hl rfl ?_
      refine x_iload X d_M_front_15 hl rfl ?_
      refine x_goR (x_runV X (C_M_endI l D A _ a lo hi en md vs n zf mk pl ct w hP hw hz en md k f sd x okx hx he (by have := hmd0; omega) hk3 hsd (by omega)) b_M_end s_M_end v_M_end e_M_60 (m_at hP) rfl rfl hl rfl (Nat.le_of_ble_eq_true rfl) d_M_front_17 (Nat.le_of_ble_eq_true rfl) (Nat.le_of_ble_eq_true rfl) ⟨Nat.le_of_ble_eq_true rfl, Nat.le_of_ble_eq_true rfl⟩) hS (fun locs hS => ?_)
      refine x_istore X d_M_front_20 hl (by decide) rfl (fun ls hl => ?_)
      refine x_iconst (v := nI 0) X d_M_front_22 rfl ?_
      refine x_istore X d_M_front_23 hl (by decide) rfl (fun ls hl => ?_)
      refine x_iload X d_M_front_25 hl rfl ?_
      refine x_aload_n X d_M_front_27 rfl hl rfl ?_
      refine m_get X hP 10 (by decide) e_M_37 rfl d_M_front_28 ?_
      refine n_icmp_ge X 49 d_M_front_31 rfl (by omega) (by omega) (fun hc => absurd hc (by omega)) (fun hc => ?_)
      refine x_aload_n X d_M_front_34 rfl hl rfl ?_
      refine m_get X hP 9 (by decide) e_M_34 rfl d_M_front_35 ?_
      refine x_iload X d_M_front_38 hl rfl ?_
      refine m_ld_w X hP (by omega) d_M_front_40 ?_
      refine x_goR (x_runS X (C_M_level l D A _ (w (f + ft_z x)) (by omega)) b_M_level s_M_level e_M_40 rfl hl rfl (Nat.le_of_ble_eq_true rfl) d_M_front_41 (Nat.le_of_ble_eq_true rfl) (Nat.le_of_ble_eq_true rfl) ⟨Nat.le_of_ble_eq_true rfl, Nat.le_of_ble_eq_true rfl⟩) hS (fun locs hS => ?_)
      refine x_iload X d_M_front_44 hl rfl ?_
      refine n_icmp_ge X 62 d_M_front_46 rfl (by omega) (by omega) (fun hc => ?_) (fun hc => absurd hc (by omega))
      refine x_aload_n X d_M_front_62 rfl hl rfl ?_
      refine m_get X hP 9 (by decide) e_M_34 rfl d_M_front_63 ?_
      refine x_iload X d_M_front_66 hl rfl ?_
      refine m_ld_w X hP (by omega) d_M_front_68 ?_
      refine x_goR (x_runS X (C_M_side l D A _ (w (f + ft_z x)) (by omega)) b_M_side s_M_side e_M_44 rfl hl rfl (Nat.le_of_ble_eq_true rfl) d_M_front_69 (Nat.le_of_ble_eq_true rfl) (Nat.le_of_ble_eq_true rfl) ⟨Nat.le_of_ble_eq_true rfl, Nat.le_of_ble_eq_true rfl⟩) hS (fun locs hS => ?_)
      refine x_iconst (v := nI 2) X d_M_front_72 rfl ?_
      refine n_icmp_ne X 106 d_M_front_73 rfl (by omega) (by omega) (fun hc => ?_) (fun hc => absurd hc (by omega))
      refine x_aload_n X d_M_front_106 rfl hl rfl ?_
      refine x_iload_n X d_M_front_107 rfl hl rfl ?_
      refine x_iload X d_M_front_108 hl rfl ?_
      refine x_iload X d_M_front_110 hl rfl ?_
      refine x_iconst (v := nI 0) X d_M_front_112 rfl ?_
      refine x_go0 (x_runV X (C_M_settle l D A _ a lo hi en md vs n zf mk pl ct w hP hd (hw) f (f + ft_z x) k 0 (by omega) (by omega) (by omega) (by decide)) b_M_settle s_M_settle v_M_settle e_M_56 (m_at hP) rfl rfl hl rfl (Nat.le_of_ble_eq_true rfl) d_M_front_113 (Nat.le_of_ble_eq_true rfl) (Nat.le_of_ble_eq_true rfl) ⟨Nat.le_of_ble_eq_true rfl, Nat.le_of_ble_eq_true rfl⟩) hS (fun _ h => h) (fun H locs hP hF hS => ?_)
      have hw1 := ft_bw_sw (a := f) (b := f + ft_z x) (k := k) (s := 0) hw (by omega) (by decide)
      have hx1 := ft_sw_I (s := 0) okx hx he (by omega) hk3 hsd (Nat.le_refl f) (Nat.le_refl _)
      have g1 := ft_sw_out (a := f) (b := f + ft_z x) (k := k) (s := 0) h1 (Or.inr (Nat.le_refl _))
      have g2 := ft_sw_out (a := f) (b := f + ft_z x) (k := k) (s := 0) h2 (Or.inr (by omega))
      have g3 := ft_sw_out (a := f) (b := f + ft_z x) (k := k) (s := 0) h3 (Or.inr (by omega))
      have heo1 := ft_eo_sw w f (f + ft_z x) k 0
      generalize ft_sw w f (f + ft_z x) k 0 = w1 at hP hw1 hx1 g1 g2 g3 heo1 ⊢
      rw [hl0, ft_wR_cons] at g1
      obtain ⟨g0, gl⟩ := ft_hd_app.1 g1
      rw [ft_wI_len] at gl
      refine x_aload_n X d_M_front_116 rfl hl rfl ?_
      refine x_iload X d_M_front_117 hl rfl ?_
      refine x_iload X d_M_front_119 hl rfl ?_
      refine x_goR (x_runV X (C_M_endI l D A _ a lo hi en md vs n zf mk pl ct w1 hP hw1 hz en md k _ 0 l0 ok0 g0 he (by omega) hk3 (by decide) (by omega)) b_M_end s_M_end v_M_end e_M_60 (m_at hP) rfl rfl hl rfl (Nat.le_of_ble_eq_true rfl) d_M_front_121 (Nat.le_of_ble_eq_true rfl) (Nat.le_of_ble_eq_true rfl) ⟨Nat.le_of_ble_eq_true rfl, Nat.le_of_ble_eq_true rfl⟩) hS (fun locs hS => ?_)
      refine x_istore X d_M_front_124 hl (by decide) rfl (fun ls hl => ?_)
      refine x_iload X d_M_front_126 hl rfl ?_
      refine x_istore X d_M_front_128 hl (by decide) rfl (fun ls hl => ?_)
      refine x_iconst (v := nI 1) X d_M_front_130 rfl ?_
      refine x_istore X d_M_front_131 hl (by decide) rfl (fun ls hl => ?_)
      have cnt : ∀ (rest pre : List ft_I) (locs : List Loc) (ls : Array Slot), pre ++ rest = l' → lz ls 10 [some (.ref (a 0)), some (.int s0), some (.int k0), some (.int (nI f)), some (.int (nI k)), some (.int (nI 0)), some (.int (nI (f + ft_z x))), some (.int (nI (f + ft_z x + ft_z l0))), some (.int (nI (f + ft_z x + ft_z l0 + ft_zR pre))), some (.int (nI (1 + pre.length)))] → ft_hd w1 (f + ft_z x + ft_z l0 + ft_zR pre) (ft_wR 0 rest) → va_S (mFr a) H0 H locs →
          (∀ (locs : List Loc) (ls : Array Slot), lz ls 10 [some (.ref (a 0)), some (.int s0), some (.int k0), some (.int (nI f)), some (.int (nI k)), some (.int (nI 0)), some (.int (nI (f + ft_z x))), some (.int (nI (f + ft_z x + ft_z l0))), some (.int (nI (f + ft_z x + ft_z l0 + ft_zR l'))), some (.int (nI (1 + l'.length)))] → va_S (mFr a) H0 H locs → W p_ l e_ (x_rm 3 0 0) s_ m_ ar_ bl_ me_ c_ H locs 0 0 (MQ bl_ (xQ (mFr a) (q0 Post)) ar_ s_ 0 0 (mFr a)) (F0 m_ 161 ls [])) → W p_ l e_ (x_rm 3 0 0) s_ m_ ar_ bl_ me_ c_ H locs 0 0 (MQ bl_ (xQ (mFr a) (q0 Post)) ar_ s_ 0 0 (mFr a)) (F0 m_ 133 ls []) := by
        intro rest
        induction rest with
        | nil =>
          intro pre locs ls hpr hl hh hS kk
          rw [List.append_nil] at hpr
          subst hpr
          have hp := ft_past okt.2.2 okt.2.1.2.2 okt.2.1.1 g2 g3 he (by omega) hk3 (fun hem => ft_k3 (by
            have := ft_okT_z okt.2.2 hem
            rw [Nat.pow_succ] at this ⊢
            omega))
          have hfe : f + ft_z x + ft_zR d.1 = f + ft_z x + ft_z l0 + ft_zR pre := by omega
          rw [hfe] at hp
          refine x_aload_n X d_M_front_133 rfl hl rfl ?_
          refine x_iload X d_M_front_134 hl rfl ?_
          refine x_iload X d_M_front_136 hl rfl ?_
          refine x_iconst (v := nI 0) X d_M_front_138 rfl ?_
          refine x_goR (x_runV X (C_M_is l D A _ a lo hi en md vs n zf mk pl ct w1 hP hw1 hn _ k 0 (by omega) (by omega) (by decide)) b_M_is s_M_is v_M_is e_M_64 (m_at hP) rfl rfl hl rfl (Nat.le_of_ble_eq_true rfl) d_M_front_139 (Nat.le_of_ble_eq_true rfl) (Nat.le_of_ble_eq_true rfl) ⟨Nat.le_of_ble_eq_true rfl, Nat.le_of_ble_eq_true rfl⟩) hS (fun locs hS => ?_)
          rw [ft_is0 (fun h => by omega)]
          refine n_if_eq X 161 d_M_front_142 rfl (by omega) (fun hc => ?_) (fun hc => absurd rfl hc)
          exact kk _ _ hl hS
        | cons y rest ih2 =>
          intro pre locs ls hpr hl hh hS kk
          have hzr : ft_zR l' = ft_zR pre + (ft_z y + ft_zR rest) := by rw [← hpr, ft_zR_app]; rfl
          have hlr : l'.length = pre.length + (rest.length + 1) := by rw [← hpr]; simp
          have oky : ft_ok en md zf k y := okl y (by rw [← hpr]; simp)
          have hzy := ft_ok_zpos oky
          have hl4 := okt.1.2.1
          rw [ft_wR_cons] at hh
          obtain ⟨hy, hrest⟩ := ft_hd_app.1 hh
          rw [ft_wI_len] at hrest
          have hyat := ft_wI_at (i := 0) oky hy he (by omega) hk3 (by decide) hzy
          rw [Nat.add_zero] at hyat
          refine x_aload_n X d_M_front_133 rfl hl rfl ?_
          refine x_iload X d_M_front_134 hl rfl ?_
          refine x_iload X d_M_front_136 hl rfl ?_
          refine x_iconst (v := nI 0) X d_M_front_138 rfl ?_
          refine x_goR (x_runV X (C_M_is l D A _ a lo hi en md vs n zf mk pl ct w1 hP hw1 hn _ k 0 (by omega) (by omega) (by decide)) b_M_is s_M_is v_M_is e_M_64 (m_at hP) rfl rfl hl rfl (Nat.le_of_ble_eq_true rfl) d_M_front_139 (Nat.le_of_ble_eq_true rfl) (Nat.le_of_ble_eq_true rfl) ⟨Nat.le_of_ble_eq_true rfl, Nat.le_of_ble_eq_true rfl⟩) hS (fun locs hS => ?_)
          rw [ft_is1 (by omega) ⟨hyat.2.1, hyat.1⟩]
          refine n_if_eq X 161 d_M_front_142 rfl (by omega) (fun hc => absurd hc (by decide)) (fun hc => ?_)
          refine x_aload_n X d_M_front_145 rfl hl rfl ?_
          refine x_iload X d_M_front_146 hl rfl ?_
          refine x_iload X d_M_front_148 hl rfl ?_
          refine x_goR (x_runV X (C_M_endI l D A _ a lo hi en md vs n zf mk pl ct w1 hP hw1 hz en md k _ 0 y oky hy he (by omega) hk3 (by decide) (by omega)) b_M_end s_M_end v_M_end e_M_60 (m_at hP) rfl rfl hl rfl (Nat.le_of_ble_eq_true rfl) d_M_front_150 (Nat.le_of_ble_eq_true rfl) (Nat.le_of_ble_eq_true rfl) ⟨Nat.le_of_ble_eq_true rfl, Nat.le_of_ble_eq_true rfl⟩) hS (fun locs hS => ?_)
          refine x_istore X d_M_front_153 hl (by decide) rfl (fun ls hl => ?_)
          refine n_iinc (d := 1) X d_M_front_155 rfl hl rfl (by decide) rfl (fun ls hl => ?_)
          refine x_goto X 133 d_M_front_158 rfl ?_
          refine ih2 (pre ++ [y]) _ _ (by rw [← hpr]; simp) ?_ ?_ hS kk
          · rw [List.length_append, ft_zR_app, show ft_zR [y] = ft_z y from by simp [ft_zR], ← Nat.add_assoc, ← Nat.add_assoc]
            exact hl
          · rw [ft_zR_app, show ft_zR [y] = ft_z y from by simp [ft_zR], ← Nat.add_assoc]
            exact hrest
      refine cnt l' [] _ _ rfl hl gl hS (fun locs ls hl hS => ?_)
      clear cnt
      have hl4 := okt.1.2.1
      refine x_iload X d_M_front_161 hl rfl ?_
      refine x_iconst (v := nI 4) X d_M_front_163 rfl ?_
      refine n_icmp_ne X 188 d_M_front_164 rfl (by omega) (by omega) (fun hc => ?_) (fun hc => ?_)
      · have hlt : d.1.length < 4 := by omega
        have hfr : ft_fr x (d :: sp) o (md, zf) = (((x :: d.1, d.2) :: sp, o), (md, zf)) := by simp only [ft_fr, if_pos hlt]
        rw [hfr] at hQ
        refine x_goto X 8 d_M_front_188 rfl ?_
        refine x_iload X d_M_front_8 hl rfl ?_
        refine n_if_eq X 191 d_M_front_10 rfl (by omega) (fun hc => ?_) (fun hc => absurd rfl hc)
        refine x_vret X hS (Nat.le_refl _) (Nat.le_refl _) d_M_front_191 ⟨rfl, hQ _ _ hP hw1 (ft_hd3' ?_ ?_ ?_) (ft_eo_wd heo1 (Nat.le_refl _) (by simp only [ft_zT]; omega))⟩
        · rw [ft_wR_cons, ft_hd_app, ft_wI_len, hl0, ft_wR_cons]
          exact ⟨hx1, g1⟩
        · simp only [ft_zR]; rw [← Nat.add_assoc]; exact g2
        · simp only [ft_zR]; rw [← Nat.add_assoc]; exact g3
      · have hl3 : l'.length = 3 := by omega
        have hk2 : k < 3 := by
          have hzl := ft_okR_z okl
          rw [hl3] at hzl
          have : 2 ^ k < 2 ^ 3 := by omega
          exact (Nat.pow_lt_pow_iff_right (by decide)).1 this
        have hnl : ¬ d.1.length < 4 := by omega
        have hdr : d.1.drop 1 = l' := by rw [hl0]; rfl
        have htk : d.1.take 1 = [l0] := by rw [hl0]; rfl
        have hfr : ft_fr x (d :: sp) o (md, zf) = (((x :: [l0], d.2) :: (ft_fr (ft_nd (md + 1) l') sp o (md + 1, va_up zf (md + 1) (ft_zR l'))).1.1, (ft_fr (ft_nd (md + 1) l') sp o (md + 1, va_up zf (md + 1) (ft_zR l'))).1.2), (ft_fr (ft_nd (md + 1) l') sp o (md + 1, va_up zf (md + 1) (ft_zR l'))).2) := by
          simp only [ft_fr, if_neg hnl, hdr, htk, ft_nw]
        have oknd : ft_ok en (md + 1) (va_up zf (md + 1) (ft_zR l')) (k + 1) (ft_nd (md + 1) l') := ft_ok_nw (c := (md, zf)) okl (Or.inr hl3)
        have okm := ft_okT_ex (ft_ex_nw (md, zf) l') okt.2.2
        rw [hfr] at hQ hmd
        have hmd1 : md + 1 < 4200 := Nat.lt_of_le_of_lt (ft_fr_ok sp (ft_nd (md + 1) l') o (md + 1, va_up zf (md + 1) (ft_zR l')) (k + 1) oknd okm).1.1 hmd
        refine x_aload_n X d_M_front_167 rfl hl rfl ?_
        refine x_iload X d_M_front_168 hl rfl ?_
        refine x_iload X d_M_front_170 hl rfl ?_
        refine x_iload X d_M_front_172 hl rfl ?_
        refine x_iconst (v := nI 1) X d_M_front_174 rfl ?_
        refine n_iadd X d_M_front_175 ?_
        refine x_go0 (x_runV X (C_M_wrap l D A _ a lo hi en md vs n zf mk pl ct w1 hP hd hw1 (f + ft_z x + ft_z l0) (f + ft_z x + ft_z l0 + ft_zR l') k (by omega) (by omega) hk2 hmd1) b_M_wrap s_M_wrap v_M_wrap e_M_68 (m_at hP) rfl rfl hl rfl (Nat.le_of_ble_eq_true rfl) d_M_front_176 (Nat.le_of_ble_eq_true rfl) (Nat.le_of_ble_eq_true rfl) ⟨Nat.le_of_ble_eq_true rfl, Nat.le_of_ble_eq_true rfl⟩) hS (fun _ h => h) (fun H locs hP hF hS => ?_)
        rw [Nat.add_sub_cancel_left] at hP
        have q1' := ft_ww_R (s := 3) (m := md + 1) okl gl he (by omega) (by omega) hk3 (by decide) (Nat.le_refl (f + ft_z x + ft_z l0)) (Nat.le_refl _)
        have hfe : f + ft_z x + ft_zR d.1 = f + ft_z x + ft_z l0 + ft_zR l' := by omega
        rw [hfe] at g2 g3
        have q2 := ft_sw_out (a := f + ft_z x + ft_z l0) (b := f + ft_z x + ft_z l0 + ft_zR l') (k := k + 1) (s := 3) (ft_ww_out (a := f + ft_z x + ft_z l0) (b := f + ft_z x + ft_z l0 + ft_zR l') (j := k) (m := md + 1) g2 (Or.inr (Nat.le_refl _))) (Or.inr (Nat.le_refl _))
        have heo2 : ft_eo w1 (ft_sw (ft_ww w1 (f + ft_z x + ft_z l0) (f + ft_z x + ft_z l0 + ft_zR l') k (md + 1)) (f + ft_z x + ft_z l0) (f + ft_z x + ft_z l0 + ft_zR l') (k + 1) 3) (f + ft_z x + ft_z l0) (f + ft_z x + ft_z l0 + ft_zR l') := ft_eo_tr (ft_eo_ww _ _ _ _ _) (ft_eo_sw _ _ _ _ _)
        have hw3 := ft_bw_sw (a := f + ft_z x + ft_z l0) (b := f + ft_z x + ft_z l0 + ft_zR l') (k := k + 1) (s := 3) (ft_bw_ww (a := f + ft_z x + ft_z l0) (b := f + ft_z x + ft_z l0 + ft_zR l') (j := k) (m := md + 1) hw1 hk2 (by omega)) (by omega) (by decide)
        generalize ft_sw (ft_ww w1 (f + ft_z x + ft_z l0) (f + ft_z x + ft_z l0 + ft_zR l') k (md + 1)) (f + ft_z x + ft_z l0) (f + ft_z x + ft_z l0 + ft_zR l') (k + 1) 3 = w3 at hP q1' q2 heo2 hw3
        have hznd : ft_z (ft_nd (md + 1) l') = ft_zR l' := ft_z_nd _ _
        have hr3 := ft_wR_at (i := 0) okt.2.1.2.2 g3 he (by omega) hk3 (by decide) (by omega)
        rw [Nat.add_zero] at hr3
        refine x_iload X d_M_front_179 hl rfl ?_
        refine x_istore_n X d_M_front_181 rfl hl (by decide) rfl (fun ls hl => ?_)
        refine n_iinc (d := 1) X d_M_front_182 rfl hl rfl (by decide) rfl (fun ls hl => ?_)
        refine x_iconst (v := nI 1) X d_M_front_185 rfl ?_
        refine x_istore X d_M_front_186 hl (by decide) rfl (fun ls hl => ?_)
        refine x_goto X 8 d_M_front_188 rfl ?_
        refine ih (ft_nd (md + 1) l') (k + 1) (f + ft_z x + ft_z l0) 3 (md + 1) (va_up zf (md + 1) (ft_zR l')) w3 _ _ _ _ _ _ _ hl hP hw3 (ft_up128 hz (by omega)) oknd okm q1' (by rw [hznd]; exact q2) (by decide) (by rw [hznd, Nat.pow_succ]; omega) (by rw [hznd]; omega) (fun _ => by rw [hznd, heo2 _ (Or.inr (by omega)), hr3.2.1]; omega) hmd ?_ hS
        intro w4 H4 hP4 hw4 hh4 heo4
        rw [hznd] at heo4
        have heo24 : ft_eo w1 w4 (f + ft_z x + ft_z l0) (f + ft_z x + ft_z l0 + ft_zR l' + ft_zT sp o) := ft_eo_tr (ft_eo_wd heo2 (Nat.le_refl _) (by omega)) heo4
        have hzf := ft_fr_z sp (ft_nd (md + 1) l') o (md + 1, va_up zf (md + 1) (ft_zR l'))
        rw [hznd] at hzf
        refine hQ w4 H4 hP4 hw4 (ft_hd3' ?_ ?_ ?_) (ft_eo_tr (ft_eo_wd heo1 (Nat.le_refl _) (by simp only [ft_zT]; omega)) (ft_eo_wd heo24 (by omega) (by simp only [ft_zT]; omega)))
        · rw [ft_wR_cons, ft_hd_app, ft_wI_len, ft_wR_one]
          exact ⟨ft_eo_hd heo24 hx1 (Or.inl (by rw [ft_wI_len]; omega)), ft_eo_hd heo24 g0 (Or.inl (by rw [ft_wI_len]; omega))⟩
        · rw [show f + ft_zR (x :: [l0]) = f + ft_z x + ft_z l0 from by simp only [ft_zR]; omega]
          exact hh4
        · rw [show f + ft_zR (x :: [l0]) + ft_zT (ft_fr (ft_nd (md + 1) l') sp o (md + 1, va_up zf (md + 1) (ft_zR l'))).1.1 (ft_fr (ft_nd (md + 1) l') sp o (md + 1, va_up zf (md + 1) (ft_zR l'))).1.2 = f + ft_z x + ft_z l0 + ft_zR l' + ft_zT sp o from by rw [hzf]; simp only [ft_zR]; omega]
          exact ft_eo_hd heo24 g3 (Or.inr (Nat.le_refl _))
  exact loop (nI f) (nI k) sp x k f sd md zf w none none none none H0 [] _ hl hP hw hz okx okt hx ht hsd hB hf hend hmd (fun w' H1 h1 h2 h3 h4 => by rw [← hPost]; exact ⟨w', h1, h2, h3, h4⟩) hS
