/-! Contracts of the reference: frontAll, backAll. -/
theorem ft_fr_128 : ∀ (sp : ft_S) (x : ft_I) (o : Option ft_I) (c : ft_C), (∀ i, c.2 i < 128) → ft_z x + ft_zT sp o < 128 → ∀ i, (ft_fr x sp o c).2.2 i < 128 := by
  intro sp
  induction sp with
  | nil => intro x o c h hz; cases o <;> exact h
  | cons d sp ih =>
    intro x o c h hz
    unfold ft_fr
    simp only [ft_zT] at hz
    have := ft_zR_td d.1 1
    split
    · exact h
    · exact ih _ o _ (ft_up128 h (by omega)) (by rw [ft_z_nd]; omega)
theorem ft_bk_128 : ∀ (sp : ft_S) (x : ft_I) (o : Option ft_I) (c : ft_C), (∀ i, c.2 i < 128) → ft_z x + ft_zT sp o < 128 → ∀ i, (ft_bk sp o x c).2.2 i < 128 := by
  intro sp
  induction sp with
  | nil => intro x o c h hz; cases o <;> exact h
  | cons d sp ih =>
    intro x o c h hz
    unfold ft_bk
    simp only [ft_zT] at hz
    have := ft_zR_td d.2 3
    split
    · exact h
    · exact ih _ o _ (ft_up128 h (by omega)) (by rw [ft_z_nd]; omega)
theorem ft_gr_128 : ∀ (f : Nat) (l : List ft_I) (c : ft_C), (∀ i, c.2 i < 128) → ft_zR l < 128 → ∀ i, (ft_gr f l c).2.2 i < 128 := by
  intro f
  induction f with
  | zero => intro l c h hz; exact h
  | succ f ih =>
    intro l c h hz
    unfold ft_gr
    have := ft_zR_td l (ft_tk l.length)
    split
    · exact h
    · exact ih _ _ (ft_up128 h (by omega)) (by omega)
theorem ft_af_app (p l : List ft_I) (a : ft_T × ft_C) : ft_af (p ++ l) a = ft_af p (ft_af l a) := List.foldr_append
theorem ft_af_cons (x : ft_I) (l : List ft_I) (a : ft_T × ft_C) : ft_af (x :: l) a = ft_fr x (ft_af l a).1.1 (ft_af l a).1.2 (ft_af l a).2 := rfl
theorem ft_ab_app (p l : List ft_I) (a : ft_T × ft_C) : ft_ab (p ++ l) a = ft_ab l (ft_ab p a) := List.foldl_append
theorem ft_ab_one (x : ft_I) (a : ft_T × ft_C) : ft_ab [x] a = ft_bk a.1.1 a.1.2 x a.2 := rfl
theorem ft_af_128 {ne k : Nat} : ∀ (row : List ft_I) (a : ft_T × ft_C), ft_okR ne a.2.1 a.2.2 k row → ft_okT ne a.2.1 a.2.2 k a.1.1 a.1.2 → (∀ i, a.2.2 i < 128) → ft_zR row + ft_zT a.1.1 a.1.2 < 128 → ∀ i, (ft_af row a).2.2 i < 128 := by
  intro row
  induction row with
  | nil => intro a _ _ h _; exact h
  | cons x row ih =>
    intro a h1 h2 h hz
    simp only [ft_zR] at hz
    rw [ft_af_cons]
    have ho := ft_af_ok (k := k) row a (fun y hy => h1 y (by simp [hy])) h2
    exact ft_fr_128 _ _ _ _ (ih a (fun y hy => h1 y (by simp [hy])) h2 h (by omega)) (by rw [ho.2.2]; omega)
theorem ft_ab_128 {ne k : Nat} : ∀ (row : List ft_I) (a : ft_T × ft_C), ft_okR ne a.2.1 a.2.2 k row → ft_okT ne a.2.1 a.2.2 k a.1.1 a.1.2 → (∀ i, a.2.2 i < 128) → ft_zR row + ft_zT a.1.1 a.1.2 < 128 → ∀ i, (ft_ab row a).2.2 i < 128 := by
  intro row
  induction row with
  | nil => intro a _ _ h _; exact h
  | cons x row ih =>
    intro a h1 h2 h hz
    simp only [ft_zR] at hz
    have hb := ft_bk_ok a.1.1 x a.1.2 a.2 k (h1 x (by simp)) h2
    exact ih (ft_bk a.1.1 a.1.2 x a.2) (ft_okR_ex hb.1 (fun y hy => h1 y (by simp [hy]))) hb.2 (ft_bk_128 _ _ _ _ h (by omega)) (by rw [ft_bk_z]; omega)
set_option maxRecDepth 100000 in
set_option maxHeartbeats 4000000 in
theorem C_M_frontAll (l : Launch) (D : va_G) (A : Nat → ClassId) (H0 : Heap) (a : Nat → Nat) (lo hi : Nat → Int32) (en md vs n : Nat) (zf mk pl ct w : Nat → Nat) (hP : mH D a A lo hi en zf mk md pl ct vs w n H0) (hd : mDs a) (hw : ft_bw w) (hz : ∀ i, zf i < 128) (he : en ≤ 128) (hn : n ≤ 48) (k f : Nat) (row : List ft_I) (sp : ft_S) (o : Option ft_I) (okr : ft_okR en md zf k row) (okt : ft_okT en md zf k sp o) (hr : ft_hx w f row) (ht : ft_hd w (f + ft_zR row) (ft_wT sp o)) (hk : k ≤ 3) (hB : 2 * 2 ^ k + ft_zR row + ft_zT sp o ≤ 42) (hf : f + ft_zR row + ft_zT sp o ≤ n) (hend : f + ft_zR row + ft_zT sp o < n → ft_le8 (w (f + ft_zR row + ft_zT sp o)) < k) (hmd : (ft_af row ((sp, o), (md, zf))).2.1 < 4200) : xC l y_M_frontAll c_M_frontAll 6 (none : Option FieldType) 4 D A H0 [.ref (a 0), .int (nI f), .int (nI (f + ft_zR row)), .int (nI k)] (mFr a) (q0 (fun H1 => ∃ w', mH D a A lo hi en (ft_af row ((sp, o), (md, zf))).2.2 mk (ft_af row ((sp, o), (md, zf))).2.1 pl ct vs w' n H1 ∧ ft_bw w' ∧ ft_hd w' f (ft_wT (ft_af row ((sp, o), (md, zf))).1.1 (ft_af row ((sp, o), (md, zf))).1.2) ∧ ft_eo w w' f (f + ft_zR row + ft_zT sp o))) 0 0 := by
  refine xC.of rfl (Nat.le_of_ble_eq_true rfl) ?_
  intro p_ e_ s_ m_ ar_ bl_ me_ c_ ls X hl
  have hl : lz ls 6 [some (.ref (a 0)), some (.int (nI f)), some (.int (nI (f + ft_zR row))), some (.int (nI k)), none, none] := hl
  have hS : va_S (mFr a) H0 H0 [] := va_S.rf
  refine x_iload_n X d_M_frontAll_0 rfl hl rfl ?_
  refine x_istore X d_M_frontAll_1 hl (by decide) rfl (fun ls hl => ?_)
  have loop : ∀ (g : Nat) (pre suf : List ft_I) (w1 : Nat → Nat) (v5 : Option Value) (H1 : Heap) (locs : List Loc) (ls : Array Slot), pre.length = g → pre ++ suf = row → lz ls 6 [some (.ref (a 0)), some (.int (nI f)), some (.int (nI (f + ft_zR row))), some (.int (nI k)), some (.int (nI (f + ft_zR pre))), v5] → mH D a A lo hi en (ft_af suf ((sp, o), (md, zf))).2.2 mk (ft_af suf ((sp, o), (md, zf))).2.1 pl ct vs w1 n H1 → ft_bw w1 → ft_hx w1 f pre → ft_hd w1 (f + ft_zR pre) (ft_wT (ft_af suf ((sp, o), (md, zf))).1.1 (ft_af suf ((sp, o), (md, zf))).1.2) → ft_eo w w1 f (f + ft_zR row + ft_zT sp o) → va_S (mFr a) H0 H1 locs → W p_ l e_ (x_rm 4 0 0) s_ m_ ar_ bl_ me_ c_ H1 locs 0 0 (MQ bl_ (xQ (mFr a) (q0 (fun H1 => ∃ w', mH D a A lo hi en (ft_af row ((sp, o), (md, zf))).2.2 mk (ft_af row ((sp, o), (md, zf))).2.1 pl ct vs w' n H1 ∧ ft_bw w' ∧ ft_hd w' f (ft_wT (ft_af row ((sp, o), (md, zf))).1.1 (ft_af row ((sp, o), (md, zf))).1.2) ∧ ft_eo w w' f (f + ft_zR row + ft_zT sp o)))) ar_ s_ 0 0 (mFr a)) (F0 m_ 3 ls []) := by
    intro g
    induction g with
    | zero =>
      intro pre suf w1 v5 H1 locs ls hg hpr hl hP hw1 hp1 ht1 heo hS
      have hpe : pre = [] := List.length_eq_zero_iff.1 hg
      subst hpe
      rw [List.nil_append] at hpr
      subst hpr
      refine x_iload X d_M_frontAll_3 hl rfl ?_
      refine x_iload_n X d_M_frontAll_5 rfl hl rfl ?_
      refine n_icmp_le X 32 d_M_frontAll_6 rfl (by simp only [ft_zR]; omega) (by omega) (fun hc => ?_) (fun hc => absurd hc (by simp [ft_zR]))
      exact x_vret X hS (Nat.le_refl _) (Nat.le_refl _) d_M_frontAll_32 ⟨rfl, w1, hP, hw1, ht1, heo⟩
    | succ g ih =>
      intro pre suf w1 v5 H1 locs ls hg hpr hl hP hw1 hp1 ht1 heo hS
      obtain ⟨pre', x, hpx⟩ := ft_rev (l := pre) (fun e => by rw [e] at hg; simp at hg)
      subst hpx
      have hzp : ft_zR (pre' ++ [x]) = ft_zR pre' + ft_z x := by rw [ft_zR_app]; simp [ft_zR]
      have hzr : ft_zR row = ft_zR pre' + ft_z x + ft_zR suf := by rw [← hpr, ft_zR_app, hzp]
      have oks : ft_okR en md zf k suf := fun y hy => okr y (by rw [← hpr]; simp [hy])
      have okp : ft_okR en md zf k pre' := fun y hy => okr y (by rw [← hpr]; simp [hy])
      have okx0 : ft_ok en md zf k x := okr x (by rw [← hpr]; simp)
      have hzx := ft_ok_zpos okx0
      obtain ⟨a1, a2, a3⟩ := ft_af_ok (ne := en) (k := k) suf ((sp, o), (md, zf)) oks okt
      have okx : ft_ok en (ft_af suf ((sp, o), (md, zf))).2.1 (ft_af suf ((sp, o), (md, zf))).2.2 k x := ft_ok_ex a1 okx0
      have hf1 := ft_fr_ok (ne := en) (ft_af suf ((sp, o), (md, zf))).1.1 x (ft_af suf ((sp, o), (md, zf))).1.2 (ft_af suf ((sp, o), (md, zf))).2 k okx a2
      have hz1 := ft_af_128 (k := k) suf ((sp, o), (md, zf)) oks okt hz (by simp only []; omega)
      have hmd2 : (ft_fr x (ft_af suf ((sp, o), (md, zf))).1.1 (ft_af suf ((sp, o), (md, zf))).1.2 (ft_af suf ((sp, o), (md, zf))).2).2.1 < 4200 := by
        have h9 : ft_af row ((sp, o), (md, zf)) = ft_af pre' (ft_fr x (ft_af suf ((sp, o), (md, zf))).1.1 (ft_af suf ((sp, o), (md, zf))).1.2 (ft_af suf ((sp, o), (md, zf))).2) := by rw [← hpr, List.append_assoc, ft_af_app]; rfl
        rw [h9] at hmd
        exact Nat.lt_of_le_of_lt (ft_af_ok (ne := en) (k := k) pre' (ft_fr x (ft_af suf ((sp, o), (md, zf))).1.1 (ft_af suf ((sp, o), (md, zf))).1.2 (ft_af suf ((sp, o), (md, zf))).2) (ft_okR_ex (ft_ex_tr a1 hf1.1) okp) hf1.2).1.1 hmd
      have hmd1 : (ft_af suf ((sp, o), (md, zf))).2.1 < 4200 := Nat.lt_of_le_of_lt hf1.1.1 hmd2
      rw [hzp, ← Nat.add_assoc] at hl ht1
      rw [ft_hx_app] at hp1
      obtain ⟨hp2, ⟨sd, hsd, hx⟩, _⟩ := hp1
      simp only [] at a3
      refine x_iload X d_M_frontAll_3 hl rfl ?_
      refine x_iload_n X d_M_frontAll_5 rfl hl rfl ?_
      refine n_icmp_le X 32 d_M_frontAll_6 rfl (by omega) (by omega) (fun hc => absurd hc (by omega)) (fun hc => ?_)
      refine x_aload_n X d_M_frontAll_9 rfl hl rfl ?_
      refine x_iload X d_M_frontAll_10 hl rfl ?_
      refine x_iload_n X d_M_frontAll_12 rfl hl rfl ?_
      refine x_goR (x_runV X (C_M_begI l D A _ a lo hi en (ft_af suf ((sp, o), (md, zf))).2.1 vs n (ft_af suf ((sp, o), (md, zf))).2.2 mk pl ct w1 hP hw1 en (ft_af suf ((sp, o), (md, zf))).2.1 k _ sd x okx hx he hmd1 hk hsd (by omega)) b_M_begin s_M_begin v_M_begin e_M_72 (m_at hP) rfl rfl hl rfl (Nat.le_of_ble_eq_true rfl) d_M_frontAll_13 (Nat.le_of_ble_eq_true rfl) (Nat.le_of_ble_eq_true rfl) ⟨Nat.le_of_ble_eq_true rfl, Nat.le_of_ble_eq_true rfl⟩) hS (fun locs hS => ?_)
      refine x_istore X d_M_frontAll_16 hl (by decide) rfl (fun ls hl => ?_)
      refine x_aload_n X d_M_frontAll_18 rfl hl rfl ?_
      refine x_iload X d_M_frontAll_19 hl rfl ?_
      refine x_iload_n X d_M_frontAll_21 rfl hl rfl ?_
      have hend1 : f + ft_zR pre' + ft_z x + ft_zT (ft_af suf ((sp, o), (md, zf))).1.1 (ft_af suf ((sp, o), (md, zf))).1.2 < n → ft_le8 (w1 (f + ft_zR pre' + ft_z x + ft_zT (ft_af suf ((sp, o), (md, zf))).1.1 (ft_af suf ((sp, o), (md, zf))).1.2)) < k := by
        intro h5
        rw [a3] at h5 ⊢
        rw [heo _ (Or.inr (by omega)), show f + ft_zR pre' + ft_z x + (ft_zR suf + ft_zT sp o) = f + ft_zR row + ft_zT sp o from by omega]
        exact hend (by omega)
      refine x_go0 (x_runV X (C_M_front l D A _ a lo hi en (ft_af suf ((sp, o), (md, zf))).2.1 vs n (ft_af suf ((sp, o), (md, zf))).2.2 mk pl ct w1 hP hd hw1 hz1 he hn k (f + ft_zR pre') x (ft_af suf ((sp, o), (md, zf))).1.1 (ft_af suf ((sp, o), (md, zf))).1.2 sd okx a2 hx ht1 hsd (by rw [a3]; omega) (by rw [a3]; omega) hend1 hmd2) b_M_front s_M_front v_M_front e_M_98 (m_at hP) rfl rfl hl rfl (Nat.le_of_ble_eq_true rfl) d_M_frontAll_22 (Nat.le_of_ble_eq_true rfl) (Nat.le_of_ble_eq_true rfl) ⟨Nat.le_of_ble_eq_true rfl, Nat.le_of_ble_eq_true rfl⟩) hS (fun _ h => h) (fun H locs hP hF hS => ?_)
      obtain ⟨w2, hP, hw2, hh2, heo2⟩ := hP
      rw [a3] at heo2
      refine x_iload X d_M_frontAll_25 hl rfl ?_
      refine x_istore X d_M_frontAll_27 hl (by decide) rfl (fun ls hl => ?_)
      refine x_goto X 3 d_M_frontAll_29 rfl ?_
      refine ih pre' (x :: suf) w2 _ _ _ _ (by simpa using hg) (by rw [← hpr]; simp) hl hP hw2 (ft_hx_eo heo2 hp2 (Or.inl (Nat.le_refl _))) hh2 (ft_eo_tr heo (ft_eo_wd heo2 (by omega) (by omega))) hS
  exact loop row.length row [] w none H0 [] _ rfl (List.append_nil _) hl hP hw hr ht (ft_eo_rf _ _ _) hS
set_option maxRecDepth 100000 in
set_option maxHeartbeats 4000000 in
theorem C_M_backAll (l : Launch) (D : va_G) (A : Nat → ClassId) (H0 : Heap) (a : Nat → Nat) (lo hi : Nat → Int32) (en md vs n : Nat) (zf mk pl ct w : Nat → Nat) (hP : mH D a A lo hi en zf mk md pl ct vs w n H0) (hd : mDs a) (hw : ft_bw w) (hz : ∀ i, zf i < 128) (he : en ≤ 128) (hn : n ≤ 48) (k f : Nat) (row : List ft_I) (sp : ft_S) (o : Option ft_I) (okr : ft_okR en md zf k row) (okt : ft_okT en md zf k sp o) (ht : ft_hd w f (ft_wT sp o)) (hr : ft_hx w (f + ft_zT sp o) row) (hk : k ≤ 3) (hB : 2 * 2 ^ k + ft_zR row + ft_zT sp o ≤ 42) (hf : f + ft_zT sp o + ft_zR row ≤ n) (hend : 0 < f → ft_le8 (w (f - 1)) < k) (hmd : (ft_ab row ((sp, o), (md, zf))).2.1 < 4200) : xC l y_M_backAll c_M_backAll 6 (none : Option FieldType) 4 D A H0 [.ref (a 0), .int (nI (f + ft_zT sp o)), .int (nI (f + ft_zT sp o + ft_zR row)), .int (nI k)] (mFr a) (q0 (fun H1 => ∃ w', mH D a A lo hi en (ft_ab row ((sp, o), (md, zf))).2.2 mk (ft_ab row ((sp, o), (md, zf))).2.1 pl ct vs w' n H1 ∧ ft_bw w' ∧ ft_hd w' f (ft_wT (ft_ab row ((sp, o), (md, zf))).1.1 (ft_ab row ((sp, o), (md, zf))).1.2) ∧ ft_eo w w' f (f + ft_zT sp o + ft_zR row))) 0 0 := by
  refine xC.of rfl (Nat.le_of_ble_eq_true rfl) ?_
  intro p_ e_ s_ m_ ar_ bl_ me_ c_ ls X hl
  have hl : lz ls 6 [some (.ref (a 0)), some (.int (nI (f + ft_zT sp o))), some (.int (nI (f + ft_zT sp o + ft_zR row))), some (.int (nI k)), none, none] := hl
  have hS : va_S (mFr a) H0 H0 [] := va_S.rf
  refine x_iload_n X d_M_backAll_0 rfl hl rfl ?_
  refine x_istore X d_M_backAll_1 hl (by decide) rfl (fun ls hl => ?_)
  have loop : ∀ (rest pre : List ft_I) (w1 : Nat → Nat) (v5 : Option Value) (H1 : Heap) (locs : List Loc) (ls : Array Slot), pre ++ rest = row → lz ls 6 [some (.ref (a 0)), some (.int (nI (f + ft_zT sp o))), some (.int (nI (f + ft_zT sp o + ft_zR row))), some (.int (nI k)), some (.int (nI (f + ft_zT sp o + ft_zR pre))), v5] → mH D a A lo hi en (ft_ab pre ((sp, o), (md, zf))).2.2 mk (ft_ab pre ((sp, o), (md, zf))).2.1 pl ct vs w1 n H1 → ft_bw w1 → ft_hx w1 (f + ft_zT sp o + ft_zR pre) rest → ft_hd w1 f (ft_wT (ft_ab pre ((sp, o), (md, zf))).1.1 (ft_ab pre ((sp, o), (md, zf))).1.2) → ft_eo w w1 f (f + ft_zT sp o + ft_zR row) → va_S (mFr a) H0 H1 locs → W p_ l e_ (x_rm 4 0 0) s_ m_ ar_ bl_ me_ c_ H1 locs 0 0 (MQ bl_ (xQ (mFr a) (q0 (fun H1 => ∃ w', mH D a A lo hi en (ft_ab row ((sp, o), (md, zf))).2.2 mk (ft_ab row ((sp, o), (md, zf))).2.1 pl ct vs w' n H1 ∧ ft_bw w' ∧ ft_hd w' f (ft_wT (ft_ab row ((sp, o), (md, zf))).1.1 (ft_ab row ((sp, o), (md, zf))).1.2) ∧ ft_eo w w' f (f + ft_zT sp o + ft_zR row)))) ar_ s_ 0 0 (mFr a)) (F0 m_ 3 ls []) := by
    intro rest
    induction rest with
    | nil =>
      intro pre w1 v5 H1 locs ls hpr hl hP hw1 hp1 ht1 heo hS
      rw [List.append_nil] at hpr
      subst hpr
      refine x_iload X d_M_backAll_3 hl rfl ?_
      refine x_iload_n X d_M_backAll_5 rfl hl rfl ?_
      refine n_icmp_ge X 32 d_M_backAll_6 rfl (by omega) (by omega) (fun hc => ?_) (fun hc => absurd hc (by omega))
      exact x_vret X hS (Nat.le_refl _) (Nat.le_refl _) d_M_backAll_32 ⟨rfl, w1, hP, hw1, ht1, heo⟩
    | cons x rest ih =>
      intro pre w1 v5 H1 locs ls hpr hl hP hw1 hp1 ht1 heo hS
      have hzr : ft_zR row = ft_zR pre + (ft_z x + ft_zR rest) := by rw [← hpr, ft_zR_app]; rfl
      have okp : ft_okR en md zf k pre := fun y hy => okr y (by rw [← hpr]; simp [hy])
      have oks : ft_okR en md zf k rest := fun y hy => okr y (by rw [← hpr]; simp [hy])
      have okx0 : ft_ok en md zf k x := okr x (by rw [← hpr]; simp)
      have hzx := ft_ok_zpos okx0
      obtain ⟨a1, a2, a3⟩ := ft_ab_ok (ne := en) (k := k) pre ((sp, o), (md, zf)) okp okt
      have okx : ft_ok en (ft_ab pre ((sp, o), (md, zf))).2.1 (ft_ab pre ((sp, o), (md, zf))).2.2 k x := ft_ok_ex a1 okx0
      have hf1 := ft_bk_ok (ne := en) (ft_ab pre ((sp, o), (md, zf))).1.1 x (ft_ab pre ((sp, o), (md, zf))).1.2 (ft_ab pre ((sp, o), (md, zf))).2 k okx a2
      have hz1 := ft_ab_128 (k := k) pre ((sp, o), (md, zf)) okp okt hz (by simp only []; omega)
      have hmd2 : (ft_bk (ft_ab pre ((sp, o), (md, zf))).1.1 (ft_ab pre ((sp, o), (md, zf))).1.2 x (ft_ab pre ((sp, o), (md, zf))).2).2.1 < 4200 := by
        have h9 : ft_ab row ((sp, o), (md, zf)) = ft_ab rest (ft_bk (ft_ab pre ((sp, o), (md, zf))).1.1 (ft_ab pre ((sp, o), (md, zf))).1.2 x (ft_ab pre ((sp, o), (md, zf))).2) := by rw [← hpr, ft_ab_app]; rfl
        rw [h9] at hmd
        exact Nat.lt_of_le_of_lt (ft_ab_ok (ne := en) (k := k) rest (ft_bk (ft_ab pre ((sp, o), (md, zf))).1.1 (ft_ab pre ((sp, o), (md, zf))).1.2 x (ft_ab pre ((sp, o), (md, zf))).2) (ft_okR_ex (ft_ex_tr a1 hf1.1) oks) hf1.2).1.1 hmd
      have hmd1 : (ft_ab pre ((sp, o), (md, zf))).2.1 < 4200 := Nat.lt_of_le_of_lt hf1.1.1 hmd2
      obtain ⟨⟨sd, hsd, hx⟩, hrest⟩ := hp1
      simp only [] at a3
      have hab : ft_ab (pre ++ [x]) ((sp, o), (md, zf)) = ft_bk (ft_ab pre ((sp, o), (md, zf))).1.1 (ft_ab pre ((sp, o), (md, zf))).1.2 x (ft_ab pre ((sp, o), (md, zf))).2 := by rw [ft_ab_app]; rfl
      refine x_iload X d_M_backAll_3 hl rfl ?_
      refine x_iload_n X d_M_backAll_5 rfl hl rfl ?_
      refine n_icmp_ge X 32 d_M_backAll_6 rfl (by omega) (by omega) (fun hc => absurd hc (by omega)) (fun hc => ?_)
      refine x_aload_n X d_M_backAll_9 rfl hl rfl ?_
      refine x_iload X d_M_backAll_10 hl rfl ?_
      refine x_iload_n X d_M_backAll_12 rfl hl rfl ?_
      refine x_goR (x_runV X (C_M_endI l D A _ a lo hi en (ft_ab pre ((sp, o), (md, zf))).2.1 vs n (ft_ab pre ((sp, o), (md, zf))).2.2 mk pl ct w1 hP hw1 hz1 en (ft_ab pre ((sp, o), (md, zf))).2.1 k _ sd x okx hx he hmd1 hk hsd (by omega)) b_M_end s_M_end v_M_end e_M_60 (m_at hP) rfl rfl hl rfl (Nat.le_of_ble_eq_true rfl) d_M_backAll_13 (Nat.le_of_ble_eq_true rfl) (Nat.le_of_ble_eq_true rfl) ⟨Nat.le_of_ble_eq_true rfl, Nat.le_of_ble_eq_true rfl⟩) hS (fun locs hS => ?_)
      refine x_istore X d_M_backAll_16 hl (by decide) rfl (fun ls hl => ?_)
      refine x_aload_n X d_M_backAll_18 rfl hl rfl ?_
      refine x_iload X d_M_backAll_19 hl rfl ?_
      refine x_iload_n X d_M_backAll_21 rfl hl rfl ?_
      have hse : f + ft_zT sp o + ft_zR pre = f + ft_zT (ft_ab pre ((sp, o), (md, zf))).1.1 (ft_ab pre ((sp, o), (md, zf))).1.2 := by rw [a3]; omega
      rw [hse] at hx ⊢
      have hend1 : 0 < f → ft_le8 (w1 (f - 1)) < k := by
        intro h5
        rw [heo _ (Or.inl (by omega))]
        exact hend h5
      refine x_go0 (x_runV X (C_M_back l D A _ a lo hi en (ft_ab pre ((sp, o), (md, zf))).2.1 vs n (ft_ab pre ((sp, o), (md, zf))).2.2 mk pl ct w1 hP hd hw1 hz1 he hn k f x (ft_ab pre ((sp, o), (md, zf))).1.1 (ft_ab pre ((sp, o), (md, zf))).1.2 sd okx a2 ht1 hx hsd (by rw [a3]; omega) (by rw [a3]; omega) hend1 hmd2) b_M_back s_M_back v_M_back e_M_101 (m_at hP) rfl rfl hl rfl (Nat.le_of_ble_eq_true rfl) d_M_backAll_22 (Nat.le_of_ble_eq_true rfl) (Nat.le_of_ble_eq_true rfl) ⟨Nat.le_of_ble_eq_true rfl, Nat.le_of_ble_eq_true rfl⟩) hS (fun _ h => h) (fun H locs hP hF hS => ?_)
      obtain ⟨w2, hP, hw2, hh2, heo2⟩ := hP
      rw [a3] at heo2
      refine x_iload X d_M_backAll_25 hl rfl ?_
      refine x_istore X d_M_backAll_27 hl (by decide) rfl (fun ls hl => ?_)
      refine x_goto X 3 d_M_backAll_29 rfl ?_
      refine ih (pre ++ [x]) w2 (some (.int (nI (f + ft_zT sp o + ft_zR pre + ft_z x)))) _ _ _ (by rw [← hpr]; simp) ?_ (by rw [hab]; exact hP) hw2 ?_ (by rw [hab]; exact hh2) (ft_eo_tr heo (ft_eo_wd heo2 (Nat.le_refl _) (by omega))) hS
      · rw [ft_zR_app, show ft_zR [x] = ft_z x from by simp [ft_zR], ← Nat.add_assoc]
        exact hl
      · rw [ft_zR_app, show ft_zR [x] = ft_z x from by simp [ft_zR], ← Nat.add_assoc]
        exact ft_hx_eo heo2 hrest (Or.inr (by omega))
  exact loop row [] w none H0 [] _ rfl hl hP hw hr ht (ft_eo_rf _ _ _) hS
