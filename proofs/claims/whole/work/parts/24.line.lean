/-! Contracts of the reference: line. -/
/-- outside of a stretch nothing has changed -/
def ft_eo (w w' : Nat → Nat) (f t : Nat) : Prop := ∀ q, q < f ∨ t ≤ q → w' q = w q
theorem ft_eo_rf (w : Nat → Nat) (f t : Nat) : ft_eo w w f t := fun _ _ => rfl
theorem ft_eo_tr {w w1 w2 : Nat → Nat} {f t : Nat} (h1 : ft_eo w w1 f t) (h2 : ft_eo w1 w2 f t) : ft_eo w w2 f t := fun q hq => (h2 q hq).trans (h1 q hq)
theorem ft_eo_wd {w w1 : Nat → Nat} {f t f' t' : Nat} (h : ft_eo w w1 f t) (hf : f' ≤ f) (ht : t ≤ t') : ft_eo w w1 f' t' := fun q hq => h q (by omega)
theorem ft_eo_sw (w : Nat → Nat) (f t k s : Nat) : ft_eo w (ft_sw w f t k s) f t := fun q hq => by unfold ft_sw; rw [if_neg (by omega)]
theorem ft_eo_ww (w : Nat → Nat) (f t j m : Nat) : ft_eo w (ft_ww w f t j m) f t := fun q hq => by unfold ft_ww; rw [if_neg (by omega)]
theorem ft_eo_hd {w w1 : Nat → Nat} {f t z : Nat} {L : List Nat} (h : ft_eo w w1 f t) (hh : ft_hd w z L) (hd : z + L.length ≤ f ∨ t ≤ z) : ft_hd w1 z L := ft_hd_congr hh (fun q h1 h2 => h q (by omega))
/-- the side that line gives the item number i of c -/
def ft_sf (c i : Nat) : Nat := if c = 1 then 2 else if i < (c + 1) / 2 then 0 else 1
def ft_wF (c : Nat) : Nat → List ft_I → List Nat
  | _, [] => []
  | i, x :: l => ft_wI (ft_sf c i) x ++ ft_wF c (i + 1) l
theorem ft_wF_len (c : Nat) (l : List ft_I) : ∀ i, (ft_wF c i l).length = ft_zR l := by
  induction l with
  | nil => intro i; rfl
  | cons x l ih => intro i; simp [ft_wF, ft_zR, ft_wI_len, ih]
theorem ft_wF_app (c : Nat) (x : ft_I) (l : List ft_I) : ∀ i, ft_wF c i (l ++ [x]) = ft_wF c i l ++ ft_wI (ft_sf c (i + l.length)) x := by
  induction l with
  | nil => intro i; simp [ft_wF]
  | cons y l ih => intro i; simp only [List.cons_append, ft_wF, ih, List.append_assoc, List.length_cons]; rw [show i + 1 + l.length = i + (l.length + 1) from by omega]
theorem ft_wF_two {c : Nat} (hc : c ≠ 1) (l : List ft_I) : ∀ i, ft_wF c i l = ft_wR 0 (l.take ((c + 1) / 2 - i)) ++ ft_wR 1 (l.drop ((c + 1) / 2 - i)) := by
  induction l with
  | nil => intro i; simp [ft_wF, ft_wR_nil]
  | cons x l ih =>
    intro i
    simp only [ft_wF, ih]
    unfold ft_sf
    rw [if_neg hc]
    split
    · rename_i h
      rw [show (c + 1) / 2 - i = ((c + 1) / 2 - (i + 1)) + 1 from by omega, List.take_succ_cons, List.drop_succ_cons, ft_wR_cons, List.append_assoc]
    · rename_i h
      rw [show (c + 1) / 2 - i = 0 from by omega, show (c + 1) / 2 - (i + 1) = 0 from by omega, List.take_zero, List.take_zero, List.drop_zero, List.drop_zero, ft_wR_cons, ft_wR_nil, List.nil_append, List.nil_append]
theorem ft_wF_ln (l : List ft_I) : ft_wF l.length 0 l = ft_wT (ft_ln l).1 (ft_ln l).2 := by
  match l with
  | [] => rfl
  | [x] => simp [ft_wF, ft_sf, ft_ln, ft_wT]
  | x :: y :: l =>
    rw [ft_wF_two (by simp)]
    simp only [ft_ln, ft_wT, List.length_cons, List.append_nil]
    rw [show (l.length + 1 + 1 + 1) / 2 - 0 = (l.length + 3) / 2 from by omega]
theorem ft_sf_lt (c i : Nat) : ft_sf c i < 4 := by unfold ft_sf; split; decide; split <;> decide
set_option maxRecDepth 100000 in
set_option maxHeartbeats 4000000 in
theorem C_M_line (l : Launch) (D : va_G) (A : Nat → ClassId) (H0 : Heap) (a : Nat → Nat) (lo hi : Nat → Int32) (en md vs n : Nat) (zf mk pl ct w : Nat → Nat) (hP : mH D a A lo hi en zf mk md pl ct vs w n H0) (hd : mDs a) (hw : ft_bw w) (hz : ∀ i, zf i < 128) (he : en ≤ 128) (hm : md < 4200) (k f sd : Nat) (row : List ft_I) (ok : ft_okR en md zf k row) (hr : ft_hd w f (ft_wR sd row)) (hk : k ≤ 3) (hsd : sd < 4) (ht : f + ft_zR row ≤ 48) (hl8 : row.length ≤ 8) : xC l y_M_line c_M_line 8 (none : Option FieldType) 2 D A H0 [.ref (a 0), .int (nI f), .int (nI (f + ft_zR row)), .int (nI k)] (mFr a) (q0 (fun H1 => ∃ w', mH D a A lo hi en zf mk md pl ct vs w' n H1 ∧ ft_bw w' ∧ ft_hd w' f (ft_wT (ft_ln row).1 (ft_ln row).2) ∧ ft_eo w w' f (f + ft_zR row))) 0 0 := by
  refine xC.of rfl (Nat.le_of_ble_eq_true rfl) ?_
  intro p_ e_ s_ m_ ar_ bl_ me_ c_ ls X hl
  have hl : lz ls 8 [some (.ref (a 0)), some (.int (nI f)), some (.int (nI (f + ft_zR row))), some (.int (nI k)), none, none, none, none] := hl
  have hS : va_S (mFr a) H0 H0 [] := va_S.rf
  refine x_iconst (v := nI 0) X d_M_line_0 rfl ?_
  refine x_istore X d_M_line_1 hl (by decide) rfl (fun ls hl => ?_)
  refine x_iload_n X d_M_line_3 rfl hl rfl ?_
  refine x_istore X d_M_line_4 hl (by decide) rfl (fun ls hl => ?_)
  have loop2 : ∀ (rest pre : List ft_I) (w1 : Nat → Nat) (v7 : Option Value) (H1 : Heap) (locs : List Loc) (ls : Array Slot), lz_c [none, none, none, none, none, none, none, v7] 7 = true → pre ++ rest = row → lz ls 8 [some (.ref (a 0)), some (.int (nI f)), some (.int (nI (f + ft_zR row))), some (.int (nI k)), some (.int (nI row.length)), some (.int (nI pre.length)), some (.int (nI (f + ft_zR pre))), v7] → mH D a A lo hi en zf mk md pl ct vs w1 n H1 → ft_bw w1 → ft_hd w1 f (ft_wF row.length 0 pre) → ft_hd w1 (f + ft_zR pre) (ft_wR sd rest) → ft_eo w w1 f (f + ft_zR row) → va_S (mFr a) H0 H1 locs → W p_ l e_ (x_rm 2 0 0) s_ m_ ar_ bl_ me_ c_ H1 locs 0 0 (MQ bl_ (xQ (mFr a) (q0 (fun H1 => ∃ w', mH D a A lo hi en zf mk md pl ct vs w' n H1 ∧ ft_bw w' ∧ ft_hd w' f (ft_wT (ft_ln row).1 (ft_ln row).2) ∧ ft_eo w w' f (f + ft_zR row)))) ar_ s_ 0 0 (mFr a)) (F0 m_ 33 ls []) := by
    intro rest
    induction rest with
    | nil =>
      intro pre w1 v7 H1 locs ls hv7 hpr hl hP hw1 hh1 hh2 heo hS
      rw [List.append_nil] at hpr
      subst hpr
      refine x_iload X d_M_line_33 hl rfl ?_
      refine x_iload_n X d_M_line_35 rfl hl rfl ?_
      refine n_icmp_ge X 93 d_M_line_36 rfl (by omega) (by omega) (fun hc => ?_) (fun hc => absurd hc (by omega))
      rw [ft_wF_ln] at hh1
      exact x_vret X hS (Nat.le_refl _) (Nat.le_refl _) d_M_line_93 ⟨rfl, w1, hP, hw1, hh1, heo⟩
    | cons x rest ih =>
      intro pre w1 v7 H1 locs ls hv7 hpr hl hP hw1 hh1 hh2 heo hS
      have hzr : ft_zR row = ft_zR pre + (ft_z x + ft_zR rest) := by rw [← hpr, ft_zR_app]; rfl
      have hlr : row.length = pre.length + (rest.length + 1) := by rw [← hpr]; simp
      have okx : ft_ok en md zf k x := ok x (by rw [← hpr]; simp)
      have hzx := ft_ok_zpos okx
      rw [ft_wR_cons] at hh2
      obtain ⟨hx, hrest⟩ := ft_hd_app.1 hh2
      rw [ft_wI_len] at hrest
      refine x_iload X d_M_line_33 hl rfl ?_
      refine x_iload_n X d_M_line_35 rfl hl rfl ?_
      refine n_icmp_ge X 93 d_M_line_36 rfl (by omega) (by omega) (fun hc => absurd hc (by omega)) (fun hc => ?_)
      refine x_aload_n X d_M_line_39 rfl hl rfl ?_
      refine x_iload X d_M_line_40 hl rfl ?_
      refine x_iload_n X d_M_line_42 rfl hl rfl ?_
      refine x_goR (x_runV X (C_M_endI l D A _ a lo hi en md vs n zf mk pl ct w1 hP hw1 hz en md k _ sd x okx hx he hm hk hsd (by omega)) b_M_end s_M_end v_M_end e_M_60 (m_at hP) rfl rfl hl rfl (Nat.le_of_ble_eq_true rfl) d_M_line_43 (Nat.le_of_ble_eq_true rfl) (Nat.le_of_ble_eq_true rfl) ⟨Nat.le_of_ble_eq_true rfl, Nat.le_of_ble_eq_true rfl⟩) hS (fun locs hS => ?_)
      refine x_istore X d_M_line_46 hl (by decide) rfl (fun ls hl => ?_)
      refine x_aload_n X d_M_line_48 rfl hl rfl ?_
      refine x_iload X d_M_line_49 hl rfl ?_
      refine x_iload X d_M_line_51 hl rfl ?_
      refine x_iload_n X d_M_line_53 rfl hl rfl ?_
      refine x_iload X d_M_line_54 hl rfl ?_
      refine x_iconst (v := nI 1) X d_M_line_56 rfl ?_
      have fin : ∀ (locs : List Loc), va_S (mFr a) H0 H1 locs → W p_ l e_ (x_rm 2 0 0) s_ m_ ar_ bl_ me_ c_ H1 locs 0 0 (MQ bl_ (xQ (mFr a) (q0 (fun H1 => ∃ w', mH D a A lo hi en zf mk md pl ct vs w' n H1 ∧ ft_bw w' ∧ ft_hd w' f (ft_wT (ft_ln row).1 (ft_ln row).2) ∧ ft_eo w w' f (f + ft_zR row)))) ar_ s_ 0 0 (mFr a)) (F0 m_ 80 ls [.int (nI (ft_sf row.length pre.length)), .int (nI k), .int (nI (f + ft_zR pre + ft_z x)), .int (nI (f + ft_zR pre)), .ref (a 0)]) := by
        intro locs hS
        refine x_go0 (x_runV X (C_M_settle l D A _ a lo hi en md vs n zf mk pl ct w1 hP hd hw1 (f + ft_zR pre) (f + ft_zR pre + ft_z x) k (ft_sf row.length pre.length) (by omega) (by omega) (by omega) (ft_sf_lt _ _)) b_M_settle s_M_settle v_M_settle e_M_56 (m_at hP) rfl rfl hl rfl (Nat.le_of_ble_eq_true rfl) d_M_line_80 (Nat.le_of_ble_eq_true rfl) (Nat.le_of_ble_eq_true rfl) ⟨Nat.le_of_ble_eq_true rfl, Nat.le_of_ble_eq_true rfl⟩) hS (fun _ h => h) (fun H locs hP hF hS => ?_)
        refine n_iinc (d := 1) X d_M_line_83 rfl hl rfl (by decide) rfl (fun ls hl => ?_)
        refine x_iload X d_M_line_86 hl rfl ?_
        refine x_istore X d_M_line_88 hl (by decide) rfl (fun ls hl => ?_)
        refine x_goto X 33 d_M_line_90 rfl ?_
        refine ih (pre ++ [x]) _ (some (.int (nI (f + ft_zR pre + ft_z x)))) _ _ _ rfl (by rw [← hpr]; simp) ?_ hP (ft_bw_sw hw1 (by omega) (ft_sf_lt _ _)) ?_ ?_ (ft_eo_tr heo (ft_eo_wd (ft_eo_sw _ _ _ _ _) (by omega) (by omega))) hS
        · rw [List.length_append, ft_zR_app, show ft_zR [x] = ft_z x from by simp [ft_zR], ← Nat.add_assoc]
          exact hl
        · rw [ft_wF_app, ft_hd_app, ft_wF_len, Nat.zero_add]
          exact ⟨ft_sw_out hh1 (Or.inl (by rw [ft_wF_len]; exact Nat.le_refl _)), ft_sw_I okx hx he (by omega) hk hsd (Nat.le_refl _) (Nat.le_refl _)⟩
        · rw [ft_zR_app, show ft_zR [x] = ft_z x from by simp [ft_zR], ← Nat.add_assoc]
          exact ft_sw_out hrest (Or.inr (Nat.le_refl _))
      refine n_icmp_ne X 64 d_M_line_57 rfl (by omega) (by omega) (fun hc => ?_) (fun hc => ?_)
      · have e : ft_sf row.length pre.length = if pre.length < (row.length + 1) / 2 then 0 else 1 := by unfold ft_sf; rw [if_neg hc]
        refine x_iload X d_M_line_64 hl rfl ?_
        refine x_iload X d_M_line_66 hl rfl ?_
        refine x_iconst (v := nI 1) X d_M_line_68 rfl ?_
        refine n_iadd X d_M_line_69 ?_
        refine x_iconst (v := nI 2) X d_M_line_70 rfl ?_
        refine n_idiv X d_M_line_71 (by omega) (by omega) (by omega) ?_
        refine n_icmp_ge X 79 d_M_line_72 rfl (by omega) (by omega) (fun hc2 => ?_) (fun hc2 => ?_)
        · rw [if_neg (by omega)] at e
          refine x_iconst (v := nI 1) X d_M_line_79 rfl ?_
          refine x_topi (y := nI (ft_sf row.length pre.length)) (by rw [e]) ?_
          exact fin _ hS
        · rw [if_pos (by omega)] at e
          refine x_iconst (v := nI 0) X d_M_line_75 rfl ?_
          refine x_goto X 80 d_M_line_76 rfl ?_
          refine x_topi (y := nI (ft_sf row.length pre.length)) (by rw [e]) ?_
          exact fin _ hS
      · have e : ft_sf row.length pre.length = 2 := by unfold ft_sf; rw [if_pos hc]
        refine x_iconst (v := nI 2) X d_M_line_60 rfl ?_
        refine x_goto X 80 d_M_line_61 rfl ?_
        refine x_topi (y := nI (ft_sf row.length pre.length)) (by rw [e]) ?_
        exact fin _ hS
  have loop1 : ∀ (rest pre : List ft_I) (locs : List Loc) (ls : Array Slot), pre ++ rest = row → lz ls 8 [some (.ref (a 0)), some (.int (nI f)), some (.int (nI (f + ft_zR row))), some (.int (nI k)), some (.int (nI pre.length)), some (.int (nI (f + ft_zR pre))), none, none] → ft_hd w (f + ft_zR pre) (ft_wR sd rest) → va_S (mFr a) H0 H0 locs → W p_ l e_ (x_rm 2 0 0) s_ m_ ar_ bl_ me_ c_ H0 locs 0 0 (MQ bl_ (xQ (mFr a) (q0 (fun H1 => ∃ w', mH D a A lo hi en zf mk md pl ct vs w' n H1 ∧ ft_bw w' ∧ ft_hd w' f (ft_wT (ft_ln row).1 (ft_ln row).2) ∧ ft_eo w w' f (f + ft_zR row)))) ar_ s_ 0 0 (mFr a)) (F0 m_ 6 ls []) := by
    intro rest
    induction rest with
    | nil =>
      intro pre locs ls hpr hl hh2 hS
      rw [List.append_nil] at hpr
      subst hpr
      refine x_iload X d_M_line_6 hl rfl ?_
      refine x_iload_n X d_M_line_8 rfl hl rfl ?_
      refine n_icmp_ge X 27 d_M_line_9 rfl (by omega) (by omega) (fun hc => ?_) (fun hc => absurd hc (by omega))
      refine x_iconst (v := nI 0) X d_M_line_27 rfl ?_
      refine x_istore X d_M_line_28 hl (by decide) rfl (fun ls hl => ?_)
      refine x_iload_n X d_M_line_30 rfl hl rfl ?_
      refine x_istore X d_M_line_31 hl (by decide) rfl (fun ls hl => ?_)
      exact loop2 pre [] w none H0 _ _ rfl rfl hl hP hw (ft_hd_nil _ _) hr (ft_eo_rf _ _ _) hS
    | cons x rest ih =>
      intro pre locs ls hpr hl hh2 hS
      have hzr : ft_zR row = ft_zR pre + (ft_z x + ft_zR rest) := by rw [← hpr, ft_zR_app]; rfl
      have hlr : row.length = pre.length + (rest.length + 1) := by rw [← hpr]; simp
      have okx : ft_ok en md zf k x := ok x (by rw [← hpr]; simp)
      have hzx := ft_ok_zpos okx
      rw [ft_wR_cons] at hh2
      obtain ⟨hx, hrest⟩ := ft_hd_app.1 hh2
      rw [ft_wI_len] at hrest
      refine x_iload X d_M_line_6 hl rfl ?_
      refine x_iload_n X d_M_line_8 rfl hl rfl ?_
      refine n_icmp_ge X 27 d_M_line_9 rfl (by omega) (by omega) (fun hc => absurd hc (by omega)) (fun hc => ?_)
      refine n_iinc (d := 1) X d_M_line_12 rfl hl rfl (by decide) rfl (fun ls hl => ?_)
      refine x_aload_n X d_M_line_15 rfl hl rfl ?_
      refine x_iload X d_M_line_16 hl rfl ?_
      refine x_iload_n X d_M_line_18 rfl hl rfl ?_
      refine x_goR (x_runV X (C_M_endI l D A _ a lo hi en md vs n zf mk pl ct w hP hw hz en md k _ sd x okx hx he hm hk hsd (by omega)) b_M_end s_M_end v_M_end e_M_60 (m_at hP) rfl rfl hl rfl (Nat.le_of_ble_eq_true rfl) d_M_line_19 (Nat.le_of_ble_eq_true rfl) (Nat.le_of_ble_eq_true rfl) ⟨Nat.le_of_ble_eq_true rfl, Nat.le_of_ble_eq_true rfl⟩) hS (fun locs hS => ?_)
      refine x_istore X d_M_line_22 hl (by decide) rfl (fun ls hl => ?_)
      refine x_goto X 6 d_M_line_24 rfl ?_
      refine ih (pre ++ [x]) _ _ (by rw [← hpr]; simp) ?_ ?_ hS
      · rw [List.length_append, ft_zR_app, show ft_zR [x] = ft_z x from by simp [ft_zR], ← Nat.add_assoc]
        exact hl
      · rw [ft_zR_app, show ft_zR [x] = ft_z x from by simp [ft_zR], ← Nat.add_assoc]
        exact hrest
  exact loop1 row [] [] _ rfl hl hr hS
