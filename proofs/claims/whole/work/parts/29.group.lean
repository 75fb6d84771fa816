/-! Contracts of the reference: tree, group, frontAll, backAll. -/
def ft_tr (n : Nat) (w : Nat → Nat) (j k : Nat) : Nat := if j < n ∧ k ≤ ft_le8 (w j) then 1 else 0
def ft_trb (n : Nat) (w : Nat → Nat) (j k : Nat) : Nat := if 1 ≤ j then ft_tr n w (j - 1) k else 0
/-- a row of items, each with some side -/
def ft_hx (w : Nat → Nat) : Nat → List ft_I → Prop
  | _, [] => True
  | s, x :: l => (∃ sd, sd < 4 ∧ ft_hd w s (ft_wI sd x)) ∧ ft_hx w (s + ft_z x) l
theorem ft_hx_of {w : Nat → Nat} {sd : Nat} (hs : sd < 4) : ∀ {l : List ft_I} {s : Nat}, ft_hd w s (ft_wR sd l) → ft_hx w s l := by
  intro l
  induction l with
  | nil => intro s _; trivial
  | cons x l ih =>
    intro s h
    rw [ft_wR_cons, ft_hd_app, ft_wI_len] at h
    exact ⟨⟨sd, hs, h.1⟩, ih h.2⟩
theorem ft_hx_app {w : Nat → Nat} {b : List ft_I} : ∀ {a : List ft_I} {s : Nat}, ft_hx w s (a ++ b) ↔ ft_hx w s a ∧ ft_hx w (s + ft_zR a) b := by
  intro a
  induction a with
  | nil => intro s; simp [ft_hx, ft_zR]
  | cons x a ih =>
    intro s
    simp only [List.cons_append, ft_hx, ih, ft_zR, Nat.add_assoc, and_assoc]
theorem ft_hx_congr {w w' : Nat → Nat} : ∀ {l : List ft_I} {s : Nat}, ft_hx w s l → (∀ q, s ≤ q → q < s + ft_zR l → w' q = w q) → ft_hx w' s l := by
  intro l
  induction l with
  | nil => intro s _ _; trivial
  | cons x l ih =>
    intro s h he
    obtain ⟨⟨sd, h1, h2⟩, h3⟩ := h
    simp only [ft_zR] at he
    exact ⟨⟨sd, h1, ft_hd_congr h2 (fun q a b => he q a (by rw [ft_wI_len] at b; omega))⟩, ih h3 (fun q a b => he q (by omega) (by omega))⟩
theorem ft_hx_eo {w w' : Nat → Nat} {f t z : Nat} {l : List ft_I} (h : ft_eo w w' f t) (hh : ft_hx w z l) (hd : z + ft_zR l ≤ f ∨ t ≤ z) : ft_hx w' z l := ft_hx_congr hh (fun q h1 h2 => h q (by omega))
theorem ft_ww_X {ne mm : Nat} {zf : Nat → Nat} {w : Nat → Nat} {a b k s m : Nat} (hne : ne ≤ 128) (hmm : mm < 8192) (hm : m < 8192) (hk : k ≤ 3) : ∀ {l : List ft_I} {z : Nat}, ft_okR ne mm zf k l → ft_hx w z l → a ≤ z → z + ft_zR l ≤ b → ft_hd (ft_sw (ft_ww w a b k m) a b (k + 1) s) z ((ft_lR l).map (fun q => ft_wd s (q.1, q.2 ++ [m]))) := by
  intro l
  induction l with
  | nil => intro z _ _ _ _; exact ft_hd_nil _ _
  | cons x l ih =>
    intro z ok h ha hb
    obtain ⟨⟨sd, h1, h2⟩, h3⟩ := h
    simp only [ft_zR] at hb
    simp only [ft_lR, List.map_append]
    rw [ft_hd_app, List.length_map, ft_lv_len]
    exact ⟨ft_wr_in (s := s) h2 h1 (ft_ok_fit (ok x (by simp)) hne hmm hk) hm ha (by rw [ft_lv_len]; omega), ih (fun y hy => ok y (by simp [hy])) h3 (by omega) (by omega)⟩
theorem ft_ww_XN {ne mm : Nat} {zf : Nat → Nat} {w : Nat → Nat} {a b k s z m : Nat} {l : List ft_I} (ok : ft_okR ne mm zf k l) (h : ft_hx w z l) (hne : ne ≤ 128) (hmm : mm < 8192) (hm : m < 8192) (hk : k ≤ 3) (ha : a ≤ z) (hb : z + ft_zR l ≤ b) : ft_hd (ft_sw (ft_ww w a b k m) a b (k + 1) s) z (ft_wI s (ft_nd m l)) := by
  have := ft_ww_X (s := s) (a := a) (b := b) hne hmm hm hk ok h ha hb
  unfold ft_wI
  rw [ft_lv_nd, List.map_map]
  exact this
set_option maxRecDepth 100000 in
set_option maxHeartbeats 4000000 in
theorem C_M_tree (l : Launch) (D : va_G) (A : Nat → ClassId) (H0 : Heap) (a : Nat → Nat) (lo hi : Nat → Int32) (en md vs n : Nat) (zf mk pl ct w : Nat → Nat) (hP : mH D a A lo hi en zf mk md pl ct vs w n H0) (hw : ft_bw w) (hn : n ≤ 48) (j k : Nat) (hj : j < 2 ^ 31) (hk : k < 8) : xC l y_M_tree c_M_tree 3 (some .boolean) 1 D A H0 [.ref (a 0), .int (nI j), .int (nI k)] (fun _ => False) (q1 (.int (nI (ft_tr n w j k))) (fun H1 => H1 = H0)) 0 0 := by
  refine xC.of rfl (Nat.le_of_ble_eq_true rfl) ?_
  intro p_ e_ s_ m_ ar_ bl_ me_ c_ ls X hl
  have hl : lz ls 3 [some (.ref (a 0)), some (.int (nI j)), some (.int (nI k))] := hl
  have hS : va_S (fun _ => False) H0 H0 [] := va_S.rf
  have hbw := hw j
  refine x_iload_n X d_M_tree_0 rfl hl rfl ?_
  refine n_if_lt X 29 d_M_tree_1 rfl (by omega) (fun hc => absurd hc (Nat.not_lt_zero _)) (fun hc => ?_)
  refine x_iload_n X d_M_tree_4 rfl hl rfl ?_
  refine x_aload_n X d_M_tree_5 rfl hl rfl ?_
  refine m_get X hP 10 (by decide) e_M_37 rfl d_M_tree_6 ?_
  refine n_icmp_ge X 29 d_M_tree_9 rfl (by omega) (by omega) (fun hc => ?_) (fun hc => ?_)
  · refine x_iconst (v := nI 0) X d_M_tree_29 rfl ?_
    exact x_zret X hS (Nat.le_refl _) (Nat.le_refl _) d_M_tree_30 rfl ⟨by unfold ft_tr; rw [if_neg (by omega)], rfl⟩
  have hj48 : j < 48 := by omega
  refine x_aload_n X d_M_tree_12 rfl hl rfl ?_
  refine m_get X hP 9 (by decide) e_M_34 rfl d_M_tree_13 ?_
  refine x_iload_n X d_M_tree_16 rfl hl rfl ?_
  refine m_ld_w X hP (by omega) d_M_tree_17 ?_
  refine x_goR (x_runS X (C_M_level l D A _ (w j) (by omega)) b_M_level s_M_level e_M_40 rfl hl rfl (Nat.le_of_ble_eq_true rfl) d_M_tree_18 (Nat.le_of_ble_eq_true rfl) (Nat.le_of_ble_eq_true rfl) ⟨Nat.le_of_ble_eq_true rfl, Nat.le_of_ble_eq_true rfl⟩) hS (fun locs hS => ?_)
  refine x_iload_n X d_M_tree_21 rfl hl rfl ?_
  refine n_icmp_lt X 29 d_M_tree_22 rfl (by omega) (by omega) (fun hc2 => ?_) (fun hc2 => ?_)
  · refine x_iconst (v := nI 0) X d_M_tree_29 rfl ?_
    exact x_zret X hS (Nat.le_refl _) (Nat.le_refl _) d_M_tree_30 rfl ⟨by unfold ft_tr; rw [if_neg (fun h => by have := h.2; dsimp only [ft_le8] at this; omega)], rfl⟩
  refine x_iconst (v := nI 1) X d_M_tree_25 rfl ?_
  refine x_goto X 30 d_M_tree_26 rfl ?_
  exact x_zret X hS (Nat.le_refl _) (Nat.le_refl _) d_M_tree_30 rfl ⟨by unfold ft_tr; rw [if_pos ⟨by assumption, by assumption⟩], rfl⟩
set_option maxRecDepth 100000 in
set_option maxHeartbeats 4000000 in
theorem C_M_tree_neg (l : Launch) (D : va_G) (A : Nat → ClassId) (H0 : Heap) (a : Nat → Nat) (k : Nat) : xC l y_M_tree c_M_tree 3 (some .boolean) 1 D A H0 [.ref (a 0), .int (-1), .int (nI k)] (fun _ => False) (q1 (.int (nI 0)) (fun H1 => H1 = H0)) 0 0 := by
  refine xC.of rfl (Nat.le_of_ble_eq_true rfl) ?_
  intro p_ e_ s_ m_ ar_ bl_ me_ c_ ls X hl
  have hl : lz ls 3 [some (.ref (a 0)), some (.int (-1)), some (.int (nI k))] := hl
  have hS : va_S (fun _ => False) H0 H0 [] := va_S.rf
  refine x_iload_n X d_M_tree_0 rfl hl rfl ?_
  refine x_if_lt X 29 d_M_tree_1 rfl (fun _ => ?_) (fun h => absurd (by decide) h)
  refine x_iconst (v := nI 0) X d_M_tree_29 rfl ?_
  exact x_zret X hS (Nat.le_refl _) (Nat.le_refl _) d_M_tree_30 rfl ⟨rfl, rfl⟩
theorem C_M_treeb (l : Launch) (D : va_G) (A : Nat → ClassId) (H0 : Heap) (a : Nat → Nat) (lo hi : Nat → Int32) (en md vs n : Nat) (zf mk pl ct w : Nat → Nat) (hP : mH D a A lo hi en zf mk md pl ct vs w n H0) (hw : ft_bw w) (hn : n ≤ 48) (j k : Nat) (hj : j < 2 ^ 31) (hk : k < 8) : xC l y_M_tree c_M_tree 3 (some .boolean) 1 D A H0 [.ref (a 0), .int (nI j - nI 1), .int (nI k)] (fun _ => False) (q1 (.int (nI (ft_trb n w j k))) (fun H1 => H1 = H0)) 0 0 := by
  unfold ft_trb
  split
  · rename_i h
    rw [pk_sub h]
    exact C_M_tree l D A H0 a lo hi en md vs n zf mk pl ct w hP hw hn (j - 1) k (by omega) hk
  · rename_i h
    have : j = 0 := by omega
    subst this
    exact C_M_tree_neg l D A H0 a k
set_option maxRecDepth 100000 in
set_option maxHeartbeats 4000000 in
theorem C_M_group (l : Launch) (D : va_G) (A : Nat → ClassId) (H0 : Heap) (a : Nat → Nat) (lo hi : Nat → Int32) (en md vs n : Nat) (zf mk pl ct w : Nat → Nat) (hP : mH D a A lo hi en zf mk md pl ct vs w n H0) (hd : mDs a) (hw : ft_bw w) (hz : ∀ i, zf i < 128) (he : en ≤ 128) (hn : n ≤ 48) (k f : Nat) (row : List ft_I) (ok : ft_okR en md zf k row) (hr : ft_hx w f row) (hk : k < 3) (h1 : row.length ≠ 1) (h16 : row.length ≤ 16) (ht : f + ft_zR row ≤ 48) (hmd : (ft_gr 16 row (md, zf)).2.1 < 4200) : xC l y_M_group c_M_group 9 (none : Option FieldType) 2 D A H0 [.ref (a 0), .int (nI f), .int (nI (f + ft_zR row)), .int (nI k)] (mFr a) (q0 (fun H1 => ∃ w', mH D a A lo hi en (ft_gr 16 row (md, zf)).2.2 mk (ft_gr 16 row (md, zf)).2.1 pl ct vs w' n H1 ∧ ft_bw w' ∧ ft_hd w' f (ft_wR 3 (ft_gr 16 row (md, zf)).1) ∧ ft_eo w w' f (f + ft_zR row))) 0 0 := by
  refine xC.of rfl (Nat.le_of_ble_eq_true rfl) ?_
  intro p_ e_ s_ m_ ar_ bl_ me_ c_ ls X hl
  have hl : lz ls 9 [some (.ref (a 0)), some (.int (nI f)), some (.int (nI (f + ft_zR row))), some (.int (nI k)), none, none, none, none, none] := hl
  have hS : va_S (mFr a) H0 H0 [] := va_S.rf
  refine x_iconst (v := nI 0) X d_M_group_0 rfl ?_
  refine x_istore X d_M_group_1 hl (by decide) rfl (fun ls hl => ?_)
  refine x_iload_n X d_M_group_3 rfl hl rfl ?_
  refine x_istore X d_M_group_4 hl (by decide) rfl (fun ls hl => ?_)
  have hmd0 : md < 4200 := Nat.lt_of_le_of_lt (ft_gr_ok (ne := en) (k := k) 16 row (md, zf) h1 h16 ok).1.1 hmd
  generalize hPost : (fun H1 => ∃ w', mH D a A lo hi en (ft_gr 16 row (md, zf)).2.2 mk (ft_gr 16 row (md, zf)).2.1 pl ct vs w' n H1 ∧ ft_bw w' ∧ ft_hd w' f (ft_wR 3 (ft_gr 16 row (md, zf)).1) ∧ ft_eo w w' f (f + ft_zR row)) = Post
  have loop2 : ∀ (fu : Nat) (rest : List ft_I) (q md : Nat) (zf w : Nat → Nat) (v6 v7 v8 : Option Value) (H1 : Heap) (locs : List Loc) (ls : Array Slot), rest.length ≤ fu → rest.length ≠ 1 → rest.length ≤ 16 → q + ft_zR rest ≤ 48 → (ft_gr fu rest (md, zf)).2.1 < 4200 → lz ls 9 [some (.ref (a 0)), some (.int (nI f)), some (.int (nI (f + ft_zR row))), some (.int (nI k)), some (.int (nI rest.length)), some (.int (nI q)), v6, v7, v8] → mH D a A lo hi en zf mk md pl ct vs w n H1 → ft_bw w → (∀ i, zf i < 128) → ft_okR en md zf k rest → ft_hx w q rest →
      (∀ (w' : Nat → Nat) (H1 : Heap), mH D a A lo hi en (ft_gr fu rest (md, zf)).2.2 mk (ft_gr fu rest (md, zf)).2.1 pl ct vs w' n H1 → ft_bw w' → ft_hd w' q (ft_wR 3 (ft_gr fu rest (md, zf)).1) → ft_eo w w' q (q + ft_zR rest) → Post H1) → va_S (mFr a) H0 H1 locs → W p_ l e_ (x_rm 2 0 0) s_ m_ ar_ bl_ me_ c_ H1 locs 0 0 (MQ bl_ (xQ (mFr a) (q0 Post)) ar_ s_ 0 0 (mFr a)) (F0 m_ 30 ls []) := by
    intro fu
    induction fu with
    | zero =>
      intro rest q md zf w v6 v7 v8 H1 locs ls hfu hn1 h16 hq48 hmd hl hP hw hz ok hr hQ hS
      have hre : rest = [] := List.length_eq_zero_iff.1 (by omega)
      subst hre
      refine x_iload X d_M_group_30 hl rfl ?_
      refine n_if_le X 108 d_M_group_32 rfl (by simp) (fun hc => ?_) (fun hc => absurd hc (by simp))
      exact x_vret X hS (Nat.le_refl _) (Nat.le_refl _) d_M_group_108 ⟨rfl, hQ w H1 hP hw (ft_hd_nil _ _) (ft_eo_rf _ _ _)⟩
    | succ fu ih =>
      intro rest q md zf w v6 v7 v8 H1 locs ls hfu hn1 h16 hq48 hmd hl hP hw hz ok hr hQ hS
      refine x_iload X d_M_group_30 hl rfl ?_
      refine n_if_le X 108 d_M_group_32 rfl (by omega) (fun hc => ?_) (fun hc => ?_)
      · have hre : rest = [] := List.length_eq_zero_iff.1 (by omega)
        subst hre
        exact x_vret X hS (Nat.le_refl _) (Nat.le_refl _) d_M_group_108 ⟨rfl, hQ w H1 (by simpa [ft_gr] using hP) hw (by simp only [ft_gr, List.length_nil, if_true]; exact ft_hd_nil _ _) (ft_eo_rf _ _ _)⟩
      obtain ⟨t1, t2, t3, t4⟩ := ft_tk_le hn1 (by omega)
      have htk : ft_tk rest.length = if rest.length = 2 ∨ rest.length = 4 then 2 else 3 := rfl
      have hgr : ft_gr (fu + 1) rest (md, zf) = (ft_nd (md + 1) (rest.take (ft_tk rest.length)) :: (ft_gr fu (rest.drop (ft_tk rest.length)) (ft_nw (md, zf) (rest.take (ft_tk rest.length)))).1, (ft_gr fu (rest.drop (ft_tk rest.length)) (ft_nw (md, zf) (rest.take (ft_tk rest.length)))).2) := by
        rw [ft_gr, if_neg (by omega)]
      have okt := ft_okR_take ok (ft_tk rest.length)
      have okd := ft_okR_ex (ft_ex_nw (md, zf) (rest.take (ft_tk rest.length))) (ft_okR_drop ok (ft_tk rest.length))
      have hltk : (rest.take (ft_tk rest.length)).length = ft_tk rest.length := by rw [List.length_take]; omega
      have hldr : (rest.drop (ft_tk rest.length)).length = rest.length - ft_tk rest.length := List.length_drop
      have hzt := ft_zR_td rest (ft_tk rest.length)
      rw [hgr] at hmd
      have hmd1 : md + 1 < 4200 := Nat.lt_of_le_of_lt (ft_gr_ok (ne := en) (k := k) fu (rest.drop (ft_tk rest.length)) (ft_nw (md, zf) (rest.take (ft_tk rest.length))) (by omega) (by omega) okd).1.1 hmd
      rw [← List.take_append_drop (ft_tk rest.length) rest, ft_hx_app] at hr
      obtain ⟨hrt, hrd⟩ := hr
      have mid : ∀ (locs : List Loc) (ls : Array Slot), lz ls 9 [some (.ref (a 0)), some (.int (nI f)), some (.int (nI (f + ft_zR row))), some (.int (nI k)), some (.int (nI rest.length)), some (.int (nI q)), some (.int (nI (ft_tk rest.length))), v7, v8] → va_S (mFr a) H0 H1 locs → W p_ l e_ (x_rm 2 0 0) s_ m_ ar_ bl_ me_ c_ H1 locs 0 0 (MQ bl_ (xQ (mFr a) (q0 Post)) ar_ s_ 0 0 (mFr a)) (F0 m_ 54 ls []) := by
        intro locs ls hl hS
        refine x_iload X d_M_group_54 hl rfl ?_
        refine x_istore X d_M_group_56 hl (by decide) rfl (fun ls hl => ?_)
        refine x_iconst (v := nI 0) X d_M_group_58 rfl ?_
        refine x_istore X d_M_group_59 hl (by decide) rfl (fun ls hl => ?_)
        have cnt : ∀ (more pre : List ft_I) (locs : List Loc) (ls : Array Slot), pre ++ more = rest.take (ft_tk rest.length) → lz ls 9 [some (.ref (a 0)), some (.int (nI f)), some (.int (nI (f + ft_zR row))), some (.int (nI k)), some (.int (nI rest.length)), some (.int (nI q)), some (.int (nI (ft_tk rest.length))), some (.int (nI (q + ft_zR pre))), some (.int (nI pre.length))] → ft_hx w (q + ft_zR pre) more → va_S (mFr a) H0 H1 locs →
            (∀ (locs : List Loc) (ls : Array Slot), lz ls 9 [some (.ref (a 0)), some (.int (nI f)), some (.int (nI (f + ft_zR row))), some (.int (nI k)), some (.int (nI rest.length)), some (.int (nI q)), some (.int (nI (ft_tk rest.length))), some (.int (nI (q + ft_zR (rest.take (ft_tk rest.length))))), some (.int (nI (ft_tk rest.length)))] → va_S (mFr a) H0 H1 locs → W p_ l e_ (x_rm 2 0 0) s_ m_ ar_ bl_ me_ c_ H1 locs 0 0 (MQ bl_ (xQ (mFr a) (q0 Post)) ar_ s_ 0 0 (mFr a)) (F0 m_ 83 ls [])) → W p_ l e_ (x_rm 2 0 0) s_ m_ ar_ bl_ me_ c_ H1 locs 0 0 (MQ bl_ (xQ (mFr a) (q0 Post)) ar_ s_ 0 0 (mFr a)) (F0 m_ 61 ls []) := by
          intro more
          induction more with
          | nil =>
            intro pre locs ls hpr hl hh hS kk
            rw [List.append_nil] at hpr
            subst hpr
            rw [hltk] at hl
            refine x_iload X d_M_group_61 hl rfl ?_
            refine x_iload X d_M_group_63 hl rfl ?_
            refine n_icmp_ge X 83 d_M_group_65 rfl (by omega) (by omega) (fun hc => ?_) (fun hc => absurd hc (by omega))
            exact kk _ _ hl hS
          | cons x more ih2 =>
            intro pre locs ls hpr hl hh hS kk
            have hzr : ft_zR (rest.take (ft_tk rest.length)) = ft_zR pre + (ft_z x + ft_zR more) := by rw [← hpr, ft_zR_app]; rfl
            have hlr : (rest.take (ft_tk rest.length)).length = pre.length + (more.length + 1) := by rw [← hpr]; simp
            have okx : ft_ok en md zf k x := okt x (by rw [← hpr]; simp)
            have hzx := ft_ok_zpos okx
            obtain ⟨⟨sd, hsd, hx⟩, hmore⟩ := hh
            refine x_iload X d_M_group_61 hl rfl ?_
            refine x_iload X d_M_group_63 hl rfl ?_
            refine n_icmp_ge X 83 d_M_group_65 rfl (by omega) (by omega) (fun hc => absurd hc (by omega)) (fun hc => ?_)
            refine x_aload_n X d_M_group_68 rfl hl rfl ?_
            refine x_iload X d_M_group_69 hl rfl ?_
            refine x_iload_n X d_M_group_71 rfl hl rfl ?_
            refine x_goR (x_runV X (C_M_endI l D A _ a lo hi en md vs n zf mk pl ct w hP hw hz en md k _ sd x okx hx he (by omega) (by omega) hsd (by omega)) b_M_end s_M_end v_M_end e_M_60 (m_at hP) rfl rfl hl rfl (Nat.le_of_ble_eq_true rfl) d_M_group_72 (Nat.le_of_ble_eq_true rfl) (Nat.le_of_ble_eq_true rfl) ⟨Nat.le_of_ble_eq_true rfl, Nat.le_of_ble_eq_true rfl⟩) hS (fun locs hS => ?_)
            refine x_istore X d_M_group_75 hl (by decide) rfl (fun ls hl => ?_)
            refine n_iinc (d := 1) X d_M_group_77 rfl hl rfl (by decide) rfl (fun ls hl => ?_)
            refine x_goto X 61 d_M_group_80 rfl ?_
            refine ih2 (pre ++ [x]) _ _ (by rw [← hpr]; simp) ?_ ?_ hS kk
            · rw [List.length_append, ft_zR_app, show ft_zR [x] = ft_z x from by simp [ft_zR], ← Nat.add_assoc]
              exact hl
            · rw [ft_zR_app, show ft_zR [x] = ft_z x from by simp [ft_zR], ← Nat.add_assoc]
              exact hmore
        refine cnt (rest.take (ft_tk rest.length)) [] _ _ rfl hl hrt hS (fun locs ls hl hS => ?_)
        clear cnt
        refine x_aload_n X d_M_group_83 rfl hl rfl ?_
        refine x_iload X d_M_group_84 hl rfl ?_
        refine x_iload X d_M_group_86 hl rfl ?_
        refine x_iload_n X d_M_group_88 rfl hl rfl ?_
        refine x_iconst (v := nI 1) X d_M_group_89 rfl ?_
        refine n_iadd X d_M_group_90 ?_
        refine x_go0 (x_runV X (C_M_wrap l D A _ a lo hi en md vs n zf mk pl ct w hP hd hw q (q + ft_zR (rest.take (ft_tk rest.length))) k (by omega) (by omega) hk hmd1) b_M_wrap s_M_wrap v_M_wrap e_M_68 (m_at hP) rfl rfl hl rfl (Nat.le_of_ble_eq_true rfl) d_M_group_91 (Nat.le_of_ble_eq_true rfl) (Nat.le_of_ble_eq_true rfl) ⟨Nat.le_of_ble_eq_true rfl, Nat.le_of_ble_eq_true rfl⟩) hS (fun _ h => h) (fun H locs hP hF hS => ?_)
        rw [Nat.add_sub_cancel_left] at hP
        have g1 := ft_ww_XN (s := 3) (m := md + 1) okt hrt he (by omega) (by omega) (by omega) (Nat.le_refl q) (Nat.le_refl _)
        have heo2 : ft_eo w (ft_sw (ft_ww w q (q + ft_zR (rest.take (ft_tk rest.length))) k (md + 1)) q (q + ft_zR (rest.take (ft_tk rest.length))) (k + 1) 3) q (q + ft_zR (rest.take (ft_tk rest.length))) := ft_eo_tr (ft_eo_ww _ _ _ _ _) (ft_eo_sw _ _ _ _ _)
        have hw3 := ft_bw_sw (a := q) (b := (q + ft_zR (rest.take (ft_tk rest.length)))) (k := k + 1) (s := 3) (ft_bw_ww (a := q) (b := (q + ft_zR (rest.take (ft_tk rest.length)))) (j := k) (m := md + 1) hw hk (by omega)) (by omega) (by decide)
        generalize ft_sw (ft_ww w q (q + ft_zR (rest.take (ft_tk rest.length))) k (md + 1)) q (q + ft_zR (rest.take (ft_tk rest.length))) (k + 1) 3 = w3 at hP g1 heo2 hw3
        refine x_iload X d_M_group_94 hl rfl ?_
        refine x_istore X d_M_group_96 hl (by decide) rfl (fun ls hl => ?_)
        refine x_iload X d_M_group_98 hl rfl ?_
        refine x_iload X d_M_group_100 hl rfl ?_
        refine n_isub X d_M_group_102 (by omega) ?_
        refine x_istore X d_M_group_103 hl (by decide) rfl (fun ls hl => ?_)
        refine x_goto X 30 d_M_group_105 rfl ?_
        rw [← hldr] at hl
        refine ih (rest.drop (ft_tk rest.length)) (q + ft_zR (rest.take (ft_tk rest.length))) (md + 1) (va_up zf (md + 1) (ft_zR (rest.take (ft_tk rest.length)))) w3 _ _ _ _ _ _ (by omega) (by omega) (by omega) (by omega) hmd hl hP hw3 (ft_up128 hz (by omega)) okd (ft_hx_eo heo2 hrd (Or.inr (Nat.le_refl _))) ?_ hS
        intro w4 H4 hP4 hw4 hh4 heo4
        refine hQ w4 H4 (by rw [hgr]; exact hP4) hw4 ?_ (ft_eo_tr (ft_eo_wd heo2 (Nat.le_refl _) (by omega)) (ft_eo_wd heo4 (by omega) (by omega)))
        rw [hgr, ft_wR_cons, ft_hd_app, ft_wI_len, ft_z_nd]
        exact ⟨ft_eo_hd heo4 g1 (Or.inl (by rw [ft_wI_len, ft_z_nd]; exact Nat.le_refl _)), hh4⟩
      refine x_iload X d_M_group_35 hl rfl ?_
      refine x_iconst (v := nI 2) X d_M_group_37 rfl ?_
      refine n_icmp_eq X 47 d_M_group_38 rfl (by omega) (by omega) (fun hc => ?_) (fun hc => ?_)
      · have e : ft_tk rest.length = 2 := by rw [htk, if_pos (Or.inl (by assumption))]
        refine x_iconst (v := nI 2) X d_M_group_47 rfl ?_
        refine x_goto X 52 d_M_group_48 rfl ?_
        refine x_topi (y := nI (ft_tk rest.length)) (by rw [e]) ?_
        refine x_istore X d_M_group_52 hl (by decide) rfl (fun ls hl => ?_)
        exact mid _ _ hl hS
      refine x_iload X d_M_group_41 hl rfl ?_
      refine x_iconst (v := nI 4) X d_M_group_43 rfl ?_
      refine n_icmp_ne X 51 d_M_group_44 rfl (by omega) (by omega) (fun hc2 => ?_) (fun hc2 => ?_)
      · have e : ft_tk rest.length = 3 := by rw [htk, if_neg (by omega)]
        refine x_iconst (v := nI 3) X d_M_group_51 rfl ?_
        refine x_topi (y := nI (ft_tk rest.length)) (by rw [e]) ?_
        refine x_istore X d_M_group_52 hl (by decide) rfl (fun ls hl => ?_)
        exact mid _ _ hl hS
      · have e : ft_tk rest.length = 2 := by rw [htk, if_pos (Or.inr (by assumption))]
        refine x_iconst (v := nI 2) X d_M_group_47 rfl ?_
        refine x_goto X 52 d_M_group_48 rfl ?_
        refine x_topi (y := nI (ft_tk rest.length)) (by rw [e]) ?_
        refine x_istore X d_M_group_52 hl (by decide) rfl (fun ls hl => ?_)
        exact mid _ _ hl hS
  have loop1 : ∀ (rest pre : List ft_I) (locs : List Loc) (ls : Array Slot), pre ++ rest = row → lz ls 9 [some (.ref (a 0)), some (.int (nI f)), some (.int (nI (f + ft_zR row))), some (.int (nI k)), some (.int (nI pre.length)), some (.int (nI (f + ft_zR pre))), none, none, none] → ft_hx w (f + ft_zR pre) rest → va_S (mFr a) H0 H0 locs → W p_ l e_ (x_rm 2 0 0) s_ m_ ar_ bl_ me_ c_ H0 locs 0 0 (MQ bl_ (xQ (mFr a) (q0 Post)) ar_ s_ 0 0 (mFr a)) (F0 m_ 6 ls []) := by
    intro rest
    induction rest with
    | nil =>
      intro pre locs ls hpr hl hh2 hS
      rw [List.append_nil] at hpr
      subst hpr
      refine x_iload X d_M_group_6 hl rfl ?_
      refine x_iload_n X d_M_group_8 rfl hl rfl ?_
      refine n_icmp_ge X 27 d_M_group_9 rfl (by omega) (by omega) (fun hc => ?_) (fun hc => absurd hc (by omega))
      refine x_iload_n X d_M_group_27 rfl hl rfl ?_
      refine x_istore X d_M_group_28 hl (by decide) rfl (fun ls hl => ?_)
      exact loop2 16 pre f md zf w none none none H0 _ _ h16 h1 h16 ht hmd hl hP hw hz ok hr (fun w' H1 a1 a2 a3 a4 => by rw [← hPost]; exact ⟨w', a1, a2, a3, a4⟩) hS
    | cons x rest ih =>
      intro pre locs ls hpr hl hh2 hS
      have hzr : ft_zR row = ft_zR pre + (ft_z x + ft_zR rest) := by rw [← hpr, ft_zR_app]; rfl
      have hlr : row.length = pre.length + (rest.length + 1) := by rw [← hpr]; simp
      have okx : ft_ok en md zf k x := ok x (by rw [← hpr]; simp)
      have hzx := ft_ok_zpos okx
      obtain ⟨⟨sd, hsd, hx⟩, hrest⟩ := hh2
      refine x_iload X d_M_group_6 hl rfl ?_
      refine x_iload_n X d_M_group_8 rfl hl rfl ?_
      refine n_icmp_ge X 27 d_M_group_9 rfl (by omega) (by omega) (fun hc => absurd hc (by omega)) (fun hc => ?_)
      refine n_iinc (d := 1) X d_M_group_12 rfl hl rfl (by decide) rfl (fun ls hl => ?_)
      refine x_aload_n X d_M_group_15 rfl hl rfl ?_
      refine x_iload X d_M_group_16 hl rfl ?_
      refine x_iload_n X d_M_group_18 rfl hl rfl ?_
      refine x_goR (x_runV X (C_M_endI l D A _ a lo hi en md vs n zf mk pl ct w hP hw hz en md k _ sd x okx hx he hmd0 (by omega) hsd (by omega)) b_M_end s_M_end v_M_end e_M_60 (m_at hP) rfl rfl hl rfl (Nat.le_of_ble_eq_true rfl) d_M_group_19 (Nat.le_of_ble_eq_true rfl) (Nat.le_of_ble_eq_true rfl) ⟨Nat.le_of_ble_eq_true rfl, Nat.le_of_ble_eq_true rfl⟩) hS (fun locs hS => ?_)
      refine x_istore X d_M_group_22 hl (by decide) rfl (fun ls hl => ?_)
      refine x_goto X 6 d_M_group_24 rfl ?_
      refine ih (pre ++ [x]) _ _ (by rw [← hpr]; simp) ?_ ?_ hS
      · rw [List.length_append, ft_zR_app, show ft_zR [x] = ft_z x from by simp [ft_zR], ← Nat.add_assoc]
        exact hl
      · rw [ft_zR_app, show ft_zR [x] = ft_z x from by simp [ft_zR], ← Nat.add_assoc]
        exact hrest
  exact loop1 row [] [] _ rfl hl hr hS
