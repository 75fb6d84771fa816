/-! The reference, call by call: popFront, popBack. -/
theorem xC.weak {l : Launch} {y : MethodName} {cc : ByteArray} {nL : Nat} {ret : Option FieldType} {d : Nat} {D : va_G} {A : Nat → ClassId} {H0 : Heap} {av : List Value} {fr : Nat → Prop} {post post' : Option Value → Heap → Prop} {mc ms : Nat} (h : xC l y cc nL ret d D A H0 av fr post mc ms) (hw : ∀ v H1, post v H1 → post' v H1) : xC l y cc nL ret d D A H0 av fr post' mc ms := by
  intro p e ha hc hk s m args below hf hpre hP hK
  obtain ⟨k, o, h1, h2, h3, ⟨⟨v, hv, hp⟩, hF⟩, h5⟩ := h p e ha hc hk s m args below hf hpre hP hK
  exact ⟨k, o, h1, h2, h3, ⟨⟨v, hv, hw v _ hp⟩, hF⟩, h5⟩
theorem ft_dr0_hd {w : Nat → Nat} {m s : Nat} {L : List Nat} (h : ft_hd w (s + 1) L) (hm : s + L.length ≤ m) : ft_hd (ft_dr w 0 m) s L := fun i x hi => by
  have hil := (List.getElem?_eq_some_iff.1 hi).1
  unfold ft_dr
  rw [if_pos (by omega), show s + i + 1 = s + 1 + i from by omega]
  exact h i x hi
set_option maxRecDepth 100000 in
set_option maxHeartbeats 4000000 in
theorem C_M_closeLeft0 (l : Launch) (D : va_G) (A : Nat → ClassId) (H0 : Heap) (a : Nat → Nat) (lo hi : Nat → Int32) (en md vs n : Nat) (zf mk pl ct w : Nat → Nat) (hP : mH D a A lo hi en zf mk md pl ct vs w n H0) (hd : mDs a) (hw : ft_bw w) (hz : ∀ i, zf i < 128) (he : en ≤ 128) (hm : md < 4200) (hn : n = 0) : xC l y_M_closeLeft c_M_closeLeft 7 (none : Option FieldType) 3 D A H0 [.ref (a 0), .int (nI 0), .int (nI 0)] (mFr a) (q0 (fun H1 => ∃ w', mH D a A lo hi en zf mk md pl ct vs w' n H1 ∧ ft_bw w')) 0 0 := by
  refine xC.of rfl (Nat.le_of_ble_eq_true rfl) ?_
  intro p_ e_ s_ m_ ar_ bl_ me_ c_ ls X hl
  have hl : lz ls 7 [some (.ref (a 0)), some (.int (nI 0)), some (.int (nI 0)), none, none, none, none] := hl
  have hS : va_S (mFr a) H0 H0 [] := va_S.rf
  refine x_iload_n X d_M_closeLeft_0 rfl hl rfl ?_
  refine x_istore_n X d_M_closeLeft_1 rfl hl (by decide) rfl (fun ls hl => ?_)
  refine x_iload_n X d_M_closeLeft_2 rfl hl rfl ?_
  refine x_istore X d_M_closeLeft_3 hl (by decide) rfl (fun ls hl => ?_)
  refine x_aload_n X d_M_closeLeft_5 rfl hl rfl ?_
  refine x_iload_n X d_M_closeLeft_6 rfl hl rfl ?_
  refine x_iload X d_M_closeLeft_7 hl rfl ?_
  refine x_iconst (v := nI 0) X d_M_closeLeft_9 rfl ?_
  refine x_goR (x_runV X (C_M_is l D A _ a lo hi en md vs n zf mk pl ct w hP hw (by omega) 0 0 0 (by decide) (by decide) (by decide)) b_M_is s_M_is v_M_is e_M_64 (m_at hP) rfl rfl hl rfl (Nat.le_of_ble_eq_true rfl) d_M_closeLeft_10 (Nat.le_of_ble_eq_true rfl) (Nat.le_of_ble_eq_true rfl) ⟨Nat.le_of_ble_eq_true rfl, Nat.le_of_ble_eq_true rfl⟩) hS (fun locs hS => ?_)
  rw [ft_is_ge (by omega)]
  refine n_if_ne X 125 d_M_closeLeft_13 rfl (by decide) (fun hc => absurd rfl hc) (fun hc => ?_)
  refine x_iload_n X d_M_closeLeft_16 rfl hl rfl ?_
  refine x_aload_n X d_M_closeLeft_17 rfl hl rfl ?_
  refine m_get X hP 10 (by decide) e_M_37 rfl d_M_closeLeft_18 ?_
  refine n_icmp_ge X 38 d_M_closeLeft_21 rfl (by decide) (by omega) (fun hc => ?_) (fun hc => absurd hc (by omega))
  refine x_iload_n X d_M_closeLeft_38 rfl hl rfl ?_
  refine x_istore X d_M_closeLeft_39 hl (by decide) rfl (fun ls hl => ?_)
  refine x_aload_n X d_M_closeLeft_41 rfl hl rfl ?_
  refine x_iload X d_M_closeLeft_42 hl rfl ?_
  refine x_iload X d_M_closeLeft_44 hl rfl ?_
  refine x_iconst (v := nI 1) X d_M_closeLeft_46 rfl ?_
  refine x_goR (x_runV X (C_M_is l D A _ a lo hi en md vs n zf mk pl ct w hP hw (by omega) 0 0 1 (by decide) (by decide) (by decide)) b_M_is s_M_is v_M_is e_M_64 (m_at hP) rfl rfl hl rfl (Nat.le_of_ble_eq_true rfl) d_M_closeLeft_47 (Nat.le_of_ble_eq_true rfl) (Nat.le_of_ble_eq_true rfl) ⟨Nat.le_of_ble_eq_true rfl, Nat.le_of_ble_eq_true rfl⟩) hS (fun locs hS => ?_)
  rw [ft_is_ge (by omega)]
  refine n_if_eq X 59 d_M_closeLeft_50 rfl (by decide) (fun hc => ?_) (fun hc => absurd rfl hc)
  refine x_aload_n X d_M_closeLeft_59 rfl hl rfl ?_
  refine x_iload_n X d_M_closeLeft_60 rfl hl rfl ?_
  refine x_iload X d_M_closeLeft_61 hl rfl ?_
  refine x_iload X d_M_closeLeft_63 hl rfl ?_
  refine x_go0 (x_runV X (C_M_line l D A _ a lo hi en md vs n zf mk pl ct w hP hd hw hz he hm 0 0 0 [] (fun y hy => by simp at hy) (ft_hd_nil _ _) (by decide) (by decide) (by decide) (by decide)) b_M_line s_M_line v_M_line e_M_75 (m_at hP) rfl rfl hl rfl (Nat.le_of_ble_eq_true rfl) d_M_closeLeft_65 (Nat.le_of_ble_eq_true rfl) (Nat.le_of_ble_eq_true rfl) ⟨Nat.le_of_ble_eq_true rfl, Nat.le_of_ble_eq_true rfl⟩) hS (fun _ h => h) (fun H locs hP hF hS => ?_)
  obtain ⟨w', hP, hw', -, -⟩ := hP
  exact x_vret X hS (Nat.le_refl _) (Nat.le_refl _) d_M_closeLeft_68 ⟨rfl, w', hP, hw'⟩
set_option maxRecDepth 100000 in
set_option maxHeartbeats 4000000 in
theorem C_M_closeRight0 (l : Launch) (D : va_G) (A : Nat → ClassId) (H0 : Heap) (a : Nat → Nat) (lo hi : Nat → Int32) (en md vs n : Nat) (zf mk pl ct w : Nat → Nat) (hP : mH D a A lo hi en zf mk md pl ct vs w n H0) (hd : mDs a) (hw : ft_bw w) (hz : ∀ i, zf i < 128) (he : en ≤ 128) (hm : md < 4200) (hn : n = 0) : xC l y_M_closeRight c_M_closeRight 7 (none : Option FieldType) 3 D A H0 [.ref (a 0), .int (nI 0), .int (nI 0)] (mFr a) (q0 (fun H1 => ∃ w', mH D a A lo hi en zf mk md pl ct vs w' n H1 ∧ ft_bw w')) 0 0 := by
  refine xC.of rfl (Nat.le_of_ble_eq_true rfl) ?_
  intro p_ e_ s_ m_ ar_ bl_ me_ c_ ls X hl
  have hl : lz ls 7 [some (.ref (a 0)), some (.int (nI 0)), some (.int (nI 0)), none, none, none, none] := hl
  have hS : va_S (mFr a) H0 H0 [] := va_S.rf
  refine x_iload_n X d_M_closeRight_0 rfl hl rfl ?_
  refine x_istore_n X d_M_closeRight_1 rfl hl (by decide) rfl (fun ls hl => ?_)
  refine x_iload_n X d_M_closeRight_2 rfl hl rfl ?_
  refine x_istore X d_M_closeRight_3 hl (by decide) rfl (fun ls hl => ?_)
  refine x_aload_n X d_M_closeRight_5 rfl hl rfl ?_
  refine x_iload_n X d_M_closeRight_6 rfl hl rfl ?_
  refine x_iconst (v := nI 1) X d_M_closeRight_7 rfl ?_
  refine x_isub X d_M_closeRight_8 ?_
  refine x_iload X d_M_closeRight_9 hl rfl ?_
  refine x_iconst (v := nI 1) X d_M_closeRight_11 rfl ?_
  refine x_goR (x_runV X (C_M_isb l D A _ a lo hi en md vs n zf mk pl ct w hP hw (by omega) 0 0 1 (by decide) (by decide) (by decide)) b_M_is s_M_is v_M_is e_M_64 (m_at hP) rfl rfl hl rfl (Nat.le_of_ble_eq_true rfl) d_M_closeRight_12 (Nat.le_of_ble_eq_true rfl) (Nat.le_of_ble_eq_true rfl) ⟨Nat.le_of_ble_eq_true rfl, Nat.le_of_ble_eq_true rfl⟩) hS (fun locs hS => ?_)
  rw [ft_isb0 (fun h => absurd h (by decide))]
  refine n_if_ne X 129 d_M_closeRight_15 rfl (by decide) (fun hc => absurd rfl hc) (fun hc => ?_)
  refine x_iload_n X d_M_closeRight_18 rfl hl rfl ?_
  refine n_if_le X 38 d_M_closeRight_19 rfl (by decide) (fun hc => ?_) (fun hc => absurd hc (by decide))
  refine x_iload_n X d_M_closeRight_38 rfl hl rfl ?_
  refine x_istore X d_M_closeRight_39 hl (by decide) rfl (fun ls hl => ?_)
  refine x_aload_n X d_M_closeRight_41 rfl hl rfl ?_
  refine x_iload X d_M_closeRight_42 hl rfl ?_
  refine x_iconst (v := nI 1) X d_M_closeRight_44 rfl ?_
  refine x_isub X d_M_closeRight_45 ?_
  refine x_iload X d_M_closeRight_46 hl rfl ?_
  refine x_iconst (v := nI 0) X d_M_closeRight_48 rfl ?_
  refine x_goR (x_runV X (C_M_isb l D A _ a lo hi en md vs n zf mk pl ct w hP hw (by omega) 0 0 0 (by decide) (by decide) (by decide)) b_M_is s_M_is v_M_is e_M_64 (m_at hP) rfl rfl hl rfl (Nat.le_of_ble_eq_true rfl) d_M_closeRight_49 (Nat.le_of_ble_eq_true rfl) (Nat.le_of_ble_eq_true rfl) ⟨Nat.le_of_ble_eq_true rfl, Nat.le_of_ble_eq_true rfl⟩) hS (fun locs hS => ?_)
  rw [ft_isb0 (fun h => absurd h (by decide))]
  refine n_if_eq X 61 d_M_closeRight_52 rfl (by decide) (fun hc => ?_) (fun hc => absurd rfl hc)
  refine x_aload_n X d_M_closeRight_61 rfl hl rfl ?_
  refine x_iload X d_M_closeRight_62 hl rfl ?_
  refine x_iload_n X d_M_closeRight_64 rfl hl rfl ?_
  refine x_iload X d_M_closeRight_65 hl rfl ?_
  refine x_go0 (x_runV X (C_M_line l D A _ a lo hi en md vs n zf mk pl ct w hP hd hw hz he hm 0 0 0 [] (fun y hy => by simp at hy) (ft_hd_nil _ _) (by decide) (by decide) (by decide) (by decide)) b_M_line s_M_line v_M_line e_M_75 (m_at hP) rfl rfl hl rfl (Nat.le_of_ble_eq_true rfl) d_M_closeRight_67 (Nat.le_of_ble_eq_true rfl) (Nat.le_of_ble_eq_true rfl) ⟨Nat.le_of_ble_eq_true rfl, Nat.le_of_ble_eq_true rfl⟩) hS (fun _ h => h) (fun H locs hP hF hS => ?_)
  obtain ⟨w', hP, hw', -, -⟩ := hP
  exact x_vret X hS (Nat.le_refl _) (Nat.le_refl _) d_M_closeRight_70 ⟨rfl, w', hP, hw'⟩
set_option maxRecDepth 100000 in
set_option maxHeartbeats 4000000 in
theorem A_M_popFront (l : Launch) (D : va_G) (A : Nat → ClassId) (H0 : Heap) (a : Nat → Nat) (hd : mDs a) (q : ft_Q) (hq : sp_ok2 q) (hI : mI D a A q H0) (v : Int32) : xC l y_M_popFront c_M_popFront 2 (some .int) 7 D A H0 [.ref (a 0), .int v] (mFr a) (q1 (.int (sp_popFront q v).1) (fun H1 => mI D a A (sp_popFront q v).2 H1)) 0 0 := by
  obtain ⟨lo, hi, en, zf, mk, md, pl, ct, vs, w, n, hR, hP⟩ := hI
  obtain ⟨⟨rfl, rfl, rfl, rfl⟩, h5, h6, h7, h8, h9, h10⟩ := id hR
  have hl1 := hq.1.1
  have hl2 := hq.1.2.1
  have hl3 := hq.1.2.2.2.1
  have hmd0 := sp_md hq
  rcases sp_at_cases hq v with ⟨hv, hat⟩ | ⟨j, t, rfl, hj, hjt, hat⟩
  · skip
    have hsp : sp_popFront q v = ((-1 : Int32), q) := by unfold sp_popFront; rw [hat]
    rw [hsp]
    refine xC.of rfl (Nat.le_of_ble_eq_true rfl) ?_
    intro p_ e_ s_ m_ ar_ bl_ me_ c_ ls X hl
    have hl : lz ls 2 [some (.ref (a 0)), some (.int v)] := hl
    have hS : va_S (mFr a) H0 H0 [] := va_S.rf
    refine x_aload_n X d_M_popFront_0 rfl hl rfl ?_
    refine x_iload_n X d_M_popFront_1 rfl hl rfl ?_
    refine x_goR (x_runV X (C_M_none_t l D A _ a lo hi q.2.2.length q.2.1.1 q.1.length n q.2.1.2 mk pl ct w hP v hv) b_M_none s_M_none v_M_none e_M_109 (m_at hP) rfl rfl hl rfl (Nat.le_of_ble_eq_true rfl) d_M_popFront_2 (Nat.le_of_ble_eq_true rfl) (Nat.le_of_ble_eq_true rfl) ⟨Nat.le_of_ble_eq_true rfl, Nat.le_of_ble_eq_true rfl⟩) hS (fun locs hS => ?_)
    refine n_if_ne X 17 d_M_popFront_5 rfl (by decide) (fun hc => ?_) (fun hc => absurd hc (by decide))
    refine x_iconst (v := -1) X d_M_popFront_17 rfl ?_
    exact x_iret X hS (Nat.le_refl _) (Nat.le_refl _) d_M_popFront_18 ⟨rfl, _, _, _, _, _, _, _, _, _, _, _, hR, hP⟩
  have ht := hq.1.2.2.1 t (List.mem_of_getElem? hjt)
  obtain ⟨hct, hpl⟩ := h6 j t hjt
  have hz40 := ht.2
  by_cases hz0 : ft_zT t.1 t.2 = 0
  · skip
    have hsp : sp_popFront q (nI j) = ((-1 : Int32), q) := by unfold sp_popFront; rw [hat]; dsimp only; rw [if_pos hz0]
    rw [hsp]
    refine xC.of rfl (Nat.le_of_ble_eq_true rfl) ?_
    intro p_ e_ s_ m_ ar_ bl_ me_ c_ ls X hl
    have hl : lz ls 2 [some (.ref (a 0)), some (.int (nI j))] := hl
    have hS : va_S (mFr a) H0 H0 [] := va_S.rf
    refine x_aload_n X d_M_popFront_0 rfl hl rfl ?_
    refine x_iload_n X d_M_popFront_1 rfl hl rfl ?_
    refine x_goR (x_runV X (C_M_none_f l D A _ a lo hi q.2.2.length q.2.1.1 q.1.length n q.2.1.2 mk pl ct w hP j hj (by omega)) b_M_none s_M_none v_M_none e_M_109 (m_at hP) rfl rfl hl rfl (Nat.le_of_ble_eq_true rfl) d_M_popFront_2 (Nat.le_of_ble_eq_true rfl) (Nat.le_of_ble_eq_true rfl) ⟨Nat.le_of_ble_eq_true rfl, Nat.le_of_ble_eq_true rfl⟩) hS (fun locs hS => ?_)
    refine n_if_ne X 17 d_M_popFront_5 rfl (by decide) (fun hc => absurd rfl hc) (fun hc => ?_)
    refine x_aload_n X d_M_popFront_8 rfl hl rfl ?_
    refine m_get X hP 7 (by decide) e_M_27 rfl d_M_popFront_9 ?_
    refine x_iload_n X d_M_popFront_12 rfl hl rfl ?_
    refine m_ld_ct X hP (by omega) d_M_popFront_13 ?_
    rw [hct]
    refine n_if_ne X 19 d_M_popFront_14 rfl (by omega) (fun hc => absurd hz0 hc) (fun hc => ?_)
    refine x_iconst (v := -1) X d_M_popFront_17 rfl ?_
    exact x_iret X hS (Nat.le_refl _) (Nat.le_refl _) d_M_popFront_18 ⟨rfl, _, _, _, _, _, _, _, _, _, _, _, hR, hP⟩
  by_cases hfu : 120 ≤ q.1.length
  · skip
    have hsp : sp_popFront q (nI j) = ((-2 : Int32), q) := by unfold sp_popFront; rw [hat]; dsimp only; rw [if_neg hz0, if_pos hfu]
    rw [hsp]
    refine xC.of rfl (Nat.le_of_ble_eq_true rfl) ?_
    intro p_ e_ s_ m_ ar_ bl_ me_ c_ ls X hl
    have hl : lz ls 2 [some (.ref (a 0)), some (.int (nI j))] := hl
    have hS : va_S (mFr a) H0 H0 [] := va_S.rf
    refine x_aload_n X d_M_popFront_0 rfl hl rfl ?_
    refine x_iload_n X d_M_popFront_1 rfl hl rfl ?_
    refine x_goR (x_runV X (C_M_none_f l D A _ a lo hi q.2.2.length q.2.1.1 q.1.length n q.2.1.2 mk pl ct w hP j hj (by omega)) b_M_none s_M_none v_M_none e_M_109 (m_at hP) rfl rfl hl rfl (Nat.le_of_ble_eq_true rfl) d_M_popFront_2 (Nat.le_of_ble_eq_true rfl) (Nat.le_of_ble_eq_true rfl) ⟨Nat.le_of_ble_eq_true rfl, Nat.le_of_ble_eq_true rfl⟩) hS (fun locs hS => ?_)
    refine n_if_ne X 17 d_M_popFront_5 rfl (by decide) (fun hc => absurd rfl hc) (fun hc => ?_)
    refine x_aload_n X d_M_popFront_8 rfl hl rfl ?_
    refine m_get X hP 7 (by decide) e_M_27 rfl d_M_popFront_9 ?_
    refine x_iload_n X d_M_popFront_12 rfl hl rfl ?_
    refine m_ld_ct X hP (by omega) d_M_popFront_13 ?_
    rw [hct]
    refine n_if_ne X 19 d_M_popFront_14 rfl (by omega) (fun hc => ?_) (fun hc => absurd hc hz0)
    refine x_aload_n X d_M_popFront_19 rfl hl rfl ?_
    refine m_get X hP 8 (by decide) e_M_30 rfl d_M_popFront_20 ?_
    refine x_bipush (v := nI 120) X d_M_popFront_23 rfl ?_
    refine n_icmp_lt X 31 d_M_popFront_25 rfl (by omega) (by omega) (fun hc => absurd hc (by omega)) (fun hc => ?_)
    refine x_bipush (v := -2) X d_M_popFront_28 rfl ?_
    exact x_iret X hS (Nat.le_refl _) (Nat.le_refl _) d_M_popFront_30 ⟨rfl, _, _, _, _, _, _, _, _, _, _, _, hR, hP⟩
  have hsp : sp_popFront q (nI j) = (nI q.1.length, (q.1 ++ [(ft_re t.1 t.2)], q.2.1, q.2.2)) := by unfold sp_popFront; rw [hat]; dsimp only; rw [if_neg hz0, if_neg hfu]; rfl
  rw [hsp]
  refine xC.of rfl (Nat.le_of_ble_eq_true rfl) ?_
  intro p_ e_ s_ m_ ar_ bl_ me_ c_ ls X hl
  have hl : lz ls 2 [some (.ref (a 0)), some (.int (nI j))] := hl
  have hS : va_S (mFr a) H0 H0 [] := va_S.rf
  refine x_aload_n X d_M_popFront_0 rfl hl rfl ?_
  refine x_iload_n X d_M_popFront_1 rfl hl rfl ?_
  refine x_goR (x_runV X (C_M_none_f l D A _ a lo hi q.2.2.length q.2.1.1 q.1.length n q.2.1.2 mk pl ct w hP j hj (by omega)) b_M_none s_M_none v_M_none e_M_109 (m_at hP) rfl rfl hl rfl (Nat.le_of_ble_eq_true rfl) d_M_popFront_2 (Nat.le_of_ble_eq_true rfl) (Nat.le_of_ble_eq_true rfl) ⟨Nat.le_of_ble_eq_true rfl, Nat.le_of_ble_eq_true rfl⟩) hS (fun locs hS => ?_)
  refine n_if_ne X 17 d_M_popFront_5 rfl (by decide) (fun hc => absurd rfl hc) (fun hc => ?_)
  refine x_aload_n X d_M_popFront_8 rfl hl rfl ?_
  refine m_get X hP 7 (by decide) e_M_27 rfl d_M_popFront_9 ?_
  refine x_iload_n X d_M_popFront_12 rfl hl rfl ?_
  refine m_ld_ct X hP (by omega) d_M_popFront_13 ?_
  rw [hct]
  refine n_if_ne X 19 d_M_popFront_14 rfl (by omega) (fun hc => ?_) (fun hc => absurd hc hz0)
  refine x_aload_n X d_M_popFront_19 rfl hl rfl ?_
  refine m_get X hP 8 (by decide) e_M_30 rfl d_M_popFront_20 ?_
  refine x_bipush (v := nI 120) X d_M_popFront_23 rfl ?_
  refine n_icmp_lt X 31 d_M_popFront_25 rfl (by omega) (by omega) (fun hc => ?_) (fun hc => absurd hc (by omega))
  refine x_aload_n X d_M_popFront_31 rfl hl rfl ?_
  refine x_iload_n X d_M_popFront_32 rfl hl rfl ?_
  refine x_go0 (x_runV X (C_M_load l D A _ a lo hi q.2.2.length q.2.1.1 q.1.length n q.2.1.2 mk pl ct w hP hd j (by omega) (by omega)) b_M_load s_M_load v_M_load e_M_113 (m_at hP) rfl rfl hl rfl (Nat.le_of_ble_eq_true rfl) d_M_popFront_33 (Nat.le_of_ble_eq_true rfl) (Nat.le_of_ble_eq_true rfl) ⟨Nat.le_of_ble_eq_true rfl, Nat.le_of_ble_eq_true rfl⟩) hS (fun _ h => h) (fun H locs hP hF hS => ?_)
  rw [hct] at hP
  have hw1 := ft_ld_bw (j := j) (m := ft_zT t.1 t.2) h9 h8
  have hd1 := ft_ld_hd (w := w) (m := ft_zT t.1 t.2) hpl (by rw [ft_wT_len]; exact Nat.le_refl _)
  generalize ft_ld w pl j (ft_zT t.1 t.2) = w1 at hP hw1 hd1
  refine x_aload_n X d_M_popFront_36 rfl hl rfl ?_
  refine x_iconst (v := nI 0) X d_M_popFront_37 rfl ?_
  refine x_go0 (x_runV X (C_M_drop l D A _ a lo hi q.2.2.length q.2.1.1 q.1.length (ft_zT t.1 t.2) q.2.1.2 mk pl ct w1 hP hd 0 (by omega) (by omega)) b_M_drop s_M_drop v_M_drop e_M_123 (m_at hP) rfl rfl hl rfl (Nat.le_of_ble_eq_true rfl) d_M_popFront_38 (Nat.le_of_ble_eq_true rfl) (Nat.le_of_ble_eq_true rfl) ⟨Nat.le_of_ble_eq_true rfl, Nat.le_of_ble_eq_true rfl⟩) hS (fun _ h => h) (fun H locs hP hF hS => ?_)
  have hw2 := ft_dr_bw (p := 0) (n := ft_zT t.1 t.2 - 1) hw1
  have hro := ft_re_ok ht.1
  have hrz := hro.2 (ft_zem ht.1 hz0)
  have hfi := ft_fi_ok ht.1 (ft_zem ht.1 hz0)
  have hfz := ft_ok_z0 hfi
  have hcl : xC l y_M_closeLeft c_M_closeLeft 7 none 3 D A H [.ref (a 0), .int (nI 0), .int (nI 0)] (mFr a) (q0 (fun H1 => ∃ w', mH D a A lo hi q.2.2.length q.2.1.2 mk q.2.1.1 pl ct q.1.length w' (ft_zT t.1 t.2 - 1) H1 ∧ ft_bw w' ∧ ft_hd w' 0 (ft_wT (ft_re t.1 t.2).1 (ft_re t.1 t.2).2))) 0 0 := by
    obtain ⟨tsp, to⟩ := t
    cases tsp with
    | nil =>
      cases to with
      | none => exact absurd rfl hz0
      | some y =>
        have hzy : ft_zT [] (some y) = 1 := ft_ok_z0 ht.1
        have h9 := C_M_closeLeft0 l D A H a lo hi q.2.2.length q.2.1.1 q.1.length (ft_zT [] (some y) - 1) q.2.1.2 mk pl ct (ft_dr w1 0 (ft_zT [] (some y) - 1)) hP hd hw2 hq.2 (by omega) hmd0 (by omega)
        
        exact h9.weak (fun v H1 h => by
          obtain ⟨hv, w', a1, a2⟩ := h
          exact ⟨hv, w', a1, a2, ft_hd_nil _ _⟩)
    | cons d tsp =>
      obtain ⟨m1, m2, m3⟩ := ft_hd3 hd1
      obtain ⟨okl, okr, okm⟩ := ht.1
      have hT : ft_zT (d :: tsp) to = ft_zR d.1 + ft_zT tsp to + ft_zR d.2 := rfl
      have hz40 : ft_zT (d :: tsp) to ≤ 40 := hz40
      have hl4 := okl.2.1
      have hr4 := okr.2.1
      obtain ⟨l0, l', hl0⟩ : ∃ l0 l', d.1 = l0 :: l' := by
        cases hd1' : d.1 with
        | nil => have := okl.1; rw [hd1'] at this; simp at this
        | cons l0 l' => exact ⟨l0, l', rfl⟩
      have hz0' := ft_ok_z0 (okl.2.2 l0 (by rw [hl0]; simp))
      have hzd1 : ft_zR d.1 = 1 + ft_zR l' := by rw [hl0]; simp only [ft_zR]; omega
      have hdr : d.1.drop 1 = l' := by rw [hl0]; rfl
      have hlen : d.1.length = l'.length + 1 := by rw [hl0]; rfl
      have okl' : ft_okR q.2.2.length q.2.1.1 q.2.1.2 0 l' := fun y hy => okl.2.2 y (by rw [hl0]; simp [hy])
      rw [hl0, ft_wR_cons, ft_hd_app, ft_wI_len, hz0'] at m1
      have e := ft_re_op (sp := tsp) (o := to) okl.1 okr.1
      rw [hdr] at e
      have n1 : ft_hd (ft_dr w1 0 (ft_zT (d :: tsp) to - 1)) 0 (ft_wR 0 l') := ft_dr0_hd m1.2 (by rw [ft_wR_len]; omega)
      have n2 : ft_hd (ft_dr w1 0 (ft_zT (d :: tsp) to - 1)) (0 + ft_zR l') (ft_wT tsp to) := ft_dr0_hd (by rw [show 0 + ft_zR l' + 1 = 0 + ft_zR d.1 from by omega]; exact m2) (by rw [ft_wT_len]; omega)
      have n3 : ft_hd (ft_dr w1 0 (ft_zT (d :: tsp) to - 1)) (0 + ft_zR l' + ft_zT tsp to) (ft_wR 1 d.2) := ft_dr0_hd (by rw [show 0 + ft_zR l' + ft_zT tsp to + 1 = 0 + ft_zR d.1 + ft_zT tsp to from by omega]; exact m3) (by rw [ft_wR_len]; omega)
      have h9 := C_M_closeLeft l D A H a lo hi q.2.2.length q.2.1.1 q.1.length (ft_zT (d :: tsp) to - 1) q.2.1.2 mk pl ct _ hP hd hw2 hq.2 (by omega) hmd0 (by omega) 0 0 l' d.2 tsp to okl' okr.2.2 okm n1 n2 n3 (by omega) okr.1 okr.2.1 (by omega) (by omega) (fun h => absurd h (by omega))
      refine h9.weak (fun v H1 h => ?_)
      obtain ⟨hv, w', a1, a2, a3, a4⟩ := h
      exact ⟨hv, w', a1, a2, by rw [e]; exact a3⟩
  refine x_aload_n X d_M_popFront_41 rfl hl rfl ?_
  refine x_iconst (v := nI 0) X d_M_popFront_42 rfl ?_
  refine x_iconst (v := nI 0) X d_M_popFront_43 rfl ?_
  refine x_go0 (x_runV X (hcl) b_M_closeLeft s_M_closeLeft v_M_closeLeft e_M_78 (m_at hP) rfl rfl hl rfl (Nat.le_of_ble_eq_true rfl) d_M_popFront_44 (Nat.le_of_ble_eq_true rfl) (Nat.le_of_ble_eq_true rfl) ⟨Nat.le_of_ble_eq_true rfl, Nat.le_of_ble_eq_true rfl⟩) hS (fun _ h => h) (fun H locs hP hF hS => ?_)
  obtain ⟨w3, hP, hw3, b4⟩ := hP
  refine x_aload_n X d_M_popFront_47 rfl hl rfl ?_
  refine x_iconst (v := nI 0) X d_M_popFront_48 rfl ?_
  refine x_aload_n X d_M_popFront_49 rfl hl rfl ?_
  refine m_get X hP 10 (by decide) e_M_37 rfl d_M_popFront_50 ?_
  refine x_go1 (x_runV X (C_M_store l D A _ a lo hi q.2.2.length q.2.1.1 q.1.length (ft_zT t.1 t.2 - 1) q.2.1.2 mk pl ct w3 hP hd 0 (ft_zT t.1 t.2 - 1) (Nat.zero_le _) (by omega) (by omega) (by omega)) b_M_store s_M_store v_M_store e_M_120 (m_at hP) rfl rfl hl rfl (Nat.le_of_ble_eq_true rfl) d_M_popFront_53 (Nat.le_of_ble_eq_true rfl) (Nat.le_of_ble_eq_true rfl) ⟨Nat.le_of_ble_eq_true rfl, Nat.le_of_ble_eq_true rfl⟩) hS (fun _ h => h) (fun H locs hP hF hS => ?_)
  refine x_iret X hS (Nat.le_refl _) (Nat.le_refl _) d_M_popFront_56 ⟨rfl, _, _, _, _, _, _, _, _, _, _, _, ?_, hP⟩
  exact mR_keep (t := (ft_re t.1 t.2)) (c := q.2.1) (e := q.2.2) (m := ft_zT t.1 t.2 - 1 - 0) (n' := ft_zT t.1 t.2 - 1) hR hq h5 b4 (by omega) hw3 (by omega)
set_option maxRecDepth 100000 in
set_option maxHeartbeats 4000000 in
theorem A_M_popBack (l : Launch) (D : va_G) (A : Nat → ClassId) (H0 : Heap) (a : Nat → Nat) (hd : mDs a) (q : ft_Q) (hq : sp_ok2 q) (hI : mI D a A q H0) (v : Int32) : xC l y_M_popBack c_M_popBack 2 (some .int) 7 D A H0 [.ref (a 0), .int v] (mFr a) (q1 (.int (sp_popBack q v).1) (fun H1 => mI D a A (sp_popBack q v).2 H1)) 0 0 := by
  obtain ⟨lo, hi, en, zf, mk, md, pl, ct, vs, w, n, hR, hP⟩ := hI
  obtain ⟨⟨rfl, rfl, rfl, rfl⟩, h5, h6, h7, h8, h9, h10⟩ := id hR
  have hl1 := hq.1.1
  have hl2 := hq.1.2.1
  have hl3 := hq.1.2.2.2.1
  have hmd0 := sp_md hq
  rcases sp_at_cases hq v with ⟨hv, hat⟩ | ⟨j, t, rfl, hj, hjt, hat⟩
  · skip
    have hsp : sp_popBack q v = ((-1 : Int32), q) := by unfold sp_popBack; rw [hat]
    rw [hsp]
    refine xC.of rfl (Nat.le_of_ble_eq_true rfl) ?_
    intro p_ e_ s_ m_ ar_ bl_ me_ c_ ls X hl
    have hl : lz ls 2 [some (.ref (a 0)), some (.int v)] := hl
    have hS : va_S (mFr a) H0 H0 [] := va_S.rf
    refine x_aload_n X d_M_popBack_0 rfl hl rfl ?_
    refine x_iload_n X d_M_popBack_1 rfl hl rfl ?_
    refine x_goR (x_runV X (C_M_none_t l D A _ a lo hi q.2.2.length q.2.1.1 q.1.length n q.2.1.2 mk pl ct w hP v hv) b_M_none s_M_none v_M_none e_M_109 (m_at hP) rfl rfl hl rfl (Nat.le_of_ble_eq_true rfl) d_M_popBack_2 (Nat.le_of_ble_eq_true rfl) (Nat.le_of_ble_eq_true rfl) ⟨Nat.le_of_ble_eq_true rfl, Nat.le_of_ble_eq_true rfl⟩) hS (fun locs hS => ?_)
    refine n_if_ne X 17 d_M_popBack_5 rfl (by decide) (fun hc => ?_) (fun hc => absurd hc (by decide))
    refine x_iconst (v := -1) X d_M_popBack_17 rfl ?_
    exact x_iret X hS (Nat.le_refl _) (Nat.le_refl _) d_M_popBack_18 ⟨rfl, _, _, _, _, _, _, _, _, _, _, _, hR, hP⟩
  have ht := hq.1.2.2.1 t (List.mem_of_getElem? hjt)
  obtain ⟨hct, hpl⟩ := h6 j t hjt
  have hz40 := ht.2
  by_cases hz0 : ft_zT t.1 t.2 = 0
  · skip
    have hsp : sp_popBack q (nI j) = ((-1 : Int32), q) := by unfold sp_popBack; rw [hat]; dsimp only; rw [if_pos hz0]
    rw [hsp]
    refine xC.of rfl (Nat.le_of_ble_eq_true rfl) ?_
    intro p_ e_ s_ m_ ar_ bl_ me_ c_ ls X hl
    have hl : lz ls 2 [some (.ref (a 0)), some (.int (nI j))] := hl
    have hS : va_S (mFr a) H0 H0 [] := va_S.rf
    refine x_aload_n X d_M_popBack_0 rfl hl rfl ?_
    refine x_iload_n X d_M_popBack_1 rfl hl rfl ?_
    refine x_goR (x_runV X (C_M_none_f l D A _ a lo hi q.2.2.length q.2.1.1 q.1.length n q.2.1.2 mk pl ct w hP j hj (by omega)) b_M_none s_M_none v_M_none e_M_109 (m_at hP) rfl rfl hl rfl (Nat.le_of_ble_eq_true rfl) d_M_popBack_2 (Nat.le_of_ble_eq_true rfl) (Nat.le_of_ble_eq_true rfl) ⟨Nat.le_of_ble_eq_true rfl, Nat.le_of_ble_eq_true rfl⟩) hS (fun locs hS => ?_)
    refine n_if_ne X 17 d_M_popBack_5 rfl (by decide) (fun hc => absurd rfl hc) (fun hc => ?_)
    refine x_aload_n X d_M_popBack_8 rfl hl rfl ?_
    refine m_get X hP 7 (by decide) e_M_27 rfl d_M_popBack_9 ?_
    refine x_iload_n X d_M_popBack_12 rfl hl rfl ?_
    refine m_ld_ct X hP (by omega) d_M_popBack_13 ?_
    rw [hct]
    refine n_if_ne X 19 d_M_popBack_14 rfl (by omega) (fun hc => absurd hz0 hc) (fun hc => ?_)
    refine x_iconst (v := -1) X d_M_popBack_17 rfl ?_
    exact x_iret X hS (Nat.le_refl _) (Nat.le_refl _) d_M_popBack_18 ⟨rfl, _, _, _, _, _, _, _, _, _, _, _, hR, hP⟩
  by_cases hfu : 120 ≤ q.1.length
  · skip
    have hsp : sp_popBack q (nI j) = ((-2 : Int32), q) := by unfold sp_popBack; rw [hat]; dsimp only; rw [if_neg hz0, if_pos hfu]
    rw [hsp]
    refine xC.of rfl (Nat.le_of_ble_eq_true rfl) ?_
    intro p_ e_ s_ m_ ar_ bl_ me_ c_ ls X hl
    have hl : lz ls 2 [some (.ref (a 0)), some (.int (nI j))] := hl
    have hS : va_S (mFr a) H0 H0 [] := va_S.rf
    refine x_aload_n X d_M_popBack_0 rfl hl rfl ?_
    refine x_iload_n X d_M_popBack_1 rfl hl rfl ?_
    refine x_goR (x_runV X (C_M_none_f l D A _ a lo hi q.2.2.length q.2.1.1 q.1.length n q.2.1.2 mk pl ct w hP j hj (by omega)) b_M_none s_M_none v_M_none e_M_109 (m_at hP) rfl rfl hl rfl (Nat.le_of_ble_eq_true rfl) d_M_popBack_2 (Nat.le_of_ble_eq_true rfl) (Nat.le_of_ble_eq_true rfl) ⟨Nat.le_of_ble_eq_true rfl, Nat.le_of_ble_eq_true rfl⟩) hS (fun locs hS => ?_)
    refine n_if_ne X 17 d_M_popBack_5 rfl (by decide) (fun hc => absurd rfl hc) (fun hc => ?_)
    refine x_aload_n X d_M_popBack_8 rfl hl rfl ?_
    refine m_get X hP 7 (by decide) e_M_27 rfl d_M_popBack_9 ?_
    refine x_iload_n X d_M_popBack_12 rfl hl rfl ?_
    refine m_ld_ct X hP (by omega) d_M_popBack_13 ?_
    rw [hct]
    refine n_if_ne X 19 d_M_popBack_14 rfl (by omega) (fun hc => ?_) (fun hc => absurd hc hz0)
    refine x_aload_n X d_M_popBack_19 rfl hl rfl ?_
    refine m_get X hP 8 (by decide) e_M_30 rfl d_M_popBack_20 ?_
    refine x_bipush (v := nI 120) X d_M_popBack_23 rfl ?_
    refine n_icmp_lt X 31 d_M_popBack_25 rfl (by omega) (by omega) (fun hc => absurd hc (by omega)) (fun hc => ?_)
    refine x_bipush (v := -2) X d_M_popBack_28 rfl ?_
    exact x_iret X hS (Nat.le_refl _) (Nat.le_refl _) d_M_popBack_30 ⟨rfl, _, _, _, _, _, _, _, _, _, _, _, hR, hP⟩
  have hsp : sp_popBack q (nI j) = (nI q.1.length, (q.1 ++ [(ft_le t.1 t.2)], q.2.1, q.2.2)) := by unfold sp_popBack; rw [hat]; dsimp only; rw [if_neg hz0, if_neg hfu]; rfl
  rw [hsp]
  refine xC.of rfl (Nat.le_of_ble_eq_true rfl) ?_
  intro p_ e_ s_ m_ ar_ bl_ me_ c_ ls X hl
  have hl : lz ls 2 [some (.ref (a 0)), some (.int (nI j))] := hl
  have hS : va_S (mFr a) H0 H0 [] := va_S.rf
  refine x_aload_n X d_M_popBack_0 rfl hl rfl ?_
  refine x_iload_n X d_M_popBack_1 rfl hl rfl ?_
  refine x_goR (x_runV X (C_M_none_f l D A _ a lo hi q.2.2.length q.2.1.1 q.1.length n q.2.1.2 mk pl ct w hP j hj (by omega)) b_M_none s_M_none v_M_none e_M_109 (m_at hP) rfl rfl hl rfl (Nat.le_of_ble_eq_true rfl) d_M_popBack_2 (Nat.le_of_ble_eq_true rfl) (Nat.le_of_ble_eq_true rfl) ⟨Nat.le_of_ble_eq_true rfl, Nat.le_of_ble_eq_true rfl⟩) hS (fun locs hS => ?_)
  refine n_if_ne X 17 d_M_popBack_5 rfl (by decide) (fun hc => absurd rfl hc) (fun hc => ?_)
  refine x_aload_n X d_M_popBack_8 rfl hl rfl ?_
  refine m_get X hP 7 (by decide) e_M_27 rfl d_M_popBack_9 ?_
  refine x_iload_n X d_M_popBack_12 rfl hl rfl ?_
  refine m_ld_ct X hP (by omega) d_M_popBack_13 ?_
  rw [hct]
  refine n_if_ne X 19 d_M_popBack_14 rfl (by omega) (fun hc => ?_) (fun hc => absurd hc hz0)
  refine x_aload_n X d_M_popBack_19 rfl hl rfl ?_
  refine m_get X hP 8 (by decide) e_M_30 rfl d_M_popBack_20 ?_
  refine x_bipush (v := nI 120) X d_M_popBack_23 rfl ?_
  refine n_icmp_lt X 31 d_M_popBack_25 rfl (by omega) (by omega) (fun hc => ?_) (fun hc => absurd hc (by omega))
  refine x_aload_n X d_M_popBack_31 rfl hl rfl ?_
  refine x_iload_n X d_M_popBack_32 rfl hl rfl ?_
  refine x_go0 (x_runV X (C_M_load l D A _ a lo hi q.2.2.length q.2.1.1 q.1.length n q.2.1.2 mk pl ct w hP hd j (by omega) (by omega)) b_M_load s_M_load v_M_load e_M_113 (m_at hP) rfl rfl hl rfl (Nat.le_of_ble_eq_true rfl) d_M_popBack_33 (Nat.le_of_ble_eq_true rfl) (Nat.le_of_ble_eq_true rfl) ⟨Nat.le_of_ble_eq_true rfl, Nat.le_of_ble_eq_true rfl⟩) hS (fun _ h => h) (fun H locs hP hF hS => ?_)
  rw [hct] at hP
  have hw1 := ft_ld_bw (j := j) (m := ft_zT t.1 t.2) h9 h8
  have hd1 := ft_ld_hd (w := w) (m := ft_zT t.1 t.2) hpl (by rw [ft_wT_len]; exact Nat.le_refl _)
  generalize ft_ld w pl j (ft_zT t.1 t.2) = w1 at hP hw1 hd1
  refine x_aload_n X d_M_popBack_36 rfl hl rfl ?_
  refine x_aload_n X d_M_popBack_37 rfl hl rfl ?_
  refine m_get X hP 10 (by decide) e_M_37 rfl d_M_popBack_38 ?_
  refine x_iconst (v := nI 1) X d_M_popBack_41 rfl ?_
  refine n_isub X d_M_popBack_42 (by omega) ?_
  refine x_go0 (x_runV X (C_M_drop l D A _ a lo hi q.2.2.length q.2.1.1 q.1.length (ft_zT t.1 t.2) q.2.1.2 mk pl ct w1 hP hd (ft_zT t.1 t.2 - 1) (by omega) (by omega)) b_M_drop s_M_drop v_M_drop e_M_123 (m_at hP) rfl rfl hl rfl (Nat.le_of_ble_eq_true rfl) d_M_popBack_43 (Nat.le_of_ble_eq_true rfl) (Nat.le_of_ble_eq_true rfl) ⟨Nat.le_of_ble_eq_true rfl, Nat.le_of_ble_eq_true rfl⟩) hS (fun _ h => h) (fun H locs hP hF hS => ?_)
  rw [ft_dr0] at hP
  have hw2 := hw1
  have hro := ft_le_ok ht.1
  have hrz := hro.2 (ft_zem ht.1 hz0)
  have hfi := ft_la_ok ht.1 (ft_zem ht.1 hz0)
  have hfz := ft_ok_z0 hfi
  have hcl : xC l y_M_closeRight c_M_closeRight 7 none 3 D A H [.ref (a 0), .int (nI (ft_zT t.1 t.2 - 1)), .int (nI 0)] (mFr a) (q0 (fun H1 => ∃ w', mH D a A lo hi q.2.2.length q.2.1.2 mk q.2.1.1 pl ct q.1.length w' (ft_zT t.1 t.2 - 1) H1 ∧ ft_bw w' ∧ ft_hd w' 0 (ft_wT (ft_le t.1 t.2).1 (ft_le t.1 t.2).2))) 0 0 := by
    obtain ⟨tsp, to⟩ := t
    cases tsp with
    | nil =>
      cases to with
      | none => exact absurd rfl hz0
      | some y =>
        have hzy : ft_zT [] (some y) = 1 := ft_ok_z0 ht.1
        have h9 := C_M_closeRight0 l D A H a lo hi q.2.2.length q.2.1.1 q.1.length (ft_zT [] (some y) - 1) q.2.1.2 mk pl ct w1 hP hd hw2 hq.2 (by omega) hmd0 (by omega)
        rw [show nI (ft_zT [] (some y) - 1) = nI 0 from by rw [hzy]]
        exact h9.weak (fun v H1 h => by
          obtain ⟨hv, w', a1, a2⟩ := h
          exact ⟨hv, w', a1, a2, ft_hd_nil _ _⟩)
    | cons d tsp =>
      obtain ⟨m1, m2, m3⟩ := ft_hd3 hd1
      obtain ⟨okl, okr, okm⟩ := ht.1
      have hT : ft_zT (d :: tsp) to = ft_zR d.1 + ft_zT tsp to + ft_zR d.2 := rfl
      have hz40 : ft_zT (d :: tsp) to ≤ 40 := hz40
      have hl4 := okl.2.1
      have hr4 := okr.2.1
      obtain ⟨r', rl, hrl⟩ := ft_rev (l := d.2) (fun e => by have := okr.1; rw [e] at this; simp at this)
      have hz0' := ft_ok_z0 (okr.2.2 rl (by rw [hrl]; simp))
      have hzd2 : ft_zR d.2 = ft_zR r' + 1 := by rw [hrl, ft_zR_app]; simp only [ft_zR]; omega
      have hlen : d.2.length = r'.length + 1 := by rw [hrl]; simp
      have hdr : d.2.take (d.2.length - 1) = r' := by rw [hlen, Nat.add_sub_cancel, hrl, List.take_left]
      have okr' : ft_okR q.2.2.length q.2.1.1 q.2.1.2 0 r' := fun y hy => okr.2.2 y (by rw [hrl]; simp [hy])
      rw [hrl, ft_wR_app, ft_hd_app] at m3
      have e := ft_le_op (sp := tsp) (o := to) okl.1 okr.1
      rw [hdr] at e
      have hse : ft_zT (d :: tsp) to - 1 = 0 + (ft_zR d.1 + ft_zT tsp to + ft_zR r') := by omega
      have h9 := C_M_closeRight l D A H a lo hi q.2.2.length q.2.1.1 q.1.length (ft_zT (d :: tsp) to - 1) q.2.1.2 mk pl ct _ hP hd hw2 hq.2 (by omega) hmd0 (by omega) 0 0 d.1 r' tsp to okl.2.2 okr' okm m1 m2 m3.1 okl.1 okl.2.1 (by omega) (by omega) (by omega) (fun h => absurd h (by decide))
      rw [← hse] at h9
      refine h9.weak (fun v H1 h => ?_)
      obtain ⟨hv, w', a1, a2, a3, a4⟩ := h
      exact ⟨hv, w', a1, a2, by rw [e]; exact a3⟩
  refine x_aload_n X d_M_popBack_46 rfl hl rfl ?_
  refine x_aload_n X d_M_popBack_47 rfl hl rfl ?_
  refine m_get X hP 10 (by decide) e_M_37 rfl d_M_popBack_48 ?_
  refine x_iconst (v := nI 0) X d_M_popBack_51 rfl ?_
  refine x_go0 (x_runV X (hcl) b_M_closeRight s_M_closeRight v_M_closeRight e_M_82 (m_at hP) rfl rfl hl rfl (Nat.le_of_ble_eq_true rfl) d_M_popBack_52 (Nat.le_of_ble_eq_true rfl) (Nat.le_of_ble_eq_true rfl) ⟨Nat.le_of_ble_eq_true rfl, Nat.le_of_ble_eq_true rfl⟩) hS (fun _ h => h) (fun H locs hP hF hS => ?_)
  obtain ⟨w3, hP, hw3, b4⟩ := hP
  refine x_aload_n X d_M_popBack_55 rfl hl rfl ?_
  refine x_iconst (v := nI 0) X d_M_popBack_56 rfl ?_
  refine x_aload_n X d_M_popBack_57 rfl hl rfl ?_
  refine m_get X hP 10 (by decide) e_M_37 rfl d_M_popBack_58 ?_
  refine x_go1 (x_runV X (C_M_store l D A _ a lo hi q.2.2.length q.2.1.1 q.1.length (ft_zT t.1 t.2 - 1) q.2.1.2 mk pl ct w3 hP hd 0 (ft_zT t.1 t.2 - 1) (Nat.zero_le _) (by omega) (by omega) (by omega)) b_M_store s_M_store v_M_store e_M_120 (m_at hP) rfl rfl hl rfl (Nat.le_of_ble_eq_true rfl) d_M_popBack_61 (Nat.le_of_ble_eq_true rfl) (Nat.le_of_ble_eq_true rfl) ⟨Nat.le_of_ble_eq_true rfl, Nat.le_of_ble_eq_true rfl⟩) hS (fun _ h => h) (fun H locs hP hF hS => ?_)
  refine x_iret X hS (Nat.le_refl _) (Nat.le_refl _) d_M_popBack_64 ⟨rfl, _, _, _, _, _, _, _, _, _, _, _, ?_, hP⟩
  exact mR_keep (t := (ft_le t.1 t.2)) (c := q.2.1) (e := q.2.2) (m := ft_zT t.1 t.2 - 1 - 0) (n' := ft_zT t.1 t.2 - 1) hR hq h5 b4 (by omega) hw3 (by omega)
