/-! The reference, call by call: insert, removeTop. -/
theorem sp_drop_cons {es : ft_E} {i : Nat} {e : Int32 × Int32} (h : es[i]? = some e) : es.drop i = e :: es.drop (i + 1) := by
  have hlt := (List.getElem?_eq_some_iff.1 h).1
  rw [List.drop_eq_getElem_cons hlt]
  congr 1
  exact (List.getElem?_eq_some_iff.1 h).2
set_option maxRecDepth 100000 in
set_option maxHeartbeats 4000000 in
theorem A_M_insert (l : Launch) (D : va_G) (A : Nat → ClassId) (H0 : Heap) (a : Nat → Nat) (hd : mDs a) (q : ft_Q) (hq : sp_ok2 q) (hI : mI D a A q H0) (v : Int32) (lw : Int32) (hg : Int32) : xC l y_M_insert c_M_insert 5 (some .int) 7 D A H0 [.ref (a 0), .int v, .int lw, .int hg] (mFr a) (q1 (.int (sp_insert q v lw hg).1) (fun H1 => mI D a A (sp_insert q v lw hg).2 H1)) 0 0 := by
  obtain ⟨lo, hi, en, zf, mk, md, pl, ct, vs, w, n, hR, hP⟩ := hI
  obtain ⟨⟨rfl, rfl, rfl, rfl⟩, h5, h6, h7, h8, h9, h10⟩ := id hR
  have hl1 := hq.1.1
  have hl2 := hq.1.2.1
  have hl3 := hq.1.2.2.2.1
  have hmd0 := sp_md hq
  rcases sp_at_cases hq v with ⟨hv, hat⟩ | ⟨j, t, rfl, hj, hjt, hat⟩
  · skip
    have hsp : sp_insert q v lw hg = ((-1 : Int32), q) := by unfold sp_insert; rw [hat]
    rw [hsp]
    refine xC.of rfl (Nat.le_of_ble_eq_true rfl) ?_
    intro p_ e_ s_ m_ ar_ bl_ me_ c_ ls X hl
    have hl : lz ls 5 [some (.ref (a 0)), some (.int v), some (.int lw), some (.int hg), none] := hl
    have hS : va_S (mFr a) H0 H0 [] := va_S.rf
    refine x_aload_n X d_M_insert_0 rfl hl rfl ?_
    refine x_iload_n X d_M_insert_1 rfl hl rfl ?_
    refine x_goR (x_runV X (C_M_none_t l D A _ a lo hi q.2.2.length q.2.1.1 q.1.length n q.2.1.2 mk pl ct w hP v hv) b_M_none s_M_none v_M_none e_M_109 (m_at hP) rfl rfl hl rfl (Nat.le_of_ble_eq_true rfl) d_M_insert_2 (Nat.le_of_ble_eq_true rfl) (Nat.le_of_ble_eq_true rfl) ⟨Nat.le_of_ble_eq_true rfl, Nat.le_of_ble_eq_true rfl⟩) hS (fun locs hS => ?_)
    refine n_if_ne X 13 d_M_insert_5 rfl (by decide) (fun hc => ?_) (fun hc => absurd hc (by decide))
    refine x_iconst (v := -1) X d_M_insert_13 rfl ?_
    exact x_iret X hS (Nat.le_refl _) (Nat.le_refl _) d_M_insert_14 ⟨rfl, _, _, _, _, _, _, _, _, _, _, _, hR, hP⟩
  have ht := hq.1.2.2.1 t (List.mem_of_getElem? hjt)
  obtain ⟨hct, hpl⟩ := h6 j t hjt
  have hz40 := ht.2
  by_cases hlh : hg < lw
  · skip
    have hsp : sp_insert q (nI j) lw hg = ((-1 : Int32), q) := by unfold sp_insert; rw [hat]; dsimp only; rw [if_pos hlh]
    rw [hsp]
    refine xC.of rfl (Nat.le_of_ble_eq_true rfl) ?_
    intro p_ e_ s_ m_ ar_ bl_ me_ c_ ls X hl
    have hl : lz ls 5 [some (.ref (a 0)), some (.int (nI j)), some (.int lw), some (.int hg), none] := hl
    have hS : va_S (mFr a) H0 H0 [] := va_S.rf
    refine x_aload_n X d_M_insert_0 rfl hl rfl ?_
    refine x_iload_n X d_M_insert_1 rfl hl rfl ?_
    refine x_goR (x_runV X (C_M_none_f l D A _ a lo hi q.2.2.length q.2.1.1 q.1.length n q.2.1.2 mk pl ct w hP j hj (by omega)) b_M_none s_M_none v_M_none e_M_109 (m_at hP) rfl rfl hl rfl (Nat.le_of_ble_eq_true rfl) d_M_insert_2 (Nat.le_of_ble_eq_true rfl) (Nat.le_of_ble_eq_true rfl) ⟨Nat.le_of_ble_eq_true rfl, Nat.le_of_ble_eq_true rfl⟩) hS (fun locs hS => ?_)
    refine n_if_ne X 13 d_M_insert_5 rfl (by decide) (fun hc => absurd rfl hc) (fun hc => ?_)
    refine x_iload_n X d_M_insert_8 rfl hl rfl ?_
    refine x_iload_n X d_M_insert_9 rfl hl rfl ?_
    refine x_icmp_le X 15 d_M_insert_10 rfl (fun h => absurd hlh (Int32.not_lt.2 h)) (fun _ => ?_)
    refine x_iconst (v := -1) X d_M_insert_13 rfl ?_
    exact x_iret X hS (Nat.le_refl _) (Nat.le_refl _) d_M_insert_14 ⟨rfl, _, _, _, _, _, _, _, _, _, _, _, hR, hP⟩
  by_cases hfu : 120 ≤ q.1.length ∨ 40 ≤ ft_zT t.1 t.2
  · skip
    have hsp : sp_insert q (nI j) lw hg = ((-2 : Int32), q) := by unfold sp_insert; rw [hat]; dsimp only; rw [if_neg hlh, if_pos hfu]
    rw [hsp]
    refine xC.of rfl (Nat.le_of_ble_eq_true rfl) ?_
    intro p_ e_ s_ m_ ar_ bl_ me_ c_ ls X hl
    have hl : lz ls 5 [some (.ref (a 0)), some (.int (nI j)), some (.int lw), some (.int hg), none] := hl
    have hS : va_S (mFr a) H0 H0 [] := va_S.rf
    refine x_aload_n X d_M_insert_0 rfl hl rfl ?_
    refine x_iload_n X d_M_insert_1 rfl hl rfl ?_
    refine x_goR (x_runV X (C_M_none_f l D A _ a lo hi q.2.2.length q.2.1.1 q.1.length n q.2.1.2 mk pl ct w hP j hj (by omega)) b_M_none s_M_none v_M_none e_M_109 (m_at hP) rfl rfl hl rfl (Nat.le_of_ble_eq_true rfl) d_M_insert_2 (Nat.le_of_ble_eq_true rfl) (Nat.le_of_ble_eq_true rfl) ⟨Nat.le_of_ble_eq_true rfl, Nat.le_of_ble_eq_true rfl⟩) hS (fun locs hS => ?_)
    refine n_if_ne X 13 d_M_insert_5 rfl (by decide) (fun hc => absurd rfl hc) (fun hc => ?_)
    refine x_iload_n X d_M_insert_8 rfl hl rfl ?_
    refine x_iload_n X d_M_insert_9 rfl hl rfl ?_
    refine x_icmp_le X 15 d_M_insert_10 rfl (fun _ => ?_) (fun h => absurd (Int32.not_le.1 h) hlh)
    refine x_aload_n X d_M_insert_15 rfl hl rfl ?_
    refine m_get X hP 8 (by decide) e_M_30 rfl d_M_insert_16 ?_
    refine x_bipush (v := nI 120) X d_M_insert_19 rfl ?_
    refine n_icmp_ge X 35 d_M_insert_21 rfl (by omega) (by omega) (fun hc => ?_) (fun hc => ?_)
    · skip
      refine x_bipush (v := -2) X d_M_insert_35 rfl ?_
      exact x_iret X hS (Nat.le_refl _) (Nat.le_refl _) d_M_insert_37 ⟨rfl, _, _, _, _, _, _, _, _, _, _, _, hR, hP⟩
    refine x_aload_n X d_M_insert_24 rfl hl rfl ?_
    refine m_get X hP 7 (by decide) e_M_27 rfl d_M_insert_25 ?_
    refine x_iload_n X d_M_insert_28 rfl hl rfl ?_
    refine m_ld_ct X hP (by omega) d_M_insert_29 ?_
    refine x_bipush (v := nI 40) X d_M_insert_30 rfl ?_
    rw [hct]
    refine n_icmp_lt X 38 d_M_insert_32 rfl (by omega) (by omega) (fun hc => absurd hc (by omega)) (fun hc => ?_)
    refine x_bipush (v := -2) X d_M_insert_35 rfl ?_
    exact x_iret X hS (Nat.le_refl _) (Nat.le_refl _) d_M_insert_37 ⟨rfl, _, _, _, _, _, _, _, _, _, _, _, hR, hP⟩
  have hok := sp_insert_ok hq (nI j) lw hg
  have hsp : sp_insert q (nI j) lw hg = (nI q.1.length, (q.1 ++ [(sp_insT t (sp_ip lw (sp_es q t)) (sp_new q) q.2.1).1], (sp_insT t (sp_ip lw (sp_es q t)) (sp_new q) q.2.1).2, q.2.2 ++ [(lw, hg)])) := by unfold sp_insert; rw [hat]; dsimp only; rw [if_neg hlh, if_neg hfu]; rfl
  rw [hsp] at hok ⊢
  have hmd := sp_md hok
  dsimp only at hmd
  refine xC.of rfl (Nat.le_of_ble_eq_true rfl) ?_
  intro p_ e_ s_ m_ ar_ bl_ me_ c_ ls X hl
  have hl : lz ls 5 [some (.ref (a 0)), some (.int (nI j)), some (.int lw), some (.int hg), none] := hl
  have hS : va_S (mFr a) H0 H0 [] := va_S.rf
  refine x_aload_n X d_M_insert_0 rfl hl rfl ?_
  refine x_iload_n X d_M_insert_1 rfl hl rfl ?_
  refine x_goR (x_runV X (C_M_none_f l D A _ a lo hi q.2.2.length q.2.1.1 q.1.length n q.2.1.2 mk pl ct w hP j hj (by omega)) b_M_none s_M_none v_M_none e_M_109 (m_at hP) rfl rfl hl rfl (Nat.le_of_ble_eq_true rfl) d_M_insert_2 (Nat.le_of_ble_eq_true rfl) (Nat.le_of_ble_eq_true rfl) ⟨Nat.le_of_ble_eq_true rfl, Nat.le_of_ble_eq_true rfl⟩) hS (fun locs hS => ?_)
  refine n_if_ne X 13 d_M_insert_5 rfl (by decide) (fun hc => absurd rfl hc) (fun hc => ?_)
  refine x_iload_n X d_M_insert_8 rfl hl rfl ?_
  refine x_iload_n X d_M_insert_9 rfl hl rfl ?_
  refine x_icmp_le X 15 d_M_insert_10 rfl (fun _ => ?_) (fun h => absurd (Int32.not_le.1 h) hlh)
  refine x_aload_n X d_M_insert_15 rfl hl rfl ?_
  refine m_get X hP 8 (by decide) e_M_30 rfl d_M_insert_16 ?_
  refine x_bipush (v := nI 120) X d_M_insert_19 rfl ?_
  refine n_icmp_ge X 35 d_M_insert_21 rfl (by omega) (by omega) (fun hc => absurd hc (by omega)) (fun hc => ?_)
  refine x_aload_n X d_M_insert_24 rfl hl rfl ?_
  refine m_get X hP 7 (by decide) e_M_27 rfl d_M_insert_25 ?_
  refine x_iload_n X d_M_insert_28 rfl hl rfl ?_
  refine m_ld_ct X hP (by omega) d_M_insert_29 ?_
  refine x_bipush (v := nI 40) X d_M_insert_30 rfl ?_
  rw [hct]
  refine n_icmp_lt X 38 d_M_insert_32 rfl (by omega) (by omega) (fun hc => ?_) (fun hc => absurd hc (by omega))
  refine x_aload_n X d_M_insert_38 rfl hl rfl ?_
  refine x_iload_n X d_M_insert_39 rfl hl rfl ?_
  refine x_go0 (x_runV X (C_M_load l D A _ a lo hi q.2.2.length q.2.1.1 q.1.length n q.2.1.2 mk pl ct w hP hd j (by omega) (by omega)) b_M_load s_M_load v_M_load e_M_113 (m_at hP) rfl rfl hl rfl (Nat.le_of_ble_eq_true rfl) d_M_insert_40 (Nat.le_of_ble_eq_true rfl) (Nat.le_of_ble_eq_true rfl) ⟨Nat.le_of_ble_eq_true rfl, Nat.le_of_ble_eq_true rfl⟩) hS (fun _ h => h) (fun H locs hP hF hS => ?_)
  rw [hct] at hP
  have hw1 := ft_ld_bw (j := j) (m := ft_zT t.1 t.2) h9 h8
  have hd1 := ft_ld_hd (w := w) (m := ft_zT t.1 t.2) hpl (by rw [ft_wT_len]; exact Nat.le_refl _)
  generalize ft_ld w pl j (ft_zT t.1 t.2) = w1 at hP hw1 hd1
  refine x_iconst (v := nI 0) X d_M_insert_43 rfl ?_
  refine x_istore X d_M_insert_44 hl (by decide) rfl (fun ls hl => ?_)
  have hes := sp_es_len q t
  have hipl := sp_ip_le lw (sp_es q t)
  have loop : ∀ (g i : Nat) (locs : List Loc) (ls : Array Slot), ft_zT t.1 t.2 - i = g → i ≤ ft_zT t.1 t.2 → i + sp_ip lw ((sp_es q t).drop i) = (sp_ip lw (sp_es q t)) → lz ls 5 [some (.ref (a 0)), some (.int (nI j)), some (.int lw), some (.int hg), some (.int (nI i))] → va_S (mFr a) H0 H locs →
      (∀ (locs : List Loc) (ls : Array Slot), lz ls 5 [some (.ref (a 0)), some (.int (nI j)), some (.int lw), some (.int hg), some (.int (nI (sp_ip lw (sp_es q t))))] → va_S (mFr a) H0 H locs → W p_ l e_ (x_rm 7 0 0) s_ m_ ar_ bl_ me_ c_ H locs 0 0 (MQ bl_ (xQ (mFr a) (q1 (.int ((nI q.1.length, (q.1 ++ [(sp_insT t (sp_ip lw (sp_es q t)) (sp_new q) q.2.1).1], (sp_insT t (sp_ip lw (sp_es q t)) (sp_new q) q.2.1).2, q.2.2 ++ [(lw, hg)]))).1) (fun H1 => mI D a A ((nI q.1.length, (q.1 ++ [(sp_insT t (sp_ip lw (sp_es q t)) (sp_new q) q.2.1).1], (sp_insT t (sp_ip lw (sp_es q t)) (sp_new q) q.2.1).2, q.2.2 ++ [(lw, hg)]))).2 H1))) ar_ s_ 0 0 (mFr a)) (F0 m_ 80 ls [])) → W p_ l e_ (x_rm 7 0 0) s_ m_ ar_ bl_ me_ c_ H locs 0 0 (MQ bl_ (xQ (mFr a) (q1 (.int ((nI q.1.length, (q.1 ++ [(sp_insT t (sp_ip lw (sp_es q t)) (sp_new q) q.2.1).1], (sp_insT t (sp_ip lw (sp_es q t)) (sp_new q) q.2.1).2, q.2.2 ++ [(lw, hg)]))).1) (fun H1 => mI D a A ((nI q.1.length, (q.1 ++ [(sp_insT t (sp_ip lw (sp_es q t)) (sp_new q) q.2.1).1], (sp_insT t (sp_ip lw (sp_es q t)) (sp_new q) q.2.1).2, q.2.2 ++ [(lw, hg)]))).2 H1))) ar_ s_ 0 0 (mFr a)) (F0 m_ 46 ls []) := by
    clear hl hS
    intro g
    induction g with
    | zero =>
      intro i locs ls hgi hi2 hip hl hS kk
      have hie : i = ft_zT t.1 t.2 := by omega
      rw [List.drop_of_length_le (by omega)] at hip
      have hip : i = (sp_ip lw (sp_es q t)) := hip
      rw [hip] at hl
      refine x_iload X d_M_insert_46 hl rfl ?_
      refine x_aload_n X d_M_insert_48 rfl hl rfl ?_
      refine m_get X hP 10 (by decide) e_M_37 rfl d_M_insert_49 ?_
      refine n_icmp_ge X 80 d_M_insert_52 rfl (by omega) (by omega) (fun hc => ?_) (fun hc => absurd hc (by omega))
      exact kk _ _ hl hS
    | succ g ih =>
      intro i locs ls hgi hi2 hip hl hS kk
      obtain ⟨e, he1, he2, he3, he4⟩ := mR_at (p := i) hq h5 (List.mem_of_getElem? hjt) hd1 (by omega)
      rw [Nat.zero_add] at he2 he3 he4
      rw [sp_drop_cons he1] at hip
      change i + (if e.1 < lw then 1 + sp_ip lw ((sp_es q t).drop (i + 1)) else 0) = (sp_ip lw (sp_es q t)) at hip
      refine x_iload X d_M_insert_46 hl rfl ?_
      refine x_aload_n X d_M_insert_48 rfl hl rfl ?_
      refine m_get X hP 10 (by decide) e_M_37 rfl d_M_insert_49 ?_
      refine n_icmp_ge X 80 d_M_insert_52 rfl (by omega) (by omega) (fun hc => absurd hc (by omega)) (fun hc => ?_)
      refine x_aload_n X d_M_insert_55 rfl hl rfl ?_
      refine m_get X hP 0 (by decide) e_M_7 rfl d_M_insert_56 ?_
      refine x_aload_n X d_M_insert_59 rfl hl rfl ?_
      refine m_get X hP 9 (by decide) e_M_34 rfl d_M_insert_60 ?_
      refine x_iload X d_M_insert_63 hl rfl ?_
      refine m_ld_w X hP (by omega) d_M_insert_65 ?_
      refine x_goR (x_runS X (C_M_entry l D A _ (w1 i)) b_M_entry s_M_entry e_M_144 rfl hl rfl (Nat.le_of_ble_eq_true rfl) d_M_insert_66 (Nat.le_of_ble_eq_true rfl) (Nat.le_of_ble_eq_true rfl) ⟨Nat.le_of_ble_eq_true rfl, Nat.le_of_ble_eq_true rfl⟩) hS (fun locs hS => ?_)
      refine m_ld_lo X hP (by omega) d_M_insert_69 ?_
      refine x_iload_n X d_M_insert_70 rfl hl rfl ?_
      rw [he3]
      refine x_icmp_ge X 80 d_M_insert_71 rfl (fun h => ?_) (fun h => ?_)
      · rw [if_neg (Int32.not_lt.2 h), Nat.add_zero] at hip
        rw [hip] at hl
        exact kk _ _ hl hS
      · rw [if_pos (Int32.not_le.1 h)] at hip
        refine n_iinc (d := 1) X d_M_insert_74 rfl hl rfl (by decide) rfl (fun ls hl => ?_)
        refine x_goto X 46 d_M_insert_77 rfl ?_
        exact ih (i + 1) _ _ (by omega) (by omega) (by omega) hl hS kk
  refine loop (ft_zT t.1 t.2) 0 _ _ rfl (Nat.zero_le _) (by rw [List.drop_zero, Nat.zero_add]) hl hS (fun locs ls hl hS => ?_)
  clear loop
  have hipz : (sp_ip lw (sp_es q t)) ≤ ft_zT t.1 t.2 := by omega
  have hto := sp_t_ok hq (List.mem_of_getElem? hjt) (q.2.2 ++ [(lw, hg)]) (by simp)
  have hno := sp_new_ok q lw hg (c := q.2.1)
  rw [List.length_append, List.length_singleton] at hto hno
  have hins := sp_insT_ok hto hno hipz (by omega) hq.2
  unfold sp_insT at hmd hins
  obtain ⟨g1, g2, g3, g4, g5⟩ := ft_ha_ok (c := q.2.1) ht.1 hipz
  have g2' := (ft_ha_ok (c := q.2.1) hto hipz).2.1
  have g3' := (ft_ha_ok (c := q.2.1) hto hipz).2.2.1
  have g7 := ft_ha_128 (c := q.2.1) ht.1 hipz hq.2 (by omega)
  have hz1 : ft_z (sp_new q) = 1 := rfl
  have f1 := ft_fr_ok (ft_ha t.1 t.2 (sp_ip lw (sp_es q t)) q.2.1).2.1.1 (sp_new q) (ft_ha t.1 t.2 (sp_ip lw (sp_es q t)) q.2.1).2.1.2 (ft_ha t.1 t.2 (sp_ip lw (sp_es q t)) q.2.1).2.2 0 (ft_ok_ex g1 hno) g3'
  have f2 := ft_fr_z (ft_ha t.1 t.2 (sp_ip lw (sp_es q t)) q.2.1).2.1.1 (sp_new q) (ft_ha t.1 t.2 (sp_ip lw (sp_es q t)) q.2.1).2.1.2 (ft_ha t.1 t.2 (sp_ip lw (sp_es q t)) q.2.1).2.2
  have f3 := ft_fr_128 (ft_ha t.1 t.2 (sp_ip lw (sp_es q t)) q.2.1).2.1.1 (sp_new q) (ft_ha t.1 t.2 (sp_ip lw (sp_es q t)) q.2.1).2.1.2 (ft_ha t.1 t.2 (sp_ip lw (sp_es q t)) q.2.1).2.2 g7 (by omega)
  have j1 := ft_jn_ok (ft_ha t.1 t.2 (sp_ip lw (sp_es q t)) q.2.1).1.1 (ft_ha t.1 t.2 (sp_ip lw (sp_es q t)) q.2.1).1.2 [] (ft_fr (sp_new q) (ft_ha t.1 t.2 (sp_ip lw (sp_es q t)) q.2.1).2.1.1 (ft_ha t.1 t.2 (sp_ip lw (sp_es q t)) q.2.1).2.1.2 (ft_ha t.1 t.2 (sp_ip lw (sp_es q t)) q.2.1).2.2).1.1 (ft_fr (sp_new q) (ft_ha t.1 t.2 (sp_ip lw (sp_es q t)) q.2.1).2.1.1 (ft_ha t.1 t.2 (sp_ip lw (sp_es q t)) q.2.1).2.1.2 (ft_ha t.1 t.2 (sp_ip lw (sp_es q t)) q.2.1).2.2).1.2 (ft_fr (sp_new q) (ft_ha t.1 t.2 (sp_ip lw (sp_es q t)) q.2.1).2.1.1 (ft_ha t.1 t.2 (sp_ip lw (sp_es q t)) q.2.1).2.1.2 (ft_ha t.1 t.2 (sp_ip lw (sp_es q t)) q.2.1).2.2).2 0 (by simp) (fun y hy => by simp at hy) (ft_okT_ex f1.1 g2') f1.2
  have hmdF : (ft_fr (sp_new q) (ft_ha t.1 t.2 (sp_ip lw (sp_es q t)) q.2.1).2.1.1 (ft_ha t.1 t.2 (sp_ip lw (sp_es q t)) q.2.1).2.1.2 (ft_ha t.1 t.2 (sp_ip lw (sp_es q t)) q.2.1).2.2).2.1 < 4200 := Nat.lt_of_le_of_lt j1.1.1 hmd
  have hmdH : (ft_ha t.1 t.2 (sp_ip lw (sp_es q t)) q.2.1).2.2.1 < 4200 := Nat.lt_of_le_of_lt f1.1.1 hmdF
  refine x_aload_n X d_M_insert_80 rfl hl rfl ?_
  refine x_iload X d_M_insert_81 hl rfl ?_
  refine x_go0 (x_runV X (C_M_halves l D A _ a lo hi q.2.2.length q.2.1.1 q.1.length (ft_zT t.1 t.2) q.2.1.2 mk pl ct w1 hP hd hw1 hq.2 (by omega) t.1 t.2 (sp_ip lw (sp_es q t)) ht.1 hd1 (by omega) rfl hipz hmdH) b_M_halves s_M_halves v_M_halves e_M_132 (m_at hP) rfl rfl hl rfl (Nat.le_of_ble_eq_true rfl) d_M_insert_83 (Nat.le_of_ble_eq_true rfl) (Nat.le_of_ble_eq_true rfl) ⟨Nat.le_of_ble_eq_true rfl, Nat.le_of_ble_eq_true rfl⟩) hS (fun _ h => h) (fun H locs hP hF hS => ?_)
  obtain ⟨w2, hP, hw2, b1, b2⟩ := hP
  have b1 : ft_hd w2 0 (ft_wT (ft_ha t.1 t.2 (sp_ip lw (sp_es q t)) q.2.1).1.1 (ft_ha t.1 t.2 (sp_ip lw (sp_es q t)) q.2.1).1.2) := b1
  have b2 : ft_hd w2 (sp_ip lw (sp_es q t)) (ft_wT (ft_ha t.1 t.2 (sp_ip lw (sp_es q t)) q.2.1).2.1.1 (ft_ha t.1 t.2 (sp_ip lw (sp_es q t)) q.2.1).2.1.2) := b2
  refine x_aload_n X d_M_insert_86 rfl hl rfl ?_
  refine x_iload X d_M_insert_87 hl rfl ?_
  refine x_iload_n X d_M_insert_89 rfl hl rfl ?_
  refine x_iload_n X d_M_insert_90 rfl hl rfl ?_
  refine x_go0 (x_runV X (C_M_put l D A _ a lo hi q.2.2.length (ft_ha t.1 t.2 (sp_ip lw (sp_es q t)) q.2.1).2.2.1 q.1.length (ft_zT t.1 t.2) (ft_ha t.1 t.2 (sp_ip lw (sp_es q t)) q.2.1).2.2.2 mk pl ct w2 hP hd (sp_ip lw (sp_es q t)) lw hg hipz (by omega) (by omega)) b_M_put s_M_put v_M_put e_M_117 (m_at hP) rfl rfl hl rfl (Nat.le_of_ble_eq_true rfl) d_M_insert_91 (Nat.le_of_ble_eq_true rfl) (Nat.le_of_ble_eq_true rfl) ⟨Nat.le_of_ble_eq_true rfl, Nat.le_of_ble_eq_true rfl⟩) hS (fun _ h => h) (fun H locs hP hF hS => ?_)
  obtain ⟨p1, p2, p3⟩ := ft_pu_hd (p := (sp_ip lw (sp_es q t))) (n := ft_zT t.1 t.2) (v := q.2.2.length + 384) b1 b2 (by rw [ft_wT_len]; omega) (by rw [ft_wT_len]; omega)
  have hw3 := ft_up_bw (p := (sp_ip lw (sp_es q t))) (v := q.2.2.length + 384) (ft_sh_bw (p := (sp_ip lw (sp_es q t))) (n := ft_zT t.1 t.2) hw2) (by omega)
  rw [← ft_wI_num] at p2
  change ft_bw (va_up (ft_sg w2 (sp_ip lw (sp_es q t)) (ft_zT t.1 t.2)) (sp_ip lw (sp_es q t)) (q.2.2.length + 384)) at hw3
  generalize va_up (ft_sg w2 (sp_ip lw (sp_es q t)) (ft_zT t.1 t.2)) (sp_ip lw (sp_es q t)) (q.2.2.length + 384) = w3 at hP hw3 p1 p2 p3
  refine x_aload_n X d_M_insert_94 rfl hl rfl ?_
  refine x_iload X d_M_insert_95 hl rfl ?_
  refine x_iconst (v := nI 0) X d_M_insert_97 rfl ?_
  refine x_go0 (x_runV X (C_M_front l D A _ a (upd lo q.2.2.length lw) (upd hi q.2.2.length hg) (q.2.2.length + 1) (ft_ha t.1 t.2 (sp_ip lw (sp_es q t)) q.2.1).2.2.1 q.1.length (ft_zT t.1 t.2 + 1) (ft_ha t.1 t.2 (sp_ip lw (sp_es q t)) q.2.1).2.2.2 mk pl ct w3 hP hd hw3 g7 (by omega) (by omega) 0 (sp_ip lw (sp_es q t)) (sp_new q) (ft_ha t.1 t.2 (sp_ip lw (sp_es q t)) q.2.1).2.1.1 (ft_ha t.1 t.2 (sp_ip lw (sp_es q t)) q.2.1).2.1.2 3 (ft_ok_ex g1 hno) g3' p2 p3 (by decide) (by omega) (by omega) (fun h => absurd h (by omega)) hmdF) b_M_front s_M_front v_M_front e_M_98 (m_at hP) rfl rfl hl rfl (Nat.le_of_ble_eq_true rfl) d_M_insert_98 (Nat.le_of_ble_eq_true rfl) (Nat.le_of_ble_eq_true rfl) ⟨Nat.le_of_ble_eq_true rfl, Nat.le_of_ble_eq_true rfl⟩) hS (fun _ h => h) (fun H locs hP hF hS => ?_)
  obtain ⟨w4, hP, hw4, q1', q2'⟩ := hP
  have q3' := ft_eo_hd q2' p1 (Or.inl (by rw [ft_wT_len]; omega))
  have hse : (sp_ip lw (sp_es q t)) = ft_zT (ft_ha t.1 t.2 (sp_ip lw (sp_es q t)) q.2.1).1.1 (ft_ha t.1 t.2 (sp_ip lw (sp_es q t)) q.2.1).1.2 := g4.symm
  refine x_aload_n X d_M_insert_101 rfl hl rfl ?_
  refine x_iload X d_M_insert_102 hl rfl ?_
  have hjoin := C_M_join l D A H a (upd lo q.2.2.length lw) (upd hi q.2.2.length hg) (q.2.2.length + 1) (ft_fr (sp_new q) (ft_ha t.1 t.2 (sp_ip lw (sp_es q t)) q.2.1).2.1.1 (ft_ha t.1 t.2 (sp_ip lw (sp_es q t)) q.2.1).2.1.2 (ft_ha t.1 t.2 (sp_ip lw (sp_es q t)) q.2.1).2.2).2.1 q.1.length (ft_zT t.1 t.2 + 1) (ft_fr (sp_new q) (ft_ha t.1 t.2 (sp_ip lw (sp_es q t)) q.2.1).2.1.1 (ft_ha t.1 t.2 (sp_ip lw (sp_es q t)) q.2.1).2.1.2 (ft_ha t.1 t.2 (sp_ip lw (sp_es q t)) q.2.1).2.2).2.2 mk pl ct w4 hP hd hw4 f3 (by omega) (by omega) (ft_ha t.1 t.2 (sp_ip lw (sp_es q t)) q.2.1).1.1 (ft_ha t.1 t.2 (sp_ip lw (sp_es q t)) q.2.1).1.2 (ft_fr (sp_new q) (ft_ha t.1 t.2 (sp_ip lw (sp_es q t)) q.2.1).2.1.1 (ft_ha t.1 t.2 (sp_ip lw (sp_es q t)) q.2.1).2.1.2 (ft_ha t.1 t.2 (sp_ip lw (sp_es q t)) q.2.1).2.2).1.1 (ft_fr (sp_new q) (ft_ha t.1 t.2 (sp_ip lw (sp_es q t)) q.2.1).2.1.1 (ft_ha t.1 t.2 (sp_ip lw (sp_es q t)) q.2.1).2.1.2 (ft_ha t.1 t.2 (sp_ip lw (sp_es q t)) q.2.1).2.2).1.2 (ft_okT_ex f1.1 g2') f1.2 q3' (by rw [g4]; exact q1') (by omega) (by omega) hmd
  rw [g4] at hjoin
  refine x_go0 (x_runV X (hjoin) b_M_join s_M_join v_M_join e_M_126 (m_at hP) rfl rfl hl rfl (Nat.le_of_ble_eq_true rfl) d_M_insert_104 (Nat.le_of_ble_eq_true rfl) (Nat.le_of_ble_eq_true rfl) ⟨Nat.le_of_ble_eq_true rfl, Nat.le_of_ble_eq_true rfl⟩) hS (fun _ h => h) (fun H locs hP hF hS => ?_)
  obtain ⟨w5, hP, hw5, b4⟩ := hP
  refine x_aload_n X d_M_insert_107 rfl hl rfl ?_
  refine x_iconst (v := nI 0) X d_M_insert_108 rfl ?_
  refine x_aload_n X d_M_insert_109 rfl hl rfl ?_
  refine m_get X hP 10 (by decide) e_M_37 rfl d_M_insert_110 ?_
  refine x_go1 (x_runV X (C_M_store l D A _ a (upd lo q.2.2.length lw) (upd hi q.2.2.length hg) (q.2.2.length + 1) (sp_insT t (sp_ip lw (sp_es q t)) (sp_new q) q.2.1).2.1 q.1.length (ft_zT t.1 t.2 + 1) (sp_insT t (sp_ip lw (sp_es q t)) (sp_new q) q.2.1).2.2 mk pl ct w5 hP hd 0 (ft_zT t.1 t.2 + 1) (Nat.zero_le _) (by omega) (by omega) (by omega)) b_M_store s_M_store v_M_store e_M_120 (m_at hP) rfl rfl hl rfl (Nat.le_of_ble_eq_true rfl) d_M_insert_113 (Nat.le_of_ble_eq_true rfl) (Nat.le_of_ble_eq_true rfl) ⟨Nat.le_of_ble_eq_true rfl, Nat.le_of_ble_eq_true rfl⟩) hS (fun _ h => h) (fun H locs hP hF hS => ?_)
  refine x_iret X hS (Nat.le_refl _) (Nat.le_refl _) d_M_insert_116 ⟨rfl, _, _, _, _, _, _, _, _, _, _, _, ?_, hP⟩
  have hk := mR_keep (t := (sp_insT t (sp_ip lw (sp_es q t)) (sp_new q) q.2.1).1) (c := (sp_insT t (sp_ip lw (sp_es q t)) (sp_new q) q.2.1).2) (e := q.2.2 ++ [(lw, hg)]) (m := ft_zT t.1 t.2 + 1 - 0) (n' := ft_zT t.1 t.2 + 1) hR hq (mR_ent h5) b4 hins.2.2.1.symm hw5 (by omega)
  rw [List.length_append, List.length_singleton] at hk
  exact hk
set_option maxRecDepth 100000 in
set_option maxHeartbeats 4000000 in
theorem A_M_removeTop (l : Launch) (D : va_G) (A : Nat → ClassId) (H0 : Heap) (a : Nat → Nat) (hd : mDs a) (q : ft_Q) (hq : sp_ok2 q) (hI : mI D a A q H0) (v : Int32) : xC l y_M_removeTop c_M_removeTop 4 (some .int) 7 D A H0 [.ref (a 0), .int v] (mFr a) (q1 (.int (sp_removeTop q v).1) (fun H1 => mI D a A (sp_removeTop q v).2 H1)) 0 0 := by
  obtain ⟨lo, hi, en, zf, mk, md, pl, ct, vs, w, n, hR, hP⟩ := hI
  obtain ⟨⟨rfl, rfl, rfl, rfl⟩, h5, h6, h7, h8, h9, h10⟩ := id hR
  have hl1 := hq.1.1
  have hl2 := hq.1.2.1
  have hl3 := hq.1.2.2.2.1
  have hmd0 := sp_md hq
  rcases sp_at_cases hq v with ⟨hv, hat⟩ | ⟨j, t, rfl, hj, hjt, hat⟩
  · skip
    have hsp : sp_removeTop q v = ((-1 : Int32), q) := by unfold sp_removeTop; rw [hat]
    rw [hsp]
    refine xC.of rfl (Nat.le_of_ble_eq_true rfl) ?_
    intro p_ e_ s_ m_ ar_ bl_ me_ c_ ls X hl
    have hl : lz ls 4 [some (.ref (a 0)), some (.int v), none, none] := hl
    have hS : va_S (mFr a) H0 H0 [] := va_S.rf
    refine x_aload_n X d_M_removeTop_0 rfl hl rfl ?_
    refine x_iload_n X d_M_removeTop_1 rfl hl rfl ?_
    refine x_goR (x_runV X (C_M_none_t l D A _ a lo hi q.2.2.length q.2.1.1 q.1.length n q.2.1.2 mk pl ct w hP v hv) b_M_none s_M_none v_M_none e_M_109 (m_at hP) rfl rfl hl rfl (Nat.le_of_ble_eq_true rfl) d_M_removeTop_2 (Nat.le_of_ble_eq_true rfl) (Nat.le_of_ble_eq_true rfl) ⟨Nat.le_of_ble_eq_true rfl, Nat.le_of_ble_eq_true rfl⟩) hS (fun locs hS => ?_)
    refine n_if_ne X 17 d_M_removeTop_5 rfl (by decide) (fun hc => ?_) (fun hc => absurd hc (by decide))
    refine x_iconst (v := -1) X d_M_removeTop_17 rfl ?_
    exact x_iret X hS (Nat.le_refl _) (Nat.le_refl _) d_M_removeTop_18 ⟨rfl, _, _, _, _, _, _, _, _, _, _, _, hR, hP⟩
  have ht := hq.1.2.2.1 t (List.mem_of_getElem? hjt)
  obtain ⟨hct, hpl⟩ := h6 j t hjt
  have hz40 := ht.2
  by_cases hz0 : ft_zT t.1 t.2 = 0
  · skip
    have hsp : sp_removeTop q (nI j) = ((-1 : Int32), q) := by unfold sp_removeTop; rw [hat]; dsimp only; rw [if_pos hz0]
    rw [hsp]
    refine xC.of rfl (Nat.le_of_ble_eq_true rfl) ?_
    intro p_ e_ s_ m_ ar_ bl_ me_ c_ ls X hl
    have hl : lz ls 4 [some (.ref (a 0)), some (.int (nI j)), none, none] := hl
    have hS : va_S (mFr a) H0 H0 [] := va_S.rf
    refine x_aload_n X d_M_removeTop_0 rfl hl rfl ?_
    refine x_iload_n X d_M_removeTop_1 rfl hl rfl ?_
    refine x_goR (x_runV X (C_M_none_f l D A _ a lo hi q.2.2.length q.2.1.1 q.1.length n q.2.1.2 mk pl ct w hP j hj (by omega)) b_M_none s_M_none v_M_none e_M_109 (m_at hP) rfl rfl hl rfl (Nat.le_of_ble_eq_true rfl) d_M_removeTop_2 (Nat.le_of_ble_eq_true rfl) (Nat.le_of_ble_eq_true rfl) ⟨Nat.le_of_ble_eq_true rfl, Nat.le_of_ble_eq_true rfl⟩) hS (fun locs hS => ?_)
    refine n_if_ne X 17 d_M_removeTop_5 rfl (by decide) (fun hc => absurd rfl hc) (fun hc => ?_)
    refine x_aload_n X d_M_removeTop_8 rfl hl rfl ?_
    refine m_get X hP 7 (by decide) e_M_27 rfl d_M_removeTop_9 ?_
    refine x_iload_n X d_M_removeTop_12 rfl hl rfl ?_
    refine m_ld_ct X hP (by omega) d_M_removeTop_13 ?_
    rw [hct]
    refine n_if_ne X 19 d_M_removeTop_14 rfl (by omega) (fun hc => absurd hz0 hc) (fun hc => ?_)
    refine x_iconst (v := -1) X d_M_removeTop_17 rfl ?_
    exact x_iret X hS (Nat.le_refl _) (Nat.le_refl _) d_M_removeTop_18 ⟨rfl, _, _, _, _, _, _, _, _, _, _, _, hR, hP⟩
  by_cases hfu : 120 ≤ q.1.length
  · skip
    have hsp : sp_removeTop q (nI j) = ((-2 : Int32), q) := by unfold sp_removeTop; rw [hat]; dsimp only; rw [if_neg hz0, if_pos hfu]
    rw [hsp]
    refine xC.of rfl (Nat.le_of_ble_eq_true rfl) ?_
    intro p_ e_ s_ m_ ar_ bl_ me_ c_ ls X hl
    have hl : lz ls 4 [some (.ref (a 0)), some (.int (nI j)), none, none] := hl
    have hS : va_S (mFr a) H0 H0 [] := va_S.rf
    refine x_aload_n X d_M_removeTop_0 rfl hl rfl ?_
    refine x_iload_n X d_M_removeTop_1 rfl hl rfl ?_
    refine x_goR (x_runV X (C_M_none_f l D A _ a lo hi q.2.2.length q.2.1.1 q.1.length n q.2.1.2 mk pl ct w hP j hj (by omega)) b_M_none s_M_none v_M_none e_M_109 (m_at hP) rfl rfl hl rfl (Nat.le_of_ble_eq_true rfl) d_M_removeTop_2 (Nat.le_of_ble_eq_true rfl) (Nat.le_of_ble_eq_true rfl) ⟨Nat.le_of_ble_eq_true rfl, Nat.le_of_ble_eq_true rfl⟩) hS (fun locs hS => ?_)
    refine n_if_ne X 17 d_M_removeTop_5 rfl (by decide) (fun hc => absurd rfl hc) (fun hc => ?_)
    refine x_aload_n X d_M_removeTop_8 rfl hl rfl ?_
    refine m_get X hP 7 (by decide) e_M_27 rfl d_M_removeTop_9 ?_
    refine x_iload_n X d_M_removeTop_12 rfl hl rfl ?_
    refine m_ld_ct X hP (by omega) d_M_removeTop_13 ?_
    rw [hct]
    refine n_if_ne X 19 d_M_removeTop_14 rfl (by omega) (fun hc => ?_) (fun hc => absurd hc hz0)
    refine x_aload_n X d_M_removeTop_19 rfl hl rfl ?_
    refine m_get X hP 8 (by decide) e_M_30 rfl d_M_removeTop_20 ?_
    refine x_bipush (v := nI 120) X d_M_removeTop_23 rfl ?_
    refine n_icmp_lt X 31 d_M_removeTop_25 rfl (by omega) (by omega) (fun hc => absurd hc (by omega)) (fun hc => ?_)
    refine x_bipush (v := -2) X d_M_removeTop_28 rfl ?_
    exact x_iret X hS (Nat.le_refl _) (Nat.le_refl _) d_M_removeTop_30 ⟨rfl, _, _, _, _, _, _, _, _, _, _, _, hR, hP⟩
  have hok := sp_removeTop_ok hq (nI j)
  have hsp : sp_removeTop q (nI j) = (nI q.1.length, (q.1 ++ [(ft_jn (ft_cu t.1 t.2 (sp_tp (sp_es q t))).1.1 (ft_cu t.1 t.2 (sp_tp (sp_es q t))).1.2 [] (ft_cu t.1 t.2 (sp_tp (sp_es q t))).2.2.1 (ft_cu t.1 t.2 (sp_tp (sp_es q t))).2.2.2 q.2.1).1], (ft_jn (ft_cu t.1 t.2 (sp_tp (sp_es q t))).1.1 (ft_cu t.1 t.2 (sp_tp (sp_es q t))).1.2 [] (ft_cu t.1 t.2 (sp_tp (sp_es q t))).2.2.1 (ft_cu t.1 t.2 (sp_tp (sp_es q t))).2.2.2 q.2.1).2, q.2.2)) := by unfold sp_removeTop; rw [hat]; dsimp only; rw [if_neg hz0, if_neg hfu]; rfl
  rw [hsp] at hok ⊢
  have hmd := sp_md hok
  dsimp only at hmd
  refine xC.of rfl (Nat.le_of_ble_eq_true rfl) ?_
  intro p_ e_ s_ m_ ar_ bl_ me_ c_ ls X hl
  have hl : lz ls 4 [some (.ref (a 0)), some (.int (nI j)), none, none] := hl
  have hS : va_S (mFr a) H0 H0 [] := va_S.rf
  refine x_aload_n X d_M_removeTop_0 rfl hl rfl ?_
  refine x_iload_n X d_M_removeTop_1 rfl hl rfl ?_
  refine x_goR (x_runV X (C_M_none_f l D A _ a lo hi q.2.2.length q.2.1.1 q.1.length n q.2.1.2 mk pl ct w hP j hj (by omega)) b_M_none s_M_none v_M_none e_M_109 (m_at hP) rfl rfl hl rfl (Nat.le_of_ble_eq_true rfl) d_M_removeTop_2 (Nat.le_of_ble_eq_true rfl) (Nat.le_of_ble_eq_true rfl) ⟨Nat.le_of_ble_eq_true rfl, Nat.le_of_ble_eq_true rfl⟩) hS (fun locs hS => ?_)
  refine n_if_ne X 17 d_M_removeTop_5 rfl (by decide) (fun hc => absurd rfl hc) (fun hc => ?_)
  refine x_aload_n X d_M_removeTop_8 rfl hl rfl ?_
  refine m_get X hP 7 (by decide) e_M_27 rfl d_M_removeTop_9 ?_
  refine x_iload_n X d_M_removeTop_12 rfl hl rfl ?_
  refine m_ld_ct X hP (by omega) d_M_removeTop_13 ?_
  rw [hct]
  refine n_if_ne X 19 d_M_removeTop_14 rfl (by omega) (fun hc => ?_) (fun hc => absurd hc hz0)
  refine x_aload_n X d_M_removeTop_19 rfl hl rfl ?_
  refine m_get X hP 8 (by decide) e_M_30 rfl d_M_removeTop_20 ?_
  refine x_bipush (v := nI 120) X d_M_removeTop_23 rfl ?_
  refine n_icmp_lt X 31 d_M_removeTop_25 rfl (by omega) (by omega) (fun hc => ?_) (fun hc => absurd hc (by omega))
  refine x_aload_n X d_M_removeTop_31 rfl hl rfl ?_
  refine x_iload_n X d_M_removeTop_32 rfl hl rfl ?_
  refine x_go0 (x_runV X (C_M_load l D A _ a lo hi q.2.2.length q.2.1.1 q.1.length n q.2.1.2 mk pl ct w hP hd j (by omega) (by omega)) b_M_load s_M_load v_M_load e_M_113 (m_at hP) rfl rfl hl rfl (Nat.le_of_ble_eq_true rfl) d_M_removeTop_33 (Nat.le_of_ble_eq_true rfl) (Nat.le_of_ble_eq_true rfl) ⟨Nat.le_of_ble_eq_true rfl, Nat.le_of_ble_eq_true rfl⟩) hS (fun _ h => h) (fun H locs hP hF hS => ?_)
  rw [hct] at hP
  have hw1 := ft_ld_bw (j := j) (m := ft_zT t.1 t.2) h9 h8
  have hd1 := ft_ld_hd (w := w) (m := ft_zT t.1 t.2) hpl (by rw [ft_wT_len]; exact Nat.le_refl _)
  generalize ft_ld w pl j (ft_zT t.1 t.2) = w1 at hP hw1 hd1
  refine x_iconst (v := nI 0) X d_M_removeTop_36 rfl ?_
  refine x_istore_n X d_M_removeTop_37 rfl hl (by decide) rfl (fun ls hl => ?_)
  refine x_iconst (v := nI 1) X d_M_removeTop_38 rfl ?_
  refine x_istore_n X d_M_removeTop_39 rfl hl (by decide) rfl (fun ls hl => ?_)
  have hes := sp_es_len q t
  have htl := sp_tp_lt (es := sp_es q t) (by omega)
  have loop : ∀ (g i b : Nat) (eb : Int32 × Int32) (locs : List Loc) (ls : Array Slot), ft_zT t.1 t.2 - i = g → i ≤ ft_zT t.1 t.2 → b < ft_zT t.1 t.2 → (sp_es q t)[b]? = some eb → sp_top b eb.2 i ((sp_es q t).drop i) = (sp_tp (sp_es q t)) → lz ls 4 [some (.ref (a 0)), some (.int (nI j)), some (.int (nI b)), some (.int (nI i))] → va_S (mFr a) H0 H locs →
      (∀ (locs : List Loc) (ls : Array Slot) (i : Nat), lz ls 4 [some (.ref (a 0)), some (.int (nI j)), some (.int (nI (sp_tp (sp_es q t)))), some (.int (nI i))] → va_S (mFr a) H0 H locs → W p_ l e_ (x_rm 7 0 0) s_ m_ ar_ bl_ me_ c_ H locs 0 0 (MQ bl_ (xQ (mFr a) (q1 (.int ((nI q.1.length, (q.1 ++ [(ft_jn (ft_cu t.1 t.2 (sp_tp (sp_es q t))).1.1 (ft_cu t.1 t.2 (sp_tp (sp_es q t))).1.2 [] (ft_cu t.1 t.2 (sp_tp (sp_es q t))).2.2.1 (ft_cu t.1 t.2 (sp_tp (sp_es q t))).2.2.2 q.2.1).1], (ft_jn (ft_cu t.1 t.2 (sp_tp (sp_es q t))).1.1 (ft_cu t.1 t.2 (sp_tp (sp_es q t))).1.2 [] (ft_cu t.1 t.2 (sp_tp (sp_es q t))).2.2.1 (ft_cu t.1 t.2 (sp_tp (sp_es q t))).2.2.2 q.2.1).2, q.2.2))).1) (fun H1 => mI D a A ((nI q.1.length, (q.1 ++ [(ft_jn (ft_cu t.1 t.2 (sp_tp (sp_es q t))).1.1 (ft_cu t.1 t.2 (sp_tp (sp_es q t))).1.2 [] (ft_cu t.1 t.2 (sp_tp (sp_es q t))).2.2.1 (ft_cu t.1 t.2 (sp_tp (sp_es q t))).2.2.2 q.2.1).1], (ft_jn (ft_cu t.1 t.2 (sp_tp (sp_es q t))).1.1 (ft_cu t.1 t.2 (sp_tp (sp_es q t))).1.2 [] (ft_cu t.1 t.2 (sp_tp (sp_es q t))).2.2.1 (ft_cu t.1 t.2 (sp_tp (sp_es q t))).2.2.2 q.2.1).2, q.2.2))).2 H1))) ar_ s_ 0 0 (mFr a)) (F0 m_ 87 ls [])) → W p_ l e_ (x_rm 7 0 0) s_ m_ ar_ bl_ me_ c_ H locs 0 0 (MQ bl_ (xQ (mFr a) (q1 (.int ((nI q.1.length, (q.1 ++ [(ft_jn (ft_cu t.1 t.2 (sp_tp (sp_es q t))).1.1 (ft_cu t.1 t.2 (sp_tp (sp_es q t))).1.2 [] (ft_cu t.1 t.2 (sp_tp (sp_es q t))).2.2.1 (ft_cu t.1 t.2 (sp_tp (sp_es q t))).2.2.2 q.2.1).1], (ft_jn (ft_cu t.1 t.2 (sp_tp (sp_es q t))).1.1 (ft_cu t.1 t.2 (sp_tp (sp_es q t))).1.2 [] (ft_cu t.1 t.2 (sp_tp (sp_es q t))).2.2.1 (ft_cu t.1 t.2 (sp_tp (sp_es q t))).2.2.2 q.2.1).2, q.2.2))).1) (fun H1 => mI D a A ((nI q.1.length, (q.1 ++ [(ft_jn (ft_cu t.1 t.2 (sp_tp (sp_es q t))).1.1 (ft_cu t.1 t.2 (sp_tp (sp_es q t))).1.2 [] (ft_cu t.1 t.2 (sp_tp (sp_es q t))).2.2.1 (ft_cu t.1 t.2 (sp_tp (sp_es q t))).2.2.2 q.2.1).1], (ft_jn (ft_cu t.1 t.2 (sp_tp (sp_es q t))).1.1 (ft_cu t.1 t.2 (sp_tp (sp_es q t))).1.2 [] (ft_cu t.1 t.2 (sp_tp (sp_es q t))).2.2.1 (ft_cu t.1 t.2 (sp_tp (sp_es q t))).2.2.2 q.2.1).2, q.2.2))).2 H1))) ar_ s_ 0 0 (mFr a)) (F0 m_ 40 ls []) := by
    clear hl hS
    intro g
    induction g with
    | zero =>
      intro i b eb locs ls hgi hi2 hb heb hip hl hS kk
      have hie : i = ft_zT t.1 t.2 := by omega
      rw [List.drop_of_length_le (by omega)] at hip
      have hip : b = (sp_tp (sp_es q t)) := hip
      rw [hip] at hl
      refine x_iload_n X d_M_removeTop_40 rfl hl rfl ?_
      refine x_aload_n X d_M_removeTop_41 rfl hl rfl ?_
      refine m_get X hP 10 (by decide) e_M_37 rfl d_M_removeTop_42 ?_
      refine n_icmp_ge X 87 d_M_removeTop_45 rfl (by omega) (by omega) (fun hc => ?_) (fun hc => absurd hc (by omega))
      exact kk _ _ _ hl hS
    | succ g ih =>
      intro i b eb locs ls hgi hi2 hb heb hip hl hS kk
      obtain ⟨e, he1, he2, he3, he4⟩ := mR_at (p := i) hq h5 (List.mem_of_getElem? hjt) hd1 (by omega)
      obtain ⟨e', hf1, hf2, hf3, hf4⟩ := mR_at (p := b) hq h5 (List.mem_of_getElem? hjt) hd1 hb
      rw [Nat.zero_add] at he2 he3 he4 hf2 hf3 hf4
      rw [heb] at hf1
      cases hf1
      rw [sp_drop_cons he1] at hip
      change (if eb.2 < e.2 then sp_top i e.2 (i + 1) ((sp_es q t).drop (i + 1)) else sp_top b eb.2 (i + 1) ((sp_es q t).drop (i + 1))) = (sp_tp (sp_es q t)) at hip
      refine x_iload_n X d_M_removeTop_40 rfl hl rfl ?_
      refine x_aload_n X d_M_removeTop_41 rfl hl rfl ?_
      refine m_get X hP 10 (by decide) e_M_37 rfl d_M_removeTop_42 ?_
      refine n_icmp_ge X 87 d_M_removeTop_45 rfl (by omega) (by omega) (fun hc => absurd hc (by omega)) (fun hc => ?_)
      refine x_aload_n X d_M_removeTop_48 rfl hl rfl ?_
      refine m_get X hP 1 (by decide) e_M_13 rfl d_M_removeTop_49 ?_
      refine x_aload_n X d_M_removeTop_52 rfl hl rfl ?_
      refine m_get X hP 9 (by decide) e_M_34 rfl d_M_removeTop_53 ?_
      refine x_iload_n X d_M_removeTop_56 rfl hl rfl ?_
      refine m_ld_w X hP (by omega) d_M_removeTop_57 ?_
      refine x_goR (x_runS X (C_M_entry l D A _ (w1 i)) b_M_entry s_M_entry e_M_144 rfl hl rfl (Nat.le_of_ble_eq_true rfl) d_M_removeTop_58 (Nat.le_of_ble_eq_true rfl) (Nat.le_of_ble_eq_true rfl) ⟨Nat.le_of_ble_eq_true rfl, Nat.le_of_ble_eq_true rfl⟩) hS (fun locs hS => ?_)
      refine m_ld_hi X hP (by omega) d_M_removeTop_61 ?_
      refine x_aload_n X d_M_removeTop_62 rfl hl rfl ?_
      refine m_get X hP 1 (by decide) e_M_13 rfl d_M_removeTop_63 ?_
      refine x_aload_n X d_M_removeTop_66 rfl hl rfl ?_
      refine m_get X hP 9 (by decide) e_M_34 rfl d_M_removeTop_67 ?_
      refine x_iload_n X d_M_removeTop_70 rfl hl rfl ?_
      refine m_ld_w X hP (by omega) d_M_removeTop_71 ?_
      refine x_goR (x_runS X (C_M_entry l D A _ (w1 b)) b_M_entry s_M_entry e_M_144 rfl hl rfl (Nat.le_of_ble_eq_true rfl) d_M_removeTop_72 (Nat.le_of_ble_eq_true rfl) (Nat.le_of_ble_eq_true rfl) ⟨Nat.le_of_ble_eq_true rfl, Nat.le_of_ble_eq_true rfl⟩) hS (fun locs hS => ?_)
      refine m_ld_hi X hP (by omega) d_M_removeTop_75 ?_
      rw [he4, hf4]
      refine x_icmp_le X 81 d_M_removeTop_76 rfl (fun h => ?_) (fun h => ?_)
      · rw [if_neg (Int32.not_lt.2 h)] at hip
        refine n_iinc (d := 1) X d_M_removeTop_81 rfl hl rfl (by decide) rfl (fun ls hl => ?_)
        refine x_goto X 40 d_M_removeTop_84 rfl ?_
        exact ih (i + 1) b eb _ _ (by omega) (by omega) hb heb hip hl hS kk
      · rw [if_pos (Int32.not_le.1 h)] at hip
        refine x_iload_n X d_M_removeTop_79 rfl hl rfl ?_
        refine x_istore_n X d_M_removeTop_80 rfl hl (by decide) rfl (fun ls hl => ?_)
        refine n_iinc (d := 1) X d_M_removeTop_81 rfl hl rfl (by decide) rfl (fun ls hl => ?_)
        refine x_goto X 40 d_M_removeTop_84 rfl ?_
        exact ih (i + 1) i e _ _ (by omega) (by omega) (by omega) he1 hip hl hS kk
  obtain ⟨e0, hes0⟩ : ∃ e0, (sp_es q t)[0]? = some e0 := ⟨_, List.getElem?_eq_getElem (by omega)⟩
  have htp : (sp_tp (sp_es q t)) = sp_top 0 e0.2 1 ((sp_es q t).drop 1) := by
    have h := sp_drop_cons hes0
    rw [List.drop_zero, Nat.zero_add] at h
    conv => lhs; rw [h]
    rfl
  refine loop (ft_zT t.1 t.2 - 1) 1 0 e0 _ _ rfl (by omega) (by omega) hes0 htp.symm hl hS (fun locs ls i hl hS => ?_)
  clear loop
  obtain ⟨c1, c2, c3, c4, c5, c6⟩ := ft_cu_ok ht.1 (p := (sp_tp (sp_es q t))) (by omega)
  have hz1 := ft_ok_z0 c2
  refine x_aload_n X d_M_removeTop_87 rfl hl rfl ?_
  refine x_iload_n X d_M_removeTop_88 rfl hl rfl ?_
  refine x_go0 (x_runV X (C_M_cut l D A _ a lo hi q.2.2.length q.2.1.1 q.1.length (ft_zT t.1 t.2) q.2.1.2 mk pl ct w1 hP hd hw1 hq.2 (by omega) hmd0 t.1 t.2 (sp_tp (sp_es q t)) ht.1 hd1 (by omega) rfl (by omega)) b_M_cut s_M_cut v_M_cut e_M_129 (m_at hP) rfl rfl hl rfl (Nat.le_of_ble_eq_true rfl) d_M_removeTop_89 (Nat.le_of_ble_eq_true rfl) (Nat.le_of_ble_eq_true rfl) ⟨Nat.le_of_ble_eq_true rfl, Nat.le_of_ble_eq_true rfl⟩) hS (fun _ h => h) (fun H locs hP hF hS => ?_)
  obtain ⟨w2, hP, hw2, b1, b2, b3⟩ := hP
  have hpe : ft_zT (ft_cu t.1 t.2 (sp_tp (sp_es q t))).1.1 (ft_cu t.1 t.2 (sp_tp (sp_es q t))).1.2 = (sp_tp (sp_es q t)) := by omega
  rw [hpe, hz1] at b3
  refine x_aload_n X d_M_removeTop_92 rfl hl rfl ?_
  refine x_iload_n X d_M_removeTop_93 rfl hl rfl ?_
  refine x_go0 (x_runV X (C_M_drop l D A _ a lo hi q.2.2.length q.2.1.1 q.1.length (ft_zT t.1 t.2) q.2.1.2 mk pl ct w2 hP hd (sp_tp (sp_es q t)) (by omega) (by omega)) b_M_drop s_M_drop v_M_drop e_M_123 (m_at hP) rfl rfl hl rfl (Nat.le_of_ble_eq_true rfl) d_M_removeTop_94 (Nat.le_of_ble_eq_true rfl) (Nat.le_of_ble_eq_true rfl) ⟨Nat.le_of_ble_eq_true rfl, Nat.le_of_ble_eq_true rfl⟩) hS (fun _ h => h) (fun H locs hP hF hS => ?_)
  have hw3 := ft_dr_bw (p := (sp_tp (sp_es q t))) (n := ft_zT t.1 t.2 - 1) hw2
  obtain ⟨d1, d2⟩ := ft_dr_hd (p := (sp_tp (sp_es q t))) (m := ft_zT t.1 t.2 - 1) b1 b3 (by rw [ft_wT_len]; omega) (by rw [ft_wT_len]; omega)
  generalize ft_dr w2 (sp_tp (sp_es q t)) (ft_zT t.1 t.2 - 1) = w3 at hP hw3 d1 d2
  refine x_aload_n X d_M_removeTop_97 rfl hl rfl ?_
  refine x_iload_n X d_M_removeTop_98 rfl hl rfl ?_
  have hjoin := C_M_join l D A H a lo hi q.2.2.length q.2.1.1 q.1.length (ft_zT t.1 t.2 - 1) q.2.1.2 mk pl ct w3 hP hd hw3 hq.2 (by omega) (by omega) (ft_cu t.1 t.2 (sp_tp (sp_es q t))).1.1 (ft_cu t.1 t.2 (sp_tp (sp_es q t))).1.2 (ft_cu t.1 t.2 (sp_tp (sp_es q t))).2.2.1 (ft_cu t.1 t.2 (sp_tp (sp_es q t))).2.2.2 c1 c3 d1 (by rw [hpe]; exact d2) (by omega) (by omega) hmd
  rw [hpe] at hjoin
  refine x_go0 (x_runV X (hjoin) b_M_join s_M_join v_M_join e_M_126 (m_at hP) rfl rfl hl rfl (Nat.le_of_ble_eq_true rfl) d_M_removeTop_99 (Nat.le_of_ble_eq_true rfl) (Nat.le_of_ble_eq_true rfl) ⟨Nat.le_of_ble_eq_true rfl, Nat.le_of_ble_eq_true rfl⟩) hS (fun _ h => h) (fun H locs hP hF hS => ?_)
  obtain ⟨w5, hP, hw5, b4⟩ := hP
  have hzz := (ft_jn_ok (ft_cu t.1 t.2 (sp_tp (sp_es q t))).1.1 (ft_cu t.1 t.2 (sp_tp (sp_es q t))).1.2 [] (ft_cu t.1 t.2 (sp_tp (sp_es q t))).2.2.1 (ft_cu t.1 t.2 (sp_tp (sp_es q t))).2.2.2 q.2.1 0 (by simp) (fun y hy => by simp at hy) c1 c3).2.2
  simp only [ft_zR] at hzz
  refine x_aload_n X d_M_removeTop_102 rfl hl rfl ?_
  refine x_iconst (v := nI 0) X d_M_removeTop_103 rfl ?_
  refine x_aload_n X d_M_removeTop_104 rfl hl rfl ?_
  refine m_get X hP 10 (by decide) e_M_37 rfl d_M_removeTop_105 ?_
  refine x_go1 (x_runV X (C_M_store l D A _ a lo hi q.2.2.length (ft_jn (ft_cu t.1 t.2 (sp_tp (sp_es q t))).1.1 (ft_cu t.1 t.2 (sp_tp (sp_es q t))).1.2 [] (ft_cu t.1 t.2 (sp_tp (sp_es q t))).2.2.1 (ft_cu t.1 t.2 (sp_tp (sp_es q t))).2.2.2 q.2.1).2.1 q.1.length (ft_zT t.1 t.2 - 1) (ft_jn (ft_cu t.1 t.2 (sp_tp (sp_es q t))).1.1 (ft_cu t.1 t.2 (sp_tp (sp_es q t))).1.2 [] (ft_cu t.1 t.2 (sp_tp (sp_es q t))).2.2.1 (ft_cu t.1 t.2 (sp_tp (sp_es q t))).2.2.2 q.2.1).2.2 mk pl ct w5 hP hd 0 (ft_zT t.1 t.2 - 1) (Nat.zero_le _) (by omega) (by omega) (by omega)) b_M_store s_M_store v_M_store e_M_120 (m_at hP) rfl rfl hl rfl (Nat.le_of_ble_eq_true rfl) d_M_removeTop_108 (Nat.le_of_ble_eq_true rfl) (Nat.le_of_ble_eq_true rfl) ⟨Nat.le_of_ble_eq_true rfl, Nat.le_of_ble_eq_true rfl⟩) hS (fun _ h => h) (fun H locs hP hF hS => ?_)
  refine x_iret X hS (Nat.le_refl _) (Nat.le_refl _) d_M_removeTop_111 ⟨rfl, _, _, _, _, _, _, _, _, _, _, _, ?_, hP⟩
  exact mR_keep (t := (ft_jn (ft_cu t.1 t.2 (sp_tp (sp_es q t))).1.1 (ft_cu t.1 t.2 (sp_tp (sp_es q t))).1.2 [] (ft_cu t.1 t.2 (sp_tp (sp_es q t))).2.2.1 (ft_cu t.1 t.2 (sp_tp (sp_es q t))).2.2.2 q.2.1).1) (c := (ft_jn (ft_cu t.1 t.2 (sp_tp (sp_es q t))).1.1 (ft_cu t.1 t.2 (sp_tp (sp_es q t))).1.2 [] (ft_cu t.1 t.2 (sp_tp (sp_es q t))).2.2.1 (ft_cu t.1 t.2 (sp_tp (sp_es q t))).2.2.2 q.2.1).2) (e := q.2.2) (m := ft_zT t.1 t.2 - 1 - 0) (n' := ft_zT t.1 t.2 - 1) hR hq h5 b4 (by omega) hw5 (by omega)
