/-! The reference, call by call: pushFront, pushBack, popFront, popBack. -/
theorem ft_pu_hd {w : Nat → Nat} {p n v : Nat} {L1 L2 : List Nat} (h1 : ft_hd w 0 L1) (h2 : ft_hd w p L2) (e1 : L1.length ≤ p) (e2 : p + L2.length ≤ n) : ft_hd (va_up (ft_sg w p n) p v) 0 L1 ∧ ft_hd (va_up (ft_sg w p n) p v) p [v] ∧ ft_hd (va_up (ft_sg w p n) p v) (p + 1) L2 := by
  refine ⟨ft_hd_congr h1 (fun q a b => ?_), fun i x hi => ?_, fun i x hi => ?_⟩
  · have : q ≠ p := by omega
    simp only [va_up, if_neg this]
    unfold ft_sg
    rw [if_neg (by omega)]
  · cases i with
    | zero => cases hi; simp [va_up]
    | succ i => simp at hi
  · have hil := (List.getElem?_eq_some_iff.1 hi).1
    have : p + 1 + i ≠ p := by omega
    simp only [va_up, if_neg this]
    unfold ft_sg
    rw [if_pos (by omega), show p + 1 + i - 1 = p + i from by omega]
    exact h2 i x hi
theorem ft_dr_hd {w : Nat → Nat} {p m : Nat} {L1 L2 : List Nat} (h1 : ft_hd w 0 L1) (h2 : ft_hd w (p + 1) L2) (e1 : L1.length ≤ p) (e2 : p + L2.length ≤ m) : ft_hd (ft_dr w p m) 0 L1 ∧ ft_hd (ft_dr w p m) p L2 := by
  refine ⟨ft_hd_congr h1 (fun q a b => ?_), fun i x hi => ?_⟩
  · unfold ft_dr
    rw [if_neg (by omega)]
  · have hil := (List.getElem?_eq_some_iff.1 hi).1
    unfold ft_dr
    rw [if_pos (by omega), show p + i + 1 = p + 1 + i from by omega]
    exact h2 i x hi
theorem ft_wI_num (e : Nat) : ft_wI 3 (.num e) = [e + 384] := by simp [ft_wI, ft_lv, ft_wd, ft_pt]
theorem sp_md {q : ft_Q} (h : sp_ok2 q) : q.2.1.1 < 4200 := by
  have h1 := h.1.2.1
  have h2 := h.1.2.2.2.2
  omega
set_option maxRecDepth 100000 in
set_option maxHeartbeats 4000000 in
theorem A_M_pushFront (l : Launch) (D : va_G) (A : Nat → ClassId) (H0 : Heap) (a : Nat → Nat) (hd : mDs a) (q : ft_Q) (hq : sp_ok2 q) (hI : mI D a A q H0) (v : Int32) (lw : Int32) (hg : Int32) : xC l y_M_pushFront c_M_pushFront 4 (some .int) 7 D A H0 [.ref (a 0), .int v, .int lw, .int hg] (mFr a) (q1 (.int (sp_pushFront q v lw hg).1) (fun H1 => mI D a A (sp_pushFront q v lw hg).2 H1)) 0 0 := by
  obtain ⟨lo, hi, en, zf, mk, md, pl, ct, vs, w, n, hR, hP⟩ := hI
  obtain ⟨⟨rfl, rfl, rfl, rfl⟩, h5, h6, h7, h8, h9, h10⟩ := id hR
  have hl1 := hq.1.1
  have hl2 := hq.1.2.1
  have hl3 := hq.1.2.2.2.1
  have hmd0 := sp_md hq
  rcases sp_at_cases hq v with ⟨hv, hat⟩ | ⟨j, t, rfl, hj, hjt, hat⟩
  · skip
    have hsp : sp_pushFront q v lw hg = ((-1 : Int32), q) := by unfold sp_pushFront; rw [hat]
    rw [hsp]
    refine xC.of rfl (Nat.le_of_ble_eq_true rfl) ?_
    intro p_ e_ s_ m_ ar_ bl_ me_ c_ ls X hl
    have hl : lz ls 4 [some (.ref (a 0)), some (.int v), some (.int lw), some (.int hg)] := hl
    have hS : va_S (mFr a) H0 H0 [] := va_S.rf
    refine x_aload_n X d_M_pushFront_0 rfl hl rfl ?_
    refine x_iload_n X d_M_pushFront_1 rfl hl rfl ?_
    refine x_goR (x_runV X (C_M_none_t l D A _ a lo hi q.2.2.length q.2.1.1 q.1.length n q.2.1.2 mk pl ct w hP v hv) b_M_none s_M_none v_M_none e_M_109 (m_at hP) rfl rfl hl rfl (Nat.le_of_ble_eq_true rfl) d_M_pushFront_2 (Nat.le_of_ble_eq_true rfl) (Nat.le_of_ble_eq_true rfl) ⟨Nat.le_of_ble_eq_true rfl, Nat.le_of_ble_eq_true rfl⟩) hS (fun locs hS => ?_)
    refine n_if_ne X 13 d_M_pushFront_5 rfl (by decide) (fun hc => ?_) (fun hc => absurd hc (by decide))
    refine x_iconst (v := -1) X d_M_pushFront_13 rfl ?_
    exact x_iret X hS (Nat.le_refl _) (Nat.le_refl _) d_M_pushFront_14 ⟨rfl, _, _, _, _, _, _, _, _, _, _, _, hR, hP⟩
  have ht := hq.1.2.2.1 t (List.mem_of_getElem? hjt)
  obtain ⟨hct, hpl⟩ := h6 j t hjt
  have hz40 := ht.2
  by_cases hlh : hg < lw
  · skip
    have hsp : sp_pushFront q (nI j) lw hg = ((-1 : Int32), q) := by unfold sp_pushFront; rw [hat]; dsimp only; rw [if_pos hlh]
    rw [hsp]
    refine xC.of rfl (Nat.le_of_ble_eq_true rfl) ?_
    intro p_ e_ s_ m_ ar_ bl_ me_ c_ ls X hl
    have hl : lz ls 4 [some (.ref (a 0)), some (.int (nI j)), some (.int lw), some (.int hg)] := hl
    have hS : va_S (mFr a) H0 H0 [] := va_S.rf
    refine x_aload_n X d_M_pushFront_0 rfl hl rfl ?_
    refine x_iload_n X d_M_pushFront_1 rfl hl rfl ?_
    refine x_goR (x_runV X (C_M_none_f l D A _ a lo hi q.2.2.length q.2.1.1 q.1.length n q.2.1.2 mk pl ct w hP j hj (by omega)) b_M_none s_M_none v_M_none e_M_109 (m_at hP) rfl rfl hl rfl (Nat.le_of_ble_eq_true rfl) d_M_pushFront_2 (Nat.le_of_ble_eq_true rfl) (Nat.le_of_ble_eq_true rfl) ⟨Nat.le_of_ble_eq_true rfl, Nat.le_of_ble_eq_true rfl⟩) hS (fun locs hS => ?_)
    refine n_if_ne X 13 d_M_pushFront_5 rfl (by decide) (fun hc => absurd rfl hc) (fun hc => ?_)
    refine x_iload_n X d_M_pushFront_8 rfl hl rfl ?_
    refine x_iload_n X d_M_pushFront_9 rfl hl rfl ?_
    refine x_icmp_le X 15 d_M_pushFront_10 rfl (fun h => absurd hlh (Int32.not_lt.2 h)) (fun _ => ?_)
    refine x_iconst (v := -1) X d_M_pushFront_13 rfl ?_
    exact x_iret X hS (Nat.le_refl _) (Nat.le_refl _) d_M_pushFront_14 ⟨rfl, _, _, _, _, _, _, _, _, _, _, _, hR, hP⟩
  by_cases hfu : 120 ≤ q.1.length ∨ 40 ≤ ft_zT t.1 t.2
  · skip
    have hsp : sp_pushFront q (nI j) lw hg = ((-2 : Int32), q) := by unfold sp_pushFront; rw [hat]; dsimp only; rw [if_neg hlh, if_pos hfu]
    rw [hsp]
    refine xC.of rfl (Nat.le_of_ble_eq_true rfl) ?_
    intro p_ e_ s_ m_ ar_ bl_ me_ c_ ls X hl
    have hl : lz ls 4 [some (.ref (a 0)), some (.int (nI j)), some (.int lw), some (.int hg)] := hl
    have hS : va_S (mFr a) H0 H0 [] := va_S.rf
    refine x_aload_n X d_M_pushFront_0 rfl hl rfl ?_
    refine x_iload_n X d_M_pushFront_1 rfl hl rfl ?_
    refine x_goR (x_runV X (C_M_none_f l D A _ a lo hi q.2.2.length q.2.1.1 q.1.length n q.2.1.2 mk pl ct w hP j hj (by omega)) b_M_none s_M_none v_M_none e_M_109 (m_at hP) rfl rfl hl rfl (Nat.le_of_ble_eq_true rfl) d_M_pushFront_2 (Nat.le_of_ble_eq_true rfl) (Nat.le_of_ble_eq_true rfl) ⟨Nat.le_of_ble_eq_true rfl, Nat.le_of_ble_eq_true rfl⟩) hS (fun locs hS => ?_)
    refine n_if_ne X 13 d_M_pushFront_5 rfl (by decide) (fun hc => absurd rfl hc) (fun hc => ?_)
    refine x_iload_n X d_M_pushFront_8 rfl hl rfl ?_
    refine x_iload_n X d_M_pushFront_9 rfl hl rfl ?_
    refine x_icmp_le X 15 d_M_pushFront_10 rfl (fun _ => ?_) (fun h => absurd (Int32.not_le.1 h) hlh)
    refine x_aload_n X d_M_pushFront_15 rfl hl rfl ?_
    refine m_get X hP 8 (by decide) e_M_30 rfl d_M_pushFront_16 ?_
    refine x_bipush (v := nI 120) X d_M_pushFront_19 rfl ?_
    refine n_icmp_ge X 35 d_M_pushFront_21 rfl (by omega) (by omega) (fun hc => ?_) (fun hc => ?_)
    · skip
      refine x_bipush (v := -2) X d_M_pushFront_35 rfl ?_
      exact x_iret X hS (Nat.le_refl _) (Nat.le_refl _) d_M_pushFront_37 ⟨rfl, _, _, _, _, _, _, _, _, _, _, _, hR, hP⟩
    refine x_aload_n X d_M_pushFront_24 rfl hl rfl ?_
    refine m_get X hP 7 (by decide) e_M_27 rfl d_M_pushFront_25 ?_
    refine x_iload_n X d_M_pushFront_28 rfl hl rfl ?_
    refine m_ld_ct X hP (by omega) d_M_pushFront_29 ?_
    refine x_bipush (v := nI 40) X d_M_pushFront_30 rfl ?_
    rw [hct]
    refine n_icmp_lt X 38 d_M_pushFront_32 rfl (by omega) (by omega) (fun hc => absurd hc (by omega)) (fun hc => ?_)
    refine x_bipush (v := -2) X d_M_pushFront_35 rfl ?_
    exact x_iret X hS (Nat.le_refl _) (Nat.le_refl _) d_M_pushFront_37 ⟨rfl, _, _, _, _, _, _, _, _, _, _, _, hR, hP⟩
  have hok := sp_pushFront_ok hq (nI j) lw hg
  have hsp : sp_pushFront q (nI j) lw hg = (nI q.1.length, (q.1 ++ [(ft_fr (sp_new q) t.1 t.2 q.2.1).1], (ft_fr (sp_new q) t.1 t.2 q.2.1).2, q.2.2 ++ [(lw, hg)])) := by unfold sp_pushFront; rw [hat]; dsimp only; rw [if_neg hlh, if_neg hfu]; rfl
  rw [hsp] at hok ⊢
  have hmd := sp_md hok
  dsimp only at hmd
  refine xC.of rfl (Nat.le_of_ble_eq_true rfl) ?_
  intro p_ e_ s_ m_ ar_ bl_ me_ c_ ls X hl
  have hl : lz ls 4 [some (.ref (a 0)), some (.int (nI j)), some (.int lw), some (.int hg)] := hl
  have hS : va_S (mFr a) H0 H0 [] := va_S.rf
  refine x_aload_n X d_M_pushFront_0 rfl hl rfl ?_
  refine x_iload_n X d_M_pushFront_1 rfl hl rfl ?_
  refine x_goR (x_runV X (C_M_none_f l D A _ a lo hi q.2.2.length q.2.1.1 q.1.length n q.2.1.2 mk pl ct w hP j hj (by omega)) b_M_none s_M_none v_M_none e_M_109 (m_at hP) rfl rfl hl rfl (Nat.le_of_ble_eq_true rfl) d_M_pushFront_2 (Nat.le_of_ble_eq_true rfl) (Nat.le_of_ble_eq_true rfl) ⟨Nat.le_of_ble_eq_true rfl, Nat.le_of_ble_eq_true rfl⟩) hS (fun locs hS => ?_)
  refine n_if_ne X 13 d_M_pushFront_5 rfl (by decide) (fun hc => absurd rfl hc) (fun hc => ?_)
  refine x_iload_n X d_M_pushFront_8 rfl hl rfl ?_
  refine x_iload_n X d_M_pushFront_9 rfl hl rfl ?_
  refine x_icmp_le X 15 d_M_pushFront_10 rfl (fun _ => ?_) (fun h => absurd (Int32.not_le.1 h) hlh)
  refine x_aload_n X d_M_pushFront_15 rfl hl rfl ?_
  refine m_get X hP 8 (by decide) e_M_30 rfl d_M_pushFront_16 ?_
  refine x_bipush (v := nI 120) X d_M_pushFront_19 rfl ?_
  refine n_icmp_ge X 35 d_M_pushFront_21 rfl (by omega) (by omega) (fun hc => absurd hc (by omega)) (fun hc => ?_)
  refine x_aload_n X d_M_pushFront_24 rfl hl rfl ?_
  refine m_get X hP 7 (by decide) e_M_27 rfl d_M_pushFront_25 ?_
  refine x_iload_n X d_M_pushFront_28 rfl hl rfl ?_
  refine m_ld_ct X hP (by omega) d_M_pushFront_29 ?_
  refine x_bipush (v := nI 40) X d_M_pushFront_30 rfl ?_
  rw [hct]
  refine n_icmp_lt X 38 d_M_pushFront_32 rfl (by omega) (by omega) (fun hc => ?_) (fun hc => absurd hc (by omega))
  refine x_aload_n X d_M_pushFront_38 rfl hl rfl ?_
  refine x_iload_n X d_M_pushFront_39 rfl hl rfl ?_
  refine x_go0 (x_runV X (C_M_load l D A _ a lo hi q.2.2.length q.2.1.1 q.1.length n q.2.1.2 mk pl ct w hP hd j (by omega) (by omega)) b_M_load s_M_load v_M_load e_M_113 (m_at hP) rfl rfl hl rfl (Nat.le_of_ble_eq_true rfl) d_M_pushFront_40 (Nat.le_of_ble_eq_true rfl) (Nat.le_of_ble_eq_true rfl) ⟨Nat.le_of_ble_eq_true rfl, Nat.le_of_ble_eq_true rfl⟩) hS (fun _ h => h) (fun H locs hP hF hS => ?_)
  rw [hct] at hP
  have hw1 := ft_ld_bw (j := j) (m := ft_zT t.1 t.2) h9 h8
  have hd1 := ft_ld_hd (w := w) (m := ft_zT t.1 t.2) hpl (by rw [ft_wT_len]; exact Nat.le_refl _)
  generalize ft_ld w pl j (ft_zT t.1 t.2) = w1 at hP hw1 hd1
  have hto := sp_t_ok hq (List.mem_of_getElem? hjt) (q.2.2 ++ [(lw, hg)]) (by simp)
  have hno := sp_new_ok q lw hg (c := q.2.1)
  rw [List.length_append, List.length_singleton] at hto hno
  have hz1 : ft_z (sp_new q) = 1 := rfl
  refine x_aload_n X d_M_pushFront_43 rfl hl rfl ?_
  refine x_iconst (v := nI 0) X d_M_pushFront_44 rfl ?_
  refine x_iload_n X d_M_pushFront_45 rfl hl rfl ?_
  refine x_iload_n X d_M_pushFront_46 rfl hl rfl ?_
  refine x_go0 (x_runV X (C_M_put l D A _ a lo hi q.2.2.length q.2.1.1 q.1.length (ft_zT t.1 t.2) q.2.1.2 mk pl ct w1 hP hd 0 lw hg (Nat.zero_le _) (by omega) (by omega)) b_M_put s_M_put v_M_put e_M_117 (m_at hP) rfl rfl hl rfl (Nat.le_of_ble_eq_true rfl) d_M_pushFront_47 (Nat.le_of_ble_eq_true rfl) (Nat.le_of_ble_eq_true rfl) ⟨Nat.le_of_ble_eq_true rfl, Nat.le_of_ble_eq_true rfl⟩) hS (fun _ h => h) (fun H locs hP hF hS => ?_)
  obtain ⟨-, b2, b3⟩ := ft_pu_hd (L1 := []) (v := q.2.2.length + 384) (ft_hd_nil _ _) hd1 (Nat.zero_le _) (by rw [ft_wT_len, Nat.zero_add]; exact Nat.le_refl _)
  have hw2 := ft_up_bw (p := 0) (v := q.2.2.length + 384) (ft_sh_bw (p := 0) (n := ft_zT t.1 t.2) hw1) (by omega)
  rw [← ft_wI_num] at b2
  change ft_bw (va_up (ft_sg w1 0 (ft_zT t.1 t.2)) 0 (q.2.2.length + 384)) at hw2
  generalize va_up (ft_sg w1 0 (ft_zT t.1 t.2)) 0 (q.2.2.length + 384) = w2 at hP hw2 b2 b3
  refine x_aload_n X d_M_pushFront_50 rfl hl rfl ?_
  refine x_iconst (v := nI 0) X d_M_pushFront_51 rfl ?_
  refine x_iconst (v := nI 0) X d_M_pushFront_52 rfl ?_
  refine x_go0 (x_runV X (C_M_front l D A _ a (upd lo q.2.2.length lw) (upd hi q.2.2.length hg) (q.2.2.length + 1) q.2.1.1 q.1.length (ft_zT t.1 t.2 + 1) q.2.1.2 mk pl ct w2 hP hd hw2 hq.2 (by omega) (by omega) 0 0 (sp_new q) t.1 t.2 3 hno hto b2 b3 (by decide) (by omega) (by omega) (fun h => absurd h (by omega)) hmd) b_M_front s_M_front v_M_front e_M_98 (m_at hP) rfl rfl hl rfl (Nat.le_of_ble_eq_true rfl) d_M_pushFront_53 (Nat.le_of_ble_eq_true rfl) (Nat.le_of_ble_eq_true rfl) ⟨Nat.le_of_ble_eq_true rfl, Nat.le_of_ble_eq_true rfl⟩) hS (fun _ h => h) (fun H locs hP hF hS => ?_)
  obtain ⟨w3, hP, hw3, b4, b5⟩ := hP
  refine x_aload_n X d_M_pushFront_56 rfl hl rfl ?_
  refine x_iconst (v := nI 0) X d_M_pushFront_57 rfl ?_
  refine x_aload_n X d_M_pushFront_58 rfl hl rfl ?_
  refine m_get X hP 10 (by decide) e_M_37 rfl d_M_pushFront_59 ?_
  refine x_go1 (x_runV X (C_M_store l D A _ a (upd lo q.2.2.length lw) (upd hi q.2.2.length hg) (q.2.2.length + 1) (ft_fr (sp_new q) t.1 t.2 q.2.1).2.1 q.1.length (ft_zT t.1 t.2 + 1) (ft_fr (sp_new q) t.1 t.2 q.2.1).2.2 mk pl ct w3 hP hd 0 (ft_zT t.1 t.2 + 1) (Nat.zero_le _) (by omega) (by omega) (by omega)) b_M_store s_M_store v_M_store e_M_120 (m_at hP) rfl rfl hl rfl (Nat.le_of_ble_eq_true rfl) d_M_pushFront_62 (Nat.le_of_ble_eq_true rfl) (Nat.le_of_ble_eq_true rfl) ⟨Nat.le_of_ble_eq_true rfl, Nat.le_of_ble_eq_true rfl⟩) hS (fun _ h => h) (fun H locs hP hF hS => ?_)
  have hzz := ft_fr_z t.1 (sp_new q) t.2 q.2.1
  refine x_iret X hS (Nat.le_refl _) (Nat.le_refl _) d_M_pushFront_65 ⟨rfl, _, _, _, _, _, _, _, _, _, _, _, ?_, hP⟩
  have hk := mR_keep (t := (ft_fr (sp_new q) t.1 t.2 q.2.1).1) (c := (ft_fr (sp_new q) t.1 t.2 q.2.1).2) (e := q.2.2 ++ [(lw, hg)]) (m := (ft_zT t.1 t.2 + 1) - 0) (n' := (ft_zT t.1 t.2 + 1)) hR hq (mR_ent h5) b4 (by omega) hw3 (by omega)
  rw [List.length_append, List.length_singleton] at hk
  exact hk
set_option maxRecDepth 100000 in
set_option maxHeartbeats 4000000 in
theorem A_M_pushBack (l : Launch) (D : va_G) (A : Nat → ClassId) (H0 : Heap) (a : Nat → Nat) (hd : mDs a) (q : ft_Q) (hq : sp_ok2 q) (hI : mI D a A q H0) (v : Int32) (lw : Int32) (hg : Int32) : xC l y_M_pushBack c_M_pushBack 4 (some .int) 7 D A H0 [.ref (a 0), .int v, .int lw, .int hg] (mFr a) (q1 (.int (sp_pushBack q v lw hg).1) (fun H1 => mI D a A (sp_pushBack q v lw hg).2 H1)) 0 0 := by
  obtain ⟨lo, hi, en, zf, mk, md, pl, ct, vs, w, n, hR, hP⟩ := hI
  obtain ⟨⟨rfl, rfl, rfl, rfl⟩, h5, h6, h7, h8, h9, h10⟩ := id hR
  have hl1 := hq.1.1
  have hl2 := hq.1.2.1
  have hl3 := hq.1.2.2.2.1
  have hmd0 := sp_md hq
  rcases sp_at_cases hq v with ⟨hv, hat⟩ | ⟨j, t, rfl, hj, hjt, hat⟩
  · skip
    have hsp : sp_pushBack q v lw hg = ((-1 : Int32), q) := by unfold sp_pushBack; rw [hat]
    rw [hsp]
    refine xC.of rfl (Nat.le_of_ble_eq_true rfl) ?_
    intro p_ e_ s_ m_ ar_ bl_ me_ c_ ls X hl
    have hl : lz ls 4 [some (.ref (a 0)), some (.int v), some (.int lw), some (.int hg)] := hl
    have hS : va_S (mFr a) H0 H0 [] := va_S.rf
    refine x_aload_n X d_M_pushBack_0 rfl hl rfl ?_
    refine x_iload_n X d_M_pushBack_1 rfl hl rfl ?_
    refine x_goR (x_runV X (C_M_none_t l D A _ a lo hi q.2.2.length q.2.1.1 q.1.length n q.2.1.2 mk pl ct w hP v hv) b_M_none s_M_none v_M_none e_M_109 (m_at hP) rfl rfl hl rfl (Nat.le_of_ble_eq_true rfl) d_M_pushBack_2 (Nat.le_of_ble_eq_true rfl) (Nat.le_of_ble_eq_true rfl) ⟨Nat.le_of_ble_eq_true rfl, Nat.le_of_ble_eq_true rfl⟩) hS (fun locs hS => ?_)
    refine n_if_ne X 13 d_M_pushBack_5 rfl (by decide) (fun hc => ?_) (fun hc => absurd hc (by decide))
    refine x_iconst (v := -1) X d_M_pushBack_13 rfl ?_
    exact x_iret X hS (Nat.le_refl _) (Nat.le_refl _) d_M_pushBack_14 ⟨rfl, _, _, _, _, _, _, _, _, _, _, _, hR, hP⟩
  have ht := hq.1.2.2.1 t (List.mem_of_getElem? hjt)
  obtain ⟨hct, hpl⟩ := h6 j t hjt
  have hz40 := ht.2
  by_cases hlh : hg < lw
  · skip
    have hsp : sp_pushBack q (nI j) lw hg = ((-1 : Int32), q) := by unfold sp_pushBack; rw [hat]; dsimp only; rw [if_pos hlh]
    rw [hsp]
    refine xC.of rfl (Nat.le_of_ble_eq_true rfl) ?_
    intro p_ e_ s_ m_ ar_ bl_ me_ c_ ls X hl
    have hl : lz ls 4 [some (.ref (a 0)), some (.int (nI j)), some (.int lw), some (.int hg)] := hl
    have hS : va_S (mFr a) H0 H0 [] := va_S.rf
    refine x_aload_n X d_M_pushBack_0 rfl hl rfl ?_
    refine x_iload_n X d_M_pushBack_1 rfl hl rfl ?_
    refine x_goR (x_runV X (C_M_none_f l D A _ a lo hi q.2.2.length q.2.1.1 q.1.length n q.2.1.2 mk pl ct w hP j hj (by omega)) b_M_none s_M_none v_M_none e_M_109 (m_at hP) rfl rfl hl rfl (Nat.le_of_ble_eq_true rfl) d_M_pushBack_2 (Nat.le_of_ble_eq_true rfl) (Nat.le_of_ble_eq_true rfl) ⟨Nat.le_of_ble_eq_true rfl, Nat.le_of_ble_eq_true rfl⟩) hS (fun locs hS => ?_)
    refine n_if_ne X 13 d_M_pushBack_5 rfl (by decide) (fun hc => absurd rfl hc) (fun hc => ?_)
    refine x_iload_n X d_M_pushBack_8 rfl hl rfl ?_
    refine x_iload_n X d_M_pushBack_9 rfl hl rfl ?_
    refine x_icmp_le X 15 d_M_pushBack_10 rfl (fun h => absurd hlh (Int32.not_lt.2 h)) (fun _ => ?_)
    refine x_iconst (v := -1) X d_M_pushBack_13 rfl ?_
    exact x_iret X hS (Nat.le_refl _) (Nat.le_refl _) d_M_pushBack_14 ⟨rfl, _, _, _, _, _, _, _, _, _, _, _, hR, hP⟩
  by_cases hfu : 120 ≤ q.1.length ∨ 40 ≤ ft_zT t.1 t.2
  · skip
    have hsp : sp_pushBack q (nI j) lw hg = ((-2 : Int32), q) := by unfold sp_pushBack; rw [hat]; dsimp only; rw [if_neg hlh, if_pos hfu]
    rw [hsp]
    refine xC.of rfl (Nat.le_of_ble_eq_true rfl) ?_
    intro p_ e_ s_ m_ ar_ bl_ me_ c_ ls X hl
    have hl : lz ls 4 [some (.ref (a 0)), some (.int (nI j)), some (.int lw), some (.int hg)] := hl
    have hS : va_S (mFr a) H0 H0 [] := va_S.rf
    refine x_aload_n X d_M_pushBack_0 rfl hl rfl ?_
    refine x_iload_n X d_M_pushBack_1 rfl hl rfl ?_
    refine x_goR (x_runV X (C_M_none_f l D A _ a lo hi q.2.2.length q.2.1.1 q.1.length n q.2.1.2 mk pl ct w hP j hj (by omega)) b_M_none s_M_none v_M_none e_M_109 (m_at hP) rfl rfl hl rfl (Nat.le_of_ble_eq_true rfl) d_M_pushBack_2 (Nat.le_of_ble_eq_true rfl) (Nat.le_of_ble_eq_true rfl) ⟨Nat.le_of_ble_eq_true rfl, Nat.le_of_ble_eq_true rfl⟩) hS (fun locs hS => ?_)
    refine n_if_ne X 13 d_M_pushBack_5 rfl (by decide) (fun hc => absurd rfl hc) (fun hc => ?_)
    refine x_iload_n X d_M_pushBack_8 rfl hl rfl ?_
    refine x_iload_n X d_M_pushBack_9 rfl hl rfl ?_
    refine x_icmp_le X 15 d_M_pushBack_10 rfl (fun _ => ?_) (fun h => absurd (Int32.not_le.1 h) hlh)
    refine x_aload_n X d_M_pushBack_15 rfl hl rfl ?_
    refine m_get X hP 8 (by decide) e_M_30 rfl d_M_pushBack_16 ?_
    refine x_bipush (v := nI 120) X d_M_pushBack_19 rfl ?_
    refine n_icmp_ge X 35 d_M_pushBack_21 rfl (by omega) (by omega) (fun hc => ?_) (fun hc => ?_)
    · skip
      refine x_bipush (v := -2) X d_M_pushBack_35 rfl ?_
      exact x_iret X hS (Nat.le_refl _) (Nat.le_refl _) d_M_pushBack_37 ⟨rfl, _, _, _, _, _, _, _, _, _, _, _, hR, hP⟩
    refine x_aload_n X d_M_pushBack_24 rfl hl rfl ?_
    refine m_get X hP 7 (by decide) e_M_27 rfl d_M_pushBack_25 ?_
    refine x_iload_n X d_M_pushBack_28 rfl hl rfl ?_
    refine m_ld_ct X hP (by omega) d_M_pushBack_29 ?_
    refine x_bipush (v := nI 40) X d_M_pushBack_30 rfl ?_
    rw [hct]
    refine n_icmp_lt X 38 d_M_pushBack_32 rfl (by omega) (by omega) (fun hc => absurd hc (by omega)) (fun hc => ?_)
    refine x_bipush (v := -2) X d_M_pushBack_35 rfl ?_
    exact x_iret X hS (Nat.le_refl _) (Nat.le_refl _) d_M_pushBack_37 ⟨rfl, _, _, _, _, _, _, _, _, _, _, _, hR, hP⟩
  have hok := sp_pushBack_ok hq (nI j) lw hg
  have hsp : sp_pushBack q (nI j) lw hg = (nI q.1.length, (q.1 ++ [(ft_bk t.1 t.2 (sp_new q) q.2.1).1], (ft_bk t.1 t.2 (sp_new q) q.2.1).2, q.2.2 ++ [(lw, hg)])) := by unfold sp_pushBack; rw [hat]; dsimp only; rw [if_neg hlh, if_neg hfu]; rfl
  rw [hsp] at hok ⊢
  have hmd := sp_md hok
  dsimp only at hmd
  refine xC.of rfl (Nat.le_of_ble_eq_true rfl) ?_
  intro p_ e_ s_ m_ ar_ bl_ me_ c_ ls X hl
  have hl : lz ls 4 [some (.ref (a 0)), some (.int (nI j)), some (.int lw), some (.int hg)] := hl
  have hS : va_S (mFr a) H0 H0 [] := va_S.rf
  refine x_aload_n X d_M_pushBack_0 rfl hl rfl ?_
  refine x_iload_n X d_M_pushBack_1 rfl hl rfl ?_
  refine x_goR (x_runV X (C_M_none_f l D A _ a lo hi q.2.2.length q.2.1.1 q.1.length n q.2.1.2 mk pl ct w hP j hj (by omega)) b_M_none s_M_none v_M_none e_M_109 (m_at hP) rfl rfl hl rfl (Nat.le_of_ble_eq_true rfl) d_M_pushBack_2 (Nat.le_of_ble_eq_true rfl) (Nat.le_of_ble_eq_true rfl) ⟨Nat.le_of_ble_eq_true rfl, Nat.le_of_ble_eq_true rfl⟩) hS (fun locs hS => ?_)
  refine n_if_ne X 13 d_M_pushBack_5 rfl (by decide) (fun hc => absurd rfl hc) (fun hc => ?_)
  refine x_iload_n X d_M_pushBack_8 rfl hl rfl ?_
  refine x_iload_n X d_M_pushBack_9 rfl hl rfl ?_
  refine x_icmp_le X 15 d_M_pushBack_10 rfl (fun _ => ?_) (fun h => absurd (Int32.not_le.1 h) hlh)
  refine x_aload_n X d_M_pushBack_15 rfl hl rfl ?_
  refine m_get X hP 8 (by decide) e_M_30 rfl d_M_pushBack_16 ?_
  refine x_bipush (v := nI 120) X d_M_pushBack_19 rfl ?_
  refine n_icmp_ge X 35 d_M_pushBack_21 rfl (by omega) (by omega) (fun hc => absurd hc (by omega)) (fun hc => ?_)
  refine x_aload_n X d_M_pushBack_24 rfl hl rfl ?_
  refine m_get X hP 7 (by decide) e_M_27 rfl d_M_pushBack_25 ?_
  refine x_iload_n X d_M_pushBack_28 rfl hl rfl ?_
  refine m_ld_ct X hP (by omega) d_M_pushBack_29 ?_
  refine x_bipush (v := nI 40) X d_M_pushBack_30 rfl ?_
  rw [hct]
  refine n_icmp_lt X 38 d_M_pushBack_32 rfl (by omega) (by omega) (fun hc => ?_) (fun hc => absurd hc (by omega))
  refine x_aload_n X d_M_pushBack_38 rfl hl rfl ?_
  refine x_iload_n X d_M_pushBack_39 rfl hl rfl ?_
  refine x_go0 (x_runV X (C_M_load l D A _ a lo hi q.2.2.length q.2.1.1 q.1.length n q.2.1.2 mk pl ct w hP hd j (by omega) (by omega)) b_M_load s_M_load v_M_load e_M_113 (m_at hP) rfl rfl hl rfl (Nat.le_of_ble_eq_true rfl) d_M_pushBack_40 (Nat.le_of_ble_eq_true rfl) (Nat.le_of_ble_eq_true rfl) ⟨Nat.le_of_ble_eq_true rfl, Nat.le_of_ble_eq_true rfl⟩) hS (fun _ h => h) (fun H locs hP hF hS => ?_)
  rw [hct] at hP
  have hw1 := ft_ld_bw (j := j) (m := ft_zT t.1 t.2) h9 h8
  have hd1 := ft_ld_hd (w := w) (m := ft_zT t.1 t.2) hpl (by rw [ft_wT_len]; exact Nat.le_refl _)
  generalize ft_ld w pl j (ft_zT t.1 t.2) = w1 at hP hw1 hd1
  have hto := sp_t_ok hq (List.mem_of_getElem? hjt) (q.2.2 ++ [(lw, hg)]) (by simp)
  have hno := sp_new_ok q lw hg (c := q.2.1)
  rw [List.length_append, List.length_singleton] at hto hno
  have hz1 : ft_z (sp_new q) = 1 := rfl
  refine x_aload_n X d_M_pushBack_43 rfl hl rfl ?_
  refine x_aload_n X d_M_pushBack_44 rfl hl rfl ?_
  refine m_get X hP 10 (by decide) e_M_37 rfl d_M_pushBack_45 ?_
  refine x_iload_n X d_M_pushBack_48 rfl hl rfl ?_
  refine x_iload_n X d_M_pushBack_49 rfl hl rfl ?_
  refine x_go0 (x_runV X (C_M_put l D A _ a lo hi q.2.2.length q.2.1.1 q.1.length (ft_zT t.1 t.2) q.2.1.2 mk pl ct w1 hP hd (ft_zT t.1 t.2) lw hg (Nat.le_refl _) (by omega) (by omega)) b_M_put s_M_put v_M_put e_M_117 (m_at hP) rfl rfl hl rfl (Nat.le_of_ble_eq_true rfl) d_M_pushBack_50 (Nat.le_of_ble_eq_true rfl) (Nat.le_of_ble_eq_true rfl) ⟨Nat.le_of_ble_eq_true rfl, Nat.le_of_ble_eq_true rfl⟩) hS (fun _ h => h) (fun H locs hP hF hS => ?_)
  obtain ⟨b3, b2, -⟩ := ft_pu_hd (p := ft_zT t.1 t.2) (L2 := []) (v := q.2.2.length + 384) hd1 (ft_hd_nil _ _) (by rw [ft_wT_len]; exact Nat.le_refl _) (Nat.le_refl _)
  have hw2 := ft_up_bw (p := ft_zT t.1 t.2) (v := q.2.2.length + 384) (ft_sh_bw (p := ft_zT t.1 t.2) (n := ft_zT t.1 t.2) hw1) (by omega)
  rw [← ft_wI_num] at b2
  change ft_bw (va_up (ft_sg w1 (ft_zT t.1 t.2) (ft_zT t.1 t.2)) (ft_zT t.1 t.2) (q.2.2.length + 384)) at hw2
  generalize va_up (ft_sg w1 (ft_zT t.1 t.2) (ft_zT t.1 t.2)) (ft_zT t.1 t.2) (q.2.2.length + 384) = w2 at hP hw2 b2 b3
  refine x_aload_n X d_M_pushBack_53 rfl hl rfl ?_
  refine x_aload_n X d_M_pushBack_54 rfl hl rfl ?_
  refine m_get X hP 10 (by decide) e_M_37 rfl d_M_pushBack_55 ?_
  refine x_iconst (v := nI 0) X d_M_pushBack_58 rfl ?_
  rw [show ft_zT t.1 t.2 + 1 = 0 + ft_zT t.1 t.2 + ft_z (sp_new q) from by omega] at hP ⊢
  refine x_go0 (x_runV X (C_M_back l D A _ a (upd lo q.2.2.length lw) (upd hi q.2.2.length hg) (q.2.2.length + 1) q.2.1.1 q.1.length (0 + ft_zT t.1 t.2 + ft_z (sp_new q)) q.2.1.2 mk pl ct w2 hP hd hw2 hq.2 (by omega) (by omega) 0 0 (sp_new q) t.1 t.2 3 hno hto b3 (by rw [Nat.zero_add]; exact b2) (by decide) (by omega) (Nat.le_refl _) (fun h => absurd h (by decide)) hmd) b_M_back s_M_back v_M_back e_M_101 (m_at hP) rfl rfl hl rfl (Nat.le_of_ble_eq_true rfl) d_M_pushBack_59 (Nat.le_of_ble_eq_true rfl) (Nat.le_of_ble_eq_true rfl) ⟨Nat.le_of_ble_eq_true rfl, Nat.le_of_ble_eq_true rfl⟩) hS (fun _ h => h) (fun H locs hP hF hS => ?_)
  obtain ⟨w3, hP, hw3, b4, b5⟩ := hP
  refine x_aload_n X d_M_pushBack_62 rfl hl rfl ?_
  refine x_iconst (v := nI 0) X d_M_pushBack_63 rfl ?_
  refine x_aload_n X d_M_pushBack_64 rfl hl rfl ?_
  refine m_get X hP 10 (by decide) e_M_37 rfl d_M_pushBack_65 ?_
  refine x_go1 (x_runV X (C_M_store l D A _ a (upd lo q.2.2.length lw) (upd hi q.2.2.length hg) (q.2.2.length + 1) (ft_bk t.1 t.2 (sp_new q) q.2.1).2.1 q.1.length (0 + ft_zT t.1 t.2 + ft_z (sp_new q)) (ft_bk t.1 t.2 (sp_new q) q.2.1).2.2 mk pl ct w3 hP hd 0 (0 + ft_zT t.1 t.2 + ft_z (sp_new q)) (Nat.zero_le _) (by omega) (by omega) (by omega)) b_M_store s_M_store v_M_store e_M_120 (m_at hP) rfl rfl hl rfl (Nat.le_of_ble_eq_true rfl) d_M_pushBack_68 (Nat.le_of_ble_eq_true rfl) (Nat.le_of_ble_eq_true rfl) ⟨Nat.le_of_ble_eq_true rfl, Nat.le_of_ble_eq_true rfl⟩) hS (fun _ h => h) (fun H locs hP hF hS => ?_)
  have hzz := ft_bk_z t.1 (sp_new q) t.2 q.2.1
  refine x_iret X hS (Nat.le_refl _) (Nat.le_refl _) d_M_pushBack_71 ⟨rfl, _, _, _, _, _, _, _, _, _, _, _, ?_, hP⟩
  have hk := mR_keep (t := (ft_bk t.1 t.2 (sp_new q) q.2.1).1) (c := (ft_bk t.1 t.2 (sp_new q) q.2.1).2) (e := q.2.2 ++ [(lw, hg)]) (m := (0 + ft_zT t.1 t.2 + ft_z (sp_new q)) - 0) (n' := (0 + ft_zT t.1 t.2 + ft_z (sp_new q))) hR hq (mR_ent h5) b4 (by omega) hw3 (by omega)
  rw [List.length_append, List.length_singleton] at hk
  exact hk
