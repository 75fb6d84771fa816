/-! The reference, call by call: length, low, high, rank, made, meeting, digit, spine. -/
set_option maxRecDepth 100000 in
set_option maxHeartbeats 4000000 in
theorem C_M_out_t (l : Launch) (D : va_G) (A : Nat → ClassId) (H0 : Heap) (a : Nat → Nat) (lo hi : Nat → Int32) (en md vs n : Nat) (zf mk pl ct w : Nat → Nat) (hP : mH D a A lo hi en zf mk md pl ct vs w n H0) (hvs : vs ≤ 120) (v p : Int32) (ho : (v < 0 ∨ nI vs ≤ v) ∨ ∃ j, v = nI j ∧ j < vs ∧ (p < 0 ∨ nI (ct j) ≤ p)) : xC l y_M_outside c_M_outside 3 (some .boolean) 1 D A H0 [.ref (a 0), .int v, .int p] (fun _ => False) (q1 (.int (nI 1)) (fun H1 => H1 = H0)) 0 0 := by
  refine xC.of rfl (Nat.le_of_ble_eq_true rfl) ?_
  intro p_ e_ s_ m_ ar_ bl_ me_ c_ ls X hl
  have hl : lz ls 3 [some (.ref (a 0)), some (.int v), some (.int p)] := hl
  have hS : va_S (fun _ => False) H0 H0 [] := va_S.rf
  have fin : ∀ (locs : List Loc), va_S (fun _ => False) H0 H0 locs → W p_ l e_ (x_rm 1 0 0) s_ m_ ar_ bl_ me_ c_ H0 locs 0 0 (MQ bl_ (xQ (fun _ => False) (q1 (.int (nI 1)) (fun H1 => H1 = H0))) ar_ s_ 0 0 (fun _ => False)) (F0 m_ 22 ls []) := by
    intro locs hS
    refine x_iconst (v := nI 1) X d_M_outside_22 rfl ?_
    refine x_goto X 27 d_M_outside_23 rfl ?_
    exact x_zret X hS (Nat.le_refl _) (Nat.le_refl _) d_M_outside_27 rfl ⟨rfl, rfl⟩
  rcases ho with hv | ⟨j, rfl, hj, hp⟩
  · skip
    refine x_aload_n X d_M_outside_0 rfl hl rfl ?_
    refine x_iload_n X d_M_outside_1 rfl hl rfl ?_
    refine x_goR (x_runV X (C_M_none_t l D A _ a lo hi en md vs n zf mk pl ct w hP v hv) b_M_none s_M_none v_M_none e_M_109 (m_at hP) rfl rfl hl rfl (Nat.le_of_ble_eq_true rfl) d_M_outside_2 (Nat.le_of_ble_eq_true rfl) (Nat.le_of_ble_eq_true rfl) ⟨Nat.le_of_ble_eq_true rfl, Nat.le_of_ble_eq_true rfl⟩) hS (fun locs hS => ?_)
    refine n_if_ne X 22 d_M_outside_5 rfl (by decide) (fun hc => ?_) (fun hc => absurd hc (by decide))
    exact fin _ hS
  · skip
    refine x_aload_n X d_M_outside_0 rfl hl rfl ?_
    refine x_iload_n X d_M_outside_1 rfl hl rfl ?_
    refine x_goR (x_runV X (C_M_none_f l D A _ a lo hi en md vs n zf mk pl ct w hP j hj (by omega)) b_M_none s_M_none v_M_none e_M_109 (m_at hP) rfl rfl hl rfl (Nat.le_of_ble_eq_true rfl) d_M_outside_2 (Nat.le_of_ble_eq_true rfl) (Nat.le_of_ble_eq_true rfl) ⟨Nat.le_of_ble_eq_true rfl, Nat.le_of_ble_eq_true rfl⟩) hS (fun locs hS => ?_)
    refine n_if_ne X 22 d_M_outside_5 rfl (by decide) (fun hc => absurd rfl hc) (fun hc => ?_)
    refine x_iload_n X d_M_outside_8 rfl hl rfl ?_
    refine x_if_lt X 22 d_M_outside_9 rfl (fun _ => fin _ hS) (fun h0 => ?_)
    refine x_iload_n X d_M_outside_12 rfl hl rfl ?_
    refine x_aload_n X d_M_outside_13 rfl hl rfl ?_
    refine m_get X hP 7 (by decide) e_M_27 rfl d_M_outside_14 ?_
    refine x_iload_n X d_M_outside_17 rfl hl rfl ?_
    refine m_ld_ct X hP (by omega) d_M_outside_18 ?_
    refine x_icmp_lt X 26 d_M_outside_19 rfl (fun h => ?_) (fun _ => fin _ hS)
    rcases hp with hp | hp
    · exact absurd hp h0
    · exact absurd h (Int32.not_lt.2 hp)
set_option maxRecDepth 100000 in
set_option maxHeartbeats 4000000 in
theorem C_M_out_f (l : Launch) (D : va_G) (A : Nat → ClassId) (H0 : Heap) (a : Nat → Nat) (lo hi : Nat → Int32) (en md vs n : Nat) (zf mk pl ct w : Nat → Nat) (hP : mH D a A lo hi en zf mk md pl ct vs w n H0) (hvs : vs ≤ 120) (j pp : Nat) (hj : j < vs) (hp : pp < ct j) (hc : ct j ≤ 40) : xC l y_M_outside c_M_outside 3 (some .boolean) 1 D A H0 [.ref (a 0), .int (nI j), .int (nI pp)] (fun _ => False) (q1 (.int (nI 0)) (fun H1 => H1 = H0)) 0 0 := by
  refine xC.of rfl (Nat.le_of_ble_eq_true rfl) ?_
  intro p_ e_ s_ m_ ar_ bl_ me_ c_ ls X hl
  have hl : lz ls 3 [some (.ref (a 0)), some (.int (nI j)), some (.int (nI pp))] := hl
  have hS : va_S (fun _ => False) H0 H0 [] := va_S.rf
  refine x_aload_n X d_M_outside_0 rfl hl rfl ?_
  refine x_iload_n X d_M_outside_1 rfl hl rfl ?_
  refine x_goR (x_runV X (C_M_none_f l D A _ a lo hi en md vs n zf mk pl ct w hP j hj (by omega)) b_M_none s_M_none v_M_none e_M_109 (m_at hP) rfl rfl hl rfl (Nat.le_of_ble_eq_true rfl) d_M_outside_2 (Nat.le_of_ble_eq_true rfl) (Nat.le_of_ble_eq_true rfl) ⟨Nat.le_of_ble_eq_true rfl, Nat.le_of_ble_eq_true rfl⟩) hS (fun locs hS => ?_)
  refine n_if_ne X 22 d_M_outside_5 rfl (by decide) (fun hc => absurd rfl hc) (fun hc => ?_)
  refine x_iload_n X d_M_outside_8 rfl hl rfl ?_
  refine n_if_lt X 22 d_M_outside_9 rfl (by omega) (fun hc => absurd hc (Nat.not_lt_zero _)) (fun hc => ?_)
  refine x_iload_n X d_M_outside_12 rfl hl rfl ?_
  refine x_aload_n X d_M_outside_13 rfl hl rfl ?_
  refine m_get X hP 7 (by decide) e_M_27 rfl d_M_outside_14 ?_
  refine x_iload_n X d_M_outside_17 rfl hl rfl ?_
  refine m_ld_ct X hP (by omega) d_M_outside_18 ?_
  refine n_icmp_lt X 26 d_M_outside_19 rfl (by omega) (by omega) (fun hc => ?_) (fun hc => absurd hc (by omega))
  refine x_iconst (v := nI 0) X d_M_outside_26 rfl ?_
  exact x_zret X hS (Nat.le_refl _) (Nat.le_refl _) d_M_outside_27 rfl ⟨rfl, rfl⟩
theorem sp_pl_cases {q : ft_Q} (hq : sp_ok2 q) (v p : Int32) : (((v < 0 ∨ nI q.1.length ≤ v) ∨ ∃ j t, v = nI j ∧ j < q.1.length ∧ q.1[j]? = some t ∧ (p < 0 ∨ nI (ft_zT t.1 t.2) ≤ p)) ∧ sp_ent q v p = none ∧ sp_rank q v p = -1) ∨ ∃ (j : Nat) (t : ft_T) (pp : Nat), v = nI j ∧ p = nI pp ∧ j < q.1.length ∧ q.1[j]? = some t ∧ pp < ft_zT t.1 t.2 ∧ sp_ent q v p = (sp_es q t)[pp]? ∧ sp_rank q v p = (match (ft_lT t.1 t.2)[pp]? with
    | none => -1
    | some l => nI l.2.length) := by
  rcases sp_at_cases hq v with ⟨hv, hat⟩ | ⟨j, t, rfl, hj, hjt, hat⟩
  · exact Or.inl ⟨Or.inl hv, by unfold sp_ent; rw [hat], by unfold sp_rank; rw [hat]⟩
  · have hz := (hq.1.2.2.1 t (List.mem_of_getElem? hjt)).2
    rcases pk_ix p (n := ft_zT t.1 t.2) (by omega) with h | h | ⟨pp, hpp, rfl⟩
    · exact Or.inl ⟨Or.inr ⟨j, t, rfl, hj, hjt, Or.inl h⟩, by unfold sp_ent; rw [hat]; dsimp only; rw [if_pos h], by unfold sp_rank; rw [hat]; dsimp only; rw [if_pos h]⟩
    · have hn : ¬ p < 0 := fun h0 => nI_pos (by omega) (Int32.lt_of_le_of_lt h h0)
      obtain ⟨i, hi, e⟩ := nI_of hn
      subst e
      have hle := (nI_leI (by omega) hi).1 h
      exact Or.inl ⟨Or.inr ⟨j, t, rfl, hj, hjt, Or.inr h⟩, by unfold sp_ent; rw [hat]; dsimp only; rw [if_neg hn, nI_clamp hi]; exact List.getElem?_eq_none (by rw [sp_es_len]; omega), by unfold sp_rank; rw [hat]; dsimp only; rw [if_neg hn, nI_clamp hi, List.getElem?_eq_none (by rw [ft_lT_len]; omega)]⟩
    · exact Or.inr ⟨j, t, pp, rfl, rfl, hj, hjt, hpp, by unfold sp_ent; rw [hat]; dsimp only; rw [if_neg (nI_pos (by omega)), nI_clamp (by omega)], by unfold sp_rank; rw [hat]; dsimp only; rw [if_neg (nI_pos (by omega)), nI_clamp (by omega)]; cases (ft_lT t.1 t.2)[pp]? <;> rfl⟩
set_option maxRecDepth 100000 in
set_option maxHeartbeats 4000000 in
theorem A_M_made (l : Launch) (D : va_G) (A : Nat → ClassId) (H0 : Heap) (a : Nat → Nat) (q : ft_Q) (hq : sp_ok2 q) (hI : mI D a A q H0)  : xC l y_M_made c_M_made 1 (some .int) 0 D A H0 [.ref (a 0)] (fun _ => False) (q1 (.int (sp_made q)) (fun H1 => H1 = H0)) 0 0 := by
  obtain ⟨lo, hi, en, zf, mk, md, pl, ct, vs, w, n, hR, hP⟩ := hI
  obtain ⟨⟨rfl, rfl, rfl, rfl⟩, h5, h6, h7, h8, h9, h10⟩ := id hR
  have hl1 := hq.1.1
  have hl2 := hq.1.2.1
  have hl3 := hq.1.2.2.2.1
  have hmd0 := sp_md hq
  refine xC.of rfl (Nat.le_of_ble_eq_true rfl) ?_
  intro p_ e_ s_ m_ ar_ bl_ me_ c_ ls X hl
  have hl : lz ls 1 [some (.ref (a 0))] := hl
  have hS : va_S (fun _ => False) H0 H0 [] := va_S.rf
  refine x_aload_n X d_M_made_0 rfl hl rfl ?_
  refine m_get X hP 5 (by decide) e_M_53 rfl d_M_made_1 ?_
  exact x_iret X hS (Nat.le_refl _) (Nat.le_refl _) d_M_made_4 ⟨rfl, rfl⟩
set_option maxRecDepth 100000 in
set_option maxHeartbeats 4000000 in
theorem A_M_length (l : Launch) (D : va_G) (A : Nat → ClassId) (H0 : Heap) (a : Nat → Nat) (q : ft_Q) (hq : sp_ok2 q) (hI : mI D a A q H0) (v : Int32) : xC l y_M_length c_M_length 2 (some .int) 4 D A H0 [.ref (a 0), .int v] (fun _ => False) (q1 (.int (sp_length q v)) (fun H1 => H1 = H0)) 0 0 := by
  obtain ⟨lo, hi, en, zf, mk, md, pl, ct, vs, w, n, hR, hP⟩ := hI
  obtain ⟨⟨rfl, rfl, rfl, rfl⟩, h5, h6, h7, h8, h9, h10⟩ := id hR
  have hl1 := hq.1.1
  have hl2 := hq.1.2.1
  have hl3 := hq.1.2.2.2.1
  have hmd0 := sp_md hq
  rcases sp_at_cases hq v with ⟨hv, hat⟩ | ⟨j, t, rfl, hj, hjt, hat⟩
  · rw [show sp_length q v = -1 from by unfold sp_length; rw [hat]]
    refine xC.of rfl (Nat.le_of_ble_eq_true rfl) ?_
    intro p_ e_ s_ m_ ar_ bl_ me_ c_ ls X hl
    have hl : lz ls 2 [some (.ref (a 0)), some (.int v)] := hl
    have hS : va_S (fun _ => False) H0 H0 [] := va_S.rf
    refine x_aload_n X d_M_length_0 rfl hl rfl ?_
    refine x_iload_n X d_M_length_1 rfl hl rfl ?_
    refine x_goR (x_runV X (C_M_none_t l D A _ a lo hi q.2.2.length q.2.1.1 q.1.length n q.2.1.2 mk pl ct w hP v hv) b_M_none s_M_none v_M_none e_M_109 (m_at hP) rfl rfl hl rfl (Nat.le_of_ble_eq_true rfl) d_M_length_2 (Nat.le_of_ble_eq_true rfl) (Nat.le_of_ble_eq_true rfl) ⟨Nat.le_of_ble_eq_true rfl, Nat.le_of_ble_eq_true rfl⟩) hS (fun locs hS => ?_)
    refine n_if_eq X 12 d_M_length_5 rfl (by decide) (fun hc => absurd hc (by decide)) (fun hc => ?_)
    refine x_iconst (v := -1) X d_M_length_8 rfl ?_
    refine x_goto X 18 d_M_length_9 rfl ?_
    exact x_iret X hS (Nat.le_refl _) (Nat.le_refl _) d_M_length_18 ⟨rfl, rfl⟩
  have ht := hq.1.2.2.1 t (List.mem_of_getElem? hjt)
  obtain ⟨hct, hpl⟩ := h6 j t hjt
  have hz40 := ht.2
  rw [show sp_length q (nI j) = nI (ft_zT t.1 t.2) from by unfold sp_length; rw [hat]]
  refine xC.of rfl (Nat.le_of_ble_eq_true rfl) ?_
  intro p_ e_ s_ m_ ar_ bl_ me_ c_ ls X hl
  have hl : lz ls 2 [some (.ref (a 0)), some (.int (nI j))] := hl
  have hS : va_S (fun _ => False) H0 H0 [] := va_S.rf
  refine x_aload_n X d_M_length_0 rfl hl rfl ?_
  refine x_iload_n X d_M_length_1 rfl hl rfl ?_
  refine x_goR (x_runV X (C_M_none_f l D A _ a lo hi q.2.2.length q.2.1.1 q.1.length n q.2.1.2 mk pl ct w hP j hj (by omega)) b_M_none s_M_none v_M_none e_M_109 (m_at hP) rfl rfl hl rfl (Nat.le_of_ble_eq_true rfl) d_M_length_2 (Nat.le_of_ble_eq_true rfl) (Nat.le_of_ble_eq_true rfl) ⟨Nat.le_of_ble_eq_true rfl, Nat.le_of_ble_eq_true rfl⟩) hS (fun locs hS => ?_)
  refine n_if_eq X 12 d_M_length_5 rfl (by decide) (fun hc => ?_) (fun hc => absurd rfl hc)
  refine x_aload_n X d_M_length_12 rfl hl rfl ?_
  refine m_get X hP 7 (by decide) e_M_27 rfl d_M_length_13 ?_
  refine x_iload_n X d_M_length_16 rfl hl rfl ?_
  refine m_ld_ct X hP (by omega) d_M_length_17 ?_
  rw [hct]
  exact x_iret X hS (Nat.le_refl _) (Nat.le_refl _) d_M_length_18 ⟨rfl, rfl⟩
set_option maxRecDepth 100000 in
set_option maxHeartbeats 4000000 in
theorem A_M_low (l : Launch) (D : va_G) (A : Nat → ClassId) (H0 : Heap) (a : Nat → Nat) (q : ft_Q) (hq : sp_ok2 q) (hI : mI D a A q H0) (v : Int32) (p : Int32) : xC l y_M_low c_M_low 3 (some .int) 4 D A H0 [.ref (a 0), .int v, .int p] (fun _ => False) (q1 (.int (sp_low q v p)) (fun H1 => H1 = H0)) 0 0 := by
  obtain ⟨lo, hi, en, zf, mk, md, pl, ct, vs, w, n, hR, hP⟩ := hI
  obtain ⟨⟨rfl, rfl, rfl, rfl⟩, h5, h6, h7, h8, h9, h10⟩ := id hR
  have hl1 := hq.1.1
  have hl2 := hq.1.2.1
  have hl3 := hq.1.2.2.2.1
  have hmd0 := sp_md hq
  rcases sp_pl_cases hq v p with ⟨ho, he, -⟩ | ⟨j, t, pp, rfl, rfl, hj, hjt, hpp, he, -⟩
  · rw [show sp_low q v p = nI 0 from by unfold sp_low; rw [he]; rfl]
    refine xC.of rfl (Nat.le_of_ble_eq_true rfl) ?_
    intro p_ e_ s_ m_ ar_ bl_ me_ c_ ls X hl
    have hl : lz ls 3 [some (.ref (a 0)), some (.int v), some (.int p)] := hl
    have hS : va_S (fun _ => False) H0 H0 [] := va_S.rf
    refine x_aload_n X d_M_low_0 rfl hl rfl ?_
    refine x_iload_n X d_M_low_1 rfl hl rfl ?_
    refine x_iload_n X d_M_low_2 rfl hl rfl ?_
    refine x_goR (x_runV X (C_M_out_t l D A _ a lo hi q.2.2.length q.2.1.1 q.1.length n q.2.1.2 mk pl ct w hP (by omega) v p (by
    rcases ho with ho | ⟨j, t, e, hj, hjt, hp⟩
    · exact Or.inl ho
    · exact Or.inr ⟨j, e, hj, by rw [(h6 j t hjt).1]; exact hp⟩)) b_M_outside s_M_outside v_M_outside e_M_147 (m_at hP) rfl rfl hl rfl (Nat.le_of_ble_eq_true rfl) d_M_low_3 (Nat.le_of_ble_eq_true rfl) (Nat.le_of_ble_eq_true rfl) ⟨Nat.le_of_ble_eq_true rfl, Nat.le_of_ble_eq_true rfl⟩) hS (fun locs hS => ?_)
    refine n_if_eq X 13 d_M_low_6 rfl (by decide) (fun hc => absurd hc (by decide)) (fun hc => ?_)
    refine x_iconst (v := nI 0) X d_M_low_9 rfl ?_
    refine x_goto X 32 d_M_low_10 rfl ?_
    exact x_iret X hS (Nat.le_refl _) (Nat.le_refl _) d_M_low_32 ⟨rfl, rfl⟩
  have ht := hq.1.2.2.1 t (List.mem_of_getElem? hjt)
  obtain ⟨hct, hpl⟩ := h6 j t hjt
  have hz40 := ht.2
  obtain ⟨e, he1, he2, he3, he4⟩ := mR_at (p := pp) hq h5 (List.mem_of_getElem? hjt) hpl hpp
  rw [show sp_low q (nI j) (nI pp) = e.1 from by unfold sp_low; rw [he, he1]; rfl]
  refine xC.of rfl (Nat.le_of_ble_eq_true rfl) ?_
  intro p_ e_ s_ m_ ar_ bl_ me_ c_ ls X hl
  have hl : lz ls 3 [some (.ref (a 0)), some (.int (nI j)), some (.int (nI pp))] := hl
  have hS : va_S (fun _ => False) H0 H0 [] := va_S.rf
  refine x_aload_n X d_M_low_0 rfl hl rfl ?_
  refine x_iload_n X d_M_low_1 rfl hl rfl ?_
  refine x_iload_n X d_M_low_2 rfl hl rfl ?_
  refine x_goR (x_runV X (C_M_out_f l D A _ a lo hi q.2.2.length q.2.1.1 q.1.length n q.2.1.2 mk pl ct w hP (by omega) j pp hj (by omega) (by omega)) b_M_outside s_M_outside v_M_outside e_M_147 (m_at hP) rfl rfl hl rfl (Nat.le_of_ble_eq_true rfl) d_M_low_3 (Nat.le_of_ble_eq_true rfl) (Nat.le_of_ble_eq_true rfl) ⟨Nat.le_of_ble_eq_true rfl, Nat.le_of_ble_eq_true rfl⟩) hS (fun locs hS => ?_)
  refine n_if_eq X 13 d_M_low_6 rfl (by decide) (fun hc => ?_) (fun hc => absurd rfl hc)
  refine x_aload_n X d_M_low_13 rfl hl rfl ?_
  refine m_get X hP 0 (by decide) e_M_7 rfl d_M_low_14 ?_
  refine x_aload_n X d_M_low_17 rfl hl rfl ?_
  refine m_get X hP 6 (by decide) e_M_23 rfl d_M_low_18 ?_
  refine x_bipush (v := nI 40) X d_M_low_21 rfl ?_
  refine x_iload_n X d_M_low_23 rfl hl rfl ?_
  refine n_imul X d_M_low_24 ?_
  refine x_iload_n X d_M_low_25 rfl hl rfl ?_
  refine n_iadd X d_M_low_26 ?_
  refine m_ld_pl X hP (by omega) d_M_low_27 ?_
  refine x_goR (x_runS X (C_M_entry l D A _ (pl (40 * j + pp))) b_M_entry s_M_entry e_M_144 rfl hl rfl (Nat.le_of_ble_eq_true rfl) d_M_low_28 (Nat.le_of_ble_eq_true rfl) (Nat.le_of_ble_eq_true rfl) ⟨Nat.le_of_ble_eq_true rfl, Nat.le_of_ble_eq_true rfl⟩) hS (fun locs hS => ?_)
  refine m_ld_lo X hP (by omega) d_M_low_31 ?_
  rw [he3]
  exact x_iret X hS (Nat.le_refl _) (Nat.le_refl _) d_M_low_32 ⟨rfl, rfl⟩
set_option maxRecDepth 100000 in
set_option maxHeartbeats 4000000 in
theorem A_M_high (l : Launch) (D : va_G) (A : Nat → ClassId) (H0 : Heap) (a : Nat → Nat) (q : ft_Q) (hq : sp_ok2 q) (hI : mI D a A q H0) (v : Int32) (p : Int32) : xC l y_M_high c_M_high 3 (some .int) 4 D A H0 [.ref (a 0), .int v, .int p] (fun _ => False) (q1 (.int (sp_high q v p)) (fun H1 => H1 = H0)) 0 0 := by
  obtain ⟨lo, hi, en, zf, mk, md, pl, ct, vs, w, n, hR, hP⟩ := hI
  obtain ⟨⟨rfl, rfl, rfl, rfl⟩, h5, h6, h7, h8, h9, h10⟩ := id hR
  have hl1 := hq.1.1
  have hl2 := hq.1.2.1
  have hl3 := hq.1.2.2.2.1
  have hmd0 := sp_md hq
  rcases sp_pl_cases hq v p with ⟨ho, he, -⟩ | ⟨j, t, pp, rfl, rfl, hj, hjt, hpp, he, -⟩
  · rw [show sp_high q v p = nI 0 from by unfold sp_high; rw [he]; rfl]
    refine xC.of rfl (Nat.le_of_ble_eq_true rfl) ?_
    intro p_ e_ s_ m_ ar_ bl_ me_ c_ ls X hl
    have hl : lz ls 3 [some (.ref (a 0)), some (.int v), some (.int p)] := hl
    have hS : va_S (fun _ => False) H0 H0 [] := va_S.rf
    refine x_aload_n X d_M_high_0 rfl hl rfl ?_
    refine x_iload_n X d_M_high_1 rfl hl rfl ?_
    refine x_iload_n X d_M_high_2 rfl hl rfl ?_
    refine x_goR (x_runV X (C_M_out_t l D A _ a lo hi q.2.2.length q.2.1.1 q.1.length n q.2.1.2 mk pl ct w hP (by omega) v p (by
    rcases ho with ho | ⟨j, t, e, hj, hjt, hp⟩
    · exact Or.inl ho
    · exact Or.inr ⟨j, e, hj, by rw [(h6 j t hjt).1]; exact hp⟩)) b_M_outside s_M_outside v_M_outside e_M_147 (m_at hP) rfl rfl hl rfl (Nat.le_of_ble_eq_true rfl) d_M_high_3 (Nat.le_of_ble_eq_true rfl) (Nat.le_of_ble_eq_true rfl) ⟨Nat.le_of_ble_eq_true rfl, Nat.le_of_ble_eq_true rfl⟩) hS (fun locs hS => ?_)
    refine n_if_eq X 13 d_M_high_6 rfl (by decide) (fun hc => absurd hc (by decide)) (fun hc => ?_)
    refine x_iconst (v := nI 0) X d_M_high_9 rfl ?_
    refine x_goto X 32 d_M_high_10 rfl ?_
    exact x_iret X hS (Nat.le_refl _) (Nat.le_refl _) d_M_high_32 ⟨rfl, rfl⟩
  have ht := hq.1.2.2.1 t (List.mem_of_getElem? hjt)
  obtain ⟨hct, hpl⟩ := h6 j t hjt
  have hz40 := ht.2
  obtain ⟨e, he1, he2, he3, he4⟩ := mR_at (p := pp) hq h5 (List.mem_of_getElem? hjt) hpl hpp
  rw [show sp_high q (nI j) (nI pp) = e.2 from by unfold sp_high; rw [he, he1]; rfl]
  refine xC.of rfl (Nat.le_of_ble_eq_true rfl) ?_
  intro p_ e_ s_ m_ ar_ bl_ me_ c_ ls X hl
  have hl : lz ls 3 [some (.ref (a 0)), some (.int (nI j)), some (.int (nI pp))] := hl
  have hS : va_S (fun _ => False) H0 H0 [] := va_S.rf
  refine x_aload_n X d_M_high_0 rfl hl rfl ?_
  refine x_iload_n X d_M_high_1 rfl hl rfl ?_
  refine x_iload_n X d_M_high_2 rfl hl rfl ?_
  refine x_goR (x_runV X (C_M_out_f l D A _ a lo hi q.2.2.length q.2.1.1 q.1.length n q.2.1.2 mk pl ct w hP (by omega) j pp hj (by omega) (by omega)) b_M_outside s_M_outside v_M_outside e_M_147 (m_at hP) rfl rfl hl rfl (Nat.le_of_ble_eq_true rfl) d_M_high_3 (Nat.le_of_ble_eq_true rfl) (Nat.le_of_ble_eq_true rfl) ⟨Nat.le_of_ble_eq_true rfl, Nat.le_of_ble_eq_true rfl⟩) hS (fun locs hS => ?_)
  refine n_if_eq X 13 d_M_high_6 rfl (by decide) (fun hc => ?_) (fun hc => absurd rfl hc)
  refine x_aload_n X d_M_high_13 rfl hl rfl ?_
  refine m_get X hP 1 (by decide) e_M_13 rfl d_M_high_14 ?_
  refine x_aload_n X d_M_high_17 rfl hl rfl ?_
  refine m_get X hP 6 (by decide) e_M_23 rfl d_M_high_18 ?_
  refine x_bipush (v := nI 40) X d_M_high_21 rfl ?_
  refine x_iload_n X d_M_high_23 rfl hl rfl ?_
  refine n_imul X d_M_high_24 ?_
  refine x_iload_n X d_M_high_25 rfl hl rfl ?_
  refine n_iadd X d_M_high_26 ?_
  refine m_ld_pl X hP (by omega) d_M_high_27 ?_
  refine x_goR (x_runS X (C_M_entry l D A _ (pl (40 * j + pp))) b_M_entry s_M_entry e_M_144 rfl hl rfl (Nat.le_of_ble_eq_true rfl) d_M_high_28 (Nat.le_of_ble_eq_true rfl) (Nat.le_of_ble_eq_true rfl) ⟨Nat.le_of_ble_eq_true rfl, Nat.le_of_ble_eq_true rfl⟩) hS (fun locs hS => ?_)
  refine m_ld_hi X hP (by omega) d_M_high_31 ?_
  rw [he4]
  exact x_iret X hS (Nat.le_refl _) (Nat.le_refl _) d_M_high_32 ⟨rfl, rfl⟩
set_option maxRecDepth 100000 in
set_option maxHeartbeats 4000000 in
theorem A_M_rank (l : Launch) (D : va_G) (A : Nat → ClassId) (H0 : Heap) (a : Nat → Nat) (q : ft_Q) (hq : sp_ok2 q) (hI : mI D a A q H0) (v : Int32) (p : Int32) : xC l y_M_rank c_M_rank 3 (some .int) 4 D A H0 [.ref (a 0), .int v, .int p] (fun _ => False) (q1 (.int (sp_rank q v p)) (fun H1 => H1 = H0)) 0 0 := by
  obtain ⟨lo, hi, en, zf, mk, md, pl, ct, vs, w, n, hR, hP⟩ := hI
  obtain ⟨⟨rfl, rfl, rfl, rfl⟩, h5, h6, h7, h8, h9, h10⟩ := id hR
  have hl1 := hq.1.1
  have hl2 := hq.1.2.1
  have hl3 := hq.1.2.2.2.1
  have hmd0 := sp_md hq
  rcases sp_pl_cases hq v p with ⟨ho, -, he⟩ | ⟨j, t, pp, rfl, rfl, hj, hjt, hpp, -, he⟩
  · rw [he]
    refine xC.of rfl (Nat.le_of_ble_eq_true rfl) ?_
    intro p_ e_ s_ m_ ar_ bl_ me_ c_ ls X hl
    have hl : lz ls 3 [some (.ref (a 0)), some (.int v), some (.int p)] := hl
    have hS : va_S (fun _ => False) H0 H0 [] := va_S.rf
    refine x_aload_n X d_M_rank_0 rfl hl rfl ?_
    refine x_iload_n X d_M_rank_1 rfl hl rfl ?_
    refine x_iload_n X d_M_rank_2 rfl hl rfl ?_
    refine x_goR (x_runV X (C_M_out_t l D A _ a lo hi q.2.2.length q.2.1.1 q.1.length n q.2.1.2 mk pl ct w hP (by omega) v p (by
    rcases ho with ho | ⟨j, t, e, hj, hjt, hp⟩
    · exact Or.inl ho
    · exact Or.inr ⟨j, e, hj, by rw [(h6 j t hjt).1]; exact hp⟩)) b_M_outside s_M_outside v_M_outside e_M_147 (m_at hP) rfl rfl hl rfl (Nat.le_of_ble_eq_true rfl) d_M_rank_3 (Nat.le_of_ble_eq_true rfl) (Nat.le_of_ble_eq_true rfl) ⟨Nat.le_of_ble_eq_true rfl, Nat.le_of_ble_eq_true rfl⟩) hS (fun locs hS => ?_)
    refine n_if_eq X 13 d_M_rank_6 rfl (by decide) (fun hc => absurd hc (by decide)) (fun hc => ?_)
    refine x_iconst (v := -1) X d_M_rank_9 rfl ?_
    refine x_goto X 27 d_M_rank_10 rfl ?_
    exact x_iret X hS (Nat.le_refl _) (Nat.le_refl _) d_M_rank_27 ⟨rfl, rfl⟩
  have ht := hq.1.2.2.1 t (List.mem_of_getElem? hjt)
  obtain ⟨hct, hpl⟩ := h6 j t hjt
  have hz40 := ht.2
  obtain ⟨lf, sd, a1, a2, a3, a4, a5, a6⟩ := ft_hd_leaf (by omega) (by omega) ht.1 ht.2 hpl hpp
  have hb := h8 (40 * j + pp)
  rw [he, a1]
  refine xC.of rfl (Nat.le_of_ble_eq_true rfl) ?_
  intro p_ e_ s_ m_ ar_ bl_ me_ c_ ls X hl
  have hl : lz ls 3 [some (.ref (a 0)), some (.int (nI j)), some (.int (nI pp))] := hl
  have hS : va_S (fun _ => False) H0 H0 [] := va_S.rf
  refine x_aload_n X d_M_rank_0 rfl hl rfl ?_
  refine x_iload_n X d_M_rank_1 rfl hl rfl ?_
  refine x_iload_n X d_M_rank_2 rfl hl rfl ?_
  refine x_goR (x_runV X (C_M_out_f l D A _ a lo hi q.2.2.length q.2.1.1 q.1.length n q.2.1.2 mk pl ct w hP (by omega) j pp hj (by omega) (by omega)) b_M_outside s_M_outside v_M_outside e_M_147 (m_at hP) rfl rfl hl rfl (Nat.le_of_ble_eq_true rfl) d_M_rank_3 (Nat.le_of_ble_eq_true rfl) (Nat.le_of_ble_eq_true rfl) ⟨Nat.le_of_ble_eq_true rfl, Nat.le_of_ble_eq_true rfl⟩) hS (fun locs hS => ?_)
  refine n_if_eq X 13 d_M_rank_6 rfl (by decide) (fun hc => ?_) (fun hc => absurd rfl hc)
  refine x_aload_n X d_M_rank_13 rfl hl rfl ?_
  refine m_get X hP 6 (by decide) e_M_23 rfl d_M_rank_14 ?_
  refine x_bipush (v := nI 40) X d_M_rank_17 rfl ?_
  refine x_iload_n X d_M_rank_19 rfl hl rfl ?_
  refine n_imul X d_M_rank_20 ?_
  refine x_iload_n X d_M_rank_21 rfl hl rfl ?_
  refine n_iadd X d_M_rank_22 ?_
  refine m_ld_pl X hP (by omega) d_M_rank_23 ?_
  refine x_goR (x_runS X (C_M_level l D A _ (pl (40 * j + pp)) (by omega)) b_M_level s_M_level e_M_40 rfl hl rfl (Nat.le_of_ble_eq_true rfl) d_M_rank_24 (Nat.le_of_ble_eq_true rfl) (Nat.le_of_ble_eq_true rfl) ⟨Nat.le_of_ble_eq_true rfl, Nat.le_of_ble_eq_true rfl⟩) hS (fun locs hS => ?_)
  rw [a2, ft_wd_level a4 (by omega)]
  exact x_iret X hS (Nat.le_refl _) (Nat.le_refl _) d_M_rank_27 ⟨rfl, rfl⟩
theorem sp_neg {f : Int32} (h : f < 0) : f.toNatClampNeg = 0 := by
  have h1 : f.toInt < 0 := Int32.lt_iff_toInt_lt.1 h
  rw [Int32.toNatClampNeg]
  omega
set_option maxRecDepth 100000 in
set_option maxHeartbeats 4000000 in
theorem A_M_meeting (l : Launch) (D : va_G) (A : Nat → ClassId) (H0 : Heap) (a : Nat → Nat) (q : ft_Q) (hq : sp_ok2 q) (hI : mI D a A q H0) (v : Int32) (f : Int32) (si : Int32) (to : Int32) : xC l y_M_meeting c_M_meeting 7 (some .int) 4 D A H0 [.ref (a 0), .int v, .int f, .int si, .int to] (fun _ => False) (q1 (.int (sp_meeting q v f si to)) (fun H1 => H1 = H0)) 0 0 := by
  obtain ⟨lo, hi, en, zf, mk, md, pl, ct, vs, w, n, hR, hP⟩ := hI
  obtain ⟨⟨rfl, rfl, rfl, rfl⟩, h5, h6, h7, h8, h9, h10⟩ := id hR
  have hl1 := hq.1.1
  have hl2 := hq.1.2.1
  have hl3 := hq.1.2.2.2.1
  have hmd0 := sp_md hq
  rcases sp_at_cases hq v with ⟨hv, hat⟩ | ⟨j, t, rfl, hj, hjt, hat⟩
  · rw [show sp_meeting q v f si to = -1 from by unfold sp_meeting; rw [hat]]
    refine xC.of rfl (Nat.le_of_ble_eq_true rfl) ?_
    intro p_ e_ s_ m_ ar_ bl_ me_ c_ ls X hl
    have hl : lz ls 7 [some (.ref (a 0)), some (.int v), some (.int f), some (.int si), some (.int to), none, none] := hl
    have hS : va_S (fun _ => False) H0 H0 [] := va_S.rf
    refine x_aload_n X d_M_meeting_0 rfl hl rfl ?_
    refine x_iload_n X d_M_meeting_1 rfl hl rfl ?_
    refine x_goR (x_runV X (C_M_none_t l D A _ a lo hi q.2.2.length q.2.1.1 q.1.length n q.2.1.2 mk pl ct w hP v hv) b_M_none s_M_none v_M_none e_M_109 (m_at hP) rfl rfl hl rfl (Nat.le_of_ble_eq_true rfl) d_M_meeting_2 (Nat.le_of_ble_eq_true rfl) (Nat.le_of_ble_eq_true rfl) ⟨Nat.le_of_ble_eq_true rfl, Nat.le_of_ble_eq_true rfl⟩) hS (fun locs hS => ?_)
    refine n_if_eq X 10 d_M_meeting_5 rfl (by decide) (fun hc => absurd hc (by decide)) (fun hc => ?_)
    refine x_iconst (v := -1) X d_M_meeting_8 rfl ?_
    exact x_iret X hS (Nat.le_refl _) (Nat.le_refl _) d_M_meeting_9 ⟨rfl, rfl⟩
  have ht := hq.1.2.2.1 t (List.mem_of_getElem? hjt)
  obtain ⟨hct, hpl⟩ := h6 j t hjt
  have hz40 := ht.2
  rw [show sp_meeting q (nI j) f si to = (if (sp_find (sp_meet (sp_es q t) si to) (ft_zT t.1 t.2 - f.toNatClampNeg) f.toNatClampNeg) < ft_zT t.1 t.2 then nI (sp_find (sp_meet (sp_es q t) si to) (ft_zT t.1 t.2 - f.toNatClampNeg) f.toNatClampNeg) else -1) from by unfold sp_meeting; rw [hat]]
  refine xC.of rfl (Nat.le_of_ble_eq_true rfl) ?_
  intro p_ e_ s_ m_ ar_ bl_ me_ c_ ls X hl
  have hl : lz ls 7 [some (.ref (a 0)), some (.int (nI j)), some (.int f), some (.int si), some (.int to), none, none] := hl
  have hS : va_S (fun _ => False) H0 H0 [] := va_S.rf
  refine x_aload_n X d_M_meeting_0 rfl hl rfl ?_
  refine x_iload_n X d_M_meeting_1 rfl hl rfl ?_
  refine x_goR (x_runV X (C_M_none_f l D A _ a lo hi q.2.2.length q.2.1.1 q.1.length n q.2.1.2 mk pl ct w hP j hj (by omega)) b_M_none s_M_none v_M_none e_M_109 (m_at hP) rfl rfl hl rfl (Nat.le_of_ble_eq_true rfl) d_M_meeting_2 (Nat.le_of_ble_eq_true rfl) (Nat.le_of_ble_eq_true rfl) ⟨Nat.le_of_ble_eq_true rfl, Nat.le_of_ble_eq_true rfl⟩) hS (fun locs hS => ?_)
  refine n_if_eq X 10 d_M_meeting_5 rfl (by decide) (fun hc => ?_) (fun hc => absurd rfl hc)
  refine x_iload_n X d_M_meeting_10 rfl hl rfl ?_
  have loop : ∀ (g i : Nat) (v6 : Option Value) (locs : List Loc) (ls : Array Slot), ft_zT t.1 t.2 - i = g → i < 2 ^ 31 → sp_find (sp_meet (sp_es q t) si to) (ft_zT t.1 t.2 - i) i = (sp_find (sp_meet (sp_es q t) si to) (ft_zT t.1 t.2 - f.toNatClampNeg) f.toNatClampNeg) → lz ls 7 [some (.ref (a 0)), some (.int (nI j)), some (.int f), some (.int si), some (.int to), some (.int (nI i)), v6] → va_S (fun _ => False) H0 H0 locs → W p_ l e_ (x_rm 4 0 0) s_ m_ ar_ bl_ me_ c_ H0 locs 0 0 (MQ bl_ (xQ (fun _ => False) (q1 (.int (if (sp_find (sp_meet (sp_es q t) si to) (ft_zT t.1 t.2 - f.toNatClampNeg) f.toNatClampNeg) < ft_zT t.1 t.2 then nI (sp_find (sp_meet (sp_es q t) si to) (ft_zT t.1 t.2 - f.toNatClampNeg) f.toNatClampNeg) else -1)) (fun H1 => H1 = H0))) ar_ s_ 0 0 (fun _ => False)) (F0 m_ 21 ls []) := by
    clear hl hS
    intro g
    induction g with
    | zero =>
      intro i v6 locs ls hg hi31 hfi hl hS
      rw [hg] at hfi
      have hfi : i = (sp_find (sp_meet (sp_es q t) si to) (ft_zT t.1 t.2 - f.toNatClampNeg) f.toNatClampNeg) := hfi
      rw [← hfi, if_neg (by omega)]
      refine x_iload X d_M_meeting_21 hl rfl ?_
      refine x_aload_n X d_M_meeting_23 rfl hl rfl ?_
      refine m_get X hP 7 (by decide) e_M_27 rfl d_M_meeting_24 ?_
      refine x_iload_n X d_M_meeting_27 rfl hl rfl ?_
      refine m_ld_ct X hP (by omega) d_M_meeting_28 ?_
      rw [hct]
      refine n_icmp_ge X 81 d_M_meeting_29 rfl (by omega) (by omega) (fun hc => ?_) (fun hc => absurd hc (by omega))
      refine x_iconst (v := -1) X d_M_meeting_81 rfl ?_
      exact x_iret X hS (Nat.le_refl _) (Nat.le_refl _) d_M_meeting_82 ⟨rfl, rfl⟩
    | succ g ih =>
      intro i v6 locs ls hg hi31 hfi hl hS
      have hiz : i < ft_zT t.1 t.2 := by omega
      obtain ⟨e, he1, he2, he3, he4⟩ := mR_at (p := i) hq h5 (List.mem_of_getElem? hjt) hpl hiz
      rw [hg] at hfi
      change (if sp_meet (sp_es q t) si to i = true then i else sp_find (sp_meet (sp_es q t) si to) g (i + 1)) = (sp_find (sp_meet (sp_es q t) si to) (ft_zT t.1 t.2 - f.toNatClampNeg) f.toNatClampNeg) at hfi
      have hge : (sp_es q t).getD i (0, 0) = e := by rw [List.getD_eq_getElem?_getD, he1]; rfl
      have hme : sp_meet (sp_es q t) si to i = (decide (e.1 ≤ to) && decide (si ≤ e.2)) := by unfold sp_meet; rw [hge]
      have next : ∀ (v6 : Option Value) (locs : List Loc) (ls : Array Slot), sp_meet (sp_es q t) si to i = false → lz ls 7 [some (.ref (a 0)), some (.int (nI j)), some (.int f), some (.int si), some (.int to), some (.int (nI i)), v6] → va_S (fun _ => False) H0 H0 locs → W p_ l e_ (x_rm 4 0 0) s_ m_ ar_ bl_ me_ c_ H0 locs 0 0 (MQ bl_ (xQ (fun _ => False) (q1 (.int (if (sp_find (sp_meet (sp_es q t) si to) (ft_zT t.1 t.2 - f.toNatClampNeg) f.toNatClampNeg) < ft_zT t.1 t.2 then nI (sp_find (sp_meet (sp_es q t) si to) (ft_zT t.1 t.2 - f.toNatClampNeg) f.toNatClampNeg) else -1)) (fun H1 => H1 = H0))) ar_ s_ 0 0 (fun _ => False)) (F0 m_ 75 ls []) := by
        intro v6 locs ls hm hl hS
        rw [hm] at hfi
        simp only [Bool.false_eq_true, if_false] at hfi
        refine n_iinc (d := 1) X d_M_meeting_75 rfl hl rfl (by decide) rfl (fun ls hl => ?_)
        refine x_goto X 21 d_M_meeting_78 rfl ?_
        exact ih (i + 1) v6 _ _ (by omega) (by omega) (by rw [show ft_zT t.1 t.2 - (i + 1) = g from by omega]; exact hfi) hl hS
      refine x_iload X d_M_meeting_21 hl rfl ?_
      refine x_aload_n X d_M_meeting_23 rfl hl rfl ?_
      refine m_get X hP 7 (by decide) e_M_27 rfl d_M_meeting_24 ?_
      refine x_iload_n X d_M_meeting_27 rfl hl rfl ?_
      refine m_ld_ct X hP (by omega) d_M_meeting_28 ?_
      rw [hct]
      refine n_icmp_ge X 81 d_M_meeting_29 rfl (by omega) (by omega) (fun hc => absurd hc (by omega)) (fun hc => ?_)
      refine x_aload_n X d_M_meeting_32 rfl hl rfl ?_
      refine m_get X hP 6 (by decide) e_M_23 rfl d_M_meeting_33 ?_
      refine x_bipush (v := nI 40) X d_M_meeting_36 rfl ?_
      refine x_iload_n X d_M_meeting_38 rfl hl rfl ?_
      refine n_imul X d_M_meeting_39 ?_
      refine x_iload X d_M_meeting_40 hl rfl ?_
      refine n_iadd X d_M_meeting_42 ?_
      refine m_ld_pl X hP (by omega) d_M_meeting_43 ?_
      refine x_goR (x_runS X (C_M_entry l D A _ (pl (40 * j + i))) b_M_entry s_M_entry e_M_144 rfl hl rfl (Nat.le_of_ble_eq_true rfl) d_M_meeting_44 (Nat.le_of_ble_eq_true rfl) (Nat.le_of_ble_eq_true rfl) ⟨Nat.le_of_ble_eq_true rfl, Nat.le_of_ble_eq_true rfl⟩) hS (fun locs hS => ?_)
      refine x_istore X d_M_meeting_47 hl (by decide) rfl (fun ls hl => ?_)
      refine x_aload_n X d_M_meeting_49 rfl hl rfl ?_
      refine m_get X hP 0 (by decide) e_M_7 rfl d_M_meeting_50 ?_
      refine x_iload X d_M_meeting_53 hl rfl ?_
      refine m_ld_lo X hP (by omega) d_M_meeting_55 ?_
      refine x_iload X d_M_meeting_56 hl rfl ?_
      rw [he3]
      refine x_icmp_gt X 75 d_M_meeting_58 rfl (fun h => next _ _ _ (by rw [hme, decide_eq_false (Int32.not_le.2 h), Bool.false_and]) hl hS) (fun h => ?_)
      refine x_aload_n X d_M_meeting_61 rfl hl rfl ?_
      refine m_get X hP 1 (by decide) e_M_13 rfl d_M_meeting_62 ?_
      refine x_iload X d_M_meeting_65 hl rfl ?_
      refine m_ld_hi X hP (by omega) d_M_meeting_67 ?_
      refine x_iload_n X d_M_meeting_68 rfl hl rfl ?_
      rw [he4]
      refine x_icmp_lt X 75 d_M_meeting_69 rfl (fun h2 => next _ _ _ (by rw [hme, decide_eq_false (Int32.not_le.2 h2), Bool.and_false]) hl hS) (fun h2 => ?_)
      have hmt : sp_meet (sp_es q t) si to i = true := by rw [hme, decide_eq_true (Int32.not_lt.1 h), decide_eq_true (Int32.not_lt.1 h2)]; rfl
      rw [hmt, if_pos rfl] at hfi
      rw [← hfi, if_pos hiz]
      refine x_iload X d_M_meeting_72 hl rfl ?_
      exact x_iret X hS (Nat.le_refl _) (Nat.le_refl _) d_M_meeting_74 ⟨rfl, rfl⟩
  refine x_if_ge X 18 d_M_meeting_11 rfl (fun h => ?_) (fun h => ?_)
  · obtain ⟨fi, hfi, rfl⟩ := nI_of (Int32.not_lt.2 h)
    refine x_iload_n X d_M_meeting_18 rfl hl rfl ?_
    refine x_istore X d_M_meeting_19 hl (by decide) rfl (fun ls hl => ?_)
    exact loop _ fi none _ _ rfl hfi (by rw [nI_clamp hfi]) hl hS
  · have h0 : f.toNatClampNeg = 0 := sp_neg (Int32.not_le.1 h)
    refine x_iconst (v := nI 0) X d_M_meeting_14 rfl ?_
    refine x_goto X 19 d_M_meeting_15 rfl ?_
    refine x_istore X d_M_meeting_19 hl (by decide) rfl (fun ls hl => ?_)
    exact loop _ 0 none _ _ rfl (by decide) (by rw [h0]) hl hS
