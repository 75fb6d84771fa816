/-! Contracts of the reference: reads. -/
set_option maxRecDepth 100000 in
set_option maxHeartbeats 4000000 in
theorem C_M_level (l : Launch) (D : va_G) (A : Nat → ClassId) (H : Heap) (v : Nat) (hv : v < 2 ^ 63) : xC l y_M_level c_M_level 2 (some .int) 0 D A H [.long (lN v)] (fun _ => False) (q1 (.int (nI (v / 512 % 8))) (fun H1 => H1 = H)) 0 0 := by
  refine xC.of rfl (Nat.le_of_ble_eq_true rfl) ?_
  intro p_ e_ s_ m_ ar_ bl_ me_ c_ ls X hl
  have hl : lz ls 2 [some (.long (lN v)), none] := hl
  have hS : va_S (fun _ => False) H H [] := va_S.rf
  refine x_lload_n X d_M_level_0 rfl hl rfl ?_
  refine x_bipush (v := nI 9) X d_M_level_1 rfl ?_
  refine x_lushr X d_M_level_3 (wb_shr (by omega) (by omega)) ?_
  refine x_l2i X d_M_level_4 (lN_i _) ?_
  refine x_bipush (v := nI 7) X d_M_level_5 rfl ?_
  refine x_iand X d_M_level_7 ?_
  refine x_topi (bt_and (k := 3) _ (by decide)) ?_
  exact x_iret X hS (Nat.le_refl _) (Nat.le_refl _) d_M_level_8 ⟨rfl, rfl⟩
set_option maxRecDepth 100000 in
set_option maxHeartbeats 4000000 in
theorem C_M_side (l : Launch) (D : va_G) (A : Nat → ClassId) (H : Heap) (v : Nat) (hv : v < 2 ^ 63) : xC l y_M_side c_M_side 2 (some .int) 0 D A H [.long (lN v)] (fun _ => False) (q1 (.int (nI (v / 128 % 4))) (fun H1 => H1 = H)) 0 0 := by
  refine xC.of rfl (Nat.le_of_ble_eq_true rfl) ?_
  intro p_ e_ s_ m_ ar_ bl_ me_ c_ ls X hl
  have hl : lz ls 2 [some (.long (lN v)), none] := hl
  have hS : va_S (fun _ => False) H H [] := va_S.rf
  refine x_lload_n X d_M_side_0 rfl hl rfl ?_
  refine x_bipush (v := nI 7) X d_M_side_1 rfl ?_
  refine x_lushr X d_M_side_3 (wb_shr (by omega) (by omega)) ?_
  refine x_l2i X d_M_side_4 (lN_i _) ?_
  refine x_iconst (v := nI 3) X d_M_side_5 rfl ?_
  refine x_iand X d_M_side_6 ?_
  refine x_topi (bt_and (k := 2) _ (by decide)) ?_
  exact x_iret X hS (Nat.le_refl _) (Nat.le_refl _) d_M_side_7 ⟨rfl, rfl⟩
set_option maxRecDepth 100000 in
set_option maxHeartbeats 4000000 in
theorem C_M_entry (l : Launch) (D : va_G) (A : Nat → ClassId) (H : Heap) (v : Nat) : xC l y_M_entry c_M_entry 2 (some .int) 0 D A H [.long (lN v)] (fun _ => False) (q1 (.int (nI (v % 128))) (fun H1 => H1 = H)) 0 0 := by
  refine xC.of rfl (Nat.le_of_ble_eq_true rfl) ?_
  intro p_ e_ s_ m_ ar_ bl_ me_ c_ ls X hl
  have hl : lz ls 2 [some (.long (lN v)), none] := hl
  have hS : va_S (fun _ => False) H H [] := va_S.rf
  refine x_lload_n X d_M_entry_0 rfl hl rfl ?_
  refine x_l2i X d_M_entry_1 (lN_i _) ?_
  refine x_bipush (v := nI 127) X d_M_entry_2 rfl ?_
  refine x_iand X d_M_entry_4 ?_
  refine x_topi (bt_and (k := 7) _ (by decide)) ?_
  exact x_iret X hS (Nat.le_refl _) (Nat.le_refl _) d_M_entry_5 ⟨rfl, rfl⟩
set_option maxRecDepth 100000 in
set_option maxHeartbeats 4000000 in
theorem C_M_node (l : Launch) (D : va_G) (A : Nat → ClassId) (H : Heap) (v j : Nat) (hv : v < 2 ^ 63) (hj : j < 4) : xC l y_M_node c_M_node 3 (some .int) 0 D A H [.long (lN v), .int (nI (j + 1))] (fun _ => False) (q1 (.int (nI (v / (4096 * 8192 ^ j) % 8192))) (fun H1 => H1 = H)) 0 0 := by
  refine xC.of rfl (Nat.le_of_ble_eq_true rfl) ?_
  intro p_ e_ s_ m_ ar_ bl_ me_ c_ ls X hl
  have hl : lz ls 3 [some (.long (lN v)), none, some (.int (nI (j + 1)))] := hl
  have hS : va_S (fun _ => False) H H [] := va_S.rf
  refine x_lload_n X d_M_node_0 rfl hl rfl ?_
  refine x_bipush (v := nI 13) X d_M_node_1 rfl ?_
  refine x_iload_n X d_M_node_3 rfl hl rfl ?_
  refine n_imul X d_M_node_4 ?_
  refine x_iconst (v := nI 1) X d_M_node_5 rfl ?_
  refine n_isub X d_M_node_6 (by omega) ?_
  refine x_lushr X d_M_node_7 (wb_shr (by omega) (by omega)) ?_
  refine x_l2i X d_M_node_8 (lN_i _) ?_
  refine x_sipush (v := nI 8191) X d_M_node_9 rfl ?_
  refine x_iand X d_M_node_12 ?_
  refine x_topi (bt_and (k := 13) _ (by decide)) ?_
  refine x_topi (y := nI (v / (4096 * 8192 ^ j) % 8192)) (by rw [bt_pow2, show 13 * (j + 1) - 1 = 12 + 13 * j from by omega]) ?_
  exact x_iret X hS (Nat.le_refl _) (Nat.le_refl _) d_M_node_13 ⟨rfl, rfl⟩
def ft_is (n : Nat) (w : Nat → Nat) (j k s : Nat) : Nat := if j < n ∧ ft_le8 (w j) = k ∧ ft_sd (w j) = s then 1 else 0
def ft_isb (n : Nat) (w : Nat → Nat) (j k s : Nat) : Nat := if 1 ≤ j then ft_is n w (j - 1) k s else 0
set_option maxRecDepth 100000 in
set_option maxHeartbeats 4000000 in
theorem C_M_is (l : Launch) (D : va_G) (A : Nat → ClassId) (H : Heap) (a : Nat → Nat) (lo hi : Nat → Int32) (en md vs n : Nat) (zf mk pl ct w : Nat → Nat) (hP : mH D a A lo hi en zf mk md pl ct vs w n H) (hw : ft_bw w) (hn : n ≤ 48) (j k s : Nat) (hj : j < 2 ^ 31) (hk : k < 8) (hs : s < 4) : xC l y_M_is c_M_is 4 (some .boolean) 1 D A H [.ref (a 0), .int (nI j), .int (nI k), .int (nI s)] (fun _ => False) (q1 (.int (nI (ft_is n w j k s))) (fun H1 => H1 = H)) 0 0 := by
  refine xC.of rfl (Nat.le_of_ble_eq_true rfl) ?_
  intro p_ e_ s_ m_ ar_ bl_ me_ c_ ls X hl
  have hl : lz ls 4 [some (.ref (a 0)), some (.int (nI j)), some (.int (nI k)), some (.int (nI s))] := hl
  have hS : va_S (fun _ => False) H H [] := va_S.rf
  have hbw := hw j
  refine x_iload_n X d_M_is_0 rfl hl rfl ?_
  refine n_if_lt X 42 d_M_is_1 rfl (by omega) (fun hc => absurd hc (Nat.not_lt_zero _)) (fun hc => ?_)
  refine x_iload_n X d_M_is_4 rfl hl rfl ?_
  refine x_aload_n X d_M_is_5 rfl hl rfl ?_
  refine m_get X hP 10 (by decide) e_M_37 rfl d_M_is_6 ?_
  refine n_icmp_ge X 42 d_M_is_9 rfl (by omega) (by omega) (fun hc => ?_) (fun hc => ?_)
  · refine x_iconst (v := nI 0) X d_M_is_42 rfl ?_
    exact x_zret X hS (Nat.le_refl _) (Nat.le_refl _) d_M_is_43 rfl ⟨by unfold ft_is; rw [if_neg (by omega)], rfl⟩
  have hj : j < 48 := by omega
  refine x_aload_n X d_M_is_12 rfl hl rfl ?_
  refine m_get X hP 9 (by decide) e_M_34 rfl d_M_is_13 ?_
  refine x_iload_n X d_M_is_16 rfl hl rfl ?_
  refine m_ld_w X hP (by omega) d_M_is_17 ?_
  refine x_goR (x_runS X (C_M_level l D A H (w j) (by omega)) b_M_level s_M_level e_M_40 rfl hl rfl (Nat.le_of_ble_eq_true rfl) d_M_is_18 (Nat.le_of_ble_eq_true rfl) (Nat.le_of_ble_eq_true rfl) ⟨Nat.le_of_ble_eq_true rfl, Nat.le_of_ble_eq_true rfl⟩) hS (fun locs hS => ?_)
  refine x_iload_n X d_M_is_21 rfl hl rfl ?_
  refine n_icmp_ne X 42 d_M_is_22 rfl (by omega) (by omega) (fun hc => ?_) (fun hc => ?_)
  · refine x_iconst (v := nI 0) X d_M_is_42 rfl ?_
    exact x_zret X hS (Nat.le_refl _) (Nat.le_refl _) d_M_is_43 rfl ⟨by unfold ft_is; rw [if_neg (fun h => hc h.2.1)], rfl⟩
  refine x_aload_n X d_M_is_25 rfl hl rfl ?_
  refine m_get X hP 9 (by decide) e_M_34 rfl d_M_is_26 ?_
  refine x_iload_n X d_M_is_29 rfl hl rfl ?_
  refine m_ld_w X hP (by omega) d_M_is_30 ?_
  refine x_goR (x_runS X (C_M_side l D A H (w j) (by omega)) b_M_side s_M_side e_M_44 rfl hl rfl (Nat.le_of_ble_eq_true rfl) d_M_is_31 (Nat.le_of_ble_eq_true rfl) (Nat.le_of_ble_eq_true rfl) ⟨Nat.le_of_ble_eq_true rfl, Nat.le_of_ble_eq_true rfl⟩) hS (fun locs hS => ?_)
  refine x_iload_n X d_M_is_34 rfl hl rfl ?_
  refine n_icmp_ne X 42 d_M_is_35 rfl (by omega) (by omega) (fun hc2 => ?_) (fun hc2 => ?_)
  · refine x_iconst (v := nI 0) X d_M_is_42 rfl ?_
    exact x_zret X hS (Nat.le_refl _) (Nat.le_refl _) d_M_is_43 rfl ⟨by unfold ft_is; rw [if_neg (fun h => hc2 h.2.2)], rfl⟩
  refine x_iconst (v := nI 1) X d_M_is_38 rfl ?_
  refine x_goto X 43 d_M_is_39 rfl ?_
  exact x_zret X hS (Nat.le_refl _) (Nat.le_refl _) d_M_is_43 rfl ⟨by unfold ft_is; rw [if_pos ⟨by assumption, by assumption, by assumption⟩], rfl⟩
set_option maxRecDepth 100000 in
set_option maxHeartbeats 4000000 in
theorem C_M_is_neg (l : Launch) (D : va_G) (A : Nat → ClassId) (H : Heap) (a : Nat → Nat) (k s : Nat) : xC l y_M_is c_M_is 4 (some .boolean) 1 D A H [.ref (a 0), .int (-1), .int (nI k), .int (nI s)] (fun _ => False) (q1 (.int (nI 0)) (fun H1 => H1 = H)) 0 0 := by
  refine xC.of rfl (Nat.le_of_ble_eq_true rfl) ?_
  intro p_ e_ s_ m_ ar_ bl_ me_ c_ ls X hl
  have hl : lz ls 4 [some (.ref (a 0)), some (.int (-1)), some (.int (nI k)), some (.int (nI s))] := hl
  have hS : va_S (fun _ => False) H H [] := va_S.rf
  refine x_iload_n X d_M_is_0 rfl hl rfl ?_
  refine x_if_lt X 42 d_M_is_1 rfl (fun _ => ?_) (fun h => absurd (by decide) h)
  refine x_iconst (v := nI 0) X d_M_is_42 rfl ?_
  exact x_zret X hS (Nat.le_refl _) (Nat.le_refl _) d_M_is_43 rfl ⟨rfl, rfl⟩
theorem C_M_isb (l : Launch) (D : va_G) (A : Nat → ClassId) (H : Heap) (a : Nat → Nat) (lo hi : Nat → Int32) (en md vs n : Nat) (zf mk pl ct w : Nat → Nat) (hP : mH D a A lo hi en zf mk md pl ct vs w n H) (hw : ft_bw w) (hn : n ≤ 48) (j k s : Nat) (hj : j < 2 ^ 31) (hk : k < 8) (hs : s < 4) : xC l y_M_is c_M_is 4 (some .boolean) 1 D A H [.ref (a 0), .int (nI j - nI 1), .int (nI k), .int (nI s)] (fun _ => False) (q1 (.int (nI (ft_isb n w j k s))) (fun H1 => H1 = H)) 0 0 := by
  unfold ft_isb
  split
  · rename_i h
    rw [pk_sub h]
    exact C_M_is l D A H a lo hi en md vs n zf mk pl ct w hP hw hn (j - 1) k s (by omega) hk hs
  · rename_i h
    have : j = 0 := by omega
    subst this
    exact C_M_is_neg l D A H a k s
set_option maxRecDepth 100000 in
set_option maxHeartbeats 4000000 in
theorem C_M_end (l : Launch) (D : va_G) (A : Nat → ClassId) (H : Heap) (a : Nat → Nat) (lo hi : Nat → Int32) (en md vs n : Nat) (zf mk pl ct w : Nat → Nat) (hP : mH D a A lo hi en zf mk md pl ct vs w n H) (hw : ft_bw w) (hz : ∀ i, zf i < 128) (q k : Nat) (hq : q < 48) (hk : k ≤ 4) (hm : ∀ j, k = j + 1 → w q / (4096 * 8192 ^ j) % 8192 < 4200) : xC l y_M_end c_M_end 3 (some .int) 1 D A H [.ref (a 0), .int (nI q), .int (nI k)] (fun _ => False) (q1 (.int (nI (ft_end zf w q k))) (fun H1 => H1 = H)) 0 0 := by
  refine xC.of rfl (Nat.le_of_ble_eq_true rfl) ?_
  intro p_ e_ s_ m_ ar_ bl_ me_ c_ ls X hl
  have hl : lz ls 3 [some (.ref (a 0)), some (.int (nI q)), some (.int (nI k))] := hl
  have hS : va_S (fun _ => False) H H [] := va_S.rf
  have hbw := hw q
  refine x_iload_n X d_M_end_0 rfl hl rfl ?_
  refine n_if_ne X 10 d_M_end_1 rfl (by omega) (fun hc => ?_) (fun hc => ?_)
  · obtain ⟨j, rfl⟩ : ∃ j, k = j + 1 := ⟨k - 1, by omega⟩
    have hz := hz (w q / (4096 * 8192 ^ j) % 8192)
    have hm := hm j rfl
    refine x_iload_n X d_M_end_10 rfl hl rfl ?_
    refine x_aload_n X d_M_end_11 rfl hl rfl ?_
    refine m_get X hP 3 (by decide) e_M_16 rfl d_M_end_12 ?_
    refine x_aload_n X d_M_end_15 rfl hl rfl ?_
    refine m_get X hP 9 (by decide) e_M_34 rfl d_M_end_16 ?_
    refine x_iload_n X d_M_end_19 rfl hl rfl ?_
    refine m_ld_w X hP (by omega) d_M_end_20 ?_
    refine x_iload_n X d_M_end_21 rfl hl rfl ?_
    refine x_goR (x_runS X (C_M_node l D A H (w q) j (by omega) (by omega)) b_M_node s_M_node e_M_47 rfl hl rfl (Nat.le_of_ble_eq_true rfl) d_M_end_22 (Nat.le_of_ble_eq_true rfl) (Nat.le_of_ble_eq_true rfl) ⟨Nat.le_of_ble_eq_true rfl, Nat.le_of_ble_eq_true rfl⟩) hS (fun locs hS => ?_)
    refine m_ld_zf X hP (by omega) d_M_end_25 ?_
    refine n_iadd X d_M_end_26 ?_
    refine x_topi (y := nI (ft_end zf w q (j + 1))) (by unfold ft_end; rw [if_neg (by omega), Nat.add_sub_cancel]) ?_
    exact x_iret X hS (Nat.le_refl _) (Nat.le_refl _) d_M_end_27 ⟨rfl, rfl⟩
  · subst hc
    refine x_iload_n X d_M_end_4 rfl hl rfl ?_
    refine x_iconst (v := nI 1) X d_M_end_5 rfl ?_
    refine n_iadd X d_M_end_6 ?_
    refine x_goto X 27 d_M_end_7 rfl ?_
    exact x_iret X hS (Nat.le_refl _) (Nat.le_refl _) d_M_end_27 ⟨rfl, rfl⟩
set_option maxRecDepth 100000 in
set_option maxHeartbeats 4000000 in
theorem C_M_begin (l : Launch) (D : va_G) (A : Nat → ClassId) (H : Heap) (a : Nat → Nat) (lo hi : Nat → Int32) (en md vs n : Nat) (zf mk pl ct w : Nat → Nat) (hP : mH D a A lo hi en zf mk md pl ct vs w n H) (hw : ft_bw w) (q k : Nat) (h0 : 1 ≤ q) (hq : q ≤ 48) (hk : k ≤ 4) (hm : ∀ j, k = j + 1 → w (q - 1) / (4096 * 8192 ^ j) % 8192 < 4200 ∧ zf (w (q - 1) / (4096 * 8192 ^ j) % 8192) ≤ q) : xC l y_M_begin c_M_begin 3 (some .int) 1 D A H [.ref (a 0), .int (nI q), .int (nI k)] (fun _ => False) (q1 (.int (nI (ft_beg zf w q k))) (fun H1 => H1 = H)) 0 0 := by
  refine xC.of rfl (Nat.le_of_ble_eq_true rfl) ?_
  intro p_ e_ s_ m_ ar_ bl_ me_ c_ ls X hl
  have hl : lz ls 3 [some (.ref (a 0)), some (.int (nI q)), some (.int (nI k))] := hl
  have hS : va_S (fun _ => False) H H [] := va_S.rf
  have hbw := hw (q - 1)
  refine x_iload_n X d_M_begin_0 rfl hl rfl ?_
  refine n_if_ne X 10 d_M_begin_1 rfl (by omega) (fun hc => ?_) (fun hc => ?_)
  · obtain ⟨j, rfl⟩ : ∃ j, k = j + 1 := ⟨k - 1, by omega⟩
    obtain ⟨hm, hle⟩ := hm j rfl
    refine x_iload_n X d_M_begin_10 rfl hl rfl ?_
    refine x_aload_n X d_M_begin_11 rfl hl rfl ?_
    refine m_get X hP 3 (by decide) e_M_16 rfl d_M_begin_12 ?_
    refine x_aload_n X d_M_begin_15 rfl hl rfl ?_
    refine m_get X hP 9 (by decide) e_M_34 rfl d_M_begin_16 ?_
    refine x_iload_n X d_M_begin_19 rfl hl rfl ?_
    refine x_iconst (v := nI 1) X d_M_begin_20 rfl ?_
    refine n_isub X d_M_begin_21 (by omega) ?_
    refine m_ld_w X hP (by omega) d_M_begin_22 ?_
    refine x_iload_n X d_M_begin_23 rfl hl rfl ?_
    refine x_goR (x_runS X (C_M_node l D A H (w (q - 1)) j (by omega) (by omega)) b_M_node s_M_node e_M_47 rfl hl rfl (Nat.le_of_ble_eq_true rfl) d_M_begin_24 (Nat.le_of_ble_eq_true rfl) (Nat.le_of_ble_eq_true rfl) ⟨Nat.le_of_ble_eq_true rfl, Nat.le_of_ble_eq_true rfl⟩) hS (fun locs hS => ?_)
    refine m_ld_zf X hP (by omega) d_M_begin_27 ?_
    refine n_isub X d_M_begin_28 (by omega) ?_
    refine x_topi (y := nI (ft_beg zf w q (j + 1))) (by unfold ft_beg; rw [if_neg (by omega), Nat.add_sub_cancel]) ?_
    exact x_iret X hS (Nat.le_refl _) (Nat.le_refl _) d_M_begin_29 ⟨rfl, rfl⟩
  · subst hc
    refine x_iload_n X d_M_begin_4 rfl hl rfl ?_
    refine x_iconst (v := nI 1) X d_M_begin_5 rfl ?_
    refine n_isub X d_M_begin_6 (by omega) ?_
    refine x_goto X 29 d_M_begin_7 rfl ?_
    exact x_iret X hS (Nat.le_refl _) (Nat.le_refl _) d_M_begin_29 ⟨rfl, rfl⟩
