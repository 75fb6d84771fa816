/-! Contracts of the reference: wrap; where an item ends and begins; line. -/
theorem bt_w51 {j m v : Nat} (hj : j < 3) (hm : m < 8192) : v % (4096 * 8192 ^ j) + m * (4096 * 8192 ^ j) < 2251799813685248 := by
  have h1 : v % (4096 * 8192 ^ j) < 4096 * 8192 ^ j := Nat.mod_lt _ (Nat.mul_pos (by decide) (Nat.pow_pos (by decide)))
  have h2 : m * (4096 * 8192 ^ j) ≤ 8191 * (4096 * 8192 ^ j) := Nat.mul_le_mul_right _ (by omega)
  have h3 : 8192 ^ j ≤ 8192 ^ 2 := Nat.pow_le_pow_right (by decide) (by omega)
  omega
theorem ft_bw_ww {w : Nat → Nat} {a b j m : Nat} (h : ft_bw w) (hj : j < 3) (hm : m < 8192) : ft_bw (ft_ww w a b j m) := fun q => by
  unfold ft_ww
  split
  · exact bt_w51 hj hm
  · exact h q
theorem bt_p38 : ∀ j, j < 3 → 2 ^ (13 * (j + 1) - 1) ≤ 274877906944 := by decide +kernel
set_option maxRecDepth 100000 in
set_option maxHeartbeats 4000000 in
theorem C_M_wrap (l : Launch) (D : va_G) (A : Nat → ClassId) (H0 : Heap) (a : Nat → Nat) (lo hi : Nat → Int32) (en md vs n : Nat) (zf mk pl ct w : Nat → Nat) (hP : mH D a A lo hi en zf mk md pl ct vs w n H0) (hd : mDs a) (hw : ft_bw w) (f t j : Nat) (hft : f ≤ t) (ht : t ≤ 48) (hj : j < 3) (hmd : md + 1 < 4200) : xC l y_M_wrap c_M_wrap 5 (none : Option FieldType) 1 D A H0 [.ref (a 0), .int (nI f), .int (nI t), .int (nI (j + 1))] (mFr a) (q0 (fun H1 => mH D a A lo hi en (va_up zf (md + 1) (t - f)) mk (md + 1) pl ct vs (ft_sw (ft_ww w f t j (md + 1)) f t (j + 1) 3) n H1)) 0 0 := by
  refine xC.of rfl (Nat.le_of_ble_eq_true rfl) ?_
  intro p_ e_ s_ m_ ar_ bl_ me_ c_ ls X hl
  have hl : lz ls 5 [some (.ref (a 0)), some (.int (nI f)), some (.int (nI t)), some (.int (nI (j + 1))), none] := hl
  have hS : va_S (mFr a) H0 H0 [] := va_S.rf
  have hp38 := bt_p38 j hj
  have hp0 : 0 < 2 ^ (13 * (j + 1) - 1) := Nat.two_pow_pos _
  have he : 13 * (j + 1) - 1 = 12 + 13 * j := by omega
  refine x_aload_n X d_M_wrap_0 rfl hl rfl ?_
  refine x_dup X d_M_wrap_1 rfl ?_
  refine m_get X hP 5 (by decide) e_M_53 rfl d_M_wrap_2 ?_
  refine x_iconst (v := nI 1) X d_M_wrap_5 rfl ?_
  refine n_iadd X d_M_wrap_6 ?_
  refine m_put_made X hP hd hS d_M_wrap_7 (fun H locs hP hS => ?_)
  refine x_aload_n X d_M_wrap_10 rfl hl rfl ?_
  refine m_get X hP 3 (by decide) e_M_16 rfl d_M_wrap_11 ?_
  refine x_aload_n X d_M_wrap_14 rfl hl rfl ?_
  refine m_get X hP 5 (by decide) e_M_53 rfl d_M_wrap_15 ?_
  refine x_iload_n X d_M_wrap_18 rfl hl rfl ?_
  refine x_iload_n X d_M_wrap_19 rfl hl rfl ?_
  refine n_isub X d_M_wrap_20 (by omega) ?_
  refine x_i2b X d_M_wrap_21 (m_byte2 _ (by omega)) ?_
  refine m_st_zf X hP hd hS (by omega) (by omega) d_M_wrap_22 (fun H locs hP hS => ?_)
  refine x_iload_n X d_M_wrap_23 rfl hl rfl ?_
  refine x_istore X d_M_wrap_24 hl (by decide) rfl (fun ls hl => ?_)
  have loop : ∀ (g q : Nat) (H1 : Heap) (locs : List Loc) (ls : Array Slot), t - q = g → f ≤ q → q ≤ t → lz ls 5 [some (.ref (a 0)), some (.int (nI f)), some (.int (nI t)), some (.int (nI (j + 1))), some (.int (nI q))] → mH D a A lo hi en (va_up zf (md + 1) (t - f)) mk (md + 1) pl ct vs (ft_ww w f q j (md + 1)) n H1 → va_S (mFr a) H0 H1 locs → W p_ l e_ (x_rm 1 0 0) s_ m_ ar_ bl_ me_ c_ H1 locs 0 0 (MQ bl_ (xQ (mFr a) (q0 (fun H1 => mH D a A lo hi en (va_up zf (md + 1) (t - f)) mk (md + 1) pl ct vs (ft_sw (ft_ww w f t j (md + 1)) f t (j + 1) 3) n H1))) ar_ s_ 0 0 (mFr a)) (F0 m_ 26 ls []) := by
    intro g
    induction g with
    | zero =>
      intro q H1 locs ls hg hfq hqt hl hP hS
      refine x_iload X d_M_wrap_26 hl rfl ?_
      refine x_iload_n X d_M_wrap_28 rfl hl rfl ?_
      refine n_icmp_ge X 76 d_M_wrap_29 rfl (by omega) (by omega) (fun hc => ?_) (fun hc => absurd hc (by omega))
      have hqe : q = t := by omega
      subst hqe
      refine x_aload_n X d_M_wrap_76 rfl hl rfl ?_
      refine x_iload_n X d_M_wrap_77 rfl hl rfl ?_
      refine x_iload_n X d_M_wrap_78 rfl hl rfl ?_
      refine x_iload_n X d_M_wrap_79 rfl hl rfl ?_
      refine x_iconst (v := nI 3) X d_M_wrap_80 rfl ?_
      refine x_go0 (x_runV X (C_M_settle l D A _ a lo hi en (md + 1) vs n (va_up zf (md + 1) (q - f)) mk pl ct (ft_ww w f q j (md + 1)) hP hd (ft_bw_ww hw hj (by omega)) f q (j + 1) 3 (by omega) (by omega) (by omega) (by omega)) b_M_settle s_M_settle v_M_settle e_M_56 (m_at hP) rfl rfl hl rfl (Nat.le_of_ble_eq_true rfl) d_M_wrap_81 (Nat.le_of_ble_eq_true rfl) (Nat.le_of_ble_eq_true rfl) ⟨Nat.le_of_ble_eq_true rfl, Nat.le_of_ble_eq_true rfl⟩) hS (fun _ h => h) (fun H locs hP hF hS => ?_)
      exact x_vret X hS (Nat.le_refl _) (Nat.le_refl _) d_M_wrap_84 ⟨rfl, hP⟩
    | succ g ih =>
      intro q H1 locs ls hg hfq hqt hl hP hS
      have hwq := hw q
      refine x_iload X d_M_wrap_26 hl rfl ?_
      refine x_iload_n X d_M_wrap_28 rfl hl rfl ?_
      refine n_icmp_ge X 76 d_M_wrap_29 rfl (by omega) (by omega) (fun hc => absurd hc (by omega)) (fun hc => ?_)
      refine x_aload_n X d_M_wrap_32 rfl hl rfl ?_
      refine m_get X hP 9 (by decide) e_M_34 rfl d_M_wrap_33 ?_
      refine x_iload X d_M_wrap_36 hl rfl ?_
      refine x_aload_n X d_M_wrap_38 rfl hl rfl ?_
      refine m_get X hP 9 (by decide) e_M_34 rfl d_M_wrap_39 ?_
      refine x_iload X d_M_wrap_42 hl rfl ?_
      refine m_ld_w X hP (by omega) d_M_wrap_44 ?_
      rw [ft_ww_self]
      refine x_lconst (v := lN 1) X d_M_wrap_45 rfl ?_
      refine x_bipush (v := nI 13) X d_M_wrap_46 rfl ?_
      refine x_iload_n X d_M_wrap_48 rfl hl rfl ?_
      refine n_imul X d_M_wrap_49 ?_
      refine x_iconst (v := nI 1) X d_M_wrap_50 rfl ?_
      refine n_isub X d_M_wrap_51 (by omega) ?_
      refine x_lshl X d_M_wrap_52 (wb_shl _ (by omega)) ?_
      refine x_lconst (v := lN 1) X d_M_wrap_53 rfl ?_
      refine x_lsub X d_M_wrap_54 ?_
      refine x_topl (y := lN (2 ^ (13 * (j + 1) - 1) - 1)) (by rw [Nat.one_mul]; exact lN_sub (by omega)) ?_
      refine x_land X d_M_wrap_55 ?_
      refine x_topl (wb_and (by omega) (by omega)) ?_
      refine x_aload_n X d_M_wrap_56 rfl hl rfl ?_
      refine m_get X hP 5 (by decide) e_M_53 rfl d_M_wrap_57 ?_
      refine x_i2l X d_M_wrap_60 (nI_l (by omega)) ?_
      refine x_bipush (v := nI 13) X d_M_wrap_61 rfl ?_
      refine x_iload_n X d_M_wrap_63 rfl hl rfl ?_
      refine n_imul X d_M_wrap_64 ?_
      refine x_iconst (v := nI 1) X d_M_wrap_65 rfl ?_
      refine n_isub X d_M_wrap_66 (by omega) ?_
      refine x_lshl X d_M_wrap_67 (wb_shl _ (by omega)) ?_
      refine x_lor X d_M_wrap_68 ?_
      refine x_topl (wb_or (Nat.lt_of_le_of_lt Nat.and_le_left (by omega)) (Nat.lt_of_le_of_lt (Nat.mul_le_mul_left _ hp38) (by omega))) ?_
      refine x_topl (y := lN (w q % (4096 * 8192 ^ j) + (md + 1) * (4096 * 8192 ^ j))) (by rw [he, bt_wrap]) ?_
      refine m_st_w X hP hd hS (by omega) d_M_wrap_69 (fun H locs hP hS => ?_)
      rw [ft_ww_step hfq] at hP
      refine n_iinc (d := 1) X d_M_wrap_70 rfl hl rfl (by decide) rfl (fun ls hl => ?_)
      refine x_goto X 26 d_M_wrap_73 rfl ?_
      exact ih (q + 1) _ _ _ (by omega) (by omega) (by omega) hl hP hS
  exact loop (t - f) f _ _ _ rfl (Nat.le_refl _) hft hl (by rw [ft_ww_nil]; exact hP) hS
theorem ft_nd_lt {ne mm : Nat} {zf w : Nat → Nat} {k s i sd : Nat} {x : ft_I} (h : ft_ok ne mm zf k x) (hw : ft_hd w s (ft_wI sd x)) (hne : ne ≤ 128) (hmm : mm < 4200) (hk : k ≤ 3) (hs : sd < 4) (hi : i < ft_z x) : ∀ j, k = j + 1 → w (s + i) / (4096 * 8192 ^ j) % 8192 < 4200 ∧ zf (w (s + i) / (4096 * 8192 ^ j) % 8192) = ft_z x := by
  intro j hj
  subst hj
  obtain ⟨q, hq, e⟩ := ft_hd_at (i := i) hw (by rw [ft_lv_len]; omega)
  have hf := ft_ok_fit h hne (by omega) hk q hq
  rw [e, ft_wd_node hf.1 hs, ft_ok_num h q hq]
  refine ⟨?_, rfl⟩
  have hl := (ft_ok_leaf h q hq)
  have hm : q.2.getD j 0 ∈ q.2 := by
    rw [List.getD_eq_getElem?_getD, List.getElem?_eq_getElem (by rw [hl.2.1]; omega)]
    exact List.getElem_mem _
  have := (hl.2.2 _ hm).2
  omega
theorem C_M_endI (l : Launch) (D : va_G) (A : Nat → ClassId) (H : Heap) (a : Nat → Nat) (lo hi : Nat → Int32) (en md vs n : Nat) (zf mk pl ct w : Nat → Nat) (hP : mH D a A lo hi en zf mk md pl ct vs w n H) (hw : ft_bw w) (hz : ∀ i, zf i < 128) (ne mm k s sd : Nat) (x : ft_I) (ok : ft_ok ne mm zf k x) (hx : ft_hd w s (ft_wI sd x)) (hne : ne ≤ 128) (hmm : mm < 4200) (hk : k ≤ 3) (hsd : sd < 4) (hs : s < 48) : xC l y_M_end c_M_end 3 (some .int) 1 D A H [.ref (a 0), .int (nI s), .int (nI k)] (fun _ => False) (q1 (.int (nI (s + ft_z x))) (fun H1 => H1 = H)) 0 0 := by
  have h := C_M_end l D A H a lo hi en md vs n zf mk pl ct w hP hw hz s k hs (by omega) (fun j hj => (ft_nd_lt (i := 0) ok hx hne hmm hk hsd (ft_ok_zpos ok) j hj).1)
  rw [ft_end_of ok hx hne (by omega) hk hsd] at h
  exact h
theorem C_M_begI (l : Launch) (D : va_G) (A : Nat → ClassId) (H : Heap) (a : Nat → Nat) (lo hi : Nat → Int32) (en md vs n : Nat) (zf mk pl ct w : Nat → Nat) (hP : mH D a A lo hi en zf mk md pl ct vs w n H) (hw : ft_bw w) (ne mm k s sd : Nat) (x : ft_I) (ok : ft_ok ne mm zf k x) (hx : ft_hd w s (ft_wI sd x)) (hne : ne ≤ 128) (hmm : mm < 4200) (hk : k ≤ 3) (hsd : sd < 4) (hs : s + ft_z x ≤ 48) : xC l y_M_begin c_M_begin 3 (some .int) 1 D A H [.ref (a 0), .int (nI (s + ft_z x)), .int (nI k)] (fun _ => False) (q1 (.int (nI s)) (fun H1 => H1 = H)) 0 0 := by
  have hp := ft_ok_zpos ok
  have h := C_M_begin l D A H a lo hi en md vs n zf mk pl ct w hP hw (s + ft_z x) k (by omega) hs (by omega) (fun j hj => by
    have := ft_nd_lt (i := ft_z x - 1) ok hx hne hmm hk hsd (by omega) j hj
    rw [show s + (ft_z x - 1) = s + ft_z x - 1 from by omega] at this
    exact ⟨this.1, by rw [this.2]; omega⟩)
  rw [ft_beg_of ok hx hne (by omega) hk hsd] at h
  exact h
