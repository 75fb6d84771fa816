/-! The reference, call by call: first, replace. -/
theorem ft_zR_tk {l : List ft_I} {i : Nat} (hi : i < l.length) : ft_zR (l.take (i + 1)) = ft_zR (l.take i) + ft_z (l.getD i ft_no) := by
  rw [List.take_succ_eq_append_getElem hi, ft_zR_app, List.getD_eq_getElem?_getD, List.getElem?_eq_getElem hi]
  simp [ft_zR]
theorem ft_rR_succ {k : Nat} {lr : List ft_I} {p : Nat} {y : ft_I} {c : ft_C} : ft_rR (k + 1) lr p y c = (lr.set (ft_ix lr p) (ft_nd (c.1 + 1) (ft_rR k (ft_ps (lr.getD (ft_ix lr p) ft_no)) (p - ft_zR (lr.take (ft_ix lr p))) y (c.1 + 1, va_up c.2 (c.1 + 1) (ft_z (lr.getD (ft_ix lr p) ft_no)))).1), (ft_rR k (ft_ps (lr.getD (ft_ix lr p) ft_no)) (p - ft_zR (lr.take (ft_ix lr p))) y (c.1 + 1, va_up c.2 (c.1 + 1) (ft_z (lr.getD (ft_ix lr p) ft_no)))).2) := rfl
theorem ft_eo_up (w : Nat → Nat) {p v f t : Nat} (h1 : f ≤ p) (h2 : p < t) : ft_eo w (va_up w p v) f t := fun q hq => by unfold va_up; rw [if_neg (by omega)]
theorem ft_ent_hd {ne mm : Nat} {zf w : Nat → Nat} {b p sd e : Nat} {ou : List Nat} {lr : List ft_I} (h : ft_okR ne mm zf 0 lr) (hne : ne ≤ 128) (hw : ft_hd w b (ft_wO sd ou lr)) (h1 : b ≤ p) (h2 : p < b + ft_zR lr) : ft_hd (va_up w p (w p / 128 * 128 + e)) b (ft_wO sd ou (lr.set (ft_ix lr (p - b)) (.num e))) := by
  have hl : 0 < lr.length := by
    cases lr with
    | nil => simp [ft_zR] at h2; omega
    | cons x l => simp
  have hlt := ft_ix_lt (l := lr) (p - b) hl
  have hsp := ft_ix_sp (l := lr) (p := p - b) (by omega)
  generalize ft_ix lr (p - b) = i at hlt hsp ⊢
  obtain ⟨e0, he0, he1⟩ := h _ (ft_getD_mem hlt)
  have hz1 : ft_z (lr.getD i ft_no) = 1 := by rw [he0]; rfl
  rw [hz1] at hsp
  have hp : p = b + ft_zR (lr.take i) := by omega
  rw [ft_row_split hlt, he0, ft_wO_app, ft_wO_app] at hw
  obtain ⟨a1, a2⟩ := ft_hd_app.1 hw
  obtain ⟨a2, a3⟩ := ft_hd_app.1 a2
  rw [ft_wO_len] at a2 a3
  rw [← hp] at a2 a3
  have a4 : w p = ft_wd sd (e0, ou) := by
    have := a2 0 (ft_wd sd (e0, ou)) (by simp [ft_wO, ft_lR, ft_lv])
    rwa [Nat.add_zero] at this
  have heo := ft_eo_up w (p := p) (v := w p / 128 * 128 + e) (Nat.le_refl p) (Nat.lt_succ_self p)
  rw [ft_row_set hlt, ft_wO_app, ft_wO_app]
  refine ft_hd_app.2 ⟨ft_eo_hd heo a1 (Or.inl (by rw [ft_wO_len]; omega)), ft_hd_app.2 ⟨?_, ?_⟩⟩
  · rw [ft_wO_len, ← hp]
    intro i' x hx
    have hx : [ft_wd sd (e, ou)][i']? = some x := by simpa [ft_wO, ft_lR, ft_lv] using hx
    cases i' with
    | zero =>
      cases hx
      rw [Nat.add_zero]
      show va_up w p _ p = _
      rw [va_up_self, a4, ft_ent_wd (by omega)]
    | succ i' => simp at hx
  · rw [ft_wO_len, ft_wO_len, ← hp]
    exact ft_eo_hd heo a3 (Or.inr (by show p + 1 ≤ p + 1; exact Nat.le_refl _))
theorem ft_set_hd {w W' : Nat → Nat} {b sd m : Nat} {ou : List Nat} {lr ps : List ft_I} {i : Nat} (hi : i < lr.length) (hz : ft_zR ps = ft_z (lr.getD i ft_no)) (hw : ft_hd w b (ft_wO sd ou lr)) (h1 : ft_hd W' (b + ft_zR (lr.take i)) (ft_wO sd (m :: ou) ps)) (he : ft_eo w W' (b + ft_zR (lr.take i)) (b + ft_zR (lr.take i) + ft_z (lr.getD i ft_no))) : ft_hd W' b (ft_wO sd ou (lr.set i (ft_nd m ps))) := by
  rw [ft_row_split hi, ft_wO_app, ft_wO_app] at hw
  obtain ⟨a1, a2⟩ := ft_hd_app.1 hw
  obtain ⟨a2, a3⟩ := ft_hd_app.1 a2
  rw [ft_wO_len] at a2
  rw [ft_wO_len, ft_wO_len] at a3
  have hz1 : ft_zR [lr.getD i ft_no] = ft_z (lr.getD i ft_no) := by simp [ft_zR]
  rw [hz1] at a3
  rw [ft_row_set hi, ft_wO_app, ft_wO_app, ft_wO_nd]
  refine ft_hd_app.2 ⟨ft_eo_hd he a1 (Or.inl (by rw [ft_wO_len]; exact Nat.le_refl _)), ft_hd_app.2 ⟨?_, ?_⟩⟩
  · rw [ft_wO_len]; exact h1
  · rw [ft_wO_len, ft_wO_len, hz]
    exact ft_eo_hd he a3 (Or.inr (Nat.le_refl _))
theorem C_M_endO (l : Launch) (D : va_G) (A : Nat → ClassId) (H : Heap) (a : Nat → Nat) (lo hi : Nat → Int32) (en md vs n : Nat) (zf mk pl ct w : Nat → Nat) (hP : mH D a A lo hi en zf mk md pl ct vs w n H) (hw : ft_bw w) (hz : ∀ i, zf i < 128) (ne mm k s sd : Nat) (ou : List Nat) (x : ft_I) (ok : ft_ok ne mm zf k x) (hx : ft_hd w s (ft_wO sd ou [x])) (hne : ne ≤ 128) (hmm : mm < 4200) (hk : k + ou.length ≤ 3) (ho : ∀ d ∈ ou, d < 8192) (hsd : sd < 4) (hs : s < 48) : xC l y_M_end c_M_end 3 (some .int) 1 D A H [.ref (a 0), .int (nI s), .int (nI k)] (fun _ => False) (q1 (.int (nI (s + ft_z x))) (fun H1 => H1 = H)) 0 0 := by
  have h := C_M_end l D A H a lo hi en md vs n zf mk pl ct w hP hw hz s k hs (by omega) (fun j hj => (ft_nd_ltO ok hx hne hmm hk ho hsd j hj).1)
  rw [ft_end_ofO ok hx hne hmm hk ho hsd] at h
  exact h
set_option maxRecDepth 100000 in
set_option maxHeartbeats 4000000 in
theorem C_M_first (l : Launch) (D : va_G) (A : Nat → ClassId) (H0 : Heap) (a : Nat → Nat) (lo hi : Nat → Int32) (en md vs n : Nat) (zf mk pl ct w : Nat → Nat) (hP : mH D a A lo hi en zf mk md pl ct vs w n H0) (hw : ft_bw w) (hn : n ≤ 48) (p k sd b : Nat) (hp : p < n) (hk : k < 8) (hsd : sd < 4) (hb : b ≤ p) (hall : ∀ q, b ≤ q → q ≤ p → ft_le8 (w q) = k ∧ ft_sd (w q) = sd) (h0 : ft_isb n w b k sd = 0) : xC l y_M_first c_M_first 4 (some .int) 2 D A H0 [.ref (a 0), .int (nI p), .int (nI k)] (fun _ => False) (q1 (.int (nI b)) (fun H1 => H1 = H0)) 0 0 := by
  refine xC.of rfl (Nat.le_of_ble_eq_true rfl) ?_
  intro p_ e_ s_ m_ ar_ bl_ me_ c_ ls X hl
  have hl : lz ls 4 [some (.ref (a 0)), some (.int (nI p)), some (.int (nI k)), none] := hl
  have hS : va_S (fun _ => False) H0 H0 [] := va_S.rf
  refine x_iload_n X d_M_first_0 rfl hl rfl ?_
  refine x_istore_n X d_M_first_1 rfl hl (by decide) rfl (fun ls hl => ?_)
  have hwp := hw p
  have hsdp : w p / 128 % 4 = sd := (hall p hb (Nat.le_refl _)).2
  have loop : ∀ (g q : Nat) (locs : List Loc) (ls : Array Slot), q - b = g → b ≤ q → q ≤ p → lz ls 4 [some (.ref (a 0)), some (.int (nI p)), some (.int (nI k)), some (.int (nI q))] → va_S (fun _ => False) H0 H0 locs → W p_ l e_ (x_rm 2 0 0) s_ m_ ar_ bl_ me_ c_ H0 locs 0 0 (MQ bl_ (xQ (fun _ => False) (q1 (.int (nI b)) (fun H1 => H1 = H0))) ar_ s_ 0 0 (fun _ => False)) (F0 m_ 2 ls []) := by
    clear hl hS
    intro g
    induction g with
    | zero =>
      intro q locs ls hg hbq hqp hl hS
      have hq : q = b := by omega
      subst hq
      refine x_aload_n X d_M_first_2 rfl hl rfl ?_
      refine x_iload_n X d_M_first_3 rfl hl rfl ?_
      refine x_iconst (v := nI 1) X d_M_first_4 rfl ?_
      refine x_isub X d_M_first_5 ?_
      refine x_iload_n X d_M_first_6 rfl hl rfl ?_
      refine x_aload_n X d_M_first_7 rfl hl rfl ?_
      refine m_get X hP 9 (by decide) e_M_34 rfl d_M_first_8 ?_
      refine x_iload_n X d_M_first_11 rfl hl rfl ?_
      refine m_ld_w X hP (by omega) d_M_first_12 ?_
      refine x_goR (x_runS X (C_M_side l D A _ (w p) (by omega)) b_M_side s_M_side e_M_44 rfl hl rfl (Nat.le_of_ble_eq_true rfl) d_M_first_13 (Nat.le_of_ble_eq_true rfl) (Nat.le_of_ble_eq_true rfl) ⟨Nat.le_of_ble_eq_true rfl, Nat.le_of_ble_eq_true rfl⟩) hS (fun locs hS => ?_)
      rw [hsdp]
      refine x_goR (x_runV X (C_M_isb l D A _ a lo hi en md vs n zf mk pl ct w hP hw hn q k sd (by omega) hk hsd) b_M_is s_M_is v_M_is e_M_64 (m_at hP) rfl rfl hl rfl (Nat.le_of_ble_eq_true rfl) d_M_first_16 (Nat.le_of_ble_eq_true rfl) (Nat.le_of_ble_eq_true rfl) ⟨Nat.le_of_ble_eq_true rfl, Nat.le_of_ble_eq_true rfl⟩) hS (fun locs hS => ?_)
      rw [h0]
      refine n_if_eq X 28 d_M_first_19 rfl (by decide) (fun hc => ?_) (fun hc => absurd rfl hc)
      refine x_iload_n X d_M_first_28 rfl hl rfl ?_
      exact x_iret X hS (Nat.le_refl _) (Nat.le_refl _) d_M_first_29 ⟨rfl, rfl⟩
    | succ g ih =>
      intro q locs ls hg hbq hqp hl hS
      have h1 : ft_isb n w q k sd = 1 := ft_isb1 (by omega) (by omega) (hall (q - 1) (by omega) (by omega))
      refine x_aload_n X d_M_first_2 rfl hl rfl ?_
      refine x_iload_n X d_M_first_3 rfl hl rfl ?_
      refine x_iconst (v := nI 1) X d_M_first_4 rfl ?_
      refine x_isub X d_M_first_5 ?_
      refine x_iload_n X d_M_first_6 rfl hl rfl ?_
      refine x_aload_n X d_M_first_7 rfl hl rfl ?_
      refine m_get X hP 9 (by decide) e_M_34 rfl d_M_first_8 ?_
      refine x_iload_n X d_M_first_11 rfl hl rfl ?_
      refine m_ld_w X hP (by omega) d_M_first_12 ?_
      refine x_goR (x_runS X (C_M_side l D A _ (w p) (by omega)) b_M_side s_M_side e_M_44 rfl hl rfl (Nat.le_of_ble_eq_true rfl) d_M_first_13 (Nat.le_of_ble_eq_true rfl) (Nat.le_of_ble_eq_true rfl) ⟨Nat.le_of_ble_eq_true rfl, Nat.le_of_ble_eq_true rfl⟩) hS (fun locs hS => ?_)
      rw [hsdp]
      refine x_goR (x_runV X (C_M_isb l D A _ a lo hi en md vs n zf mk pl ct w hP hw hn q k sd (by omega) hk hsd) b_M_is s_M_is v_M_is e_M_64 (m_at hP) rfl rfl hl rfl (Nat.le_of_ble_eq_true rfl) d_M_first_16 (Nat.le_of_ble_eq_true rfl) (Nat.le_of_ble_eq_true rfl) ⟨Nat.le_of_ble_eq_true rfl, Nat.le_of_ble_eq_true rfl⟩) hS (fun locs hS => ?_)
      rw [h1]
      refine n_if_eq X 28 d_M_first_19 rfl (by decide) (fun hc => absurd hc (by decide)) (fun hc => ?_)
      refine n_idec X d_M_first_22 (by omega) hl rfl (by decide) rfl (fun ls hl => ?_)
      refine x_goto X 2 d_M_first_25 rfl ?_
      exact ih (q - 1) _ _ (by omega) (by omega) (by omega) hl hS
  exact loop _ p _ _ rfl hb (Nat.le_refl _) hl hS
set_option maxRecDepth 100000 in
set_option maxHeartbeats 4000000 in
theorem A_M_replace (l : Launch) (D : va_G) (A : Nat → ClassId) (H0 : Heap) (a : Nat → Nat) (hd : mDs a) (q : ft_Q) (hq : sp_ok2 q) (hI : mI D a A q H0) (v : Int32) (p : Int32) (lw : Int32) (hg : Int32) : xC l y_M_replace c_M_replace 11 (some .int) 7 D A H0 [.ref (a 0), .int v, .int p, .int lw, .int hg] (mFr a) (q1 (.int (sp_replace q v p lw hg).1) (fun H1 => mI D a A (sp_replace q v p lw hg).2 H1)) 0 0 := by
  obtain ⟨lo, hi, en, zf, mk, md, pl, ct, vs, w, n, hR, hP⟩ := hI
  obtain ⟨⟨rfl, rfl, rfl, rfl⟩, h5, h6, h7, h8, h9, h10⟩ := id hR
  have hl1 := hq.1.1
  have hl2 := hq.1.2.1
  have hl3 := hq.1.2.2.2.1
  have hmd0 := sp_md hq
  rcases sp_at_cases hq v with ⟨hv, hat⟩ | ⟨j, t, rfl, hj, hjt, hat⟩
  · skip
    have hsp : sp_replace q v p lw hg = ((-1 : Int32), q) := by unfold sp_replace; rw [hat]
    rw [hsp]
    refine xC.of rfl (Nat.le_of_ble_eq_true rfl) ?_
    intro p_ e_ s_ m_ ar_ bl_ me_ c_ ls X hl
    have hl : lz ls 11 [some (.ref (a 0)), some (.int v), some (.int p), some (.int lw), some (.int hg), none, none, none, none, none, none] := hl
    have hS : va_S (mFr a) H0 H0 [] := va_S.rf
    refine x_aload_n X d_M_replace_0 rfl hl rfl ?_
    refine x_iload_n X d_M_replace_1 rfl hl rfl ?_
    refine x_goR (x_runV X (C_M_none_t l D A _ a lo hi q.2.2.length q.2.1.1 q.1.length n q.2.1.2 mk pl ct w hP v hv) b_M_none s_M_none v_M_none e_M_109 (m_at hP) rfl rfl hl rfl (Nat.le_of_ble_eq_true rfl) d_M_replace_2 (Nat.le_of_ble_eq_true rfl) (Nat.le_of_ble_eq_true rfl) ⟨Nat.le_of_ble_eq_true rfl, Nat.le_of_ble_eq_true rfl⟩) hS (fun locs hS => ?_)
    refine n_if_ne X 28 d_M_replace_5 rfl (by decide) (fun hc => ?_) (fun hc => absurd hc (by decide))
    refine x_iconst (v := -1) X d_M_replace_28 rfl ?_
    exact x_iret X hS (Nat.le_refl _) (Nat.le_refl _) d_M_replace_29 ⟨rfl, _, _, _, _, _, _, _, _, _, _, _, hR, hP⟩
  have ht := hq.1.2.2.1 t (List.mem_of_getElem? hjt)
  obtain ⟨hct, hpl⟩ := h6 j t hjt
  have hz40 := ht.2
  by_cases hbad : p < 0 ∨ nI (ft_zT t.1 t.2) ≤ p ∨ hg < lw
  · skip
    have hsp : sp_replace q (nI j) p lw hg = ((-1 : Int32), q) := by unfold sp_replace; rw [hat]; dsimp only; rw [if_pos hbad]
    rw [hsp]
    refine xC.of rfl (Nat.le_of_ble_eq_true rfl) ?_
    intro p_ e_ s_ m_ ar_ bl_ me_ c_ ls X hl
    have hl : lz ls 11 [some (.ref (a 0)), some (.int (nI j)), some (.int p), some (.int lw), some (.int hg), none, none, none, none, none, none] := hl
    have hS : va_S (mFr a) H0 H0 [] := va_S.rf
    refine x_aload_n X d_M_replace_0 rfl hl rfl ?_
    refine x_iload_n X d_M_replace_1 rfl hl rfl ?_
    refine x_goR (x_runV X (C_M_none_f l D A _ a lo hi q.2.2.length q.2.1.1 q.1.length n q.2.1.2 mk pl ct w hP j hj (by omega)) b_M_none s_M_none v_M_none e_M_109 (m_at hP) rfl rfl hl rfl (Nat.le_of_ble_eq_true rfl) d_M_replace_2 (Nat.le_of_ble_eq_true rfl) (Nat.le_of_ble_eq_true rfl) ⟨Nat.le_of_ble_eq_true rfl, Nat.le_of_ble_eq_true rfl⟩) hS (fun locs hS => ?_)
    refine n_if_ne X 28 d_M_replace_5 rfl (by decide) (fun hc => absurd rfl hc) (fun hc => ?_)
    refine x_iload_n X d_M_replace_8 rfl hl rfl ?_
    refine x_if_lt X 28 d_M_replace_9 rfl (fun h1 => ?_) (fun h1 => ?_)
    · skip
      refine x_iconst (v := -1) X d_M_replace_28 rfl ?_
      exact x_iret X hS (Nat.le_refl _) (Nat.le_refl _) d_M_replace_29 ⟨rfl, _, _, _, _, _, _, _, _, _, _, _, hR, hP⟩
    refine x_iload_n X d_M_replace_12 rfl hl rfl ?_
    refine x_aload_n X d_M_replace_13 rfl hl rfl ?_
    refine m_get X hP 7 (by decide) e_M_27 rfl d_M_replace_14 ?_
    refine x_iload_n X d_M_replace_17 rfl hl rfl ?_
    refine m_ld_ct X hP (by omega) d_M_replace_18 ?_
    rw [hct]
    refine x_icmp_ge X 28 d_M_replace_19 rfl (fun h2 => ?_) (fun h2 => ?_)
    · skip
      refine x_iconst (v := -1) X d_M_replace_28 rfl ?_
      exact x_iret X hS (Nat.le_refl _) (Nat.le_refl _) d_M_replace_29 ⟨rfl, _, _, _, _, _, _, _, _, _, _, _, hR, hP⟩
    refine x_iload_n X d_M_replace_22 rfl hl rfl ?_
    refine x_iload X d_M_replace_23 hl rfl ?_
    refine x_icmp_le X 30 d_M_replace_25 rfl (fun h3 => absurd hbad (fun h => h.elim h1 (fun h => h.elim h2 (Int32.not_lt.2 h3)))) (fun _ => ?_)
    refine x_iconst (v := -1) X d_M_replace_28 rfl ?_
    exact x_iret X hS (Nat.le_refl _) (Nat.le_refl _) d_M_replace_29 ⟨rfl, _, _, _, _, _, _, _, _, _, _, _, hR, hP⟩
  have hlh : ¬ hg < lw := fun h => hbad (Or.inr (Or.inr h))
  obtain ⟨P, rfl, hPz⟩ : ∃ P, p = nI P ∧ P < ft_zT t.1 t.2 := by
    rcases pk_ix p (n := ft_zT t.1 t.2) (by omega) with h | h | ⟨i, hi2, e⟩
    · exact absurd (Or.inl h) hbad
    · exact absurd (Or.inr (Or.inl h)) hbad
    · exact ⟨i, e, hi2⟩
  by_cases hfu : 120 ≤ q.1.length
  · skip
    have hsp : sp_replace q (nI j) (nI P) lw hg = ((-2 : Int32), q) := by unfold sp_replace; rw [hat]; dsimp only; rw [if_neg hbad, if_pos hfu]
    rw [hsp]
    refine xC.of rfl (Nat.le_of_ble_eq_true rfl) ?_
    intro p_ e_ s_ m_ ar_ bl_ me_ c_ ls X hl
    have hl : lz ls 11 [some (.ref (a 0)), some (.int (nI j)), some (.int (nI P)), some (.int lw), some (.int hg), none, none, none, none, none, none] := hl
    have hS : va_S (mFr a) H0 H0 [] := va_S.rf
    refine x_aload_n X d_M_replace_0 rfl hl rfl ?_
    refine x_iload_n X d_M_replace_1 rfl hl rfl ?_
    refine x_goR (x_runV X (C_M_none_f l D A _ a lo hi q.2.2.length q.2.1.1 q.1.length n q.2.1.2 mk pl ct w hP j hj (by omega)) b_M_none s_M_none v_M_none e_M_109 (m_at hP) rfl rfl hl rfl (Nat.le_of_ble_eq_true rfl) d_M_replace_2 (Nat.le_of_ble_eq_true rfl) (Nat.le_of_ble_eq_true rfl) ⟨Nat.le_of_ble_eq_true rfl, Nat.le_of_ble_eq_true rfl⟩) hS (fun locs hS => ?_)
    refine n_if_ne X 28 d_M_replace_5 rfl (by decide) (fun hc => absurd rfl hc) (fun hc => ?_)
    refine x_iload_n X d_M_replace_8 rfl hl rfl ?_
    refine n_if_lt X 28 d_M_replace_9 rfl (by omega) (fun hc => absurd hc (by omega)) (fun hc => ?_)
    refine x_iload_n X d_M_replace_12 rfl hl rfl ?_
    refine x_aload_n X d_M_replace_13 rfl hl rfl ?_
    refine m_get X hP 7 (by decide) e_M_27 rfl d_M_replace_14 ?_
    refine x_iload_n X d_M_replace_17 rfl hl rfl ?_
    refine m_ld_ct X hP (by omega) d_M_replace_18 ?_
    rw [hct]
    refine n_icmp_ge X 28 d_M_replace_19 rfl (by omega) (by omega) (fun hc => absurd hc (by omega)) (fun hc => ?_)
    refine x_iload_n X d_M_replace_22 rfl hl rfl ?_
    refine x_iload X d_M_replace_23 hl rfl ?_
    refine x_icmp_le X 30 d_M_replace_25 rfl (fun _ => ?_) (fun h => absurd (Int32.not_le.1 h) hlh)
    refine x_aload_n X d_M_replace_30 rfl hl rfl ?_
    refine m_get X hP 8 (by decide) e_M_30 rfl d_M_replace_31 ?_
    refine x_bipush (v := nI 120) X d_M_replace_34 rfl ?_
    refine n_icmp_lt X 42 d_M_replace_36 rfl (by omega) (by omega) (fun hc => absurd hc (by omega)) (fun hc => ?_)
    refine x_bipush (v := -2) X d_M_replace_39 rfl ?_
    exact x_iret X hS (Nat.le_refl _) (Nat.le_refl _) d_M_replace_41 ⟨rfl, _, _, _, _, _, _, _, _, _, _, _, hR, hP⟩
  have hok := sp_replace_ok hq (nI j) (nI P) lw hg
  have hsp : sp_replace q (nI j) (nI P) lw hg = (nI q.1.length, (q.1 ++ [(ft_rT 0 t.1 t.2 P (sp_new q) q.2.1).1], (ft_rT 0 t.1 t.2 P (sp_new q) q.2.1).2, q.2.2 ++ [(lw, hg)])) := by unfold sp_replace; rw [hat]; dsimp only; rw [if_neg hbad, if_neg hfu, nI_clamp (by omega)]; rfl
  rw [hsp] at hok ⊢
  have hmd := sp_md hok
  dsimp only at hmd
  have hto := sp_t_ok hq (List.mem_of_getElem? hjt) (q.2.2 ++ [(lw, hg)]) (by simp)
  have hno := sp_new_ok q lw hg (c := q.2.1)
  rw [List.length_append, List.length_singleton] at hto hno
  have hrt := (ft_rT_ok t.1 0 P hno hto hPz).2.2
  refine xC.of rfl (Nat.le_of_ble_eq_true rfl) ?_
  intro p_ e_ s_ m_ ar_ bl_ me_ c_ ls X hl
  have hl : lz ls 11 [some (.ref (a 0)), some (.int (nI j)), some (.int (nI P)), some (.int lw), some (.int hg), none, none, none, none, none, none] := hl
  have hS : va_S (mFr a) H0 H0 [] := va_S.rf
  refine x_aload_n X d_M_replace_0 rfl hl rfl ?_
  refine x_iload_n X d_M_replace_1 rfl hl rfl ?_
  refine x_goR (x_runV X (C_M_none_f l D A _ a lo hi q.2.2.length q.2.1.1 q.1.length n q.2.1.2 mk pl ct w hP j hj (by omega)) b_M_none s_M_none v_M_none e_M_109 (m_at hP) rfl rfl hl rfl (Nat.le_of_ble_eq_true rfl) d_M_replace_2 (Nat.le_of_ble_eq_true rfl) (Nat.le_of_ble_eq_true rfl) ⟨Nat.le_of_ble_eq_true rfl, Nat.le_of_ble_eq_true rfl⟩) hS (fun locs hS => ?_)
  refine n_if_ne X 28 d_M_replace_5 rfl (by decide) (fun hc => absurd rfl hc) (fun hc => ?_)
  refine x_iload_n X d_M_replace_8 rfl hl rfl ?_
  refine n_if_lt X 28 d_M_replace_9 rfl (by omega) (fun hc => absurd hc (by omega)) (fun hc => ?_)
  refine x_iload_n X d_M_replace_12 rfl hl rfl ?_
  refine x_aload_n X d_M_replace_13 rfl hl rfl ?_
  refine m_get X hP 7 (by decide) e_M_27 rfl d_M_replace_14 ?_
  refine x_iload_n X d_M_replace_17 rfl hl rfl ?_
  refine m_ld_ct X hP (by omega) d_M_replace_18 ?_
  rw [hct]
  refine n_icmp_ge X 28 d_M_replace_19 rfl (by omega) (by omega) (fun hc => absurd hc (by omega)) (fun hc => ?_)
  refine x_iload_n X d_M_replace_22 rfl hl rfl ?_
  refine x_iload X d_M_replace_23 hl rfl ?_
  refine x_icmp_le X 30 d_M_replace_25 rfl (fun _ => ?_) (fun h => absurd (Int32.not_le.1 h) hlh)
  refine x_aload_n X d_M_replace_30 rfl hl rfl ?_
  refine m_get X hP 8 (by decide) e_M_30 rfl d_M_replace_31 ?_
  refine x_bipush (v := nI 120) X d_M_replace_34 rfl ?_
  refine n_icmp_lt X 42 d_M_replace_36 rfl (by omega) (by omega) (fun hc => ?_) (fun hc => absurd hc (by omega))
  refine x_aload_n X d_M_replace_42 rfl hl rfl ?_
  refine x_iload_n X d_M_replace_43 rfl hl rfl ?_
  refine x_go0 (x_runV X (C_M_load l D A _ a lo hi q.2.2.length q.2.1.1 q.1.length n q.2.1.2 mk pl ct w hP hd j (by omega) (by omega)) b_M_load s_M_load v_M_load e_M_113 (m_at hP) rfl rfl hl rfl (Nat.le_of_ble_eq_true rfl) d_M_replace_44 (Nat.le_of_ble_eq_true rfl) (Nat.le_of_ble_eq_true rfl) ⟨Nat.le_of_ble_eq_true rfl, Nat.le_of_ble_eq_true rfl⟩) hS (fun _ h => h) (fun H locs hP hF hS => ?_)
  rw [hct] at hP
  have hw1 := ft_ld_bw (j := j) (m := ft_zT t.1 t.2) h9 h8
  have hd1 := ft_ld_hd (w := w) (m := ft_zT t.1 t.2) hpl (by rw [ft_wT_len]; exact Nat.le_refl _)
  generalize ft_ld w pl j (ft_zT t.1 t.2) = w1 at hP hw1 hd1
  obtain ⟨K, lr, sd, b, ⟨k1, k2, k3, k0, k4, k5, k6⟩, g2, g3, g4, g5⟩ := ft_loc (w := w1) (by omega) (by omega) hno t.1 0 0 P hto (by omega) hd1 (fun h => absurd h (by decide)) hPz
  rw [Nat.zero_add] at k4 k5 k6 g4 g5
  have hwP := hw1 P
  have hlr : 0 < lr.length := by
    cases lr with
    | nil => simp [ft_zR] at k5; omega
    | cons x l => simp
  have hrr := ft_rR_ok (p := P - b) hno k3 (by omega) hlr
  have hall : ∀ x, b ≤ x → x < b + ft_zR lr → ft_le8 (w1 x) = K ∧ ft_sd (w1 x) = sd := fun x h1 h2 => by
    have h3 := ft_wR_at (i := x - b) k3 g2 (by omega) (by omega) k1 (by omega) (by omega)
    rw [show b + (x - b) = x from by omega] at h3
    exact ⟨h3.2.1, h3.1⟩
  have hlev : w1 P / 512 % 8 = K := (hall P k4 (by omega)).1
  have hmdK : q.2.1.1 + K < 4200 := by
    have h1 := hrr.2.2.2.1
    rw [← g4] at h1
    omega
  refine x_aload_n X d_M_replace_47 rfl hl rfl ?_
  refine m_get X hP 9 (by decide) e_M_34 rfl d_M_replace_48 ?_
  refine x_iload_n X d_M_replace_51 rfl hl rfl ?_
  refine m_ld_w X hP (by omega) d_M_replace_52 ?_
  refine x_goR (x_runS X (C_M_level l D A _ (w1 P) (by omega)) b_M_level s_M_level e_M_40 rfl hl rfl (Nat.le_of_ble_eq_true rfl) d_M_replace_53 (Nat.le_of_ble_eq_true rfl) (Nat.le_of_ble_eq_true rfl) ⟨Nat.le_of_ble_eq_true rfl, Nat.le_of_ble_eq_true rfl⟩) hS (fun locs hS => ?_)
  rw [hlev]
  refine x_istore X d_M_replace_56 hl (by decide) rfl (fun ls hl => ?_)
  refine x_iconst (v := nI 0) X d_M_replace_58 rfl ?_
  refine x_istore X d_M_replace_59 hl (by decide) rfl (fun ls hl => ?_)
  refine x_iconst (v := nI 0) X d_M_replace_61 rfl ?_
  refine x_istore X d_M_replace_62 hl (by decide) rfl (fun ls hl => ?_)
  refine x_aload_n X d_M_replace_64 rfl hl rfl ?_
  refine m_get X hP 10 (by decide) e_M_37 rfl d_M_replace_65 ?_
  refine x_istore X d_M_replace_68 hl (by decide) rfl (fun ls hl => ?_)
  refine x_iload X d_M_replace_70 hl rfl ?_
  refine x_istore X d_M_replace_72 hl (by decide) rfl (fun ls hl => ?_)
  have main : ∀ (k : Nat) (lr : List ft_I) (b : Nat) (ou : List Nat) (md : Nat) (zf w : Nat → Nat) (x6 x7 x8 : Int32) (v10 : Option Value) (H1 : Heap) (locs : List Loc) (ls : Array Slot), k + ou.length = K → (k < K → x7 = nI b) → (k = K → (∀ x, b ≤ x → x < b + ft_zR lr → ft_le8 (w x) = K ∧ ft_sd (w x) = sd) ∧ ft_isb (ft_zT t.1 t.2) w b K sd = 0) → ft_okR (q.2.2.length + 1) md zf k lr → b ≤ P → P < b + ft_zR lr → b + ft_zR lr ≤ ft_zT t.1 t.2 → ft_hd w b (ft_wO sd ou lr) → ft_bw w → (∀ i, zf i < 128) → md + k < 4200 → (∀ d ∈ ou, d < 8192) → lz ls 11 [some (.ref (a 0)), some (.int (nI j)), some (.int (nI P)), some (.int lw), some (.int hg), some (.int (nI K)), some (.int x6), some (.int x7), some (.int x8), some (.int (nI k)), v10] → mH D a A lo hi q.2.2.length zf mk md pl ct q.1.length w (ft_zT t.1 t.2) H1 → va_S (mFr a) H0 H1 locs → (∀ (w' : Nat → Nat) (v5 v6 v7 v8 v9 v10 : Option Value) (H1 : Heap) (locs : List Loc) (ls : Array Slot), mH D a A lo hi q.2.2.length (ft_rR k lr (P - b) (sp_new q) (md, zf)).2.2 mk (ft_rR k lr (P - b) (sp_new q) (md, zf)).2.1 pl ct q.1.length w' (ft_zT t.1 t.2) H1 → ft_bw w' → ft_hd (va_up w' P (w' P / 128 * 128 + q.2.2.length)) b (ft_wO sd ou (ft_rR k lr (P - b) (sp_new q) (md, zf)).1) → ft_eo w (va_up w' P (w' P / 128 * 128 + q.2.2.length)) b (b + ft_zR lr) → lz ls 11 [some (.ref (a 0)), some (.int (nI j)), some (.int (nI P)), some (.int lw), some (.int hg), v5, v6, v7, v8, v9, v10] → va_S (mFr a) H0 H1 locs → W p_ l e_ (x_rm 7 0 0) s_ m_ ar_ bl_ me_ c_ H1 locs 0 0 (MQ bl_ (xQ (mFr a) (q1 (.int ((nI q.1.length, (q.1 ++ [(ft_rT 0 t.1 t.2 P (sp_new q) q.2.1).1], (ft_rT 0 t.1 t.2 P (sp_new q) q.2.1).2, q.2.2 ++ [(lw, hg)]))).1) (fun H1 => mI D a A ((nI q.1.length, (q.1 ++ [(ft_rT 0 t.1 t.2 P (sp_new q) q.2.1).1], (ft_rT 0 t.1 t.2 P (sp_new q) q.2.1).2, q.2.2 ++ [(lw, hg)]))).2 H1))) ar_ s_ 0 0 (mFr a)) (F0 m_ 231 ls [])) → W p_ l e_ (x_rm 7 0 0) s_ m_ ar_ bl_ me_ c_ H1 locs 0 0 (MQ bl_ (xQ (mFr a) (q1 (.int ((nI q.1.length, (q.1 ++ [(ft_rT 0 t.1 t.2 P (sp_new q) q.2.1).1], (ft_rT 0 t.1 t.2 P (sp_new q) q.2.1).2, q.2.2 ++ [(lw, hg)]))).1) (fun H1 => mI D a A ((nI q.1.length, (q.1 ++ [(ft_rT 0 t.1 t.2 P (sp_new q) q.2.1).1], (ft_rT 0 t.1 t.2 P (sp_new q) q.2.1).2, q.2.2 ++ [(lw, hg)]))).2 H1))) ar_ s_ 0 0 (mFr a)) (F0 m_ 74 ls []) := by
    clear hl hS hP g2 g3 g4 g5 hrr hlr hall hlev hmdK k0 k3 k4 k5 k6 hwP hd1 hw1 hok hmd hrt
    clear lr b w1
    intro k
    induction k with
    | zero =>
      intro lr b ou md zf w x6 x7 x8 v10 H1 locs ls hkK hx7 hK okl hbP hPb hbz hh hw hz hmk ho hl hP hS kk
      refine x_iload X d_M_replace_74 hl rfl ?_
      refine n_if_le X 231 d_M_replace_76 rfl (by omega) (fun hc => ?_) (fun hc => absurd hc (by omega))
      exact kk w _ _ _ _ _ _ H1 _ _ hP hw (ft_ent_hd okl (by omega) hh hbP hPb) (ft_eo_up w hbP hPb) hl hS
    | succ k ih =>
      intro lr b ou md zf w x6 x7 x8 v10 H1 locs ls hkK hx7 hK okl hbP hPb hbz hh hw hz hmk ho hl hP hS kk
      have hlr : 0 < lr.length := by
        cases lr with
        | nil => simp [ft_zR] at hPb; omega
        | cons x l => simp
      have hlt := ft_ix_lt (l := lr) (P - b) hlr
      have hsp := ft_ix_sp (l := lr) (p := P - b) (by omega)
      have hile : ∀ i, i < ft_ix lr (P - b) → ft_zR (lr.take (i + 1)) ≤ P - b := fun i hi2 => ft_ix_le (by omega) hi2
      rw [ft_rR_succ] at kk
      generalize ft_ix lr (P - b) = ix at hlt hsp hile kk
      have okx := okl _ (ft_getD_mem hlt)
      have hzx := ft_ok_zpos okx
      have htd := ft_zR_td lr (ix + 1)
      rw [ft_zR_tk hlt] at htd
      have hitem : ∀ i, i < lr.length → ft_hd w (b + ft_zR (lr.take i)) (ft_wO sd ou [lr.getD i ft_no]) := fun i hi2 => by
        have h1 := hh
        rw [ft_row_split hi2, ft_wO_app, ft_wO_app] at h1
        have h2 := (ft_hd_app.1 (ft_hd_app.1 h1).2).1
        rw [ft_wO_len] at h2
        exact h2
      have at98 : ∀ (locs : List Loc), va_S (mFr a) H0 H1 locs → W p_ l e_ (x_rm 7 0 0) s_ m_ ar_ bl_ me_ c_ H1 locs 0 0 (MQ bl_ (xQ (mFr a) (q1 (.int ((nI q.1.length, (q.1 ++ [(ft_rT 0 t.1 t.2 P (sp_new q) q.2.1).1], (ft_rT 0 t.1 t.2 P (sp_new q) q.2.1).2, q.2.2 ++ [(lw, hg)]))).1) (fun H1 => mI D a A ((nI q.1.length, (q.1 ++ [(ft_rT 0 t.1 t.2 P (sp_new q) q.2.1).1], (ft_rT 0 t.1 t.2 P (sp_new q) q.2.1).2, q.2.2 ++ [(lw, hg)]))).2 H1))) ar_ s_ 0 0 (mFr a)) (F0 m_ 98 ls [.int (nI b)]) := by
        clear hS
        intro locs hS
        refine x_istore X d_M_replace_98 hl (by decide) rfl (fun ls hl => ?_)
        have scan : ∀ (g i : Nat) (locs : List Loc) (ls : Array Slot), ix - i = g → i ≤ ix → lz ls 11 [some (.ref (a 0)), some (.int (nI j)), some (.int (nI P)), some (.int lw), some (.int hg), some (.int (nI K)), some (.int (nI (b + ft_zR (lr.take i)))), some (.int x7), some (.int x8), some (.int (nI (k + 1))), v10] → va_S (mFr a) H0 H1 locs → W p_ l e_ (x_rm 7 0 0) s_ m_ ar_ bl_ me_ c_ H1 locs 0 0 (MQ bl_ (xQ (mFr a) (q1 (.int ((nI q.1.length, (q.1 ++ [(ft_rT 0 t.1 t.2 P (sp_new q) q.2.1).1], (ft_rT 0 t.1 t.2 P (sp_new q) q.2.1).2, q.2.2 ++ [(lw, hg)]))).1) (fun H1 => mI D a A ((nI q.1.length, (q.1 ++ [(ft_rT 0 t.1 t.2 P (sp_new q) q.2.1).1], (ft_rT 0 t.1 t.2 P (sp_new q) q.2.1).2, q.2.2 ++ [(lw, hg)]))).2 H1))) ar_ s_ 0 0 (mFr a)) (F0 m_ 100 ls []) := by
          clear hl hS
          intro g
          induction g with
          | zero =>
            intro i locs ls hg2 hi2 hl hS
            have hie : i = ix := by omega
            subst hie
            refine x_aload_n X d_M_replace_100 rfl hl rfl ?_
            refine x_iload X d_M_replace_101 hl rfl ?_
            refine x_iload X d_M_replace_103 hl rfl ?_
            refine x_goR (x_runV X (C_M_endO l D A _ a lo hi q.2.2.length md q.1.length (ft_zT t.1 t.2) zf mk pl ct w hP hw hz (q.2.2.length + 1) md (k + 1) (b + ft_zR (lr.take i)) sd ou (lr.getD i ft_no) (okl _ (ft_getD_mem (by omega))) (hitem i (by omega)) (by omega) (by omega) (by omega) ho (by omega) (by omega)) b_M_end s_M_end v_M_end e_M_60 (m_at hP) rfl rfl hl rfl (Nat.le_of_ble_eq_true rfl) d_M_replace_105 (Nat.le_of_ble_eq_true rfl) (Nat.le_of_ble_eq_true rfl) ⟨Nat.le_of_ble_eq_true rfl, Nat.le_of_ble_eq_true rfl⟩) hS (fun locs hS => ?_)
            refine x_iload_n X d_M_replace_108 rfl hl rfl ?_
            refine n_icmp_gt X 125 d_M_replace_109 rfl (by omega) (by omega) (fun hc => ?_) (fun hc => absurd hc (by omega))
            refine x_aload_n X d_M_replace_125 rfl hl rfl ?_
            refine x_iload X d_M_replace_126 hl rfl ?_
            refine x_iload X d_M_replace_128 hl rfl ?_
            refine x_goR (x_runV X (C_M_endO l D A _ a lo hi q.2.2.length md q.1.length (ft_zT t.1 t.2) zf mk pl ct w hP hw hz (q.2.2.length + 1) md (k + 1) (b + ft_zR (lr.take i)) sd ou (lr.getD i ft_no) (okl _ (ft_getD_mem (by omega))) (hitem i (by omega)) (by omega) (by omega) (by omega) ho (by omega) (by omega)) b_M_end s_M_end v_M_end e_M_60 (m_at hP) rfl rfl hl rfl (Nat.le_of_ble_eq_true rfl) d_M_replace_130 (Nat.le_of_ble_eq_true rfl) (Nat.le_of_ble_eq_true rfl) ⟨Nat.le_of_ble_eq_true rfl, Nat.le_of_ble_eq_true rfl⟩) hS (fun locs hS => ?_)
            refine x_istore X d_M_replace_133 hl (by decide) rfl (fun ls hl => ?_)
            refine x_iload X d_M_replace_135 hl rfl ?_
            refine x_istore X d_M_replace_137 hl (by decide) rfl (fun ls hl => ?_)
            refine x_aload_n X d_M_replace_139 rfl hl rfl ?_
            refine x_dup X d_M_replace_140 rfl ?_
            refine m_get X hP 5 (by decide) e_M_53 rfl d_M_replace_141 ?_
            refine x_iconst (v := nI 1) X d_M_replace_144 rfl ?_
            refine n_iadd X d_M_replace_145 ?_
            refine m_put_made X hP hd hS d_M_replace_146 (fun H locs hP hS => ?_)
            refine x_aload_n X d_M_replace_149 rfl hl rfl ?_
            refine m_get X hP 3 (by decide) e_M_16 rfl d_M_replace_150 ?_
            refine x_aload_n X d_M_replace_153 rfl hl rfl ?_
            refine m_get X hP 5 (by decide) e_M_53 rfl d_M_replace_154 ?_
            refine x_iload X d_M_replace_157 hl rfl ?_
            refine x_iload X d_M_replace_159 hl rfl ?_
            refine n_isub X d_M_replace_161 (by omega) ?_
            refine x_i2b X d_M_replace_162 (m_byte2 _ (by omega)) ?_
            refine m_st_zf X hP hd hS (by omega) (by omega) d_M_replace_163 (fun H locs hP hS => ?_)
            refine x_iload X d_M_replace_164 hl rfl ?_
            refine x_istore X d_M_replace_166 hl (by decide) rfl (fun ls hl => ?_)
            rw [Nat.add_sub_cancel_left] at hP
            have words : ∀ (g r : Nat) (H1 : Heap) (locs : List Loc) (ls : Array Slot), (b + ft_zR (lr.take i)) + ft_z (lr.getD i ft_no) - r = g → (b + ft_zR (lr.take i)) ≤ r → r ≤ (b + ft_zR (lr.take i)) + ft_z (lr.getD i ft_no) → lz ls 11 [some (.ref (a 0)), some (.int (nI j)), some (.int (nI P)), some (.int lw), some (.int hg), some (.int (nI K)), some (.int (nI (b + ft_zR (lr.take i)))), some (.int (nI (b + ft_zR (lr.take i)))), some (.int (nI ((b + ft_zR (lr.take i)) + ft_z (lr.getD i ft_no)))), some (.int (nI (k + 1))), some (.int (nI r))] → mH D a A lo hi q.2.2.length (va_up zf (md + 1) (ft_z (lr.getD i ft_no))) mk (md + 1) pl ct q.1.length (ft_wm (ft_rn k (md + 1)) w (b + ft_zR (lr.take i)) r) (ft_zT t.1 t.2) H1 → va_S (mFr a) H0 H1 locs → W p_ l e_ (x_rm 7 0 0) s_ m_ ar_ bl_ me_ c_ H1 locs 0 0 (MQ bl_ (xQ (mFr a) (q1 (.int ((nI q.1.length, (q.1 ++ [(ft_rT 0 t.1 t.2 P (sp_new q) q.2.1).1], (ft_rT 0 t.1 t.2 P (sp_new q) q.2.1).2, q.2.2 ++ [(lw, hg)]))).1) (fun H1 => mI D a A ((nI q.1.length, (q.1 ++ [(ft_rT 0 t.1 t.2 P (sp_new q) q.2.1).1], (ft_rT 0 t.1 t.2 P (sp_new q) q.2.1).2, q.2.2 ++ [(lw, hg)]))).2 H1))) ar_ s_ 0 0 (mFr a)) (F0 m_ 168 ls []) := by
              clear hl hS hP
              intro g
              induction g with
              | zero =>
                intro r H1 locs ls hg3 hr1 hr2 hl hP hS
                have hre : r = (b + ft_zR (lr.take i)) + ft_z (lr.getD i ft_no) := by omega
                subst hre
                refine x_iload X d_M_replace_168 hl rfl ?_
                refine x_iload X d_M_replace_170 hl rfl ?_
                refine n_icmp_ge X 225 d_M_replace_172 rfl (by omega) (by omega) (fun hc => ?_) (fun hc => absurd hc (by omega))
                refine n_idec X d_M_replace_225 (by omega) hl rfl (by decide) rfl (fun ls hl => ?_)
                refine x_goto X 74 d_M_replace_228 rfl ?_
                obtain ⟨p1, p2, p3, p4⟩ := ft_okR_ps okx
                have okn : ft_okR (q.2.2.length + 1) (md + 1) (va_up zf (md + 1) (ft_z (lr.getD i ft_no))) k (ft_ps (lr.getD i ft_no)) := ft_okR_mono (Nat.le_refl _) (Nat.le_succ _) (fun n _ hn2 => by unfold va_up; rw [if_neg (by omega)]) p1
                have hyn : ft_ok (q.2.2.length + 1) (md + 1) (va_up zf (md + 1) (ft_z (lr.getD i ft_no))) 0 (sp_new q) := ⟨q.2.2.length, rfl, by omega⟩
                have hrr := ft_rR_ok (c := (md + 1, (va_up zf (md + 1) (ft_z (lr.getD i ft_no))))) (p := P - (b + ft_zR (lr.take i))) hyn okn (by omega) (by omega)
                have hPs : P - b - ft_zR (lr.take i) = P - (b + ft_zR (lr.take i)) := by omega
                rw [hPs] at kk
                refine ih (ft_ps (lr.getD i ft_no)) (b + ft_zR (lr.take i)) ((md + 1) :: ou) (md + 1) (va_up zf (md + 1) (ft_z (lr.getD i ft_no))) _ _ _ _ _ _ _ _ (by simp only [List.length_cons]; omega) (fun _ => rfl) (fun h => absurd h (by omega)) okn (by omega) (by omega) (by omega) (ft_wm_hd okx (hitem i hlt) (by omega) (by omega) (by omega) (by omega)) (ft_bw_wm hw (by omega) (by omega)) (fun x => ?_) (by omega) (fun d hd2 => ?_) hl hP hS (fun w' v5 v6 v7 v8 v9 v10 H1 locs ls hP hw' e1 e2 hl hS => ?_)
                · unfold va_up
                  split
                  · omega
                  · exact hz x
                · rcases List.mem_cons.1 hd2 with e | e
                  · omega
                  · exact ho d e
                · have e3 := ft_eo_tr (ft_eo_wm (ft_rn k (md + 1)) w (b + ft_zR (lr.take i)) ((b + ft_zR (lr.take i)) + ft_z (lr.getD i ft_no))) (ft_eo_wd e2 (Nat.le_refl _) (by omega))
                  exact kk w' v5 v6 v7 v8 v9 v10 H1 locs ls hP hw' (ft_set_hd hlt (by rw [hrr.2.2.1]; exact p2) hh e1 e3) (ft_eo_wd e3 (by omega) (by omega)) hl hS
              | succ g ih2 =>
                intro r H1 locs ls hg3 hr1 hr2 hl hP hS
                have hwr := hw r
                have hp38 := bt_p38 k (by omega)
                have he : 13 * (k + 1) - 1 = 12 + 13 * k := by omega
                rw [he] at hp38
                refine x_iload X d_M_replace_168 hl rfl ?_
                refine x_iload X d_M_replace_170 hl rfl ?_
                refine n_icmp_ge X 225 d_M_replace_172 rfl (by omega) (by omega) (fun hc => absurd hc (by omega)) (fun hc => ?_)
                refine x_aload_n X d_M_replace_175 rfl hl rfl ?_
                refine m_get X hP 9 (by decide) e_M_34 rfl d_M_replace_176 ?_
                refine x_iload X d_M_replace_179 hl rfl ?_
                refine x_aload_n X d_M_replace_181 rfl hl rfl ?_
                refine m_get X hP 9 (by decide) e_M_34 rfl d_M_replace_182 ?_
                refine x_iload X d_M_replace_185 hl rfl ?_
                refine m_ld_w X hP (by omega) d_M_replace_187 ?_
                rw [ft_wm_self]
                refine x_ldc2 X e_M_138 d_M_replace_188 ?_
                refine x_topl (y := lN 8191) (by decide) ?_
                refine x_bipush (v := nI 13) X d_M_replace_191 rfl ?_
                refine x_iload X d_M_replace_193 hl rfl ?_
                refine n_imul X d_M_replace_195 ?_
                refine x_iconst (v := nI 1) X d_M_replace_196 rfl ?_
                refine n_isub X d_M_replace_197 (by omega) ?_
                refine x_lshl X d_M_replace_198 (wb_shl _ (by omega)) ?_
                rw [he]
                refine x_ldc2 X e_M_140 d_M_replace_199 ?_
                refine x_lxor X d_M_replace_202 ?_
                refine x_topl (bt_rnX k (by omega)) ?_
                refine x_land X d_M_replace_203 ?_
                refine x_topl (wb_and (by omega) (by omega)) ?_
                refine x_aload_n X d_M_replace_204 rfl hl rfl ?_
                refine m_get X hP 5 (by decide) e_M_53 rfl d_M_replace_205 ?_
                refine x_i2l X d_M_replace_208 (nI_l (by omega)) ?_
                refine x_bipush (v := nI 13) X d_M_replace_209 rfl ?_
                refine x_iload X d_M_replace_211 hl rfl ?_
                refine n_imul X d_M_replace_213 ?_
                refine x_iconst (v := nI 1) X d_M_replace_214 rfl ?_
                refine n_isub X d_M_replace_215 (by omega) ?_
                refine x_lshl X d_M_replace_216 (wb_shl _ (by omega)) ?_
                rw [he]
                refine x_lor X d_M_replace_217 ?_
                refine x_topl (wb_or (Nat.lt_of_le_of_lt Nat.and_le_left (by omega)) (Nat.lt_of_le_of_lt (Nat.mul_le_mul_left _ hp38) (by omega))) ?_
                refine x_topl (y := lN (ft_rn k (md + 1) (w r))) (by rw [bt_rn (by omega) (by omega) hwr]) ?_
                refine m_st_w X hP hd hS (by omega) d_M_replace_218 (fun H locs hP hS => ?_)
                rw [ft_wm_step hr1] at hP
                refine n_iinc (d := 1) X d_M_replace_219 rfl hl rfl (by decide) rfl (fun ls hl => ?_)
                refine x_goto X 168 d_M_replace_222 rfl ?_
                exact ih2 (r + 1) _ _ _ (by omega) (by omega) (by omega) hl hP hS
            exact words _ (b + ft_zR (lr.take i)) _ _ _ rfl (Nat.le_refl _) (by omega) hl (by rw [ft_wm_nil]; exact hP) hS
          | succ g ih2 =>
            intro i locs ls hg2 hi2 hl hS
            have h1 := hile i (by omega)
            rw [ft_zR_tk (by omega)] at h1
            refine x_aload_n X d_M_replace_100 rfl hl rfl ?_
            refine x_iload X d_M_replace_101 hl rfl ?_
            refine x_iload X d_M_replace_103 hl rfl ?_
            refine x_goR (x_runV X (C_M_endO l D A _ a lo hi q.2.2.length md q.1.length (ft_zT t.1 t.2) zf mk pl ct w hP hw hz (q.2.2.length + 1) md (k + 1) (b + ft_zR (lr.take i)) sd ou (lr.getD i ft_no) (okl _ (ft_getD_mem (by omega))) (hitem i (by omega)) (by omega) (by omega) (by omega) ho (by omega) (by omega)) b_M_end s_M_end v_M_end e_M_60 (m_at hP) rfl rfl hl rfl (Nat.le_of_ble_eq_true rfl) d_M_replace_105 (Nat.le_of_ble_eq_true rfl) (Nat.le_of_ble_eq_true rfl) ⟨Nat.le_of_ble_eq_true rfl, Nat.le_of_ble_eq_true rfl⟩) hS (fun locs hS => ?_)
            refine x_iload_n X d_M_replace_108 rfl hl rfl ?_
            refine n_icmp_gt X 125 d_M_replace_109 rfl (by omega) (by omega) (fun hc => absurd hc (by omega)) (fun hc => ?_)
            refine x_aload_n X d_M_replace_112 rfl hl rfl ?_
            refine x_iload X d_M_replace_113 hl rfl ?_
            refine x_iload X d_M_replace_115 hl rfl ?_
            refine x_goR (x_runV X (C_M_endO l D A _ a lo hi q.2.2.length md q.1.length (ft_zT t.1 t.2) zf mk pl ct w hP hw hz (q.2.2.length + 1) md (k + 1) (b + ft_zR (lr.take i)) sd ou (lr.getD i ft_no) (okl _ (ft_getD_mem (by omega))) (hitem i (by omega)) (by omega) (by omega) (by omega) ho (by omega) (by omega)) b_M_end s_M_end v_M_end e_M_60 (m_at hP) rfl rfl hl rfl (Nat.le_of_ble_eq_true rfl) d_M_replace_117 (Nat.le_of_ble_eq_true rfl) (Nat.le_of_ble_eq_true rfl) ⟨Nat.le_of_ble_eq_true rfl, Nat.le_of_ble_eq_true rfl⟩) hS (fun locs hS => ?_)
            refine x_istore X d_M_replace_120 hl (by decide) rfl (fun ls hl => ?_)
            refine x_goto X 100 d_M_replace_122 rfl ?_
            exact ih2 (i + 1) _ _ (by omega) (by omega) (by rw [ft_zR_tk (by omega), ← Nat.add_assoc]; exact hl) hS
        exact scan _ 0 _ _ rfl (Nat.zero_le _) hl hS
      refine x_iload X d_M_replace_74 hl rfl ?_
      refine n_if_le X 231 d_M_replace_76 rfl (by omega) (fun hc => absurd hc (by omega)) (fun hc => ?_)
      refine x_iload X d_M_replace_79 hl rfl ?_
      refine x_iload X d_M_replace_81 hl rfl ?_
      refine n_icmp_ne X 96 d_M_replace_83 rfl (by omega) (by omega) (fun hc => ?_) (fun hc => ?_)
      · skip
        refine x_iload X d_M_replace_96 hl rfl ?_
        refine x_topi (hx7 (by omega)) ?_
        exact at98 _ hS
      obtain ⟨hK1, hK2⟩ := hK hc
      rw [← hc] at hK1 hK2
      refine x_aload_n X d_M_replace_86 rfl hl rfl ?_
      refine x_iload_n X d_M_replace_87 rfl hl rfl ?_
      refine x_iload X d_M_replace_88 hl rfl ?_
      refine x_goR (x_runV X (C_M_first l D A _ a lo hi q.2.2.length md q.1.length (ft_zT t.1 t.2) zf mk pl ct w hP hw (by omega) P (k + 1) sd b (by omega) (by omega) (by omega) hbP (fun x h1 h2 => hK1 x h1 (by omega)) hK2) b_M_first s_M_first v_M_first e_M_135 (m_at hP) rfl rfl hl rfl (Nat.le_of_ble_eq_true rfl) d_M_replace_90 (Nat.le_of_ble_eq_true rfl) (Nat.le_of_ble_eq_true rfl) ⟨Nat.le_of_ble_eq_true rfl, Nat.le_of_ble_eq_true rfl⟩) hS (fun locs hS => ?_)
      refine x_goto X 98 d_M_replace_93 rfl ?_
      exact at98 _ hS
  refine main K lr b [] q.2.1.1 q.2.1.2 w1 _ _ _ none _ _ _ rfl (fun h => absurd h (Nat.lt_irrefl _)) (fun _ => ⟨hall, ft_isb0 g3⟩) k3 k4 k5 (by omega) (by rw [ft_wO_nil]; exact g2) hw1 hq.2 hmdK (fun d hd2 => by simp at hd2) hl hP hS (fun w2 v5 v6 v7 v8 v9 v10 H locs ls hP hw2 e1 e2 hl hS => ?_)
  clear main
  have hP : mH D a A lo hi q.2.2.length (ft_rT 0 t.1 t.2 P (sp_new q) q.2.1).2.2 mk (ft_rT 0 t.1 t.2 P (sp_new q) q.2.1).2.1 pl ct q.1.length w2 (ft_zT t.1 t.2) H := by rw [g4]; exact hP
  rw [ft_wO_nil] at e1
  have b4 := g5 _ e1 e2
  have hwP2 := hw2 P
  refine x_aload_n X d_M_replace_231 rfl hl rfl ?_
  refine m_get X hP 0 (by decide) e_M_7 rfl d_M_replace_232 ?_
  refine x_aload_n X d_M_replace_235 rfl hl rfl ?_
  refine m_get X hP 2 (by decide) e_M_104 rfl d_M_replace_236 ?_
  refine x_iload_n X d_M_replace_239 rfl hl rfl ?_
  refine m_st_lo X hP hd hS (by omega) d_M_replace_240 (fun H locs hP hS => ?_)
  refine x_aload_n X d_M_replace_241 rfl hl rfl ?_
  refine m_get X hP 1 (by decide) e_M_13 rfl d_M_replace_242 ?_
  refine x_aload_n X d_M_replace_245 rfl hl rfl ?_
  refine m_get X hP 2 (by decide) e_M_104 rfl d_M_replace_246 ?_
  refine x_iload X d_M_replace_249 hl rfl ?_
  refine m_st_hi X hP hd hS (by omega) d_M_replace_251 (fun H locs hP hS => ?_)
  refine x_aload_n X d_M_replace_252 rfl hl rfl ?_
  refine m_get X hP 9 (by decide) e_M_34 rfl d_M_replace_253 ?_
  refine x_iload_n X d_M_replace_256 rfl hl rfl ?_
  refine x_aload_n X d_M_replace_257 rfl hl rfl ?_
  refine m_get X hP 9 (by decide) e_M_34 rfl d_M_replace_258 ?_
  refine x_iload_n X d_M_replace_261 rfl hl rfl ?_
  refine m_ld_w X hP (by omega) d_M_replace_262 ?_
  refine x_ldc2 X e_M_142 d_M_replace_263 ?_
  refine x_land X d_M_replace_266 ?_
  refine x_aload_n X d_M_replace_267 rfl hl rfl ?_
  refine m_get X hP 2 (by decide) e_M_104 rfl d_M_replace_268 ?_
  refine x_i2l X d_M_replace_271 (nI_l (by omega)) ?_
  refine x_lor X d_M_replace_272 ?_
  refine x_topl (bt_ent hwP2 (by omega)) ?_
  refine m_st_w X hP hd hS (by omega) d_M_replace_273 (fun H locs hP hS => ?_)
  have hw3 : ft_bw (va_up w2 P (w2 P / 128 * 128 + q.2.2.length)) := fun x => by
    unfold va_up
    split
    · omega
    · exact hw2 x
  generalize va_up w2 P (w2 P / 128 * 128 + q.2.2.length) = w3 at hP hw3 b4
  refine x_aload_n X d_M_replace_274 rfl hl rfl ?_
  refine x_dup X d_M_replace_275 rfl ?_
  refine m_get X hP 2 (by decide) e_M_104 rfl d_M_replace_276 ?_
  refine x_iconst (v := nI 1) X d_M_replace_279 rfl ?_
  refine n_iadd X d_M_replace_280 ?_
  refine m_put_en X hP hd hS d_M_replace_281 (fun H locs hP hS => ?_)
  refine x_aload_n X d_M_replace_284 rfl hl rfl ?_
  refine x_iconst (v := nI 0) X d_M_replace_285 rfl ?_
  refine x_aload_n X d_M_replace_286 rfl hl rfl ?_
  refine m_get X hP 10 (by decide) e_M_37 rfl d_M_replace_287 ?_
  refine x_go1 (x_runV X (C_M_store l D A _ a (upd lo q.2.2.length lw) (upd hi q.2.2.length hg) (q.2.2.length + 1) (ft_rT 0 t.1 t.2 P (sp_new q) q.2.1).2.1 q.1.length (ft_zT t.1 t.2) (ft_rT 0 t.1 t.2 P (sp_new q) q.2.1).2.2 mk pl ct w3 hP hd 0 (ft_zT t.1 t.2) (Nat.zero_le _) (by omega) (by omega) (by omega)) b_M_store s_M_store v_M_store e_M_120 (m_at hP) rfl rfl hl rfl (Nat.le_of_ble_eq_true rfl) d_M_replace_290 (Nat.le_of_ble_eq_true rfl) (Nat.le_of_ble_eq_true rfl) ⟨Nat.le_of_ble_eq_true rfl, Nat.le_of_ble_eq_true rfl⟩) hS (fun _ h => h) (fun H locs hP hF hS => ?_)
  refine x_iret X hS (Nat.le_refl _) (Nat.le_refl _) d_M_replace_293 ⟨rfl, _, _, _, _, _, _, _, _, _, _, _, ?_, hP⟩
  have hk := mR_keep (t := (ft_rT 0 t.1 t.2 P (sp_new q) q.2.1).1) (c := (ft_rT 0 t.1 t.2 P (sp_new q) q.2.1).2) (e := q.2.2 ++ [(lw, hg)]) (m := ft_zT t.1 t.2 - 0) (n' := ft_zT t.1 t.2) hR hq (mR_ent h5) b4 hrt.symm hw3 (by omega)
  rw [List.length_append, List.length_singleton] at hk
  exact hk
