/-! The reference, call by call: concat, split, insert, removeTop. -/
/-- a word of a tree is its leaf's -/
theorem ft_wT_leaf {ne mm : Nat} {zf : Nat → Nat} {o : Option ft_I} (hne : ne ≤ 128) (hmm : mm < 8192) : ∀ {sp : ft_S} {k : Nat}, ft_okT ne mm zf k sp o → 2 * 2 ^ k + ft_zT sp o ≤ 42 → ∀ (i x : Nat), (ft_wT sp o)[i]? = some x → ∃ (l : Nat × List Nat) (sd : Nat), (ft_lT sp o)[i]? = some l ∧ x = ft_wd sd l ∧ sd < 3 ∧ ft_fit l ∧ l.1 < ne ∧ ∀ d ∈ l.2, 1 ≤ d ∧ d ≤ mm := by
  have mp : ∀ (P : List (Nat × List Nat)) (sd i x : Nat), sd < 3 → (∀ q ∈ P, ft_fit q ∧ q.1 < ne ∧ ∀ d ∈ q.2, 1 ≤ d ∧ d ≤ mm) → (P.map (ft_wd sd))[i]? = some x → ∃ (l : Nat × List Nat) (sd : Nat), P[i]? = some l ∧ x = ft_wd sd l ∧ sd < 3 ∧ ft_fit l ∧ l.1 < ne ∧ ∀ d ∈ l.2, 1 ≤ d ∧ d ≤ mm := by
    intro P sd i x hs hP hx
    rw [List.getElem?_map] at hx
    cases hp : P[i]? with
    | none => rw [hp] at hx; cases hx
    | some l =>
      rw [hp] at hx
      cases hx
      have := hP l (List.mem_of_getElem? hp)
      exact ⟨l, sd, rfl, rfl, hs, this.1, this.2.1, this.2.2⟩
  have lf : ∀ {k : Nat} {x : ft_I}, ft_ok ne mm zf k x → k ≤ 3 → ∀ q ∈ ft_lv x, ft_fit q ∧ q.1 < ne ∧ ∀ d ∈ q.2, 1 ≤ d ∧ d ≤ mm := fun h hk q hq => ⟨(ft_ok_fit h hne hmm hk q hq).1, (ft_ok_leaf h q hq).1, (ft_ok_leaf h q hq).2.2⟩
  have lR : ∀ {k : Nat} {l : List ft_I}, ft_okR ne mm zf k l → k ≤ 3 → ∀ q ∈ ft_lR l, ft_fit q ∧ q.1 < ne ∧ ∀ d ∈ q.2, 1 ≤ d ∧ d ≤ mm := fun h hk q hq => by
    obtain ⟨y, hy, hq⟩ := ft_lR_mem.1 hq
    exact lf (h y hy) hk q hq
  intro sp
  induction sp with
  | nil =>
    intro k h hB i x hx
    cases o with
    | none => simp [ft_wT] at hx
    | some y =>
      have hz := ft_ok_z h
      simp only [ft_zT] at hB
      exact mp (ft_lv y) 2 i x (by decide) (lf h (ft_k3 (by omega))) hx
  | cons d sp ih =>
    intro k h hB i x hx
    have hzd := ft_okT_zd h
    obtain ⟨a1, a2, a3⟩ := h
    simp only [ft_zT] at hB
    have hk3 : k ≤ 3 := ft_k3 (by omega)
    simp only [ft_wT, ft_lT] at hx ⊢
    rw [List.getElem?_append, List.length_append, ft_wR_len, ft_wT_len] at hx
    rw [List.getElem?_append, List.length_append, ft_lR_len, ft_lT_len]
    split at hx
    · rename_i h1
      rw [if_pos h1]
      rw [List.getElem?_append, ft_wR_len] at hx
      rw [List.getElem?_append, ft_lR_len]
      split at hx
      · rename_i h2
        rw [if_pos h2]
        exact mp (ft_lR d.1) 0 i x (by decide) (lR a1.2.2 hk3) hx
      · rename_i h2
        rw [if_neg h2]
        exact ih a3 (by rw [Nat.pow_succ]; omega) _ x hx
    · rename_i h1
      rw [if_neg h1]
      exact mp (ft_lR d.2) 1 _ x (by decide) (lR a2.2.2 hk3) hx
theorem ft_hd_leaf {ne mm : Nat} {zf w : Nat → Nat} {s : Nat} {t : ft_T} (hne : ne ≤ 128) (hmm : mm < 8192) (h : ft_okT ne mm zf 0 t.1 t.2) (hz : ft_zT t.1 t.2 ≤ 40) (hw : ft_hd w s (ft_wT t.1 t.2)) {p : Nat} (hp : p < ft_zT t.1 t.2) : ∃ (l : Nat × List Nat) (sd : Nat), (ft_lT t.1 t.2)[p]? = some l ∧ w (s + p) = ft_wd sd l ∧ sd < 3 ∧ ft_fit l ∧ l.1 < ne ∧ ∀ d ∈ l.2, 1 ≤ d ∧ d ≤ mm := by
  have hlt : p < (ft_wT t.1 t.2).length := by rw [ft_wT_len]; exact hp
  obtain ⟨l, sd, h1, h2, h3⟩ := ft_wT_leaf hne hmm h (by omega) p _ (List.getElem?_eq_getElem hlt)
  exact ⟨l, sd, h1, by rw [hw p _ (List.getElem?_eq_getElem hlt), h2], h3⟩
theorem sp_es_at {q : ft_Q} {t : ft_T} {p : Nat} {l : Nat × List Nat} (h : (ft_lT t.1 t.2)[p]? = some l) : (sp_es q t)[p]? = some (q.2.2.getD l.1 (0, 0)) := by
  unfold sp_es
  rw [List.getElem?_map, h]
  rfl
/-- the entry of the place p of a loaded tree -/
theorem mR_at {q : ft_Q} {lo hi : Nat → Int32} {t : ft_T} {w : Nat → Nat} {s p : Nat} (hq : sp_ok2 q) (h5 : ∀ (i : Nat) (e : Int32 × Int32), q.2.2[i]? = some e → lo i = e.1 ∧ hi i = e.2) (ht : t ∈ q.1) (hw : ft_hd w s (ft_wT t.1 t.2)) (hp : p < ft_zT t.1 t.2) : ∃ e, (sp_es q t)[p]? = some e ∧ w (s + p) % 128 < 120 ∧ lo (w (s + p) % 128) = e.1 ∧ hi (w (s + p) % 128) = e.2 := by
  have h1 := hq.1.2.2.1 t ht
  have h2 := hq.1.2.1
  have h3 := hq.1.2.2.2.1
  have h4 := hq.1.2.2.2.2
  obtain ⟨l, sd, a1, a2, a3, a4, a5, a6⟩ := ft_hd_leaf (by omega) (by omega) h1.1 h1.2 hw hp
  have he : w (s + p) % 128 = l.1 := by rw [a2, ft_wd_entry a4]
  have hg : q.2.2[l.1]? = some (q.2.2.getD l.1 (0, 0)) := by
    rw [List.getD_eq_getElem?_getD, List.getElem?_eq_getElem a5]
    rfl
  refine ⟨q.2.2.getD l.1 (0, 0), sp_es_at a1, by omega, ?_, ?_⟩
  · rw [he]; exact (h5 _ _ hg).1
  · rw [he]; exact (h5 _ _ hg).2
def ft_cp (w pl : Nat → Nat) (p u i : Nat) : Nat → Nat := fun x => if p ≤ x ∧ x < p + i then pl (40 * u + (x - p)) else w x
theorem ft_cp0 (w pl : Nat → Nat) (p u : Nat) : ft_cp w pl p u 0 = w := funext fun q => by unfold ft_cp; rw [if_neg (by omega)]
theorem ft_cpS (w pl : Nat → Nat) (p u i : Nat) : va_up (ft_cp w pl p u i) (p + i) (pl (40 * u + i)) = ft_cp w pl p u (i + 1) := funext fun q => by
  simp only [ft_cp, va_up]
  by_cases e : q = p + i
  · subst e; rw [if_pos rfl, if_pos (by omega), Nat.add_sub_cancel_left]
  · rw [if_neg e]
    by_cases e2 : p ≤ q ∧ q < p + i
    · rw [if_pos e2, if_pos (by omega)]
    · rw [if_neg e2, if_neg (by omega)]
theorem ft_cp_bw {w pl : Nat → Nat} {p u i : Nat} (h1 : ft_bw w) (h2 : ft_bw pl) : ft_bw (ft_cp w pl p u i) := fun q => by
  unfold ft_cp; split
  · exact h2 _
  · exact h1 _
theorem ft_cp_hd {w pl : Nat → Nat} {p u i : Nat} {L1 L2 : List Nat} (h1 : ft_hd w 0 L1) (h2 : ft_hd pl (40 * u) L2) (e1 : L1.length ≤ p) (e2 : L2.length ≤ i) : ft_hd (ft_cp w pl p u i) 0 L1 ∧ ft_hd (ft_cp w pl p u i) p L2 := by
  refine ⟨ft_hd_congr h1 (fun q a b => ?_), fun j x hj => ?_⟩
  · unfold ft_cp
    rw [if_neg (by omega)]
  · have hjl := (List.getElem?_eq_some_iff.1 hj).1
    unfold ft_cp
    rw [if_pos (by omega), Nat.add_sub_cancel_left]
    exact h2 j x hj
set_option maxRecDepth 100000 in
set_option maxHeartbeats 4000000 in
theorem A_M_concat (l : Launch) (D : va_G) (A : Nat → ClassId) (H0 : Heap) (a : Nat → Nat) (hd : mDs a) (q : ft_Q) (hq : sp_ok2 q) (hI : mI D a A q H0) (v : Int32) (u : Int32) : xC l y_M_concat c_M_concat 5 (some .int) 7 D A H0 [.ref (a 0), .int v, .int u] (mFr a) (q1 (.int (sp_concat q v u).1) (fun H1 => mI D a A (sp_concat q v u).2 H1)) 0 0 := by
  obtain ⟨lo, hi, en, zf, mk, md, pl, ct, vs, w, n, hR, hP⟩ := hI
  obtain ⟨⟨rfl, rfl, rfl, rfl⟩, h5, h6, h7, h8, h9, h10⟩ := id hR
  have hl1 := hq.1.1
  have hl2 := hq.1.2.1
  have hl3 := hq.1.2.2.2.1
  have hmd0 := sp_md hq
  rcases sp_at_cases hq v with ⟨hv, hat⟩ | ⟨j, t, rfl, hj, hjt, hat⟩
  · skip
    have hsp : sp_concat q v u = ((-1 : Int32), q) := by unfold sp_concat; rw [hat]
    rw [hsp]
    refine xC.of rfl (Nat.le_of_ble_eq_true rfl) ?_
    intro p_ e_ s_ m_ ar_ bl_ me_ c_ ls X hl
    have hl : lz ls 5 [some (.ref (a 0)), some (.int v), some (.int u), none, none] := hl
    have hS : va_S (mFr a) H0 H0 [] := va_S.rf
    refine x_aload_n X d_M_concat_0 rfl hl rfl ?_
    refine x_iload_n X d_M_concat_1 rfl hl rfl ?_
    refine x_goR (x_runV X (C_M_none_t l D A _ a lo hi q.2.2.length q.2.1.1 q.1.length n q.2.1.2 mk pl ct w hP v hv) b_M_none s_M_none v_M_none e_M_109 (m_at hP) rfl rfl hl rfl (Nat.le_of_ble_eq_true rfl) d_M_concat_2 (Nat.le_of_ble_eq_true rfl) (Nat.le_of_ble_eq_true rfl) ⟨Nat.le_of_ble_eq_true rfl, Nat.le_of_ble_eq_true rfl⟩) hS (fun locs hS => ?_)
    refine n_if_ne X 16 d_M_concat_5 rfl (by decide) (fun hc => ?_) (fun hc => absurd hc (by decide))
    refine x_iconst (v := -1) X d_M_concat_16 rfl ?_
    exact x_iret X hS (Nat.le_refl _) (Nat.le_refl _) d_M_concat_17 ⟨rfl, _, _, _, _, _, _, _, _, _, _, _, hR, hP⟩
  have ht := hq.1.2.2.1 t (List.mem_of_getElem? hjt)
  obtain ⟨hct, hpl⟩ := h6 j t hjt
  have hz40 := ht.2
  rcases sp_at_cases hq u with ⟨hv, hat2⟩ | ⟨j2, t2, rfl, hj2, hjt2, hat2⟩
  · skip
    have hsp : sp_concat q (nI j) u = ((-1 : Int32), q) := by unfold sp_concat; rw [hat, hat2]
    rw [hsp]
    refine xC.of rfl (Nat.le_of_ble_eq_true rfl) ?_
    intro p_ e_ s_ m_ ar_ bl_ me_ c_ ls X hl
    have hl : lz ls 5 [some (.ref (a 0)), some (.int (nI j)), some (.int u), none, none] := hl
    have hS : va_S (mFr a) H0 H0 [] := va_S.rf
    refine x_aload_n X d_M_concat_0 rfl hl rfl ?_
    refine x_iload_n X d_M_concat_1 rfl hl rfl ?_
    refine x_goR (x_runV X (C_M_none_f l D A _ a lo hi q.2.2.length q.2.1.1 q.1.length n q.2.1.2 mk pl ct w hP j hj (by omega)) b_M_none s_M_none v_M_none e_M_109 (m_at hP) rfl rfl hl rfl (Nat.le_of_ble_eq_true rfl) d_M_concat_2 (Nat.le_of_ble_eq_true rfl) (Nat.le_of_ble_eq_true rfl) ⟨Nat.le_of_ble_eq_true rfl, Nat.le_of_ble_eq_true rfl⟩) hS (fun locs hS => ?_)
    refine n_if_ne X 16 d_M_concat_5 rfl (by decide) (fun hc => absurd rfl hc) (fun hc => ?_)
    refine x_aload_n X d_M_concat_8 rfl hl rfl ?_
    refine x_iload_n X d_M_concat_9 rfl hl rfl ?_
    refine x_goR (x_runV X (C_M_none_t l D A _ a lo hi q.2.2.length q.2.1.1 q.1.length n q.2.1.2 mk pl ct w hP u hv) b_M_none s_M_none v_M_none e_M_109 (m_at hP) rfl rfl hl rfl (Nat.le_of_ble_eq_true rfl) d_M_concat_10 (Nat.le_of_ble_eq_true rfl) (Nat.le_of_ble_eq_true rfl) ⟨Nat.le_of_ble_eq_true rfl, Nat.le_of_ble_eq_true rfl⟩) hS (fun locs hS => ?_)
    refine n_if_eq X 18 d_M_concat_13 rfl (by decide) (fun hc => absurd hc (by decide)) (fun hc => ?_)
    refine x_iconst (v := -1) X d_M_concat_16 rfl ?_
    exact x_iret X hS (Nat.le_refl _) (Nat.le_refl _) d_M_concat_17 ⟨rfl, _, _, _, _, _, _, _, _, _, _, _, hR, hP⟩
  have ht2 := hq.1.2.2.1 t2 (List.mem_of_getElem? hjt2)
  obtain ⟨hct2, hpl2⟩ := h6 j2 t2 hjt2
  by_cases hfu : 120 ≤ q.1.length ∨ 40 < ft_zT t.1 t.2 + ft_zT t2.1 t2.2
  · skip
    have hsp : sp_concat q (nI j) (nI j2) = ((-2 : Int32), q) := by unfold sp_concat; rw [hat, hat2]; dsimp only; rw [if_pos hfu]
    rw [hsp]
    refine xC.of rfl (Nat.le_of_ble_eq_true rfl) ?_
    intro p_ e_ s_ m_ ar_ bl_ me_ c_ ls X hl
    have hl : lz ls 5 [some (.ref (a 0)), some (.int (nI j)), some (.int (nI j2)), none, none] := hl
    have hS : va_S (mFr a) H0 H0 [] := va_S.rf
    refine x_aload_n X d_M_concat_0 rfl hl rfl ?_
    refine x_iload_n X d_M_concat_1 rfl hl rfl ?_
    refine x_goR (x_runV X (C_M_none_f l D A _ a lo hi q.2.2.length q.2.1.1 q.1.length n q.2.1.2 mk pl ct w hP j hj (by omega)) b_M_none s_M_none v_M_none e_M_109 (m_at hP) rfl rfl hl rfl (Nat.le_of_ble_eq_true rfl) d_M_concat_2 (Nat.le_of_ble_eq_true rfl) (Nat.le_of_ble_eq_true rfl) ⟨Nat.le_of_ble_eq_true rfl, Nat.le_of_ble_eq_true rfl⟩) hS (fun locs hS => ?_)
    refine n_if_ne X 16 d_M_concat_5 rfl (by decide) (fun hc => absurd rfl hc) (fun hc => ?_)
    refine x_aload_n X d_M_concat_8 rfl hl rfl ?_
    refine x_iload_n X d_M_concat_9 rfl hl rfl ?_
    refine x_goR (x_runV X (C_M_none_f l D A _ a lo hi q.2.2.length q.2.1.1 q.1.length n q.2.1.2 mk pl ct w hP j2 hj2 (by omega)) b_M_none s_M_none v_M_none e_M_109 (m_at hP) rfl rfl hl rfl (Nat.le_of_ble_eq_true rfl) d_M_concat_10 (Nat.le_of_ble_eq_true rfl) (Nat.le_of_ble_eq_true rfl) ⟨Nat.le_of_ble_eq_true rfl, Nat.le_of_ble_eq_true rfl⟩) hS (fun locs hS => ?_)
    refine n_if_eq X 18 d_M_concat_13 rfl (by decide) (fun hc => ?_) (fun hc => absurd rfl hc)
    refine x_aload_n X d_M_concat_18 rfl hl rfl ?_
    refine m_get X hP 8 (by decide) e_M_30 rfl d_M_concat_19 ?_
    refine x_bipush (v := nI 120) X d_M_concat_22 rfl ?_
    refine n_icmp_ge X 45 d_M_concat_24 rfl (by omega) (by omega) (fun hc => ?_) (fun hc => ?_)
    · skip
      refine x_bipush (v := -2) X d_M_concat_45 rfl ?_
      exact x_iret X hS (Nat.le_refl _) (Nat.le_refl _) d_M_concat_47 ⟨rfl, _, _, _, _, _, _, _, _, _, _, _, hR, hP⟩
    refine x_aload_n X d_M_concat_27 rfl hl rfl ?_
    refine m_get X hP 7 (by decide) e_M_27 rfl d_M_concat_28 ?_
    refine x_iload_n X d_M_concat_31 rfl hl rfl ?_
    refine m_ld_ct X hP (by omega) d_M_concat_32 ?_
    refine x_aload_n X d_M_concat_33 rfl hl rfl ?_
    refine m_get X hP 7 (by decide) e_M_27 rfl d_M_concat_34 ?_
    refine x_iload_n X d_M_concat_37 rfl hl rfl ?_
    refine m_ld_ct X hP (by omega) d_M_concat_38 ?_
    refine n_iadd X d_M_concat_39 ?_
    refine x_bipush (v := nI 40) X d_M_concat_40 rfl ?_
    rw [hct, hct2]
    refine n_icmp_le X 48 d_M_concat_42 rfl (by omega) (by omega) (fun hc => absurd hc (by omega)) (fun hc => ?_)
    refine x_bipush (v := -2) X d_M_concat_45 rfl ?_
    exact x_iret X hS (Nat.le_refl _) (Nat.le_refl _) d_M_concat_47 ⟨rfl, _, _, _, _, _, _, _, _, _, _, _, hR, hP⟩
  have hok := sp_concat_ok hq (nI j) (nI j2)
  have hsp : sp_concat q (nI j) (nI j2) = (nI q.1.length, (q.1 ++ [(ft_jn t.1 t.2 [] t2.1 t2.2 q.2.1).1], (ft_jn t.1 t.2 [] t2.1 t2.2 q.2.1).2, q.2.2)) := by unfold sp_concat; rw [hat, hat2]; dsimp only; rw [if_neg hfu]; rfl
  rw [hsp] at hok ⊢
  have hmd := sp_md hok
  dsimp only at hmd
  refine xC.of rfl (Nat.le_of_ble_eq_true rfl) ?_
  intro p_ e_ s_ m_ ar_ bl_ me_ c_ ls X hl
  have hl : lz ls 5 [some (.ref (a 0)), some (.int (nI j)), some (.int (nI j2)), none, none] := hl
  have hS : va_S (mFr a) H0 H0 [] := va_S.rf
  refine x_aload_n X d_M_concat_0 rfl hl rfl ?_
  refine x_iload_n X d_M_concat_1 rfl hl rfl ?_
  refine x_goR (x_runV X (C_M_none_f l D A _ a lo hi q.2.2.length q.2.1.1 q.1.length n q.2.1.2 mk pl ct w hP j hj (by omega)) b_M_none s_M_none v_M_none e_M_109 (m_at hP) rfl rfl hl rfl (Nat.le_of_ble_eq_true rfl) d_M_concat_2 (Nat.le_of_ble_eq_true rfl) (Nat.le_of_ble_eq_true rfl) ⟨Nat.le_of_ble_eq_true rfl, Nat.le_of_ble_eq_true rfl⟩) hS (fun locs hS => ?_)
  refine n_if_ne X 16 d_M_concat_5 rfl (by decide) (fun hc => absurd rfl hc) (fun hc => ?_)
  refine x_aload_n X d_M_concat_8 rfl hl rfl ?_
  refine x_iload_n X d_M_concat_9 rfl hl rfl ?_
  refine x_goR (x_runV X (C_M_none_f l D A _ a lo hi q.2.2.length q.2.1.1 q.1.length n q.2.1.2 mk pl ct w hP j2 hj2 (by omega)) b_M_none s_M_none v_M_none e_M_109 (m_at hP) rfl rfl hl rfl (Nat.le_of_ble_eq_true rfl) d_M_concat_10 (Nat.le_of_ble_eq_true rfl) (Nat.le_of_ble_eq_true rfl) ⟨Nat.le_of_ble_eq_true rfl, Nat.le_of_ble_eq_true rfl⟩) hS (fun locs hS => ?_)
  refine n_if_eq X 18 d_M_concat_13 rfl (by decide) (fun hc => ?_) (fun hc => absurd rfl hc)
  refine x_aload_n X d_M_concat_18 rfl hl rfl ?_
  refine m_get X hP 8 (by decide) e_M_30 rfl d_M_concat_19 ?_
  refine x_bipush (v := nI 120) X d_M_concat_22 rfl ?_
  refine n_icmp_ge X 45 d_M_concat_24 rfl (by omega) (by omega) (fun hc => absurd hc (by omega)) (fun hc => ?_)
  refine x_aload_n X d_M_concat_27 rfl hl rfl ?_
  refine m_get X hP 7 (by decide) e_M_27 rfl d_M_concat_28 ?_
  refine x_iload_n X d_M_concat_31 rfl hl rfl ?_
  refine m_ld_ct X hP (by omega) d_M_concat_32 ?_
  refine x_aload_n X d_M_concat_33 rfl hl rfl ?_
  refine m_get X hP 7 (by decide) e_M_27 rfl d_M_concat_34 ?_
  refine x_iload_n X d_M_concat_37 rfl hl rfl ?_
  refine m_ld_ct X hP (by omega) d_M_concat_38 ?_
  refine n_iadd X d_M_concat_39 ?_
  refine x_bipush (v := nI 40) X d_M_concat_40 rfl ?_
  rw [hct, hct2]
  refine n_icmp_le X 48 d_M_concat_42 rfl (by omega) (by omega) (fun hc => ?_) (fun hc => absurd hc (by omega))
  refine x_aload_n X d_M_concat_48 rfl hl rfl ?_
  refine x_iload_n X d_M_concat_49 rfl hl rfl ?_
  refine x_go0 (x_runV X (C_M_load l D A _ a lo hi q.2.2.length q.2.1.1 q.1.length n q.2.1.2 mk pl ct w hP hd j (by omega) (by omega)) b_M_load s_M_load v_M_load e_M_113 (m_at hP) rfl rfl hl rfl (Nat.le_of_ble_eq_true rfl) d_M_concat_50 (Nat.le_of_ble_eq_true rfl) (Nat.le_of_ble_eq_true rfl) ⟨Nat.le_of_ble_eq_true rfl, Nat.le_of_ble_eq_true rfl⟩) hS (fun _ h => h) (fun H locs hP hF hS => ?_)
  rw [hct] at hP
  have hw1 := ft_ld_bw (j := j) (m := ft_zT t.1 t.2) h9 h8
  have hd1 := ft_ld_hd (w := w) (m := ft_zT t.1 t.2) hpl (by rw [ft_wT_len]; exact Nat.le_refl _)
  generalize ft_ld w pl j (ft_zT t.1 t.2) = w1 at hP hw1 hd1
  refine x_aload_n X d_M_concat_53 rfl hl rfl ?_
  refine m_get X hP 10 (by decide) e_M_37 rfl d_M_concat_54 ?_
  refine x_istore_n X d_M_concat_57 rfl hl (by decide) rfl (fun ls hl => ?_)
  refine x_iconst (v := nI 0) X d_M_concat_58 rfl ?_
  refine x_istore X d_M_concat_59 hl (by decide) rfl (fun ls hl => ?_)
  have loop : ∀ (g i : Nat) (H1 : Heap) (locs : List Loc) (ls : Array Slot), ft_zT t2.1 t2.2 - i = g → i ≤ ft_zT t2.1 t2.2 → lz ls 5 [some (.ref (a 0)), some (.int (nI j)), some (.int (nI j2)), some (.int (nI (ft_zT t.1 t.2))), some (.int (nI i))] → mH D a A lo hi q.2.2.length q.2.1.2 mk q.2.1.1 pl ct q.1.length (ft_cp w1 pl (ft_zT t.1 t.2) j2 i) (ft_zT t.1 t.2) H1 → va_S (mFr a) H0 H1 locs → W p_ l e_ (x_rm 7 0 0) s_ m_ ar_ bl_ me_ c_ H1 locs 0 0 (MQ bl_ (xQ (mFr a) (q1 (.int ((nI q.1.length, (q.1 ++ [(ft_jn t.1 t.2 [] t2.1 t2.2 q.2.1).1], (ft_jn t.1 t.2 [] t2.1 t2.2 q.2.1).2, q.2.2))).1) (fun H1 => mI D a A ((nI q.1.length, (q.1 ++ [(ft_jn t.1 t.2 [] t2.1 t2.2 q.2.1).1], (ft_jn t.1 t.2 [] t2.1 t2.2 q.2.1).2, q.2.2))).2 H1))) ar_ s_ 0 0 (mFr a)) (F0 m_ 61 ls []) := by
    clear hP hl hS
    intro g
    induction g with
    | zero =>
      intro i H1 locs ls hg hi2 hl hP hS
      have hie : i = ft_zT t2.1 t2.2 := by omega
      subst hie
      refine x_iload X d_M_concat_61 hl rfl ?_
      refine x_aload_n X d_M_concat_63 rfl hl rfl ?_
      refine m_get X hP 7 (by decide) e_M_27 rfl d_M_concat_64 ?_
      refine x_iload_n X d_M_concat_67 rfl hl rfl ?_
      refine m_ld_ct X hP (by omega) d_M_concat_68 ?_
      rw [hct2]
      refine n_icmp_ge X 99 d_M_concat_69 rfl (by omega) (by omega) (fun hc => ?_) (fun hc => absurd hc (by omega))
      refine x_aload_n X d_M_concat_99 rfl hl rfl ?_
      refine x_iload_n X d_M_concat_100 rfl hl rfl ?_
      refine x_aload_n X d_M_concat_101 rfl hl rfl ?_
      refine m_get X hP 7 (by decide) e_M_27 rfl d_M_concat_102 ?_
      refine x_iload_n X d_M_concat_105 rfl hl rfl ?_
      refine m_ld_ct X hP (by omega) d_M_concat_106 ?_
      rw [hct2]
      refine n_iadd X d_M_concat_107 ?_
      refine m_put_n X hP hd hS d_M_concat_108 (fun H locs hP hS => ?_)
      have hw2 := ft_cp_bw (p := ft_zT t.1 t.2) (u := j2) (i := ft_zT t2.1 t2.2) hw1 h8
      obtain ⟨b1, b2⟩ := ft_cp_hd (i := ft_zT t2.1 t2.2) hd1 hpl2 (by rw [ft_wT_len]; exact Nat.le_refl _) (by rw [ft_wT_len]; exact Nat.le_refl _)
      generalize ft_cp w1 pl (ft_zT t.1 t.2) j2 (ft_zT t2.1 t2.2) = w2 at hP hw2 b1 b2
      refine x_aload_n X d_M_concat_111 rfl hl rfl ?_
      refine x_iload_n X d_M_concat_112 rfl hl rfl ?_
      refine x_go0 (x_runV X (C_M_join l D A _ a lo hi q.2.2.length q.2.1.1 q.1.length (ft_zT t.1 t.2 + ft_zT t2.1 t2.2) q.2.1.2 mk pl ct w2 hP hd hw2 hq.2 (by omega) (by omega) t.1 t.2 t2.1 t2.2 ht.1 ht2.1 b1 b2 (by omega) rfl hmd) b_M_join s_M_join v_M_join e_M_126 (m_at hP) rfl rfl hl rfl (Nat.le_of_ble_eq_true rfl) d_M_concat_113 (Nat.le_of_ble_eq_true rfl) (Nat.le_of_ble_eq_true rfl) ⟨Nat.le_of_ble_eq_true rfl, Nat.le_of_ble_eq_true rfl⟩) hS (fun _ h => h) (fun H locs hP hF hS => ?_)
      obtain ⟨w3, hP, hw3, b4⟩ := hP
      refine x_aload_n X d_M_concat_116 rfl hl rfl ?_
      refine x_iconst (v := nI 0) X d_M_concat_117 rfl ?_
      refine x_aload_n X d_M_concat_118 rfl hl rfl ?_
      refine m_get X hP 10 (by decide) e_M_37 rfl d_M_concat_119 ?_
      refine x_go1 (x_runV X (C_M_store l D A _ a lo hi q.2.2.length (ft_jn t.1 t.2 [] t2.1 t2.2 q.2.1).2.1 q.1.length (ft_zT t.1 t.2 + ft_zT t2.1 t2.2) (ft_jn t.1 t.2 [] t2.1 t2.2 q.2.1).2.2 mk pl ct w3 hP hd 0 (ft_zT t.1 t.2 + ft_zT t2.1 t2.2) (Nat.zero_le _) (by omega) (by omega) (by omega)) b_M_store s_M_store v_M_store e_M_120 (m_at hP) rfl rfl hl rfl (Nat.le_of_ble_eq_true rfl) d_M_concat_122 (Nat.le_of_ble_eq_true rfl) (Nat.le_of_ble_eq_true rfl) ⟨Nat.le_of_ble_eq_true rfl, Nat.le_of_ble_eq_true rfl⟩) hS (fun _ h => h) (fun H locs hP hF hS => ?_)
      have hzz := (ft_jn_ok t.1 t.2 [] t2.1 t2.2 q.2.1 0 (by simp) (fun y hy => by simp at hy) ht.1 ht2.1).2.2
      simp only [ft_zR] at hzz
      refine x_iret X hS (Nat.le_refl _) (Nat.le_refl _) d_M_concat_125 ⟨rfl, _, _, _, _, _, _, _, _, _, _, _, ?_, hP⟩
      exact mR_keep (t := (ft_jn t.1 t.2 [] t2.1 t2.2 q.2.1).1) (c := (ft_jn t.1 t.2 [] t2.1 t2.2 q.2.1).2) (e := q.2.2) (m := ft_zT t.1 t.2 + ft_zT t2.1 t2.2 - 0) (n' := ft_zT t.1 t.2 + ft_zT t2.1 t2.2) hR hq h5 b4 (by omega) hw3 (by omega)
    | succ g ih =>
      intro i H1 locs ls hg hi2 hl hP hS
      refine x_iload X d_M_concat_61 hl rfl ?_
      refine x_aload_n X d_M_concat_63 rfl hl rfl ?_
      refine m_get X hP 7 (by decide) e_M_27 rfl d_M_concat_64 ?_
      refine x_iload_n X d_M_concat_67 rfl hl rfl ?_
      refine m_ld_ct X hP (by omega) d_M_concat_68 ?_
      rw [hct2]
      refine n_icmp_ge X 99 d_M_concat_69 rfl (by omega) (by omega) (fun hc => absurd hc (by omega)) (fun hc => ?_)
      refine x_aload_n X d_M_concat_72 rfl hl rfl ?_
      refine m_get X hP 9 (by decide) e_M_34 rfl d_M_concat_73 ?_
      refine x_iload_n X d_M_concat_76 rfl hl rfl ?_
      refine x_iload X d_M_concat_77 hl rfl ?_
      refine n_iadd X d_M_concat_79 ?_
      refine x_aload_n X d_M_concat_80 rfl hl rfl ?_
      refine m_get X hP 6 (by decide) e_M_23 rfl d_M_concat_81 ?_
      refine x_bipush (v := nI 40) X d_M_concat_84 rfl ?_
      refine x_iload_n X d_M_concat_86 rfl hl rfl ?_
      refine n_imul X d_M_concat_87 ?_
      refine x_iload X d_M_concat_88 hl rfl ?_
      refine n_iadd X d_M_concat_90 ?_
      refine m_ld_pl X hP (by omega) d_M_concat_91 ?_
      refine m_st_w X hP hd hS (by omega) d_M_concat_92 (fun H locs hP hS => ?_)
      rw [ft_cpS] at hP
      refine n_iinc (d := 1) X d_M_concat_93 rfl hl rfl (by decide) rfl (fun ls hl => ?_)
      refine x_goto X 61 d_M_concat_96 rfl ?_
      exact ih (i + 1) _ _ _ (by omega) (by omega) hl hP hS
  exact loop (ft_zT t2.1 t2.2) 0 _ _ _ rfl (Nat.zero_le _) hl (by rw [ft_cp0]; exact hP) hS
set_option maxRecDepth 100000 in
set_option maxHeartbeats 4000000 in
theorem A_M_split (l : Launch) (D : va_G) (A : Nat → ClassId) (H0 : Heap) (a : Nat → Nat) (hd : mDs a) (q : ft_Q) (hq : sp_ok2 q) (hI : mI D a A q H0) (v : Int32) (p : Int32) : xC l y_M_split c_M_split 4 (some .int) 7 D A H0 [.ref (a 0), .int v, .int p] (mFr a) (q1 (.int (sp_split q v p).1) (fun H1 => mI D a A (sp_split q v p).2 H1)) 0 0 := by
  obtain ⟨lo, hi, en, zf, mk, md, pl, ct, vs, w, n, hR, hP⟩ := hI
  obtain ⟨⟨rfl, rfl, rfl, rfl⟩, h5, h6, h7, h8, h9, h10⟩ := id hR
  have hl1 := hq.1.1
  have hl2 := hq.1.2.1
  have hl3 := hq.1.2.2.2.1
  have hmd0 := sp_md hq
  rcases sp_at_cases hq v with ⟨hv, hat⟩ | ⟨j, t, rfl, hj, hjt, hat⟩
  · skip
    have hsp : sp_split q v p = ((-1 : Int32), q) := by unfold sp_split; rw [hat]
    rw [hsp]
    refine xC.of rfl (Nat.le_of_ble_eq_true rfl) ?_
    intro p_ e_ s_ m_ ar_ bl_ me_ c_ ls X hl
    have hl : lz ls 4 [some (.ref (a 0)), some (.int v), some (.int p), none] := hl
    have hS : va_S (mFr a) H0 H0 [] := va_S.rf
    refine x_aload_n X d_M_split_0 rfl hl rfl ?_
    refine x_iload_n X d_M_split_1 rfl hl rfl ?_
    refine x_goR (x_runV X (C_M_none_t l D A _ a lo hi q.2.2.length q.2.1.1 q.1.length n q.2.1.2 mk pl ct w hP v hv) b_M_none s_M_none v_M_none e_M_109 (m_at hP) rfl rfl hl rfl (Nat.le_of_ble_eq_true rfl) d_M_split_2 (Nat.le_of_ble_eq_true rfl) (Nat.le_of_ble_eq_true rfl) ⟨Nat.le_of_ble_eq_true rfl, Nat.le_of_ble_eq_true rfl⟩) hS (fun locs hS => ?_)
    refine n_if_ne X 22 d_M_split_5 rfl (by decide) (fun hc => ?_) (fun hc => absurd hc (by decide))
    refine x_iconst (v := -1) X d_M_split_22 rfl ?_
    exact x_iret X hS (Nat.le_refl _) (Nat.le_refl _) d_M_split_23 ⟨rfl, _, _, _, _, _, _, _, _, _, _, _, hR, hP⟩
  have ht := hq.1.2.2.1 t (List.mem_of_getElem? hjt)
  obtain ⟨hct, hpl⟩ := h6 j t hjt
  have hz40 := ht.2
  by_cases hp : p < 0 ∨ nI (ft_zT t.1 t.2) < p
  · skip
    have hsp : sp_split q (nI j) p = ((-1 : Int32), q) := by unfold sp_split; rw [hat]; dsimp only; rw [if_pos hp]
    rw [hsp]
    refine xC.of rfl (Nat.le_of_ble_eq_true rfl) ?_
    intro p_ e_ s_ m_ ar_ bl_ me_ c_ ls X hl
    have hl : lz ls 4 [some (.ref (a 0)), some (.int (nI j)), some (.int p), none] := hl
    have hS : va_S (mFr a) H0 H0 [] := va_S.rf
    refine x_aload_n X d_M_split_0 rfl hl rfl ?_
    refine x_iload_n X d_M_split_1 rfl hl rfl ?_
    refine x_goR (x_runV X (C_M_none_f l D A _ a lo hi q.2.2.length q.2.1.1 q.1.length n q.2.1.2 mk pl ct w hP j hj (by omega)) b_M_none s_M_none v_M_none e_M_109 (m_at hP) rfl rfl hl rfl (Nat.le_of_ble_eq_true rfl) d_M_split_2 (Nat.le_of_ble_eq_true rfl) (Nat.le_of_ble_eq_true rfl) ⟨Nat.le_of_ble_eq_true rfl, Nat.le_of_ble_eq_true rfl⟩) hS (fun locs hS => ?_)
    refine n_if_ne X 22 d_M_split_5 rfl (by decide) (fun hc => absurd rfl hc) (fun hc => ?_)
    refine x_iload_n X d_M_split_8 rfl hl rfl ?_
    have fin : ∀ (locs : List Loc), va_S (mFr a) H0 H0 locs → W p_ l e_ (x_rm 7 0 0) s_ m_ ar_ bl_ me_ c_ H0 locs 0 0 (MQ bl_ (xQ (mFr a) (q1 (.int (((-1 : Int32), q)).1) (fun H1 => mI D a A (((-1 : Int32), q)).2 H1))) ar_ s_ 0 0 (mFr a)) (F0 m_ 22 ls []) := by
      intro locs hS
      refine x_iconst (v := -1) X d_M_split_22 rfl ?_
      exact x_iret X hS (Nat.le_refl _) (Nat.le_refl _) d_M_split_23 ⟨rfl, _, _, _, _, _, _, _, _, _, _, _, hR, hP⟩
    refine x_if_lt X 22 d_M_split_9 rfl (fun _ => fin _ hS) (fun h0 => ?_)
    refine x_iload_n X d_M_split_12 rfl hl rfl ?_
    refine x_aload_n X d_M_split_13 rfl hl rfl ?_
    refine m_get X hP 7 (by decide) e_M_27 rfl d_M_split_14 ?_
    refine x_iload_n X d_M_split_17 rfl hl rfl ?_
    refine m_ld_ct X hP (by omega) d_M_split_18 ?_
    rw [hct]
    refine x_icmp_le X 24 d_M_split_19 rfl (fun h => ?_) (fun _ => fin _ hS)
    rcases hp with hp | hp
    · exact absurd hp h0
    · exact absurd hp (Int32.not_lt.2 h)
  obtain ⟨pp, hpp, rfl⟩ : ∃ pp, pp ≤ ft_zT t.1 t.2 ∧ p = nI pp := by
    rcases pk_ix p (n := ft_zT t.1 t.2 + 1) (by omega) with h | h | ⟨i, hi2, e⟩
    · exact absurd (Or.inl h) hp
    · exact absurd (Or.inr (Int32.lt_of_lt_of_le (nI_lt (by omega) (by omega)) h)) hp
    · exact ⟨i, by omega, e⟩
  by_cases hfu : 118 < q.1.length
  · skip
    have hsp : sp_split q (nI j) (nI pp) = ((-2 : Int32), q) := by unfold sp_split; rw [hat]; dsimp only; rw [if_neg hp, if_pos hfu]
    rw [hsp]
    refine xC.of rfl (Nat.le_of_ble_eq_true rfl) ?_
    intro p_ e_ s_ m_ ar_ bl_ me_ c_ ls X hl
    have hl : lz ls 4 [some (.ref (a 0)), some (.int (nI j)), some (.int (nI pp)), none] := hl
    have hS : va_S (mFr a) H0 H0 [] := va_S.rf
    refine x_aload_n X d_M_split_0 rfl hl rfl ?_
    refine x_iload_n X d_M_split_1 rfl hl rfl ?_
    refine x_goR (x_runV X (C_M_none_f l D A _ a lo hi q.2.2.length q.2.1.1 q.1.length n q.2.1.2 mk pl ct w hP j hj (by omega)) b_M_none s_M_none v_M_none e_M_109 (m_at hP) rfl rfl hl rfl (Nat.le_of_ble_eq_true rfl) d_M_split_2 (Nat.le_of_ble_eq_true rfl) (Nat.le_of_ble_eq_true rfl) ⟨Nat.le_of_ble_eq_true rfl, Nat.le_of_ble_eq_true rfl⟩) hS (fun locs hS => ?_)
    refine n_if_ne X 22 d_M_split_5 rfl (by decide) (fun hc => absurd rfl hc) (fun hc => ?_)
    refine x_iload_n X d_M_split_8 rfl hl rfl ?_
    refine n_if_lt X 22 d_M_split_9 rfl (by omega) (fun hc => absurd hc (Nat.not_lt_zero _)) (fun hc => ?_)
    refine x_iload_n X d_M_split_12 rfl hl rfl ?_
    refine x_aload_n X d_M_split_13 rfl hl rfl ?_
    refine m_get X hP 7 (by decide) e_M_27 rfl d_M_split_14 ?_
    refine x_iload_n X d_M_split_17 rfl hl rfl ?_
    refine m_ld_ct X hP (by omega) d_M_split_18 ?_
    rw [hct]
    refine n_icmp_le X 24 d_M_split_19 rfl (by omega) (by omega) (fun hc => ?_) (fun hc => absurd hc (by omega))
    refine x_aload_n X d_M_split_24 rfl hl rfl ?_
    refine m_get X hP 8 (by decide) e_M_30 rfl d_M_split_25 ?_
    refine x_bipush (v := nI 118) X d_M_split_28 rfl ?_
    refine n_icmp_le X 36 d_M_split_30 rfl (by omega) (by omega) (fun hc => absurd hc (by omega)) (fun hc => ?_)
    refine x_bipush (v := -2) X d_M_split_33 rfl ?_
    exact x_iret X hS (Nat.le_refl _) (Nat.le_refl _) d_M_split_35 ⟨rfl, _, _, _, _, _, _, _, _, _, _, _, hR, hP⟩
  have hok := sp_split_ok hq (nI j) (nI pp)
  have hsp : sp_split q (nI j) (nI pp) = (nI q.1.length, (q.1 ++ [(ft_ha t.1 t.2 pp q.2.1).1, (ft_ha t.1 t.2 pp q.2.1).2.1], (ft_ha t.1 t.2 pp q.2.1).2.2, q.2.2)) := by unfold sp_split; rw [hat]; dsimp only; rw [if_neg hp, if_neg hfu, nI_clamp (by omega)]
  rw [hsp] at hok ⊢
  have hmd := sp_md hok
  dsimp only at hmd
  refine xC.of rfl (Nat.le_of_ble_eq_true rfl) ?_
  intro p_ e_ s_ m_ ar_ bl_ me_ c_ ls X hl
  have hl : lz ls 4 [some (.ref (a 0)), some (.int (nI j)), some (.int (nI pp)), none] := hl
  have hS : va_S (mFr a) H0 H0 [] := va_S.rf
  refine x_aload_n X d_M_split_0 rfl hl rfl ?_
  refine x_iload_n X d_M_split_1 rfl hl rfl ?_
  refine x_goR (x_runV X (C_M_none_f l D A _ a lo hi q.2.2.length q.2.1.1 q.1.length n q.2.1.2 mk pl ct w hP j hj (by omega)) b_M_none s_M_none v_M_none e_M_109 (m_at hP) rfl rfl hl rfl (Nat.le_of_ble_eq_true rfl) d_M_split_2 (Nat.le_of_ble_eq_true rfl) (Nat.le_of_ble_eq_true rfl) ⟨Nat.le_of_ble_eq_true rfl, Nat.le_of_ble_eq_true rfl⟩) hS (fun locs hS => ?_)
  refine n_if_ne X 22 d_M_split_5 rfl (by decide) (fun hc => absurd rfl hc) (fun hc => ?_)
  refine x_iload_n X d_M_split_8 rfl hl rfl ?_
  refine n_if_lt X 22 d_M_split_9 rfl (by omega) (fun hc => absurd hc (Nat.not_lt_zero _)) (fun hc => ?_)
  refine x_iload_n X d_M_split_12 rfl hl rfl ?_
  refine x_aload_n X d_M_split_13 rfl hl rfl ?_
  refine m_get X hP 7 (by decide) e_M_27 rfl d_M_split_14 ?_
  refine x_iload_n X d_M_split_17 rfl hl rfl ?_
  refine m_ld_ct X hP (by omega) d_M_split_18 ?_
  rw [hct]
  refine n_icmp_le X 24 d_M_split_19 rfl (by omega) (by omega) (fun hc => ?_) (fun hc => absurd hc (by omega))
  refine x_aload_n X d_M_split_24 rfl hl rfl ?_
  refine m_get X hP 8 (by decide) e_M_30 rfl d_M_split_25 ?_
  refine x_bipush (v := nI 118) X d_M_split_28 rfl ?_
  refine n_icmp_le X 36 d_M_split_30 rfl (by omega) (by omega) (fun hc => ?_) (fun hc => absurd hc (by omega))
  refine x_aload_n X d_M_split_36 rfl hl rfl ?_
  refine x_iload_n X d_M_split_37 rfl hl rfl ?_
  refine x_go0 (x_runV X (C_M_load l D A _ a lo hi q.2.2.length q.2.1.1 q.1.length n q.2.1.2 mk pl ct w hP hd j (by omega) (by omega)) b_M_load s_M_load v_M_load e_M_113 (m_at hP) rfl rfl hl rfl (Nat.le_of_ble_eq_true rfl) d_M_split_38 (Nat.le_of_ble_eq_true rfl) (Nat.le_of_ble_eq_true rfl) ⟨Nat.le_of_ble_eq_true rfl, Nat.le_of_ble_eq_true rfl⟩) hS (fun _ h => h) (fun H locs hP hF hS => ?_)
  rw [hct] at hP
  have hw1 := ft_ld_bw (j := j) (m := ft_zT t.1 t.2) h9 h8
  have hd1 := ft_ld_hd (w := w) (m := ft_zT t.1 t.2) hpl (by rw [ft_wT_len]; exact Nat.le_refl _)
  generalize ft_ld w pl j (ft_zT t.1 t.2) = w1 at hP hw1 hd1
  refine x_aload_n X d_M_split_41 rfl hl rfl ?_
  refine x_iload_n X d_M_split_42 rfl hl rfl ?_
  refine x_go0 (x_runV X (C_M_halves l D A _ a lo hi q.2.2.length q.2.1.1 q.1.length (ft_zT t.1 t.2) q.2.1.2 mk pl ct w1 hP hd hw1 hq.2 (by omega) t.1 t.2 pp ht.1 hd1 (by omega) rfl hpp hmd) b_M_halves s_M_halves v_M_halves e_M_132 (m_at hP) rfl rfl hl rfl (Nat.le_of_ble_eq_true rfl) d_M_split_43 (Nat.le_of_ble_eq_true rfl) (Nat.le_of_ble_eq_true rfl) ⟨Nat.le_of_ble_eq_true rfl, Nat.le_of_ble_eq_true rfl⟩) hS (fun _ h => h) (fun H locs hP hF hS => ?_)
  obtain ⟨w2, hP, hw2, b1, b2⟩ := hP
  obtain ⟨g1, g2, g3, g4, g5⟩ := ft_ha_ok ht.1 hpp
  have g6 := ft_ha_c ht.1 hpp
  have g7 := ft_ha_128 ht.1 hpp hq.2 (by omega)
  have g8 := ft_c35 g3 (by omega)
  refine x_aload_n X d_M_split_46 rfl hl rfl ?_
  refine x_iconst (v := nI 0) X d_M_split_47 rfl ?_
  refine x_iload_n X d_M_split_48 rfl hl rfl ?_
  refine x_go1 (x_runV X (C_M_store l D A _ a lo hi q.2.2.length (ft_ha t.1 t.2 pp q.2.1).2.2.1 q.1.length (ft_zT t.1 t.2) (ft_ha t.1 t.2 pp q.2.1).2.2.2 mk pl ct w2 hP hd 0 pp (Nat.zero_le _) (by omega) (by omega) (by omega)) b_M_store s_M_store v_M_store e_M_120 (m_at hP) rfl rfl hl rfl (Nat.le_of_ble_eq_true rfl) d_M_split_49 (Nat.le_of_ble_eq_true rfl) (Nat.le_of_ble_eq_true rfl) ⟨Nat.le_of_ble_eq_true rfl, Nat.le_of_ble_eq_true rfl⟩) hS (fun _ h => h) (fun H locs hP hF hS => ?_)
  have k1 := sp_keep_ok (t := (ft_ha t.1 t.2 pp q.2.1).1) (e := q.2.2) hq (by omega) g1 (Nat.le_refl _) (by omega) g2 (by omega) (by omega) g7
  have r1 := mR_keep (t := (ft_ha t.1 t.2 pp q.2.1).1) (c := (ft_ha t.1 t.2 pp q.2.1).2.2) (e := q.2.2) (f := 0) (m := pp - 0) (n' := ft_zT t.1 t.2) hR hq h5 b1 (by omega) hw2 (by omega)
  refine x_istore_n X d_M_split_52 rfl hl (by decide) rfl (fun ls hl => ?_)
  refine x_aload_n X d_M_split_53 rfl hl rfl ?_
  refine x_iload_n X d_M_split_54 rfl hl rfl ?_
  refine x_aload_n X d_M_split_55 rfl hl rfl ?_
  refine m_get X hP 10 (by decide) e_M_37 rfl d_M_split_56 ?_
  refine x_go1 (x_runV X (C_M_store l D A _ a lo hi q.2.2.length (ft_ha t.1 t.2 pp q.2.1).2.2.1 (q.1.length + 1) (ft_zT t.1 t.2) (ft_ha t.1 t.2 pp q.2.1).2.2.2 mk (ft_st pl w2 q.1.length 0 (pp - 0)) (va_up ct q.1.length (pp - 0)) w2 hP hd pp (ft_zT t.1 t.2) hpp (by omega) (by omega) (by omega)) b_M_store s_M_store v_M_store e_M_120 (m_at hP) rfl rfl hl rfl (Nat.le_of_ble_eq_true rfl) d_M_split_59 (Nat.le_of_ble_eq_true rfl) (Nat.le_of_ble_eq_true rfl) ⟨Nat.le_of_ble_eq_true rfl, Nat.le_of_ble_eq_true rfl⟩) hS (fun _ h => h) (fun H locs hP hF hS => ?_)
  refine x_pop X d_M_split_62 rfl ?_
  refine x_iload_n X d_M_split_63 rfl hl rfl ?_
  refine x_iret X hS (Nat.le_refl _) (Nat.le_refl _) d_M_split_64 ⟨rfl, _, _, _, _, _, _, _, _, _, _, _, ?_, hP⟩
  have r2 := mR_keep (t := (ft_ha t.1 t.2 pp q.2.1).2.1) (c := (ft_ha t.1 t.2 pp q.2.1).2.2) (e := q.2.2) (f := pp) (m := ft_zT t.1 t.2 - pp) (n' := ft_zT t.1 t.2) r1 k1 h5 b2 (by omega) hw2 (by omega)
  have e : q.1 ++ [(ft_ha t.1 t.2 pp q.2.1).1, (ft_ha t.1 t.2 pp q.2.1).2.1] = q.1 ++ [(ft_ha t.1 t.2 pp q.2.1).1] ++ [(ft_ha t.1 t.2 pp q.2.1).2.1] := by simp
  rw [e]
  exact r2
