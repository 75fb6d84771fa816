/-! The class, call by call: pushFront, pushBack, popFront, popBack, concat, split. -/
def cVs (D : va_G) (A : Nat → ClassId) (S : Nat → Prop) (rh : Nat → Nat) (E : ft_E) (ts : List ft_T) (vs : List Nat) (H : Heap) : Prop := ∀ (i : Nat) (t : ft_T), ts[i]? = some t → ∃ a, vs[i]? = some a ∧ cT D A S rh E t.1 t.2 a H
theorem cVs.tr {D : va_G} {A : Nat → ClassId} {S S1 : Nat → Prop} {rh : Nat → Nat} {E E1 : ft_E} {ts : List ft_T} {vs : List Nat} {H H1 : Heap} (h : cVs D A S rh E ts vs H) (t : cTr S S1 H H1) (hE : ∀ (e : Nat) (x : Int32 × Int32), E[e]? = some x → E1[e]? = some x) : cVs D A S1 rh E1 ts vs H1 := fun i x hi => by
  obtain ⟨a, h1, h2⟩ := h i x hi
  exact ⟨a, h1, h2.tr t hE⟩
theorem cF.keep {D : va_G} {A : Nat → ClassId} {S : Nat → Prop} {b0 u ks bv ar : Nat} {rh : Nat → Nat} {ts : List ft_T} {c : ft_C} {E : ft_E} {w nn em lt : Nat} {vs : List Nat} {mv : Nat → Nat} {H H1 : Heap} {t : ft_T} {r : Nat} (hd : cDs b0 u ks bv ar) (hSS : ∀ x, cSt b0 u ks bv ar x → S x) (h : cF D A S b0 u ks bv ar rh (ts, c, E) w nn em lt vs mv H) (hT : cT D A S rh E t.1 t.2 r H) (hF : x_fr (fun x => x = b0 ∨ x = bv) H H1) (hC : va_at D vwCl (cO b0 u ks bv (ts.length + 1)) H1 ∧ va_at D vwCl (cV A bv (vs ++ [r])) H1) : cF D A S b0 u ks bv ar rh (ts ++ [t], c, E) w nn em lt (vs ++ [r]) mv H1 := by
  obtain ⟨hO, hU, hKs, hV, hMk, hmv, hlt, hvs, hver⟩ := h
  obtain ⟨d1, d2, d3, d4, d5, d6, d7, d8, d9, d10⟩ := hd
  have tt : cTr S S H H1 := cTr.of hF (fun x _ h => by
    rcases h with h | h
    · exact hSS x (Or.inl h)
    · exact hSS x (Or.inr (Or.inr (Or.inr (Or.inl h)))))
  have no : ∀ x, x ≠ b0 → x ≠ bv → ¬ (fun x => x = b0 ∨ x = bv) x := fun x h1 h2 h => h.elim h1 h2
  have hln : (ts ++ [t]).length = ts.length + 1 := by simp
  have hlv : (vs ++ [r]).length = vs.length + 1 := by simp
  dsimp only at hvs
  refine ⟨?_, hU.mv tt hF (no _ (fun h => d1 h.symm) d6) hU.2.2.2, hF.kp hKs (no _ (fun h => d2 h.symm) d8), hC.2, hF.kp hMk (no _ (fun h => d4 h.symm) (fun h => d10 h.symm)), hmv, hlt, ?_, fun i x hi => ?_⟩
  · dsimp only
    rw [hln]; exact hC.1
  · dsimp only
    rw [hln, hlv, hvs]
  · dsimp only at hi
    by_cases hc : i < ts.length
    · rw [List.getElem?_append_left hc] at hi
      obtain ⟨a, h1, h2⟩ := hver i x hi
      exact ⟨a, by rw [List.getElem?_append_left (by omega)]; exact h1, h2.tr tt (fun _ _ h => h)⟩
    · rw [List.getElem?_append_right (by omega)] at hi
      have hz : i - ts.length = 0 := by
        have := (List.getElem?_eq_some_iff.1 hi).1
        simp at this
        omega
      rw [hz] at hi
      cases hi
      exact ⟨r, by rw [List.getElem?_append_right (by omega), show i - vs.length = 0 from by omega]; rfl, hT.tr tt (fun _ _ h => h)⟩
set_option maxRecDepth 100000 in
set_option maxHeartbeats 4000000 in
theorem A_F_pushFront (l : Launch) (D : va_G) (A : Nat → ClassId) (H0 : Heap) (S : Nat → Prop) (b0 u ks bv ar : Nat) (hd : cDs b0 u ks bv ar) (q : ft_Q) (hq : sp_ok2 q) (w : Nat) (hw : w < 100000) (hG : cG D A S b0 u ks bv ar q w H0) (v : Int32) (lo : Int32) (hi : Int32) : xC l y_F_pushFront c_F_pushFront 4 (some .int) 26 D A H0 [.ref b0, .int v, .int lo, .int hi] (xA (cSt b0 u ks bv ar) H0) (q1 (.int (sp_pushFront q v lo hi).1) (fun H1 => cG D A S b0 u ks bv ar (sp_pushFront q v lo hi).2 (w + 1) H1)) (5000 * ((sp_pushFront q v lo hi).2.1.length - q.1.length)) (50000 * ((sp_pushFront q v lo hi).2.1.length - q.1.length)) := by
  obtain ⟨hSS, hSb, rh, nn, em, lt, vs, mv, hR, hF⟩ := hG
  obtain ⟨hO, hU, hKs, hV, hMk, hmv, hlt, hvs, hver⟩ := hF
  have hl1 := hq.1.1
  have hl2 := hq.1.2.1
  obtain ⟨d1, d2, d3, d4, d5, d6, d7, d8, d9, d10⟩ := id hd
  have n_b0_u : ¬ b0 = u := d1
  have n_ks_u : ¬ ks = u := fun h => d5 h.symm
  have n_bv_u : ¬ bv = u := fun h => d6 h.symm
  have n_ar_u : ¬ ar = u := fun h => d7 h.symm
  have hmd0 := sp_md hq
  have hver : cVs D A S rh q.2.2 q.1 vs H0 := hver
  have hkeep : cG D A S b0 u ks bv ar q (w + 1) H0 := ⟨hSS, hSb, rh, nn, em, lt, vs, mv, hR, hO, hU, hKs, hV, hMk, hmv, by omega, hvs, hver⟩
  rcases sp_at_cases hq v with ⟨hv, hat⟩ | ⟨j, t, rfl, hj, hjt, hat⟩
  · skip
    rw [show sp_pushFront q v lo hi = (-1, q) from by unfold sp_pushFront; rw [hat]]
    refine xC.of rfl (Nat.le_of_ble_eq_true rfl) ?_
    intro p_ e_ s_ m_ ar_ bl_ me_ c_ ls X hl
    have hl : lz ls 4 [some (.ref b0), some (.int v), some (.int lo), some (.int hi)] := hl
    have hS : va_S (xA (cSt b0 u ks bv ar) H0) H0 H0 [] := va_S.rf
    refine x_aload_n X d_F_pushFront_0 rfl hl rfl ?_
    refine x_iload_n X d_F_pushFront_1 rfl hl rfl ?_
    refine x_goR (x_runV X (C_F_isVersion_f l D A _ b0 u ks bv q.1.length hO hl2 v hv) b_F_isVersion s_F_isVersion v_F_isVersion e_F_37 hO rfl rfl hl rfl (Nat.le_of_ble_eq_true rfl) d_F_pushFront_2 (by dsimp only [x_rm]; omega) (by dsimp only [x_rm]; omega) ⟨(by dsimp only [x_rm]; omega), (by dsimp only [x_rm]; omega)⟩) hS (fun locs hS => ?_)
    refine n_if_eq X 13 d_F_pushFront_5 rfl (by decide) (fun hc_ => ?_) (fun hc => absurd rfl hc)
    refine x_iconst (v := -1) X d_F_pushFront_13 rfl ?_
    exact x_iret X hS (Nat.zero_le _) (Nat.zero_le _) d_F_pushFront_14 ⟨rfl, hkeep⟩
  have ht := hq.1.2.2.1 t (List.mem_of_getElem? hjt)
  have hz40 := ht.2
  obtain ⟨ta, hta, hT⟩ := hver j t hjt
  obtain ⟨tl, tr, tmv, trs, tO⟩ := cT_obj hT
  have hz : ft_zT t.1 t.2 < 64 := by omega
  have h5 := ft_len5 ht.1 hz
  by_cases hlh : hi < lo
  · skip
    rw [show sp_pushFront q (nI j) lo hi = (-1, q) from by unfold sp_pushFront; rw [hat]; dsimp only; rw [if_pos hlh]]
    refine xC.of rfl (Nat.le_of_ble_eq_true rfl) ?_
    intro p_ e_ s_ m_ ar_ bl_ me_ c_ ls X hl
    have hl : lz ls 4 [some (.ref b0), some (.int (nI j)), some (.int lo), some (.int hi)] := hl
    have hS : va_S (xA (cSt b0 u ks bv ar) H0) H0 H0 [] := va_S.rf
    refine x_aload_n X d_F_pushFront_0 rfl hl rfl ?_
    refine x_iload_n X d_F_pushFront_1 rfl hl rfl ?_
    refine x_goR (x_runV X (C_F_isVersion_t l D A _ b0 u ks bv q.1.length hO hl2 j hj) b_F_isVersion s_F_isVersion v_F_isVersion e_F_37 hO rfl rfl hl rfl (Nat.le_of_ble_eq_true rfl) d_F_pushFront_2 (by dsimp only [x_rm]; omega) (by dsimp only [x_rm]; omega) ⟨(by dsimp only [x_rm]; omega), (by dsimp only [x_rm]; omega)⟩) hS (fun locs hS => ?_)
    refine n_if_eq X 13 d_F_pushFront_5 rfl (by decide) (fun hc => absurd hc (by decide)) (fun hc_ => ?_)
    refine x_iload_n X d_F_pushFront_8 rfl hl rfl ?_
    refine x_iload_n X d_F_pushFront_9 rfl hl rfl ?_
    refine x_icmp_le X 15 d_F_pushFront_10 rfl (fun h => absurd hlh (Int32.not_lt.2 h)) (fun _ => ?_)
    refine x_iconst (v := -1) X d_F_pushFront_13 rfl ?_
    exact x_iret X hS (Nat.zero_le _) (Nat.zero_le _) d_F_pushFront_14 ⟨rfl, hkeep⟩
  by_cases hn : 120 ≤ q.1.length
  · skip
    rw [show sp_pushFront q (nI j) lo hi = (-2, q) from by unfold sp_pushFront; rw [hat]; dsimp only; rw [if_neg hlh, if_pos (Or.inl hn)]]
    refine xC.of rfl (Nat.le_of_ble_eq_true rfl) ?_
    intro p_ e_ s_ m_ ar_ bl_ me_ c_ ls X hl
    have hl : lz ls 4 [some (.ref b0), some (.int (nI j)), some (.int lo), some (.int hi)] := hl
    have hS : va_S (xA (cSt b0 u ks bv ar) H0) H0 H0 [] := va_S.rf
    refine x_aload_n X d_F_pushFront_0 rfl hl rfl ?_
    refine x_iload_n X d_F_pushFront_1 rfl hl rfl ?_
    refine x_goR (x_runV X (C_F_isVersion_t l D A _ b0 u ks bv q.1.length hO hl2 j hj) b_F_isVersion s_F_isVersion v_F_isVersion e_F_37 hO rfl rfl hl rfl (Nat.le_of_ble_eq_true rfl) d_F_pushFront_2 (by dsimp only [x_rm]; omega) (by dsimp only [x_rm]; omega) ⟨(by dsimp only [x_rm]; omega), (by dsimp only [x_rm]; omega)⟩) hS (fun locs hS => ?_)
    refine n_if_eq X 13 d_F_pushFront_5 rfl (by decide) (fun hc => absurd hc (by decide)) (fun hc_ => ?_)
    refine x_iload_n X d_F_pushFront_8 rfl hl rfl ?_
    refine x_iload_n X d_F_pushFront_9 rfl hl rfl ?_
    refine x_icmp_le X 15 d_F_pushFront_10 rfl (fun _ => ?_) (fun h => absurd (Int32.not_lt.1 hlh) h)
    refine x_aload_n X d_F_pushFront_15 rfl hl rfl ?_
    refine x_iconst (v := nI 1) X d_F_pushFront_16 rfl ?_
    refine x_goR (x_runV X (C_F_hasRoomFor l D A _ b0 u ks bv q.1.length hO hl2 1 (by decide)) b_F_hasRoomFor s_F_hasRoomFor v_F_hasRoomFor e_F_41 hO rfl rfl hl rfl (Nat.le_of_ble_eq_true rfl) d_F_pushFront_17 (by dsimp only [x_rm]; omega) (by dsimp only [x_rm]; omega) ⟨(by dsimp only [x_rm]; omega), (by dsimp only [x_rm]; omega)⟩) hS (fun locs hS => ?_)
    rw [if_neg (by omega)]
    refine n_if_eq X 37 d_F_pushFront_20 rfl (by decide) (fun hc_ => ?_) (fun hc => absurd rfl hc)
    refine x_bipush (v := -2) X d_F_pushFront_37 rfl ?_
    exact x_iret X hS (Nat.zero_le _) (Nat.zero_le _) d_F_pushFront_39 ⟨rfl, hkeep⟩
  by_cases hf : 40 ≤ ft_zT t.1 t.2
  · skip
    rw [show sp_pushFront q (nI j) lo hi = (-2, q) from by unfold sp_pushFront; rw [hat]; dsimp only; rw [if_neg hlh, if_pos (Or.inr hf)]]
    refine xC.of rfl (Nat.le_of_ble_eq_true rfl) ?_
    intro p_ e_ s_ m_ ar_ bl_ me_ c_ ls X hl
    have hl : lz ls 4 [some (.ref b0), some (.int (nI j)), some (.int lo), some (.int hi)] := hl
    have hS : va_S (xA (cSt b0 u ks bv ar) H0) H0 H0 [] := va_S.rf
    refine x_aload_n X d_F_pushFront_0 rfl hl rfl ?_
    refine x_iload_n X d_F_pushFront_1 rfl hl rfl ?_
    refine x_goR (x_runV X (C_F_isVersion_t l D A _ b0 u ks bv q.1.length hO hl2 j hj) b_F_isVersion s_F_isVersion v_F_isVersion e_F_37 hO rfl rfl hl rfl (Nat.le_of_ble_eq_true rfl) d_F_pushFront_2 (by dsimp only [x_rm]; omega) (by dsimp only [x_rm]; omega) ⟨(by dsimp only [x_rm]; omega), (by dsimp only [x_rm]; omega)⟩) hS (fun locs hS => ?_)
    refine n_if_eq X 13 d_F_pushFront_5 rfl (by decide) (fun hc => absurd hc (by decide)) (fun hc_ => ?_)
    refine x_iload_n X d_F_pushFront_8 rfl hl rfl ?_
    refine x_iload_n X d_F_pushFront_9 rfl hl rfl ?_
    refine x_icmp_le X 15 d_F_pushFront_10 rfl (fun _ => ?_) (fun h => absurd (Int32.not_lt.1 hlh) h)
    refine x_aload_n X d_F_pushFront_15 rfl hl rfl ?_
    refine x_iconst (v := nI 1) X d_F_pushFront_16 rfl ?_
    refine x_goR (x_runV X (C_F_hasRoomFor l D A _ b0 u ks bv q.1.length hO hl2 1 (by decide)) b_F_hasRoomFor s_F_hasRoomFor v_F_hasRoomFor e_F_41 hO rfl rfl hl rfl (Nat.le_of_ble_eq_true rfl) d_F_pushFront_17 (by dsimp only [x_rm]; omega) (by dsimp only [x_rm]; omega) ⟨(by dsimp only [x_rm]; omega), (by dsimp only [x_rm]; omega)⟩) hS (fun locs hS => ?_)
    rw [if_pos (by omega)]
    refine n_if_eq X 37 d_F_pushFront_20 rfl (by decide) (fun hc => absurd hc (by decide)) (fun hc_ => ?_)
    refine x_aload_n X d_F_pushFront_23 rfl hl rfl ?_
    refine x_get X gF hO 2 (by decide) e_F_25 rfl d_F_pushFront_24 ?_
    refine x_iload_n X d_F_pushFront_27 rfl hl rfl ?_
    refine x_ver X hV hta (by omega) d_F_pushFront_28 ?_
    refine x_getN X gT tO.2 4 (by decide) e_F_44 rfl d_F_pushFront_29 ?_
    refine x_bipush (v := nI 40) X d_F_pushFront_32 rfl ?_
    refine n_icmp_lt X 40 d_F_pushFront_34 rfl (by omega) (by omega) (fun hc => absurd hc (by omega)) (fun hc_ => ?_)
    refine x_bipush (v := -2) X d_F_pushFront_37 rfl ?_
    exact x_iret X hS (Nat.zero_le _) (Nat.zero_le _) d_F_pushFront_39 ⟨rfl, hkeep⟩
  have hE : ∀ (e : Nat) (x : Int32 × Int32), q.2.2[e]? = some x → (q.2.2 ++ [(lo, hi)])[e]? = some x := fun e x h => by rw [List.getElem?_append_left (List.getElem?_eq_some_iff.1 h).1]; exact h
  have hEl : (q.2.2 ++ [(lo, hi)]).length = q.2.2.length + 1 := by simp
  have hT := hT.tr (cTr.rf S H0) hE
  have hver := hver.tr (cTr.rf S H0) hE
  have hU : cUs D A S rh (q.2.2 ++ [(lo, hi)]) u nn em q.2.1.1 H0 := ⟨hU.1, hU.2.1, hU.2.2.1.tr (cTr.rf S H0) hE, hU.2.2.2⟩
  have okx := sp_new_ok q lo hi (c := q.2.1)
  have okT := sp_t_ok hq (List.mem_of_getElem? hjt) (q.2.2 ++ [(lo, hi)]) (by omega)
  have hzx : ft_z (sp_new q) = 1 := rfl
  have hex := ft_fr_ok t.1 (sp_new q) t.2 q.2.1 0 okx okT
  have hsp : sp_pushFront q (nI j) lo hi = sp_keep q (ft_fr (sp_new q) t.1 t.2 q.2.1).1 (ft_fr (sp_new q) t.1 t.2 q.2.1).2 (q.2.2 ++ [(lo, hi)]) := by
    unfold sp_pushFront; rw [hat]; dsimp only; rw [if_neg hlh, if_neg (by omega)]
  have hmc : (sp_pushFront q (nI j) lo hi).2.1.length - q.1.length = 1 := by
    rw [hsp]
    simp [sp_keep]
  rw [hmc, hsp]
  refine xC.of rfl (Nat.le_of_ble_eq_true rfl) ?_
  intro p_ e_ s_ m_ ar_ bl_ me_ c_ ls X hl
  have hl : lz ls 4 [some (.ref b0), some (.int (nI j)), some (.int lo), some (.int hi)] := hl
  have hS : va_S (xA (cSt b0 u ks bv ar) H0) H0 H0 [] := va_S.rf
  have hSu : S u := hU.2.2.2
  have hSk := hSS ks (Or.inr (Or.inr (Or.inl rfl)))
  refine x_aload_n X d_F_pushFront_0 rfl hl rfl ?_
  refine x_iload_n X d_F_pushFront_1 rfl hl rfl ?_
  refine x_goR (x_runV X (C_F_isVersion_t l D A _ b0 u ks bv q.1.length hO hl2 j hj) b_F_isVersion s_F_isVersion v_F_isVersion e_F_37 hO rfl rfl hl rfl (Nat.le_of_ble_eq_true rfl) d_F_pushFront_2 (by dsimp only [x_rm]; omega) (by dsimp only [x_rm]; omega) ⟨(by dsimp only [x_rm]; omega), (by dsimp only [x_rm]; omega)⟩) hS (fun locs hS => ?_)
  refine n_if_eq X 13 d_F_pushFront_5 rfl (by decide) (fun hc => absurd hc (by decide)) (fun hc_ => ?_)
  refine x_iload_n X d_F_pushFront_8 rfl hl rfl ?_
  refine x_iload_n X d_F_pushFront_9 rfl hl rfl ?_
  refine x_icmp_le X 15 d_F_pushFront_10 rfl (fun _ => ?_) (fun h => absurd (Int32.not_lt.1 hlh) h)
  refine x_aload_n X d_F_pushFront_15 rfl hl rfl ?_
  refine x_iconst (v := nI 1) X d_F_pushFront_16 rfl ?_
  refine x_goR (x_runV X (C_F_hasRoomFor l D A _ b0 u ks bv q.1.length hO hl2 1 (by decide)) b_F_hasRoomFor s_F_hasRoomFor v_F_hasRoomFor e_F_41 hO rfl rfl hl rfl (Nat.le_of_ble_eq_true rfl) d_F_pushFront_17 (by dsimp only [x_rm]; omega) (by dsimp only [x_rm]; omega) ⟨(by dsimp only [x_rm]; omega), (by dsimp only [x_rm]; omega)⟩) hS (fun locs hS => ?_)
  rw [if_pos (by omega)]
  refine n_if_eq X 37 d_F_pushFront_20 rfl (by decide) (fun hc => absurd hc (by decide)) (fun hc_ => ?_)
  refine x_aload_n X d_F_pushFront_23 rfl hl rfl ?_
  refine x_get X gF hO 2 (by decide) e_F_25 rfl d_F_pushFront_24 ?_
  refine x_iload_n X d_F_pushFront_27 rfl hl rfl ?_
  refine x_ver X hV hta (by omega) d_F_pushFront_28 ?_
  refine x_getN X gT tO.2 4 (by decide) e_F_44 rfl d_F_pushFront_29 ?_
  refine x_bipush (v := nI 40) X d_F_pushFront_32 rfl ?_
  refine n_icmp_lt X 40 d_F_pushFront_34 rfl (by omega) (by omega) (fun hc_ => ?_) (fun hc => absurd hc (by omega))
  refine x_aload_n X d_F_pushFront_40 rfl hl rfl ?_
  refine x_aload_n X d_F_pushFront_41 rfl hl rfl ?_
  refine x_get X gF hO 0 (by decide) e_F_12 rfl d_F_pushFront_42 ?_
  have zz := hS.1
  refine x_newO (S := S) X gI e_F_47 n_I i_I x_defI hS hSb (by dsimp only [x_rm]; omega) (by dsimp only [x_rm]; omega) d_F_pushFront_45 (fun it G1 h_it hIt hF1 t_it hS sb_ => ?_)
  have no_it : ¬ (S) it := c_ub hSb h_it
  have n_it_b0 : ¬ it = b0 := Nat.ne_of_gt (Nat.lt_of_lt_of_le (c_lt hO) h_it)
  have n_b0_it : ¬ b0 = it := Nat.ne_of_lt (Nat.lt_of_lt_of_le (c_lt hO) h_it)
  have n_it_ks : ¬ it = ks := Nat.ne_of_gt (Nat.lt_of_lt_of_le (c_lt hKs) h_it)
  have n_ks_it : ¬ ks = it := Nat.ne_of_lt (Nat.lt_of_lt_of_le (c_lt hKs) h_it)
  have n_it_bv : ¬ it = bv := Nat.ne_of_gt (Nat.lt_of_lt_of_le (c_lt hV) h_it)
  have n_bv_it : ¬ bv = it := Nat.ne_of_lt (Nat.lt_of_lt_of_le (c_lt hV) h_it)
  have n_it_ar : ¬ it = ar := Nat.ne_of_gt (Nat.lt_of_lt_of_le (c_lt hMk) h_it)
  have n_ar_it : ¬ ar = it := Nat.ne_of_lt (Nat.lt_of_lt_of_le (c_lt hMk) h_it)
  have n_it_u : ¬ it = u := Nat.ne_of_gt (Nat.lt_of_lt_of_le (c_lt hU.1) h_it)
  have n_u_it : ¬ u = it := Nat.ne_of_lt (Nat.lt_of_lt_of_le (c_lt hU.1) h_it)
  have t_ : cTr S (fun q => S q ∨ q = it) H0 G1 := t_it
  have hO := hF1.kp hO (fun h => h)
  have hKs := hF1.kp hKs (fun h => h)
  have hV := hF1.kp hV (fun h => h)
  have hMk := hF1.kp hMk (fun h => h)
  have hver := hver.tr t_ (fun _ _ h => h)
  have hT := hT.tr t_ (fun _ _ h => h)
  have tO := tO.tr t_
  have hU := hU.mv t_ hF1 (fun h => h) (by first | exact hSu | exact Or.inl hSu | exact Or.inl (Or.inl hSu))
  have hSb : ∀ q, (S q ∨ q = it) → q < G1.size := sb_
  have z_it : H0.size ≤ it := Nat.le_trans zz h_it
  refine x_dup X d_F_pushFront_48 rfl ?_
  refine x_iload_n X d_F_pushFront_49 rfl hl rfl ?_
  refine x_iload_n X d_F_pushFront_50 rfl hl rfl ?_
  have hSbI := hSb
  refine x_go0 (x_runIN X (C_I_init l D A _ it (va_P1 hIt) lo hi) b_I_init rfl s_I_init e_F_49 rfl hl rfl (Nat.le_of_ble_eq_true rfl) d_F_pushFront_51 (by dsimp only [x_rm]; omega) (by dsimp only [x_rm]; omega) ⟨(by dsimp only [x_rm]; omega), (by dsimp only [x_rm]; omega)⟩) hS (xA.one z_it hS.1) (fun G2 locs hIt_ hF2 hS => ?_)
  have t_ : cTr (fun q => S q ∨ q = it) S G1 G2 := cTr.done hF2
  have hO := hF2.kp hO (xA.no (c_lt hO) n_b0_it)
  have hKs := hF2.kp hKs (xA.no (c_lt hKs) n_ks_it)
  have hV := hF2.kp hV (xA.no (c_lt hV) n_bv_it)
  have hMk := hF2.kp hMk (xA.no (c_lt hMk) n_ar_it)
  have hver := hver.tr t_ (fun _ _ h => h)
  have hT := hT.tr t_ (fun _ _ h => h)
  have tO := tO.tr t_
  have hU := hU.mv t_ hF2 (xA.no (c_lt hU.1) n_u_it) hSu
  have hSb := c_sbo hSb hF2.1
  have hIt := hIt_
  obtain ⟨ir, i1, i2, i3⟩ := hIt
  have hx : cI D A S rh (q.2.2 ++ [(lo, hi)]) (sp_new q) [it] G2 := ⟨it, ir, lo, hi, rfl, by simp, ⟨no_it, i1⟩, ⟨fun h => absurd (hSbI ir (Or.inl h)) (Nat.not_lt.2 i3), cArr_ext i2 (fun i h => absurd h (Nat.not_lt_zero _))⟩⟩
  refine x_aload_n X d_F_pushFront_54 rfl hl rfl ?_
  refine x_get X gF hO 2 (by decide) e_F_25 rfl d_F_pushFront_55 ?_
  refine x_iload_n X d_F_pushFront_58 rfl hl rfl ?_
  refine x_ver X hV hta (by omega) d_F_pushFront_59 ?_
  refine x_gor (x_runVN X (C_U_front l D A _ S rh (q.2.2 ++ [(lo, hi)]) (q.2.2 ++ [(lo, hi)]).length q.2.1 u nn em hU hSb hR.1 0 (sp_new q) it okx hx t.1 t.2 ta okT hT (by omega)) b_U_front s_U_front v_U_front e_F_52 hU.1 rfl rfl hl rfl (Nat.le_of_ble_eq_true rfl) d_F_pushFront_60 (by dsimp only [x_rm]; omega) (by dsimp only [x_rm]; omega) ⟨(by dsimp only [x_rm]; omega), (by dsimp only [x_rm]; omega)⟩) hS (xA.mono (fun _ h => Or.inr (Or.inl h)) hS.1) (fun r G3 locs hFr hF3 hS => ?_)
  have t_ : cTr S S G2 G3 := cTr.fr hF3 (fun q h => by rw [h]; exact hU.2.2.2)
  have hO := hF3.kp hO (xA.no (c_lt hO) n_b0_u)
  have hKs := hF3.kp hKs (xA.no (c_lt hKs) n_ks_u)
  have hV := hF3.kp hV (xA.no (c_lt hV) n_bv_u)
  have hMk := hF3.kp hMk (xA.no (c_lt hMk) n_ar_u)
  have hver := hver.tr t_ (fun _ _ h => h)
  have hT := hT.tr t_ (fun _ _ h => h)
  have tO := tO.tr t_
  have hx := hx.tr t_ (fun _ _ h => h)
  have hU := hFr.2
  have hSb := c_sb hSb hF3.1
  have hFr1 := hFr.1
  obtain ⟨kl_, kr_, km_, ks_, kO_⟩ := cT_obj hFr1
  have hst : cF D A S b0 u ks bv ar rh (q.1, (ft_fr (sp_new q) t.1 t.2 q.2.1).2, (q.2.2 ++ [(lo, hi)])) w nn em lt vs mv G3 := ⟨hO, hU, hKs, hV, hMk, hmv, hlt, hvs, hver⟩
  refine x_go1 (x_runV X (C_F_keep l D A _ b0 u ks bv (q.1.length) hO (vs) hV d3 hvs (by omega) r _ kO_.2) b_F_keep s_F_keep v_F_keep e_F_56 hO rfl rfl hl rfl (Nat.le_of_ble_eq_true rfl) d_F_pushFront_63 (by dsimp only [x_rm]; omega) (by dsimp only [x_rm]; omega) ⟨(by dsimp only [x_rm]; omega), (by dsimp only [x_rm]; omega)⟩) hS (fun x h => Or.inl (h.elim Or.inl (fun h => Or.inr (Or.inr (Or.inr (Or.inl h)))))) (fun G4 locs hC hF4 hS => ?_)
  have hK1 := cF.keep hd hSS hst hFr1 hF4 hC
  exact x_iret X hS (by omega) (by omega) d_F_pushFront_66 ⟨rfl, hSS, c_sb hSb hF4.1, rh, nn, em, lt, _, mv, (hR.up hex.1.1), hK1.1, hK1.2.1, hK1.2.2.1, hK1.2.2.2.1, hK1.2.2.2.2.1, hmv, by omega, hK1.2.2.2.2.2.2.2.1, hK1.2.2.2.2.2.2.2.2⟩
set_option maxRecDepth 100000 in
set_option maxHeartbeats 4000000 in
theorem A_F_pushBack (l : Launch) (D : va_G) (A : Nat → ClassId) (H0 : Heap) (S : Nat → Prop) (b0 u ks bv ar : Nat) (hd : cDs b0 u ks bv ar) (q : ft_Q) (hq : sp_ok2 q) (w : Nat) (hw : w < 100000) (hG : cG D A S b0 u ks bv ar q w H0) (v : Int32) (lo : Int32) (hi : Int32) : xC l y_F_pushBack c_F_pushBack 4 (some .int) 26 D A H0 [.ref b0, .int v, .int lo, .int hi] (xA (cSt b0 u ks bv ar) H0) (q1 (.int (sp_pushBack q v lo hi).1) (fun H1 => cG D A S b0 u ks bv ar (sp_pushBack q v lo hi).2 (w + 1) H1)) (5000 * ((sp_pushBack q v lo hi).2.1.length - q.1.length)) (50000 * ((sp_pushBack q v lo hi).2.1.length - q.1.length)) := by
  obtain ⟨hSS, hSb, rh, nn, em, lt, vs, mv, hR, hF⟩ := hG
  obtain ⟨hO, hU, hKs, hV, hMk, hmv, hlt, hvs, hver⟩ := hF
  have hl1 := hq.1.1
  have hl2 := hq.1.2.1
  obtain ⟨d1, d2, d3, d4, d5, d6, d7, d8, d9, d10⟩ := id hd
  have n_b0_u : ¬ b0 = u := d1
  have n_ks_u : ¬ ks = u := fun h => d5 h.symm
  have n_bv_u : ¬ bv = u := fun h => d6 h.symm
  have n_ar_u : ¬ ar = u := fun h => d7 h.symm
  have hmd0 := sp_md hq
  have hver : cVs D A S rh q.2.2 q.1 vs H0 := hver
  have hkeep : cG D A S b0 u ks bv ar q (w + 1) H0 := ⟨hSS, hSb, rh, nn, em, lt, vs, mv, hR, hO, hU, hKs, hV, hMk, hmv, by omega, hvs, hver⟩
  rcases sp_at_cases hq v with ⟨hv, hat⟩ | ⟨j, t, rfl, hj, hjt, hat⟩
  · skip
    rw [show sp_pushBack q v lo hi = (-1, q) from by unfold sp_pushBack; rw [hat]]
    refine xC.of rfl (Nat.le_of_ble_eq_true rfl) ?_
    intro p_ e_ s_ m_ ar_ bl_ me_ c_ ls X hl
    have hl : lz ls 4 [some (.ref b0), some (.int v), some (.int lo), some (.int hi)] := hl
    have hS : va_S (xA (cSt b0 u ks bv ar) H0) H0 H0 [] := va_S.rf
    refine x_aload_n X d_F_pushBack_0 rfl hl rfl ?_
    refine x_iload_n X d_F_pushBack_1 rfl hl rfl ?_
    refine x_goR (x_runV X (C_F_isVersion_f l D A _ b0 u ks bv q.1.length hO hl2 v hv) b_F_isVersion s_F_isVersion v_F_isVersion e_F_37 hO rfl rfl hl rfl (Nat.le_of_ble_eq_true rfl) d_F_pushBack_2 (by dsimp only [x_rm]; omega) (by dsimp only [x_rm]; omega) ⟨(by dsimp only [x_rm]; omega), (by dsimp only [x_rm]; omega)⟩) hS (fun locs hS => ?_)
    refine n_if_eq X 13 d_F_pushBack_5 rfl (by decide) (fun hc_ => ?_) (fun hc => absurd rfl hc)
    refine x_iconst (v := -1) X d_F_pushBack_13 rfl ?_
    exact x_iret X hS (Nat.zero_le _) (Nat.zero_le _) d_F_pushBack_14 ⟨rfl, hkeep⟩
  have ht := hq.1.2.2.1 t (List.mem_of_getElem? hjt)
  have hz40 := ht.2
  obtain ⟨ta, hta, hT⟩ := hver j t hjt
  obtain ⟨tl, tr, tmv, trs, tO⟩ := cT_obj hT
  have hz : ft_zT t.1 t.2 < 64 := by omega
  have h5 := ft_len5 ht.1 hz
  by_cases hlh : hi < lo
  · skip
    rw [show sp_pushBack q (nI j) lo hi = (-1, q) from by unfold sp_pushBack; rw [hat]; dsimp only; rw [if_pos hlh]]
    refine xC.of rfl (Nat.le_of_ble_eq_true rfl) ?_
    intro p_ e_ s_ m_ ar_ bl_ me_ c_ ls X hl
    have hl : lz ls 4 [some (.ref b0), some (.int (nI j)), some (.int lo), some (.int hi)] := hl
    have hS : va_S (xA (cSt b0 u ks bv ar) H0) H0 H0 [] := va_S.rf
    refine x_aload_n X d_F_pushBack_0 rfl hl rfl ?_
    refine x_iload_n X d_F_pushBack_1 rfl hl rfl ?_
    refine x_goR (x_runV X (C_F_isVersion_t l D A _ b0 u ks bv q.1.length hO hl2 j hj) b_F_isVersion s_F_isVersion v_F_isVersion e_F_37 hO rfl rfl hl rfl (Nat.le_of_ble_eq_true rfl) d_F_pushBack_2 (by dsimp only [x_rm]; omega) (by dsimp only [x_rm]; omega) ⟨(by dsimp only [x_rm]; omega), (by dsimp only [x_rm]; omega)⟩) hS (fun locs hS => ?_)
    refine n_if_eq X 13 d_F_pushBack_5 rfl (by decide) (fun hc => absurd hc (by decide)) (fun hc_ => ?_)
    refine x_iload_n X d_F_pushBack_8 rfl hl rfl ?_
    refine x_iload_n X d_F_pushBack_9 rfl hl rfl ?_
    refine x_icmp_le X 15 d_F_pushBack_10 rfl (fun h => absurd hlh (Int32.not_lt.2 h)) (fun _ => ?_)
    refine x_iconst (v := -1) X d_F_pushBack_13 rfl ?_
    exact x_iret X hS (Nat.zero_le _) (Nat.zero_le _) d_F_pushBack_14 ⟨rfl, hkeep⟩
  by_cases hn : 120 ≤ q.1.length
  · skip
    rw [show sp_pushBack q (nI j) lo hi = (-2, q) from by unfold sp_pushBack; rw [hat]; dsimp only; rw [if_neg hlh, if_pos (Or.inl hn)]]
    refine xC.of rfl (Nat.le_of_ble_eq_true rfl) ?_
    intro p_ e_ s_ m_ ar_ bl_ me_ c_ ls X hl
    have hl : lz ls 4 [some (.ref b0), some (.int (nI j)), some (.int lo), some (.int hi)] := hl
    have hS : va_S (xA (cSt b0 u ks bv ar) H0) H0 H0 [] := va_S.rf
    refine x_aload_n X d_F_pushBack_0 rfl hl rfl ?_
    refine x_iload_n X d_F_pushBack_1 rfl hl rfl ?_
    refine x_goR (x_runV X (C_F_isVersion_t l D A _ b0 u ks bv q.1.length hO hl2 j hj) b_F_isVersion s_F_isVersion v_F_isVersion e_F_37 hO rfl rfl hl rfl (Nat.le_of_ble_eq_true rfl) d_F_pushBack_2 (by dsimp only [x_rm]; omega) (by dsimp only [x_rm]; omega) ⟨(by dsimp only [x_rm]; omega), (by dsimp only [x_rm]; omega)⟩) hS (fun locs hS => ?_)
    refine n_if_eq X 13 d_F_pushBack_5 rfl (by decide) (fun hc => absurd hc (by decide)) (fun hc_ => ?_)
    refine x_iload_n X d_F_pushBack_8 rfl hl rfl ?_
    refine x_iload_n X d_F_pushBack_9 rfl hl rfl ?_
    refine x_icmp_le X 15 d_F_pushBack_10 rfl (fun _ => ?_) (fun h => absurd (Int32.not_lt.1 hlh) h)
    refine x_aload_n X d_F_pushBack_15 rfl hl rfl ?_
    refine x_iconst (v := nI 1) X d_F_pushBack_16 rfl ?_
    refine x_goR (x_runV X (C_F_hasRoomFor l D A _ b0 u ks bv q.1.length hO hl2 1 (by decide)) b_F_hasRoomFor s_F_hasRoomFor v_F_hasRoomFor e_F_41 hO rfl rfl hl rfl (Nat.le_of_ble_eq_true rfl) d_F_pushBack_17 (by dsimp only [x_rm]; omega) (by dsimp only [x_rm]; omega) ⟨(by dsimp only [x_rm]; omega), (by dsimp only [x_rm]; omega)⟩) hS (fun locs hS => ?_)
    rw [if_neg (by omega)]
    refine n_if_eq X 37 d_F_pushBack_20 rfl (by decide) (fun hc_ => ?_) (fun hc => absurd rfl hc)
    refine x_bipush (v := -2) X d_F_pushBack_37 rfl ?_
    exact x_iret X hS (Nat.zero_le _) (Nat.zero_le _) d_F_pushBack_39 ⟨rfl, hkeep⟩
  by_cases hf : 40 ≤ ft_zT t.1 t.2
  · skip
    rw [show sp_pushBack q (nI j) lo hi = (-2, q) from by unfold sp_pushBack; rw [hat]; dsimp only; rw [if_neg hlh, if_pos (Or.inr hf)]]
    refine xC.of rfl (Nat.le_of_ble_eq_true rfl) ?_
    intro p_ e_ s_ m_ ar_ bl_ me_ c_ ls X hl
    have hl : lz ls 4 [some (.ref b0), some (.int (nI j)), some (.int lo), some (.int hi)] := hl
    have hS : va_S (xA (cSt b0 u ks bv ar) H0) H0 H0 [] := va_S.rf
    refine x_aload_n X d_F_pushBack_0 rfl hl rfl ?_
    refine x_iload_n X d_F_pushBack_1 rfl hl rfl ?_
    refine x_goR (x_runV X (C_F_isVersion_t l D A _ b0 u ks bv q.1.length hO hl2 j hj) b_F_isVersion s_F_isVersion v_F_isVersion e_F_37 hO rfl rfl hl rfl (Nat.le_of_ble_eq_true rfl) d_F_pushBack_2 (by dsimp only [x_rm]; omega) (by dsimp only [x_rm]; omega) ⟨(by dsimp only [x_rm]; omega), (by dsimp only [x_rm]; omega)⟩) hS (fun locs hS => ?_)
    refine n_if_eq X 13 d_F_pushBack_5 rfl (by decide) (fun hc => absurd hc (by decide)) (fun hc_ => ?_)
    refine x_iload_n X d_F_pushBack_8 rfl hl rfl ?_
    refine x_iload_n X d_F_pushBack_9 rfl hl rfl ?_
    refine x_icmp_le X 15 d_F_pushBack_10 rfl (fun _ => ?_) (fun h => absurd (Int32.not_lt.1 hlh) h)
    refine x_aload_n X d_F_pushBack_15 rfl hl rfl ?_
    refine x_iconst (v := nI 1) X d_F_pushBack_16 rfl ?_
    refine x_goR (x_runV X (C_F_hasRoomFor l D A _ b0 u ks bv q.1.length hO hl2 1 (by decide)) b_F_hasRoomFor s_F_hasRoomFor v_F_hasRoomFor e_F_41 hO rfl rfl hl rfl (Nat.le_of_ble_eq_true rfl) d_F_pushBack_17 (by dsimp only [x_rm]; omega) (by dsimp only [x_rm]; omega) ⟨(by dsimp only [x_rm]; omega), (by dsimp only [x_rm]; omega)⟩) hS (fun locs hS => ?_)
    rw [if_pos (by omega)]
    refine n_if_eq X 37 d_F_pushBack_20 rfl (by decide) (fun hc => absurd hc (by decide)) (fun hc_ => ?_)
    refine x_aload_n X d_F_pushBack_23 rfl hl rfl ?_
    refine x_get X gF hO 2 (by decide) e_F_25 rfl d_F_pushBack_24 ?_
    refine x_iload_n X d_F_pushBack_27 rfl hl rfl ?_
    refine x_ver X hV hta (by omega) d_F_pushBack_28 ?_
    refine x_getN X gT tO.2 4 (by decide) e_F_44 rfl d_F_pushBack_29 ?_
    refine x_bipush (v := nI 40) X d_F_pushBack_32 rfl ?_
    refine n_icmp_lt X 40 d_F_pushBack_34 rfl (by omega) (by omega) (fun hc => absurd hc (by omega)) (fun hc_ => ?_)
    refine x_bipush (v := -2) X d_F_pushBack_37 rfl ?_
    exact x_iret X hS (Nat.zero_le _) (Nat.zero_le _) d_F_pushBack_39 ⟨rfl, hkeep⟩
  have hE : ∀ (e : Nat) (x : Int32 × Int32), q.2.2[e]? = some x → (q.2.2 ++ [(lo, hi)])[e]? = some x := fun e x h => by rw [List.getElem?_append_left (List.getElem?_eq_some_iff.1 h).1]; exact h
  have hEl : (q.2.2 ++ [(lo, hi)]).length = q.2.2.length + 1 := by simp
  have hT := hT.tr (cTr.rf S H0) hE
  have hver := hver.tr (cTr.rf S H0) hE
  have hU : cUs D A S rh (q.2.2 ++ [(lo, hi)]) u nn em q.2.1.1 H0 := ⟨hU.1, hU.2.1, hU.2.2.1.tr (cTr.rf S H0) hE, hU.2.2.2⟩
  have okx := sp_new_ok q lo hi (c := q.2.1)
  have okT := sp_t_ok hq (List.mem_of_getElem? hjt) (q.2.2 ++ [(lo, hi)]) (by omega)
  have hzx : ft_z (sp_new q) = 1 := rfl
  have hex := ft_bk_ok t.1 (sp_new q) t.2 q.2.1 0 okx okT
  have hsp : sp_pushBack q (nI j) lo hi = sp_keep q (ft_bk t.1 t.2 (sp_new q) q.2.1).1 (ft_bk t.1 t.2 (sp_new q) q.2.1).2 (q.2.2 ++ [(lo, hi)]) := by
    unfold sp_pushBack; rw [hat]; dsimp only; rw [if_neg hlh, if_neg (by omega)]
  have hmc : (sp_pushBack q (nI j) lo hi).2.1.length - q.1.length = 1 := by
    rw [hsp]
    simp [sp_keep]
  rw [hmc, hsp]
  refine xC.of rfl (Nat.le_of_ble_eq_true rfl) ?_
  intro p_ e_ s_ m_ ar_ bl_ me_ c_ ls X hl
  have hl : lz ls 4 [some (.ref b0), some (.int (nI j)), some (.int lo), some (.int hi)] := hl
  have hS : va_S (xA (cSt b0 u ks bv ar) H0) H0 H0 [] := va_S.rf
  have hSu : S u := hU.2.2.2
  have hSk := hSS ks (Or.inr (Or.inr (Or.inl rfl)))
  refine x_aload_n X d_F_pushBack_0 rfl hl rfl ?_
  refine x_iload_n X d_F_pushBack_1 rfl hl rfl ?_
  refine x_goR (x_runV X (C_F_isVersion_t l D A _ b0 u ks bv q.1.length hO hl2 j hj) b_F_isVersion s_F_isVersion v_F_isVersion e_F_37 hO rfl rfl hl rfl (Nat.le_of_ble_eq_true rfl) d_F_pushBack_2 (by dsimp only [x_rm]; omega) (by dsimp only [x_rm]; omega) ⟨(by dsimp only [x_rm]; omega), (by dsimp only [x_rm]; omega)⟩) hS (fun locs hS => ?_)
  refine n_if_eq X 13 d_F_pushBack_5 rfl (by decide) (fun hc => absurd hc (by decide)) (fun hc_ => ?_)
  refine x_iload_n X d_F_pushBack_8 rfl hl rfl ?_
  refine x_iload_n X d_F_pushBack_9 rfl hl rfl ?_
  refine x_icmp_le X 15 d_F_pushBack_10 rfl (fun _ => ?_) (fun h => absurd (Int32.not_lt.1 hlh) h)
  refine x_aload_n X d_F_pushBack_15 rfl hl rfl ?_
  refine x_iconst (v := nI 1) X d_F_pushBack_16 rfl ?_
  refine x_goR (x_runV X (C_F_hasRoomFor l D A _ b0 u ks bv q.1.length hO hl2 1 (by decide)) b_F_hasRoomFor s_F_hasRoomFor v_F_hasRoomFor e_F_41 hO rfl rfl hl rfl (Nat.le_of_ble_eq_true rfl) d_F_pushBack_17 (by dsimp only [x_rm]; omega) (by dsimp only [x_rm]; omega) ⟨(by dsimp only [x_rm]; omega), (by dsimp only [x_rm]; omega)⟩) hS (fun locs hS => ?_)
  rw [if_pos (by omega)]
  refine n_if_eq X 37 d_F_pushBack_20 rfl (by decide) (fun hc => absurd hc (by decide)) (fun hc_ => ?_)
  refine x_aload_n X d_F_pushBack_23 rfl hl rfl ?_
  refine x_get X gF hO 2 (by decide) e_F_25 rfl d_F_pushBack_24 ?_
  refine x_iload_n X d_F_pushBack_27 rfl hl rfl ?_
  refine x_ver X hV hta (by omega) d_F_pushBack_28 ?_
  refine x_getN X gT tO.2 4 (by decide) e_F_44 rfl d_F_pushBack_29 ?_
  refine x_bipush (v := nI 40) X d_F_pushBack_32 rfl ?_
  refine n_icmp_lt X 40 d_F_pushBack_34 rfl (by omega) (by omega) (fun hc_ => ?_) (fun hc => absurd hc (by omega))
  refine x_aload_n X d_F_pushBack_40 rfl hl rfl ?_
  refine x_aload_n X d_F_pushBack_41 rfl hl rfl ?_
  refine x_get X gF hO 0 (by decide) e_F_12 rfl d_F_pushBack_42 ?_
  refine x_aload_n X d_F_pushBack_45 rfl hl rfl ?_
  refine x_get X gF hO 2 (by decide) e_F_25 rfl d_F_pushBack_46 ?_
  refine x_iload_n X d_F_pushBack_49 rfl hl rfl ?_
  refine x_ver X hV hta (by omega) d_F_pushBack_50 ?_
  have zz := hS.1
  refine x_newO (S := S) X gI e_F_47 n_I i_I x_defI hS hSb (by dsimp only [x_rm]; omega) (by dsimp only [x_rm]; omega) d_F_pushBack_51 (fun it G1 h_it hIt hF1 t_it hS sb_ => ?_)
  have no_it : ¬ (S) it := c_ub hSb h_it
  have n_it_b0 : ¬ it = b0 := Nat.ne_of_gt (Nat.lt_of_lt_of_le (c_lt hO) h_it)
  have n_b0_it : ¬ b0 = it := Nat.ne_of_lt (Nat.lt_of_lt_of_le (c_lt hO) h_it)
  have n_it_ks : ¬ it = ks := Nat.ne_of_gt (Nat.lt_of_lt_of_le (c_lt hKs) h_it)
  have n_ks_it : ¬ ks = it := Nat.ne_of_lt (Nat.lt_of_lt_of_le (c_lt hKs) h_it)
  have n_it_bv : ¬ it = bv := Nat.ne_of_gt (Nat.lt_of_lt_of_le (c_lt hV) h_it)
  have n_bv_it : ¬ bv = it := Nat.ne_of_lt (Nat.lt_of_lt_of_le (c_lt hV) h_it)
  have n_it_ar : ¬ it = ar := Nat.ne_of_gt (Nat.lt_of_lt_of_le (c_lt hMk) h_it)
  have n_ar_it : ¬ ar = it := Nat.ne_of_lt (Nat.lt_of_lt_of_le (c_lt hMk) h_it)
  have n_it_u : ¬ it = u := Nat.ne_of_gt (Nat.lt_of_lt_of_le (c_lt hU.1) h_it)
  have n_u_it : ¬ u = it := Nat.ne_of_lt (Nat.lt_of_lt_of_le (c_lt hU.1) h_it)
  have t_ : cTr S (fun q => S q ∨ q = it) H0 G1 := t_it
  have hO := hF1.kp hO (fun h => h)
  have hKs := hF1.kp hKs (fun h => h)
  have hV := hF1.kp hV (fun h => h)
  have hMk := hF1.kp hMk (fun h => h)
  have hver := hver.tr t_ (fun _ _ h => h)
  have hT := hT.tr t_ (fun _ _ h => h)
  have tO := tO.tr t_
  have hU := hU.mv t_ hF1 (fun h => h) (by first | exact hSu | exact Or.inl hSu | exact Or.inl (Or.inl hSu))
  have hSb : ∀ q, (S q ∨ q = it) → q < G1.size := sb_
  have z_it : H0.size ≤ it := Nat.le_trans zz h_it
  refine x_dup X d_F_pushBack_54 rfl ?_
  refine x_iload_n X d_F_pushBack_55 rfl hl rfl ?_
  refine x_iload_n X d_F_pushBack_56 rfl hl rfl ?_
  have hSbI := hSb
  refine x_go0 (x_runIN X (C_I_init l D A _ it (va_P1 hIt) lo hi) b_I_init rfl s_I_init e_F_49 rfl hl rfl (Nat.le_of_ble_eq_true rfl) d_F_pushBack_57 (by dsimp only [x_rm]; omega) (by dsimp only [x_rm]; omega) ⟨(by dsimp only [x_rm]; omega), (by dsimp only [x_rm]; omega)⟩) hS (xA.one z_it hS.1) (fun G2 locs hIt_ hF2 hS => ?_)
  have t_ : cTr (fun q => S q ∨ q = it) S G1 G2 := cTr.done hF2
  have hO := hF2.kp hO (xA.no (c_lt hO) n_b0_it)
  have hKs := hF2.kp hKs (xA.no (c_lt hKs) n_ks_it)
  have hV := hF2.kp hV (xA.no (c_lt hV) n_bv_it)
  have hMk := hF2.kp hMk (xA.no (c_lt hMk) n_ar_it)
  have hver := hver.tr t_ (fun _ _ h => h)
  have hT := hT.tr t_ (fun _ _ h => h)
  have tO := tO.tr t_
  have hU := hU.mv t_ hF2 (xA.no (c_lt hU.1) n_u_it) hSu
  have hSb := c_sbo hSb hF2.1
  have hIt := hIt_
  obtain ⟨ir, i1, i2, i3⟩ := hIt
  have hx : cI D A S rh (q.2.2 ++ [(lo, hi)]) (sp_new q) [it] G2 := ⟨it, ir, lo, hi, rfl, by simp, ⟨no_it, i1⟩, ⟨fun h => absurd (hSbI ir (Or.inl h)) (Nat.not_lt.2 i3), cArr_ext i2 (fun i h => absurd h (Nat.not_lt_zero _))⟩⟩
  refine x_gor (x_runVN X (C_U_back l D A _ S rh (q.2.2 ++ [(lo, hi)]) (q.2.2 ++ [(lo, hi)]).length q.2.1 u nn em hU hSb hR.1 0 (sp_new q) it okx hx t.1 t.2 ta okT hT (by omega)) b_U_back s_U_back v_U_back e_F_60 hU.1 rfl rfl hl rfl (Nat.le_of_ble_eq_true rfl) d_F_pushBack_60 (by dsimp only [x_rm]; omega) (by dsimp only [x_rm]; omega) ⟨(by dsimp only [x_rm]; omega), (by dsimp only [x_rm]; omega)⟩) hS (xA.mono (fun _ h => Or.inr (Or.inl h)) hS.1) (fun r G3 locs hFr hF3 hS => ?_)
  have t_ : cTr S S G2 G3 := cTr.fr hF3 (fun q h => by rw [h]; exact hU.2.2.2)
  have hO := hF3.kp hO (xA.no (c_lt hO) n_b0_u)
  have hKs := hF3.kp hKs (xA.no (c_lt hKs) n_ks_u)
  have hV := hF3.kp hV (xA.no (c_lt hV) n_bv_u)
  have hMk := hF3.kp hMk (xA.no (c_lt hMk) n_ar_u)
  have hver := hver.tr t_ (fun _ _ h => h)
  have hT := hT.tr t_ (fun _ _ h => h)
  have tO := tO.tr t_
  have hx := hx.tr t_ (fun _ _ h => h)
  have hU := hFr.2
  have hSb := c_sb hSb hF3.1
  have hFr1 := hFr.1
  obtain ⟨kl_, kr_, km_, ks_, kO_⟩ := cT_obj hFr1
  have hst : cF D A S b0 u ks bv ar rh (q.1, (ft_bk t.1 t.2 (sp_new q) q.2.1).2, (q.2.2 ++ [(lo, hi)])) w nn em lt vs mv G3 := ⟨hO, hU, hKs, hV, hMk, hmv, hlt, hvs, hver⟩
  refine x_go1 (x_runV X (C_F_keep l D A _ b0 u ks bv (q.1.length) hO (vs) hV d3 hvs (by omega) r _ kO_.2) b_F_keep s_F_keep v_F_keep e_F_56 hO rfl rfl hl rfl (Nat.le_of_ble_eq_true rfl) d_F_pushBack_63 (by dsimp only [x_rm]; omega) (by dsimp only [x_rm]; omega) ⟨(by dsimp only [x_rm]; omega), (by dsimp only [x_rm]; omega)⟩) hS (fun x h => Or.inl (h.elim Or.inl (fun h => Or.inr (Or.inr (Or.inr (Or.inl h)))))) (fun G4 locs hC hF4 hS => ?_)
  have hK1 := cF.keep hd hSS hst hFr1 hF4 hC
  exact x_iret X hS (by omega) (by omega) d_F_pushBack_66 ⟨rfl, hSS, c_sb hSb hF4.1, rh, nn, em, lt, _, mv, (hR.up hex.1.1), hK1.1, hK1.2.1, hK1.2.2.1, hK1.2.2.2.1, hK1.2.2.2.2.1, hmv, by omega, hK1.2.2.2.2.2.2.2.1, hK1.2.2.2.2.2.2.2.2⟩
set_option maxRecDepth 100000 in
set_option maxHeartbeats 4000000 in
theorem A_F_popFront (l : Launch) (D : va_G) (A : Nat → ClassId) (H0 : Heap) (S : Nat → Prop) (b0 u ks bv ar : Nat) (hd : cDs b0 u ks bv ar) (q : ft_Q) (hq : sp_ok2 q) (w : Nat) (hw : w < 100000) (hG : cG D A S b0 u ks bv ar q w H0) (v : Int32) : xC l y_F_popFront c_F_popFront 2 (some .int) 26 D A H0 [.ref b0, .int v] (xA (cSt b0 u ks bv ar) H0) (q1 (.int (sp_popFront q v).1) (fun H1 => cG D A S b0 u ks bv ar (sp_popFront q v).2 (w + 1) H1)) (5000 * ((sp_popFront q v).2.1.length - q.1.length)) (50000 * ((sp_popFront q v).2.1.length - q.1.length)) := by
  obtain ⟨hSS, hSb, rh, nn, em, lt, vs, mv, hR, hF⟩ := hG
  obtain ⟨hO, hU, hKs, hV, hMk, hmv, hlt, hvs, hver⟩ := hF
  have hl1 := hq.1.1
  have hl2 := hq.1.2.1
  obtain ⟨d1, d2, d3, d4, d5, d6, d7, d8, d9, d10⟩ := id hd
  have n_b0_u : ¬ b0 = u := d1
  have n_ks_u : ¬ ks = u := fun h => d5 h.symm
  have n_bv_u : ¬ bv = u := fun h => d6 h.symm
  have n_ar_u : ¬ ar = u := fun h => d7 h.symm
  have hmd0 := sp_md hq
  have hver : cVs D A S rh q.2.2 q.1 vs H0 := hver
  have hkeep : cG D A S b0 u ks bv ar q (w + 1) H0 := ⟨hSS, hSb, rh, nn, em, lt, vs, mv, hR, hO, hU, hKs, hV, hMk, hmv, by omega, hvs, hver⟩
  rcases sp_at_cases hq v with ⟨hv, hat⟩ | ⟨j, t, rfl, hj, hjt, hat⟩
  · skip
    rw [show sp_popFront q v = (-1, q) from by unfold sp_popFront; rw [hat]]
    refine xC.of rfl (Nat.le_of_ble_eq_true rfl) ?_
    intro p_ e_ s_ m_ ar_ bl_ me_ c_ ls X hl
    have hl : lz ls 2 [some (.ref b0), some (.int v)] := hl
    have hS : va_S (xA (cSt b0 u ks bv ar) H0) H0 H0 [] := va_S.rf
    refine x_aload_n X d_F_popFront_0 rfl hl rfl ?_
    refine x_iload_n X d_F_popFront_1 rfl hl rfl ?_
    refine x_goR (x_runV X (C_F_isVersion_f l D A _ b0 u ks bv q.1.length hO hl2 v hv) b_F_isVersion s_F_isVersion v_F_isVersion e_F_37 hO rfl rfl hl rfl (Nat.le_of_ble_eq_true rfl) d_F_popFront_2 (by dsimp only [x_rm]; omega) (by dsimp only [x_rm]; omega) ⟨(by dsimp only [x_rm]; omega), (by dsimp only [x_rm]; omega)⟩) hS (fun locs hS => ?_)
    refine n_if_eq X 20 d_F_popFront_5 rfl (by decide) (fun hc_ => ?_) (fun hc => absurd rfl hc)
    refine x_iconst (v := -1) X d_F_popFront_20 rfl ?_
    exact x_iret X hS (Nat.zero_le _) (Nat.zero_le _) d_F_popFront_21 ⟨rfl, hkeep⟩
  have ht := hq.1.2.2.1 t (List.mem_of_getElem? hjt)
  have hz40 := ht.2
  obtain ⟨ta, hta, hT⟩ := hver j t hjt
  obtain ⟨tl, tr, tmv, trs, tO⟩ := cT_obj hT
  have hz : ft_zT t.1 t.2 < 64 := by omega
  have h5 := ft_len5 ht.1 hz
  by_cases hz0 : ft_zT t.1 t.2 = 0
  · skip
    rw [show sp_popFront q (nI j) = (-1, q) from by unfold sp_popFront; rw [hat]; dsimp only; rw [if_pos hz0]]
    refine xC.of rfl (Nat.le_of_ble_eq_true rfl) ?_
    intro p_ e_ s_ m_ ar_ bl_ me_ c_ ls X hl
    have hl : lz ls 2 [some (.ref b0), some (.int (nI j))] := hl
    have hS : va_S (xA (cSt b0 u ks bv ar) H0) H0 H0 [] := va_S.rf
    refine x_aload_n X d_F_popFront_0 rfl hl rfl ?_
    refine x_iload_n X d_F_popFront_1 rfl hl rfl ?_
    refine x_goR (x_runV X (C_F_isVersion_t l D A _ b0 u ks bv q.1.length hO hl2 j hj) b_F_isVersion s_F_isVersion v_F_isVersion e_F_37 hO rfl rfl hl rfl (Nat.le_of_ble_eq_true rfl) d_F_popFront_2 (by dsimp only [x_rm]; omega) (by dsimp only [x_rm]; omega) ⟨(by dsimp only [x_rm]; omega), (by dsimp only [x_rm]; omega)⟩) hS (fun locs hS => ?_)
    refine n_if_eq X 20 d_F_popFront_5 rfl (by decide) (fun hc => absurd hc (by decide)) (fun hc_ => ?_)
    refine x_aload_n X d_F_popFront_8 rfl hl rfl ?_
    refine x_get X gF hO 2 (by decide) e_F_25 rfl d_F_popFront_9 ?_
    refine x_iload_n X d_F_popFront_12 rfl hl rfl ?_
    refine x_ver X hV hta (by omega) d_F_popFront_13 ?_
    refine x_goR (x_runVN X (C_T_isEmpty l D A _ S rh q.2.2 q.2.2.length q.2.1.1 q.2.1.2 0 t.1 t.2 ta ht.1 hT hz) b_T_isEmpty s_T_isEmpty v_T_isEmpty e_F_64 tO.2 rfl rfl hl rfl (Nat.le_of_ble_eq_true rfl) d_F_popFront_14 (by dsimp only [x_rm]; omega) (by dsimp only [x_rm]; omega) ⟨(by dsimp only [x_rm]; omega), (by dsimp only [x_rm]; omega)⟩) hS (fun locs hS => ?_)
    rw [show (if ft_em t.1 t.2 then 1 else 0) = 1 from by rw [(ft_em_z ht.1).2 hz0]; rfl]
    refine n_if_eq X 22 d_F_popFront_17 rfl (by decide) (fun hc => absurd hc (by decide)) (fun hc_ => ?_)
    refine x_iconst (v := -1) X d_F_popFront_20 rfl ?_
    exact x_iret X hS (Nat.zero_le _) (Nat.zero_le _) d_F_popFront_21 ⟨rfl, hkeep⟩
  have hne := ft_zem ht.1 hz0
  by_cases hn : 120 ≤ q.1.length
  · skip
    rw [show sp_popFront q (nI j) = (-2, q) from by unfold sp_popFront; rw [hat]; dsimp only; rw [if_neg hz0, if_pos hn]]
    refine xC.of rfl (Nat.le_of_ble_eq_true rfl) ?_
    intro p_ e_ s_ m_ ar_ bl_ me_ c_ ls X hl
    have hl : lz ls 2 [some (.ref b0), some (.int (nI j))] := hl
    have hS : va_S (xA (cSt b0 u ks bv ar) H0) H0 H0 [] := va_S.rf
    refine x_aload_n X d_F_popFront_0 rfl hl rfl ?_
    refine x_iload_n X d_F_popFront_1 rfl hl rfl ?_
    refine x_goR (x_runV X (C_F_isVersion_t l D A _ b0 u ks bv q.1.length hO hl2 j hj) b_F_isVersion s_F_isVersion v_F_isVersion e_F_37 hO rfl rfl hl rfl (Nat.le_of_ble_eq_true rfl) d_F_popFront_2 (by dsimp only [x_rm]; omega) (by dsimp only [x_rm]; omega) ⟨(by dsimp only [x_rm]; omega), (by dsimp only [x_rm]; omega)⟩) hS (fun locs hS => ?_)
    refine n_if_eq X 20 d_F_popFront_5 rfl (by decide) (fun hc => absurd hc (by decide)) (fun hc_ => ?_)
    refine x_aload_n X d_F_popFront_8 rfl hl rfl ?_
    refine x_get X gF hO 2 (by decide) e_F_25 rfl d_F_popFront_9 ?_
    refine x_iload_n X d_F_popFront_12 rfl hl rfl ?_
    refine x_ver X hV hta (by omega) d_F_popFront_13 ?_
    refine x_goR (x_runVN X (C_T_isEmpty l D A _ S rh q.2.2 q.2.2.length q.2.1.1 q.2.1.2 0 t.1 t.2 ta ht.1 hT hz) b_T_isEmpty s_T_isEmpty v_T_isEmpty e_F_64 tO.2 rfl rfl hl rfl (Nat.le_of_ble_eq_true rfl) d_F_popFront_14 (by dsimp only [x_rm]; omega) (by dsimp only [x_rm]; omega) ⟨(by dsimp only [x_rm]; omega), (by dsimp only [x_rm]; omega)⟩) hS (fun locs hS => ?_)
    rw [show (if ft_em t.1 t.2 then 1 else 0) = 0 from by rw [hne]; rfl]
    refine n_if_eq X 22 d_F_popFront_17 rfl (by decide) (fun hc_ => ?_) (fun hc => absurd rfl hc)
    refine x_aload_n X d_F_popFront_22 rfl hl rfl ?_
    refine x_iconst (v := nI 1) X d_F_popFront_23 rfl ?_
    refine x_goR (x_runV X (C_F_hasRoomFor l D A _ b0 u ks bv q.1.length hO hl2 1 (by decide)) b_F_hasRoomFor s_F_hasRoomFor v_F_hasRoomFor e_F_41 hO rfl rfl hl rfl (Nat.le_of_ble_eq_true rfl) d_F_popFront_24 (by dsimp only [x_rm]; omega) (by dsimp only [x_rm]; omega) ⟨(by dsimp only [x_rm]; omega), (by dsimp only [x_rm]; omega)⟩) hS (fun locs hS => ?_)
    rw [if_neg (by omega)]
    refine n_if_ne X 33 d_F_popFront_27 rfl (by decide) (fun hc => absurd rfl hc) (fun hc_ => ?_)
    refine x_bipush (v := -2) X d_F_popFront_30 rfl ?_
    exact x_iret X hS (Nat.zero_le _) (Nat.zero_le _) d_F_popFront_32 ⟨rfl, hkeep⟩
  have hsp : sp_popFront q (nI j) = sp_keep q (ft_re t.1 t.2) q.2.1 q.2.2 := by
    unfold sp_popFront; rw [hat]; dsimp only; rw [if_neg hz0, if_neg hn]
  have hmc : (sp_popFront q (nI j)).2.1.length - q.1.length = 1 := by
    rw [hsp]
    simp [sp_keep]
  rw [hmc, hsp]
  refine xC.of rfl (Nat.le_of_ble_eq_true rfl) ?_
  intro p_ e_ s_ m_ ar_ bl_ me_ c_ ls X hl
  have hl : lz ls 2 [some (.ref b0), some (.int (nI j))] := hl
  have hS : va_S (xA (cSt b0 u ks bv ar) H0) H0 H0 [] := va_S.rf
  have hSu : S u := hU.2.2.2
  have hSk := hSS ks (Or.inr (Or.inr (Or.inl rfl)))
  refine x_aload_n X d_F_popFront_0 rfl hl rfl ?_
  refine x_iload_n X d_F_popFront_1 rfl hl rfl ?_
  refine x_goR (x_runV X (C_F_isVersion_t l D A _ b0 u ks bv q.1.length hO hl2 j hj) b_F_isVersion s_F_isVersion v_F_isVersion e_F_37 hO rfl rfl hl rfl (Nat.le_of_ble_eq_true rfl) d_F_popFront_2 (by dsimp only [x_rm]; omega) (by dsimp only [x_rm]; omega) ⟨(by dsimp only [x_rm]; omega), (by dsimp only [x_rm]; omega)⟩) hS (fun locs hS => ?_)
  refine n_if_eq X 20 d_F_popFront_5 rfl (by decide) (fun hc => absurd hc (by decide)) (fun hc_ => ?_)
  refine x_aload_n X d_F_popFront_8 rfl hl rfl ?_
  refine x_get X gF hO 2 (by decide) e_F_25 rfl d_F_popFront_9 ?_
  refine x_iload_n X d_F_popFront_12 rfl hl rfl ?_
  refine x_ver X hV hta (by omega) d_F_popFront_13 ?_
  refine x_goR (x_runVN X (C_T_isEmpty l D A _ S rh q.2.2 q.2.2.length q.2.1.1 q.2.1.2 0 t.1 t.2 ta ht.1 hT hz) b_T_isEmpty s_T_isEmpty v_T_isEmpty e_F_64 tO.2 rfl rfl hl rfl (Nat.le_of_ble_eq_true rfl) d_F_popFront_14 (by dsimp only [x_rm]; omega) (by dsimp only [x_rm]; omega) ⟨(by dsimp only [x_rm]; omega), (by dsimp only [x_rm]; omega)⟩) hS (fun locs hS => ?_)
  rw [show (if ft_em t.1 t.2 then 1 else 0) = 0 from by rw [hne]; rfl]
  refine n_if_eq X 22 d_F_popFront_17 rfl (by decide) (fun hc_ => ?_) (fun hc => absurd rfl hc)
  refine x_aload_n X d_F_popFront_22 rfl hl rfl ?_
  refine x_iconst (v := nI 1) X d_F_popFront_23 rfl ?_
  refine x_goR (x_runV X (C_F_hasRoomFor l D A _ b0 u ks bv q.1.length hO hl2 1 (by decide)) b_F_hasRoomFor s_F_hasRoomFor v_F_hasRoomFor e_F_41 hO rfl rfl hl rfl (Nat.le_of_ble_eq_true rfl) d_F_popFront_24 (by dsimp only [x_rm]; omega) (by dsimp only [x_rm]; omega) ⟨(by dsimp only [x_rm]; omega), (by dsimp only [x_rm]; omega)⟩) hS (fun locs hS => ?_)
  rw [if_pos (by omega)]
  refine n_if_ne X 33 d_F_popFront_27 rfl (by decide) (fun hc_ => ?_) (fun hc => absurd hc (by decide))
  refine x_aload_n X d_F_popFront_33 rfl hl rfl ?_
  refine x_aload_n X d_F_popFront_34 rfl hl rfl ?_
  refine x_get X gF hO 0 (by decide) e_F_12 rfl d_F_popFront_35 ?_
  refine x_aload_n X d_F_popFront_38 rfl hl rfl ?_
  refine x_get X gF hO 2 (by decide) e_F_25 rfl d_F_popFront_39 ?_
  refine x_iload_n X d_F_popFront_42 rfl hl rfl ?_
  refine x_ver X hV hta (by omega) d_F_popFront_43 ?_
  refine x_gor (x_runVN X (C_U_rest l D A _ rh q.2.2 q.2.2.length q.2.1.1 q.2.1.2 u nn em q.2.1.1 S hU hSb 0 t.1 t.2 ta ht.1 hT hz) b_U_rest s_U_rest v_U_rest e_F_68 hU.1 rfl rfl hl rfl (Nat.le_of_ble_eq_true rfl) d_F_popFront_44 (by dsimp only [x_rm]; omega) (by dsimp only [x_rm]; omega) ⟨(by dsimp only [x_rm]; omega), (by dsimp only [x_rm]; omega)⟩) hS (xA.mono (fun _ h => h.elim) hS.1) (fun r G1 locs hFr hF1 hS => ?_)
  have t_ : cTr S S H0 G1 := cTr.fr hF1 (fun _ h => h.elim)
  have hO := hF1.kp hO (xA.no (c_lt hO) (fun h => h))
  have hKs := hF1.kp hKs (xA.no (c_lt hKs) (fun h => h))
  have hV := hF1.kp hV (xA.no (c_lt hV) (fun h => h))
  have hMk := hF1.kp hMk (xA.no (c_lt hMk) (fun h => h))
  have hver := hver.tr t_ (fun _ _ h => h)
  have hT := hT.tr t_ (fun _ _ h => h)
  have tO := tO.tr t_
  have hU := hU.mv t_ hF1 (xA.no (c_lt hU.1) (fun h => h)) hSu
  have hSb := c_sb hSb hF1.1
  obtain ⟨kl_, kr_, km_, ks_, kO_⟩ := cT_obj hFr
  have hst : cF D A S b0 u ks bv ar rh (q.1, q.2.1, q.2.2) w nn em lt vs mv G1 := ⟨hO, hU, hKs, hV, hMk, hmv, hlt, hvs, hver⟩
  refine x_go1 (x_runV X (C_F_keep l D A _ b0 u ks bv (q.1.length) hO (vs) hV d3 hvs (by omega) r _ kO_.2) b_F_keep s_F_keep v_F_keep e_F_56 hO rfl rfl hl rfl (Nat.le_of_ble_eq_true rfl) d_F_popFront_47 (by dsimp only [x_rm]; omega) (by dsimp only [x_rm]; omega) ⟨(by dsimp only [x_rm]; omega), (by dsimp only [x_rm]; omega)⟩) hS (fun x h => Or.inl (h.elim Or.inl (fun h => Or.inr (Or.inr (Or.inr (Or.inl h)))))) (fun G2 locs hC hF2 hS => ?_)
  have hK1 := cF.keep hd hSS hst hFr hF2 hC
  exact x_iret X hS (by omega) (by omega) d_F_popFront_50 ⟨rfl, hSS, c_sb hSb hF2.1, rh, nn, em, lt, _, mv, hR, hK1.1, hK1.2.1, hK1.2.2.1, hK1.2.2.2.1, hK1.2.2.2.2.1, hmv, by omega, hK1.2.2.2.2.2.2.2.1, hK1.2.2.2.2.2.2.2.2⟩
set_option maxRecDepth 100000 in
set_option maxHeartbeats 4000000 in
theorem A_F_popBack (l : Launch) (D : va_G) (A : Nat → ClassId) (H0 : Heap) (S : Nat → Prop) (b0 u ks bv ar : Nat) (hd : cDs b0 u ks bv ar) (q : ft_Q) (hq : sp_ok2 q) (w : Nat) (hw : w < 100000) (hG : cG D A S b0 u ks bv ar q w H0) (v : Int32) : xC l y_F_popBack c_F_popBack 2 (some .int) 26 D A H0 [.ref b0, .int v] (xA (cSt b0 u ks bv ar) H0) (q1 (.int (sp_popBack q v).1) (fun H1 => cG D A S b0 u ks bv ar (sp_popBack q v).2 (w + 1) H1)) (5000 * ((sp_popBack q v).2.1.length - q.1.length)) (50000 * ((sp_popBack q v).2.1.length - q.1.length)) := by
  obtain ⟨hSS, hSb, rh, nn, em, lt, vs, mv, hR, hF⟩ := hG
  obtain ⟨hO, hU, hKs, hV, hMk, hmv, hlt, hvs, hver⟩ := hF
  have hl1 := hq.1.1
  have hl2 := hq.1.2.1
  obtain ⟨d1, d2, d3, d4, d5, d6, d7, d8, d9, d10⟩ := id hd
  have n_b0_u : ¬ b0 = u := d1
  have n_ks_u : ¬ ks = u := fun h => d5 h.symm
  have n_bv_u : ¬ bv = u := fun h => d6 h.symm
  have n_ar_u : ¬ ar = u := fun h => d7 h.symm
  have hmd0 := sp_md hq
  have hver : cVs D A S rh q.2.2 q.1 vs H0 := hver
  have hkeep : cG D A S b0 u ks bv ar q (w + 1) H0 := ⟨hSS, hSb, rh, nn, em, lt, vs, mv, hR, hO, hU, hKs, hV, hMk, hmv, by omega, hvs, hver⟩
  rcases sp_at_cases hq v with ⟨hv, hat⟩ | ⟨j, t, rfl, hj, hjt, hat⟩
  · skip
    rw [show sp_popBack q v = (-1, q) from by unfold sp_popBack; rw [hat]]
    refine xC.of rfl (Nat.le_of_ble_eq_true rfl) ?_
    intro p_ e_ s_ m_ ar_ bl_ me_ c_ ls X hl
    have hl : lz ls 2 [some (.ref b0), some (.int v)] := hl
    have hS : va_S (xA (cSt b0 u ks bv ar) H0) H0 H0 [] := va_S.rf
    refine x_aload_n X d_F_popBack_0 rfl hl rfl ?_
    refine x_iload_n X d_F_popBack_1 rfl hl rfl ?_
    refine x_goR (x_runV X (C_F_isVersion_f l D A _ b0 u ks bv q.1.length hO hl2 v hv) b_F_isVersion s_F_isVersion v_F_isVersion e_F_37 hO rfl rfl hl rfl (Nat.le_of_ble_eq_true rfl) d_F_popBack_2 (by dsimp only [x_rm]; omega) (by dsimp only [x_rm]; omega) ⟨(by dsimp only [x_rm]; omega), (by dsimp only [x_rm]; omega)⟩) hS (fun locs hS => ?_)
    refine n_if_eq X 20 d_F_popBack_5 rfl (by decide) (fun hc_ => ?_) (fun hc => absurd rfl hc)
    refine x_iconst (v := -1) X d_F_popBack_20 rfl ?_
    exact x_iret X hS (Nat.zero_le _) (Nat.zero_le _) d_F_popBack_21 ⟨rfl, hkeep⟩
  have ht := hq.1.2.2.1 t (List.mem_of_getElem? hjt)
  have hz40 := ht.2
  obtain ⟨ta, hta, hT⟩ := hver j t hjt
  obtain ⟨tl, tr, tmv, trs, tO⟩ := cT_obj hT
  have hz : ft_zT t.1 t.2 < 64 := by omega
  have h5 := ft_len5 ht.1 hz
  by_cases hz0 : ft_zT t.1 t.2 = 0
  · skip
    rw [show sp_popBack q (nI j) = (-1, q) from by unfold sp_popBack; rw [hat]; dsimp only; rw [if_pos hz0]]
    refine xC.of rfl (Nat.le_of_ble_eq_true rfl) ?_
    intro p_ e_ s_ m_ ar_ bl_ me_ c_ ls X hl
    have hl : lz ls 2 [some (.ref b0), some (.int (nI j))] := hl
    have hS : va_S (xA (cSt b0 u ks bv ar) H0) H0 H0 [] := va_S.rf
    refine x_aload_n X d_F_popBack_0 rfl hl rfl ?_
    refine x_iload_n X d_F_popBack_1 rfl hl rfl ?_
    refine x_goR (x_runV X (C_F_isVersion_t l D A _ b0 u ks bv q.1.length hO hl2 j hj) b_F_isVersion s_F_isVersion v_F_isVersion e_F_37 hO rfl rfl hl rfl (Nat.le_of_ble_eq_true rfl) d_F_popBack_2 (by dsimp only [x_rm]; omega) (by dsimp only [x_rm]; omega) ⟨(by dsimp only [x_rm]; omega), (by dsimp only [x_rm]; omega)⟩) hS (fun locs hS => ?_)
    refine n_if_eq X 20 d_F_popBack_5 rfl (by decide) (fun hc => absurd hc (by decide)) (fun hc_ => ?_)
    refine x_aload_n X d_F_popBack_8 rfl hl rfl ?_
    refine x_get X gF hO 2 (by decide) e_F_25 rfl d_F_popBack_9 ?_
    refine x_iload_n X d_F_popBack_12 rfl hl rfl ?_
    refine x_ver X hV hta (by omega) d_F_popBack_13 ?_
    refine x_goR (x_runVN X (C_T_isEmpty l D A _ S rh q.2.2 q.2.2.length q.2.1.1 q.2.1.2 0 t.1 t.2 ta ht.1 hT hz) b_T_isEmpty s_T_isEmpty v_T_isEmpty e_F_64 tO.2 rfl rfl hl rfl (Nat.le_of_ble_eq_true rfl) d_F_popBack_14 (by dsimp only [x_rm]; omega) (by dsimp only [x_rm]; omega) ⟨(by dsimp only [x_rm]; omega), (by dsimp only [x_rm]; omega)⟩) hS (fun locs hS => ?_)
    rw [show (if ft_em t.1 t.2 then 1 else 0) = 1 from by rw [(ft_em_z ht.1).2 hz0]; rfl]
    refine n_if_eq X 22 d_F_popBack_17 rfl (by decide) (fun hc => absurd hc (by decide)) (fun hc_ => ?_)
    refine x_iconst (v := -1) X d_F_popBack_20 rfl ?_
    exact x_iret X hS (Nat.zero_le _) (Nat.zero_le _) d_F_popBack_21 ⟨rfl, hkeep⟩
  have hne := ft_zem ht.1 hz0
  by_cases hn : 120 ≤ q.1.length
  · skip
    rw [show sp_popBack q (nI j) = (-2, q) from by unfold sp_popBack; rw [hat]; dsimp only; rw [if_neg hz0, if_pos hn]]
    refine xC.of rfl (Nat.le_of_ble_eq_true rfl) ?_
    intro p_ e_ s_ m_ ar_ bl_ me_ c_ ls X hl
    have hl : lz ls 2 [some (.ref b0), some (.int (nI j))] := hl
    have hS : va_S (xA (cSt b0 u ks bv ar) H0) H0 H0 [] := va_S.rf
    refine x_aload_n X d_F_popBack_0 rfl hl rfl ?_
    refine x_iload_n X d_F_popBack_1 rfl hl rfl ?_
    refine x_goR (x_runV X (C_F_isVersion_t l D A _ b0 u ks bv q.1.length hO hl2 j hj) b_F_isVersion s_F_isVersion v_F_isVersion e_F_37 hO rfl rfl hl rfl (Nat.le_of_ble_eq_true rfl) d_F_popBack_2 (by dsimp only [x_rm]; omega) (by dsimp only [x_rm]; omega) ⟨(by dsimp only [x_rm]; omega), (by dsimp only [x_rm]; omega)⟩) hS (fun locs hS => ?_)
    refine n_if_eq X 20 d_F_popBack_5 rfl (by decide) (fun hc => absurd hc (by decide)) (fun hc_ => ?_)
    refine x_aload_n X d_F_popBack_8 rfl hl rfl ?_
    refine x_get X gF hO 2 (by decide) e_F_25 rfl d_F_popBack_9 ?_
    refine x_iload_n X d_F_popBack_12 rfl hl rfl ?_
    refine x_ver X hV hta (by omega) d_F_popBack_13 ?_
    refine x_goR (x_runVN X (C_T_isEmpty l D A _ S rh q.2.2 q.2.2.length q.2.1.1 q.2.1.2 0 t.1 t.2 ta ht.1 hT hz) b_T_isEmpty s_T_isEmpty v_T_isEmpty e_F_64 tO.2 rfl rfl hl rfl (Nat.le_of_ble_eq_true rfl) d_F_popBack_14 (by dsimp only [x_rm]; omega) (by dsimp only [x_rm]; omega) ⟨(by dsimp only [x_rm]; omega), (by dsimp only [x_rm]; omega)⟩) hS (fun locs hS => ?_)
    rw [show (if ft_em t.1 t.2 then 1 else 0) = 0 from by rw [hne]; rfl]
    refine n_if_eq X 22 d_F_popBack_17 rfl (by decide) (fun hc_ => ?_) (fun hc => absurd rfl hc)
    refine x_aload_n X d_F_popBack_22 rfl hl rfl ?_
    refine x_iconst (v := nI 1) X d_F_popBack_23 rfl ?_
    refine x_goR (x_runV X (C_F_hasRoomFor l D A _ b0 u ks bv q.1.length hO hl2 1 (by decide)) b_F_hasRoomFor s_F_hasRoomFor v_F_hasRoomFor e_F_41 hO rfl rfl hl rfl (Nat.le_of_ble_eq_true rfl) d_F_popBack_24 (by dsimp only [x_rm]; omega) (by dsimp only [x_rm]; omega) ⟨(by dsimp only [x_rm]; omega), (by dsimp only [x_rm]; omega)⟩) hS (fun locs hS => ?_)
    rw [if_neg (by omega)]
    refine n_if_ne X 33 d_F_popBack_27 rfl (by decide) (fun hc => absurd rfl hc) (fun hc_ => ?_)
    refine x_bipush (v := -2) X d_F_popBack_30 rfl ?_
    exact x_iret X hS (Nat.zero_le _) (Nat.zero_le _) d_F_popBack_32 ⟨rfl, hkeep⟩
  have hsp : sp_popBack q (nI j) = sp_keep q (ft_le t.1 t.2) q.2.1 q.2.2 := by
    unfold sp_popBack; rw [hat]; dsimp only; rw [if_neg hz0, if_neg hn]
  have hmc : (sp_popBack q (nI j)).2.1.length - q.1.length = 1 := by
    rw [hsp]
    simp [sp_keep]
  rw [hmc, hsp]
  refine xC.of rfl (Nat.le_of_ble_eq_true rfl) ?_
  intro p_ e_ s_ m_ ar_ bl_ me_ c_ ls X hl
  have hl : lz ls 2 [some (.ref b0), some (.int (nI j))] := hl
  have hS : va_S (xA (cSt b0 u ks bv ar) H0) H0 H0 [] := va_S.rf
  have hSu : S u := hU.2.2.2
  have hSk := hSS ks (Or.inr (Or.inr (Or.inl rfl)))
  refine x_aload_n X d_F_popBack_0 rfl hl rfl ?_
  refine x_iload_n X d_F_popBack_1 rfl hl rfl ?_
  refine x_goR (x_runV X (C_F_isVersion_t l D A _ b0 u ks bv q.1.length hO hl2 j hj) b_F_isVersion s_F_isVersion v_F_isVersion e_F_37 hO rfl rfl hl rfl (Nat.le_of_ble_eq_true rfl) d_F_popBack_2 (by dsimp only [x_rm]; omega) (by dsimp only [x_rm]; omega) ⟨(by dsimp only [x_rm]; omega), (by dsimp only [x_rm]; omega)⟩) hS (fun locs hS => ?_)
  refine n_if_eq X 20 d_F_popBack_5 rfl (by decide) (fun hc => absurd hc (by decide)) (fun hc_ => ?_)
  refine x_aload_n X d_F_popBack_8 rfl hl rfl ?_
  refine x_get X gF hO 2 (by decide) e_F_25 rfl d_F_popBack_9 ?_
  refine x_iload_n X d_F_popBack_12 rfl hl rfl ?_
  refine x_ver X hV hta (by omega) d_F_popBack_13 ?_
  refine x_goR (x_runVN X (C_T_isEmpty l D A _ S rh q.2.2 q.2.2.length q.2.1.1 q.2.1.2 0 t.1 t.2 ta ht.1 hT hz) b_T_isEmpty s_T_isEmpty v_T_isEmpty e_F_64 tO.2 rfl rfl hl rfl (Nat.le_of_ble_eq_true rfl) d_F_popBack_14 (by dsimp only [x_rm]; omega) (by dsimp only [x_rm]; omega) ⟨(by dsimp only [x_rm]; omega), (by dsimp only [x_rm]; omega)⟩) hS (fun locs hS => ?_)
  rw [show (if ft_em t.1 t.2 then 1 else 0) = 0 from by rw [hne]; rfl]
  refine n_if_eq X 22 d_F_popBack_17 rfl (by decide) (fun hc_ => ?_) (fun hc => absurd rfl hc)
  refine x_aload_n X d_F_popBack_22 rfl hl rfl ?_
  refine x_iconst (v := nI 1) X d_F_popBack_23 rfl ?_
  refine x_goR (x_runV X (C_F_hasRoomFor l D A _ b0 u ks bv q.1.length hO hl2 1 (by decide)) b_F_hasRoomFor s_F_hasRoomFor v_F_hasRoomFor e_F_41 hO rfl rfl hl rfl (Nat.le_of_ble_eq_true rfl) d_F_popBack_24 (by dsimp only [x_rm]; omega) (by dsimp only [x_rm]; omega) ⟨(by dsimp only [x_rm]; omega), (by dsimp only [x_rm]; omega)⟩) hS (fun locs hS => ?_)
  rw [if_pos (by omega)]
  refine n_if_ne X 33 d_F_popBack_27 rfl (by decide) (fun hc_ => ?_) (fun hc => absurd hc (by decide))
  refine x_aload_n X d_F_popBack_33 rfl hl rfl ?_
  refine x_aload_n X d_F_popBack_34 rfl hl rfl ?_
  refine x_get X gF hO 0 (by decide) e_F_12 rfl d_F_popBack_35 ?_
  refine x_aload_n X d_F_popBack_38 rfl hl rfl ?_
  refine x_get X gF hO 2 (by decide) e_F_25 rfl d_F_popBack_39 ?_
  refine x_iload_n X d_F_popBack_42 rfl hl rfl ?_
  refine x_ver X hV hta (by omega) d_F_popBack_43 ?_
  refine x_gor (x_runVN X (C_U_lead l D A _ rh q.2.2 q.2.2.length q.2.1.1 q.2.1.2 u nn em q.2.1.1 S hU hSb 0 t.1 t.2 ta ht.1 hT hz) b_U_lead s_U_lead v_U_lead e_F_72 hU.1 rfl rfl hl rfl (Nat.le_of_ble_eq_true rfl) d_F_popBack_44 (by dsimp only [x_rm]; omega) (by dsimp only [x_rm]; omega) ⟨(by dsimp only [x_rm]; omega), (by dsimp only [x_rm]; omega)⟩) hS (xA.mono (fun _ h => h.elim) hS.1) (fun r G1 locs hFr hF1 hS => ?_)
  have t_ : cTr S S H0 G1 := cTr.fr hF1 (fun _ h => h.elim)
  have hO := hF1.kp hO (xA.no (c_lt hO) (fun h => h))
  have hKs := hF1.kp hKs (xA.no (c_lt hKs) (fun h => h))
  have hV := hF1.kp hV (xA.no (c_lt hV) (fun h => h))
  have hMk := hF1.kp hMk (xA.no (c_lt hMk) (fun h => h))
  have hver := hver.tr t_ (fun _ _ h => h)
  have hT := hT.tr t_ (fun _ _ h => h)
  have tO := tO.tr t_
  have hU := hU.mv t_ hF1 (xA.no (c_lt hU.1) (fun h => h)) hSu
  have hSb := c_sb hSb hF1.1
  obtain ⟨kl_, kr_, km_, ks_, kO_⟩ := cT_obj hFr
  have hst : cF D A S b0 u ks bv ar rh (q.1, q.2.1, q.2.2) w nn em lt vs mv G1 := ⟨hO, hU, hKs, hV, hMk, hmv, hlt, hvs, hver⟩
  refine x_go1 (x_runV X (C_F_keep l D A _ b0 u ks bv (q.1.length) hO (vs) hV d3 hvs (by omega) r _ kO_.2) b_F_keep s_F_keep v_F_keep e_F_56 hO rfl rfl hl rfl (Nat.le_of_ble_eq_true rfl) d_F_popBack_47 (by dsimp only [x_rm]; omega) (by dsimp only [x_rm]; omega) ⟨(by dsimp only [x_rm]; omega), (by dsimp only [x_rm]; omega)⟩) hS (fun x h => Or.inl (h.elim Or.inl (fun h => Or.inr (Or.inr (Or.inr (Or.inl h)))))) (fun G2 locs hC hF2 hS => ?_)
  have hK1 := cF.keep hd hSS hst hFr hF2 hC
  exact x_iret X hS (by omega) (by omega) d_F_popBack_50 ⟨rfl, hSS, c_sb hSb hF2.1, rh, nn, em, lt, _, mv, hR, hK1.1, hK1.2.1, hK1.2.2.1, hK1.2.2.2.1, hK1.2.2.2.2.1, hmv, by omega, hK1.2.2.2.2.2.2.2.1, hK1.2.2.2.2.2.2.2.2⟩
set_option maxRecDepth 100000 in
set_option maxHeartbeats 4000000 in
theorem A_F_concat (l : Launch) (D : va_G) (A : Nat → ClassId) (H0 : Heap) (S : Nat → Prop) (b0 u ks bv ar : Nat) (hd : cDs b0 u ks bv ar) (q : ft_Q) (hq : sp_ok2 q) (w : Nat) (hw : w < 100000) (hG : cG D A S b0 u ks bv ar q w H0) (v : Int32) (v2 : Int32) : xC l y_F_concat c_F_concat 3 (some .int) 26 D A H0 [.ref b0, .int v, .int v2] (xA (cSt b0 u ks bv ar) H0) (q1 (.int (sp_concat q v v2).1) (fun H1 => cG D A S b0 u ks bv ar (sp_concat q v v2).2 (w + 1) H1)) (5000 * ((sp_concat q v v2).2.1.length - q.1.length)) (50000 * ((sp_concat q v v2).2.1.length - q.1.length)) := by
  obtain ⟨hSS, hSb, rh, nn, em, lt, vs, mv, hR, hF⟩ := hG
  obtain ⟨hO, hU, hKs, hV, hMk, hmv, hlt, hvs, hver⟩ := hF
  have hl1 := hq.1.1
  have hl2 := hq.1.2.1
  obtain ⟨d1, d2, d3, d4, d5, d6, d7, d8, d9, d10⟩ := id hd
  have n_b0_u : ¬ b0 = u := d1
  have n_ks_u : ¬ ks = u := fun h => d5 h.symm
  have n_bv_u : ¬ bv = u := fun h => d6 h.symm
  have n_ar_u : ¬ ar = u := fun h => d7 h.symm
  have hmd0 := sp_md hq
  have hver : cVs D A S rh q.2.2 q.1 vs H0 := hver
  have hkeep : cG D A S b0 u ks bv ar q (w + 1) H0 := ⟨hSS, hSb, rh, nn, em, lt, vs, mv, hR, hO, hU, hKs, hV, hMk, hmv, by omega, hvs, hver⟩
  rcases sp_at_cases hq v with ⟨hv, hat⟩ | ⟨j, t, rfl, hj, hjt, hat⟩
  · skip
    rw [show sp_concat q v v2 = (-1, q) from by unfold sp_concat; rw [hat]]
    refine xC.of rfl (Nat.le_of_ble_eq_true rfl) ?_
    intro p_ e_ s_ m_ ar_ bl_ me_ c_ ls X hl
    have hl : lz ls 3 [some (.ref b0), some (.int v), some (.int v2)] := hl
    have hS : va_S (xA (cSt b0 u ks bv ar) H0) H0 H0 [] := va_S.rf
    refine x_aload_n X d_F_concat_0 rfl hl rfl ?_
    refine x_iload_n X d_F_concat_1 rfl hl rfl ?_
    refine x_goR (x_runV X (C_F_isVersion_f l D A _ b0 u ks bv q.1.length hO hl2 v hv) b_F_isVersion s_F_isVersion v_F_isVersion e_F_37 hO rfl rfl hl rfl (Nat.le_of_ble_eq_true rfl) d_F_concat_2 (by dsimp only [x_rm]; omega) (by dsimp only [x_rm]; omega) ⟨(by dsimp only [x_rm]; omega), (by dsimp only [x_rm]; omega)⟩) hS (fun locs hS => ?_)
    refine n_if_eq X 16 d_F_concat_5 rfl (by decide) (fun hc_ => ?_) (fun hc => absurd rfl hc)
    refine x_iconst (v := -1) X d_F_concat_16 rfl ?_
    exact x_iret X hS (Nat.zero_le _) (Nat.zero_le _) d_F_concat_17 ⟨rfl, hkeep⟩
  rcases sp_at_cases hq v2 with ⟨hv, hat2⟩ | ⟨j2, t2, rfl, hj2, hjt2, hat2⟩
  · skip
    rw [show sp_concat q (nI j) v2 = (-1, q) from by unfold sp_concat; rw [hat, hat2]]
    refine xC.of rfl (Nat.le_of_ble_eq_true rfl) ?_
    intro p_ e_ s_ m_ ar_ bl_ me_ c_ ls X hl
    have hl : lz ls 3 [some (.ref b0), some (.int (nI j)), some (.int v2)] := hl
    have hS : va_S (xA (cSt b0 u ks bv ar) H0) H0 H0 [] := va_S.rf
    refine x_aload_n X d_F_concat_0 rfl hl rfl ?_
    refine x_iload_n X d_F_concat_1 rfl hl rfl ?_
    refine x_goR (x_runV X (C_F_isVersion_t l D A _ b0 u ks bv q.1.length hO hl2 j hj) b_F_isVersion s_F_isVersion v_F_isVersion e_F_37 hO rfl rfl hl rfl (Nat.le_of_ble_eq_true rfl) d_F_concat_2 (by dsimp only [x_rm]; omega) (by dsimp only [x_rm]; omega) ⟨(by dsimp only [x_rm]; omega), (by dsimp only [x_rm]; omega)⟩) hS (fun locs hS => ?_)
    refine n_if_eq X 16 d_F_concat_5 rfl (by decide) (fun hc => absurd hc (by decide)) (fun hc_ => ?_)
    refine x_aload_n X d_F_concat_8 rfl hl rfl ?_
    refine x_iload_n X d_F_concat_9 rfl hl rfl ?_
    refine x_goR (x_runV X (C_F_isVersion_f l D A _ b0 u ks bv q.1.length hO hl2 v2 hv) b_F_isVersion s_F_isVersion v_F_isVersion e_F_37 hO rfl rfl hl rfl (Nat.le_of_ble_eq_true rfl) d_F_concat_10 (by dsimp only [x_rm]; omega) (by dsimp only [x_rm]; omega) ⟨(by dsimp only [x_rm]; omega), (by dsimp only [x_rm]; omega)⟩) hS (fun locs hS => ?_)
    refine n_if_ne X 18 d_F_concat_13 rfl (by decide) (fun hc => absurd rfl hc) (fun hc_ => ?_)
    refine x_iconst (v := -1) X d_F_concat_16 rfl ?_
    exact x_iret X hS (Nat.zero_le _) (Nat.zero_le _) d_F_concat_17 ⟨rfl, hkeep⟩
  have ht := hq.1.2.2.1 t (List.mem_of_getElem? hjt)
  have hz40 := ht.2
  obtain ⟨ta, hta, hT⟩ := hver j t hjt
  obtain ⟨tl, tr, tmv, trs, tO⟩ := cT_obj hT
  have hz : ft_zT t.1 t.2 < 64 := by omega
  have h5 := ft_len5 ht.1 hz
  have ht2 := hq.1.2.2.1 t2 (List.mem_of_getElem? hjt2)
  have hz402 := ht2.2
  obtain ⟨ta2, hta2, hT2⟩ := hver j2 t2 hjt2
  obtain ⟨tl2, tr2, tmv2, trs2, tO2⟩ := cT_obj hT2
  by_cases hn : 120 ≤ q.1.length
  · skip
    rw [show sp_concat q (nI j) (nI j2) = (-2, q) from by unfold sp_concat; rw [hat, hat2]; dsimp only; rw [if_pos (Or.inl hn)]]
    refine xC.of rfl (Nat.le_of_ble_eq_true rfl) ?_
    intro p_ e_ s_ m_ ar_ bl_ me_ c_ ls X hl
    have hl : lz ls 3 [some (.ref b0), some (.int (nI j)), some (.int (nI j2))] := hl
    have hS : va_S (xA (cSt b0 u ks bv ar) H0) H0 H0 [] := va_S.rf
    refine x_aload_n X d_F_concat_0 rfl hl rfl ?_
    refine x_iload_n X d_F_concat_1 rfl hl rfl ?_
    refine x_goR (x_runV X (C_F_isVersion_t l D A _ b0 u ks bv q.1.length hO hl2 j hj) b_F_isVersion s_F_isVersion v_F_isVersion e_F_37 hO rfl rfl hl rfl (Nat.le_of_ble_eq_true rfl) d_F_concat_2 (by dsimp only [x_rm]; omega) (by dsimp only [x_rm]; omega) ⟨(by dsimp only [x_rm]; omega), (by dsimp only [x_rm]; omega)⟩) hS (fun locs hS => ?_)
    refine n_if_eq X 16 d_F_concat_5 rfl (by decide) (fun hc => absurd hc (by decide)) (fun hc_ => ?_)
    refine x_aload_n X d_F_concat_8 rfl hl rfl ?_
    refine x_iload_n X d_F_concat_9 rfl hl rfl ?_
    refine x_goR (x_runV X (C_F_isVersion_t l D A _ b0 u ks bv q.1.length hO hl2 j2 hj2) b_F_isVersion s_F_isVersion v_F_isVersion e_F_37 hO rfl rfl hl rfl (Nat.le_of_ble_eq_true rfl) d_F_concat_10 (by dsimp only [x_rm]; omega) (by dsimp only [x_rm]; omega) ⟨(by dsimp only [x_rm]; omega), (by dsimp only [x_rm]; omega)⟩) hS (fun locs hS => ?_)
    refine n_if_ne X 18 d_F_concat_13 rfl (by decide) (fun hc_ => ?_) (fun hc => absurd hc (by decide))
    refine x_aload_n X d_F_concat_18 rfl hl rfl ?_
    refine x_iconst (v := nI 1) X d_F_concat_19 rfl ?_
    refine x_goR (x_runV X (C_F_hasRoomFor l D A _ b0 u ks bv q.1.length hO hl2 1 (by decide)) b_F_hasRoomFor s_F_hasRoomFor v_F_hasRoomFor e_F_41 hO rfl rfl hl rfl (Nat.le_of_ble_eq_true rfl) d_F_concat_20 (by dsimp only [x_rm]; omega) (by dsimp only [x_rm]; omega) ⟨(by dsimp only [x_rm]; omega), (by dsimp only [x_rm]; omega)⟩) hS (fun locs hS => ?_)
    rw [if_neg (by omega)]
    refine n_if_eq X 50 d_F_concat_23 rfl (by decide) (fun hc_ => ?_) (fun hc => absurd rfl hc)
    refine x_bipush (v := -2) X d_F_concat_50 rfl ?_
    exact x_iret X hS (Nat.zero_le _) (Nat.zero_le _) d_F_concat_52 ⟨rfl, hkeep⟩
  by_cases hf : 40 < ft_zT t.1 t.2 + ft_zT t2.1 t2.2
  · skip
    rw [show sp_concat q (nI j) (nI j2) = (-2, q) from by unfold sp_concat; rw [hat, hat2]; dsimp only; rw [if_pos (Or.inr hf)]]
    refine xC.of rfl (Nat.le_of_ble_eq_true rfl) ?_
    intro p_ e_ s_ m_ ar_ bl_ me_ c_ ls X hl
    have hl : lz ls 3 [some (.ref b0), some (.int (nI j)), some (.int (nI j2))] := hl
    have hS : va_S (xA (cSt b0 u ks bv ar) H0) H0 H0 [] := va_S.rf
    refine x_aload_n X d_F_concat_0 rfl hl rfl ?_
    refine x_iload_n X d_F_concat_1 rfl hl rfl ?_
    refine x_goR (x_runV X (C_F_isVersion_t l D A _ b0 u ks bv q.1.length hO hl2 j hj) b_F_isVersion s_F_isVersion v_F_isVersion e_F_37 hO rfl rfl hl rfl (Nat.le_of_ble_eq_true rfl) d_F_concat_2 (by dsimp only [x_rm]; omega) (by dsimp only [x_rm]; omega) ⟨(by dsimp only [x_rm]; omega), (by dsimp only [x_rm]; omega)⟩) hS (fun locs hS => ?_)
    refine n_if_eq X 16 d_F_concat_5 rfl (by decide) (fun hc => absurd hc (by decide)) (fun hc_ => ?_)
    refine x_aload_n X d_F_concat_8 rfl hl rfl ?_
    refine x_iload_n X d_F_concat_9 rfl hl rfl ?_
    refine x_goR (x_runV X (C_F_isVersion_t l D A _ b0 u ks bv q.1.length hO hl2 j2 hj2) b_F_isVersion s_F_isVersion v_F_isVersion e_F_37 hO rfl rfl hl rfl (Nat.le_of_ble_eq_true rfl) d_F_concat_10 (by dsimp only [x_rm]; omega) (by dsimp only [x_rm]; omega) ⟨(by dsimp only [x_rm]; omega), (by dsimp only [x_rm]; omega)⟩) hS (fun locs hS => ?_)
    refine n_if_ne X 18 d_F_concat_13 rfl (by decide) (fun hc_ => ?_) (fun hc => absurd hc (by decide))
    refine x_aload_n X d_F_concat_18 rfl hl rfl ?_
    refine x_iconst (v := nI 1) X d_F_concat_19 rfl ?_
    refine x_goR (x_runV X (C_F_hasRoomFor l D A _ b0 u ks bv q.1.length hO hl2 1 (by decide)) b_F_hasRoomFor s_F_hasRoomFor v_F_hasRoomFor e_F_41 hO rfl rfl hl rfl (Nat.le_of_ble_eq_true rfl) d_F_concat_20 (by dsimp only [x_rm]; omega) (by dsimp only [x_rm]; omega) ⟨(by dsimp only [x_rm]; omega), (by dsimp only [x_rm]; omega)⟩) hS (fun locs hS => ?_)
    rw [if_pos (by omega)]
    refine n_if_eq X 50 d_F_concat_23 rfl (by decide) (fun hc => absurd hc (by decide)) (fun hc_ => ?_)
    refine x_aload_n X d_F_concat_26 rfl hl rfl ?_
    refine x_get X gF hO 2 (by decide) e_F_25 rfl d_F_concat_27 ?_
    refine x_iload_n X d_F_concat_30 rfl hl rfl ?_
    refine x_ver X hV hta (by omega) d_F_concat_31 ?_
    refine x_getN X gT tO.2 4 (by decide) e_F_44 rfl d_F_concat_32 ?_
    refine x_aload_n X d_F_concat_35 rfl hl rfl ?_
    refine x_get X gF hO 2 (by decide) e_F_25 rfl d_F_concat_36 ?_
    refine x_iload_n X d_F_concat_39 rfl hl rfl ?_
    refine x_ver X hV hta2 (by omega) d_F_concat_40 ?_
    refine x_getN X gT tO2.2 4 (by decide) e_F_44 rfl d_F_concat_41 ?_
    refine n_iadd X d_F_concat_44 ?_
    refine x_bipush (v := nI 40) X d_F_concat_45 rfl ?_
    refine n_icmp_le X 53 d_F_concat_47 rfl (by omega) (by omega) (fun hc => absurd hc (by omega)) (fun hc_ => ?_)
    refine x_bipush (v := -2) X d_F_concat_50 rfl ?_
    exact x_iret X hS (Nat.zero_le _) (Nat.zero_le _) d_F_concat_52 ⟨rfl, hkeep⟩
  have h0z : ft_zR [] = 0 := rfl
  have hex := ft_jn_ok t.1 t.2 [] t2.1 t2.2 q.2.1 0 (by simp) (fun y hy => by simp at hy) ht.1 ht2.1
  have hsp : sp_concat q (nI j) (nI j2) = sp_keep q (ft_jn t.1 t.2 [] t2.1 t2.2 q.2.1).1 (ft_jn t.1 t.2 [] t2.1 t2.2 q.2.1).2 q.2.2 := by
    unfold sp_concat; rw [hat, hat2]; dsimp only; rw [if_neg (by omega)]
  have hmc : (sp_concat q (nI j) (nI j2)).2.1.length - q.1.length = 1 := by
    rw [hsp]
    simp [sp_keep]
  rw [hmc, hsp]
  refine xC.of rfl (Nat.le_of_ble_eq_true rfl) ?_
  intro p_ e_ s_ m_ ar_ bl_ me_ c_ ls X hl
  have hl : lz ls 3 [some (.ref b0), some (.int (nI j)), some (.int (nI j2))] := hl
  have hS : va_S (xA (cSt b0 u ks bv ar) H0) H0 H0 [] := va_S.rf
  have hSu : S u := hU.2.2.2
  have hSk := hSS ks (Or.inr (Or.inr (Or.inl rfl)))
  refine x_aload_n X d_F_concat_0 rfl hl rfl ?_
  refine x_iload_n X d_F_concat_1 rfl hl rfl ?_
  refine x_goR (x_runV X (C_F_isVersion_t l D A _ b0 u ks bv q.1.length hO hl2 j hj) b_F_isVersion s_F_isVersion v_F_isVersion e_F_37 hO rfl rfl hl rfl (Nat.le_of_ble_eq_true rfl) d_F_concat_2 (by dsimp only [x_rm]; omega) (by dsimp only [x_rm]; omega) ⟨(by dsimp only [x_rm]; omega), (by dsimp only [x_rm]; omega)⟩) hS (fun locs hS => ?_)
  refine n_if_eq X 16 d_F_concat_5 rfl (by decide) (fun hc => absurd hc (by decide)) (fun hc_ => ?_)
  refine x_aload_n X d_F_concat_8 rfl hl rfl ?_
  refine x_iload_n X d_F_concat_9 rfl hl rfl ?_
  refine x_goR (x_runV X (C_F_isVersion_t l D A _ b0 u ks bv q.1.length hO hl2 j2 hj2) b_F_isVersion s_F_isVersion v_F_isVersion e_F_37 hO rfl rfl hl rfl (Nat.le_of_ble_eq_true rfl) d_F_concat_10 (by dsimp only [x_rm]; omega) (by dsimp only [x_rm]; omega) ⟨(by dsimp only [x_rm]; omega), (by dsimp only [x_rm]; omega)⟩) hS (fun locs hS => ?_)
  refine n_if_ne X 18 d_F_concat_13 rfl (by decide) (fun hc_ => ?_) (fun hc => absurd hc (by decide))
  refine x_aload_n X d_F_concat_18 rfl hl rfl ?_
  refine x_iconst (v := nI 1) X d_F_concat_19 rfl ?_
  refine x_goR (x_runV X (C_F_hasRoomFor l D A _ b0 u ks bv q.1.length hO hl2 1 (by decide)) b_F_hasRoomFor s_F_hasRoomFor v_F_hasRoomFor e_F_41 hO rfl rfl hl rfl (Nat.le_of_ble_eq_true rfl) d_F_concat_20 (by dsimp only [x_rm]; omega) (by dsimp only [x_rm]; omega) ⟨(by dsimp only [x_rm]; omega), (by dsimp only [x_rm]; omega)⟩) hS (fun locs hS => ?_)
  rw [if_pos (by omega)]
  refine n_if_eq X 50 d_F_concat_23 rfl (by decide) (fun hc => absurd hc (by decide)) (fun hc_ => ?_)
  refine x_aload_n X d_F_concat_26 rfl hl rfl ?_
  refine x_get X gF hO 2 (by decide) e_F_25 rfl d_F_concat_27 ?_
  refine x_iload_n X d_F_concat_30 rfl hl rfl ?_
  refine x_ver X hV hta (by omega) d_F_concat_31 ?_
  refine x_getN X gT tO.2 4 (by decide) e_F_44 rfl d_F_concat_32 ?_
  refine x_aload_n X d_F_concat_35 rfl hl rfl ?_
  refine x_get X gF hO 2 (by decide) e_F_25 rfl d_F_concat_36 ?_
  refine x_iload_n X d_F_concat_39 rfl hl rfl ?_
  refine x_ver X hV hta2 (by omega) d_F_concat_40 ?_
  refine x_getN X gT tO2.2 4 (by decide) e_F_44 rfl d_F_concat_41 ?_
  refine n_iadd X d_F_concat_44 ?_
  refine x_bipush (v := nI 40) X d_F_concat_45 rfl ?_
  refine n_icmp_le X 53 d_F_concat_47 rfl (by omega) (by omega) (fun hc_ => ?_) (fun hc => absurd hc (by omega))
  refine x_aload_n X d_F_concat_53 rfl hl rfl ?_
  refine x_aload_n X d_F_concat_54 rfl hl rfl ?_
  refine x_get X gF hO 0 (by decide) e_F_12 rfl d_F_concat_55 ?_
  refine x_aload_n X d_F_concat_58 rfl hl rfl ?_
  refine x_get X gF hO 2 (by decide) e_F_25 rfl d_F_concat_59 ?_
  refine x_iload_n X d_F_concat_62 rfl hl rfl ?_
  refine x_ver X hV hta (by omega) d_F_concat_63 ?_
  refine x_aload_n X d_F_concat_64 rfl hl rfl ?_
  refine x_get X gF hO 0 (by decide) e_F_12 rfl d_F_concat_65 ?_
  refine x_getN X gU hU.1 0 (by decide) e_F_75 rfl d_F_concat_68 ?_
  refine x_aload_n X d_F_concat_71 rfl hl rfl ?_
  refine x_get X gF hO 2 (by decide) e_F_25 rfl d_F_concat_72 ?_
  refine x_iload_n X d_F_concat_75 rfl hl rfl ?_
  refine x_ver X hV hta2 (by omega) d_F_concat_76 ?_
  refine x_gor (x_runVN X (C_U_join l D A _ S rh q.2.2 q.2.2.length q.2.1 u nn em hU hSb hR.1 0 [] [] nn (fun y hy => by simp at hy) hU.2.1 (cL_nil.2 rfl) (by simp) (by simp [ft_zR]) t.1 t.2 ta ht.1 hT t2.1 t2.2 ta2 ht2.1 hT2 (by simp) (by omega)) b_U_join s_U_join v_U_join e_F_79 hU.1 rfl rfl hl rfl (Nat.le_of_ble_eq_true rfl) d_F_concat_77 (by dsimp only [x_rm]; omega) (by dsimp only [x_rm]; omega) ⟨(by dsimp only [x_rm]; omega), (by dsimp only [x_rm]; omega)⟩) hS (xA.mono (fun _ h => Or.inr (Or.inl h)) hS.1) (fun r G1 locs hFr hF1 hS => ?_)
  have t_ : cTr S S H0 G1 := cTr.fr hF1 (fun q h => by rw [h]; exact hU.2.2.2)
  have hO := hF1.kp hO (xA.no (c_lt hO) n_b0_u)
  have hKs := hF1.kp hKs (xA.no (c_lt hKs) n_ks_u)
  have hV := hF1.kp hV (xA.no (c_lt hV) n_bv_u)
  have hMk := hF1.kp hMk (xA.no (c_lt hMk) n_ar_u)
  have hver := hver.tr t_ (fun _ _ h => h)
  have hT := hT.tr t_ (fun _ _ h => h)
  have tO := tO.tr t_
  have hT2 := hT2.tr t_ (fun _ _ h => h)
  have tO2 := tO2.tr t_
  have hU := hFr.2
  have hSb := c_sb hSb hF1.1
  have hFr1 := hFr.1
  obtain ⟨kl_, kr_, km_, ks_, kO_⟩ := cT_obj hFr1
  have hst : cF D A S b0 u ks bv ar rh (q.1, (ft_jn t.1 t.2 [] t2.1 t2.2 q.2.1).2, q.2.2) w nn em lt vs mv G1 := ⟨hO, hU, hKs, hV, hMk, hmv, hlt, hvs, hver⟩
  refine x_go1 (x_runV X (C_F_keep l D A _ b0 u ks bv (q.1.length) hO (vs) hV d3 hvs (by omega) r _ kO_.2) b_F_keep s_F_keep v_F_keep e_F_56 hO rfl rfl hl rfl (Nat.le_of_ble_eq_true rfl) d_F_concat_80 (by dsimp only [x_rm]; omega) (by dsimp only [x_rm]; omega) ⟨(by dsimp only [x_rm]; omega), (by dsimp only [x_rm]; omega)⟩) hS (fun x h => Or.inl (h.elim Or.inl (fun h => Or.inr (Or.inr (Or.inr (Or.inl h)))))) (fun G2 locs hC hF2 hS => ?_)
  have hK1 := cF.keep hd hSS hst hFr1 hF2 hC
  exact x_iret X hS (by omega) (by omega) d_F_concat_83 ⟨rfl, hSS, c_sb hSb hF2.1, rh, nn, em, lt, _, mv, (hR.up hex.1.1), hK1.1, hK1.2.1, hK1.2.2.1, hK1.2.2.2.1, hK1.2.2.2.2.1, hmv, by omega, hK1.2.2.2.2.2.2.2.1, hK1.2.2.2.2.2.2.2.2⟩
set_option maxRecDepth 100000 in
set_option maxHeartbeats 4000000 in
theorem A_F_split (l : Launch) (D : va_G) (A : Nat → ClassId) (H0 : Heap) (S : Nat → Prop) (b0 u ks bv ar : Nat) (hd : cDs b0 u ks bv ar) (q : ft_Q) (hq : sp_ok2 q) (w : Nat) (hw : w < 100000) (hG : cG D A S b0 u ks bv ar q w H0) (v : Int32) (p : Int32) : xC l y_F_split c_F_split 5 (some .int) 26 D A H0 [.ref b0, .int v, .int p] (xA (cSt b0 u ks bv ar) H0) (q1 (.int (sp_split q v p).1) (fun H1 => cG D A S b0 u ks bv ar (sp_split q v p).2 (w + 1) H1)) (5000 * ((sp_split q v p).2.1.length - q.1.length)) (50000 * ((sp_split q v p).2.1.length - q.1.length)) := by
  obtain ⟨hSS, hSb, rh, nn, em, lt, vs, mv, hR, hF⟩ := hG
  obtain ⟨hO, hU, hKs, hV, hMk, hmv, hlt, hvs, hver⟩ := hF
  have hl1 := hq.1.1
  have hl2 := hq.1.2.1
  obtain ⟨d1, d2, d3, d4, d5, d6, d7, d8, d9, d10⟩ := id hd
  have n_b0_u : ¬ b0 = u := d1
  have n_ks_u : ¬ ks = u := fun h => d5 h.symm
  have n_bv_u : ¬ bv = u := fun h => d6 h.symm
  have n_ar_u : ¬ ar = u := fun h => d7 h.symm
  have hmd0 := sp_md hq
  have hver : cVs D A S rh q.2.2 q.1 vs H0 := hver
  have hkeep : cG D A S b0 u ks bv ar q (w + 1) H0 := ⟨hSS, hSb, rh, nn, em, lt, vs, mv, hR, hO, hU, hKs, hV, hMk, hmv, by omega, hvs, hver⟩
  rcases sp_at_cases hq v with ⟨hv, hat⟩ | ⟨j, t, rfl, hj, hjt, hat⟩
  · skip
    rw [show sp_split q v p = (-1, q) from by unfold sp_split; rw [hat]]
    refine xC.of rfl (Nat.le_of_ble_eq_true rfl) ?_
    intro p_ e_ s_ m_ ar_ bl_ me_ c_ ls X hl
    have hl : lz ls 5 [some (.ref b0), some (.int v), some (.int p), none, none] := hl
    have hS : va_S (xA (cSt b0 u ks bv ar) H0) H0 H0 [] := va_S.rf
    refine x_aload_n X d_F_split_0 rfl hl rfl ?_
    refine x_iload_n X d_F_split_1 rfl hl rfl ?_
    refine x_goR (x_runV X (C_F_isVersion_f l D A _ b0 u ks bv q.1.length hO hl2 v hv) b_F_isVersion s_F_isVersion v_F_isVersion e_F_37 hO rfl rfl hl rfl (Nat.le_of_ble_eq_true rfl) d_F_split_2 (by dsimp only [x_rm]; omega) (by dsimp only [x_rm]; omega) ⟨(by dsimp only [x_rm]; omega), (by dsimp only [x_rm]; omega)⟩) hS (fun locs hS => ?_)
    refine n_if_eq X 25 d_F_split_5 rfl (by decide) (fun hc_ => ?_) (fun hc => absurd rfl hc)
    refine x_iconst (v := -1) X d_F_split_25 rfl ?_
    exact x_iret X hS (Nat.zero_le _) (Nat.zero_le _) d_F_split_26 ⟨rfl, hkeep⟩
  have ht := hq.1.2.2.1 t (List.mem_of_getElem? hjt)
  have hz40 := ht.2
  obtain ⟨ta, hta, hT⟩ := hver j t hjt
  obtain ⟨tl, tr, tmv, trs, tO⟩ := cT_obj hT
  have hz : ft_zT t.1 t.2 < 64 := by omega
  have h5 := ft_len5 ht.1 hz
  by_cases hp0 : p < 0
  · skip
    rw [show sp_split q (nI j) p = (-1, q) from by unfold sp_split; rw [hat]; dsimp only; rw [if_pos (Or.inl hp0)]]
    refine xC.of rfl (Nat.le_of_ble_eq_true rfl) ?_
    intro p_ e_ s_ m_ ar_ bl_ me_ c_ ls X hl
    have hl : lz ls 5 [some (.ref b0), some (.int (nI j)), some (.int p), none, none] := hl
    have hS : va_S (xA (cSt b0 u ks bv ar) H0) H0 H0 [] := va_S.rf
    refine x_aload_n X d_F_split_0 rfl hl rfl ?_
    refine x_iload_n X d_F_split_1 rfl hl rfl ?_
    refine x_goR (x_runV X (C_F_isVersion_t l D A _ b0 u ks bv q.1.length hO hl2 j hj) b_F_isVersion s_F_isVersion v_F_isVersion e_F_37 hO rfl rfl hl rfl (Nat.le_of_ble_eq_true rfl) d_F_split_2 (by dsimp only [x_rm]; omega) (by dsimp only [x_rm]; omega) ⟨(by dsimp only [x_rm]; omega), (by dsimp only [x_rm]; omega)⟩) hS (fun locs hS => ?_)
    refine n_if_eq X 25 d_F_split_5 rfl (by decide) (fun hc => absurd hc (by decide)) (fun hc_ => ?_)
    refine x_iload_n X d_F_split_8 rfl hl rfl ?_
    refine x_if_lt X 25 d_F_split_9 rfl (fun _ => ?_) (fun h => absurd hp0 h)
    refine x_iconst (v := -1) X d_F_split_25 rfl ?_
    exact x_iret X hS (Nat.zero_le _) (Nat.zero_le _) d_F_split_26 ⟨rfl, hkeep⟩
  by_cases hp1 : nI (ft_zT t.1 t.2) < p
  · skip
    rw [show sp_split q (nI j) p = (-1, q) from by unfold sp_split; rw [hat]; dsimp only; rw [if_pos (Or.inr hp1)]]
    refine xC.of rfl (Nat.le_of_ble_eq_true rfl) ?_
    intro p_ e_ s_ m_ ar_ bl_ me_ c_ ls X hl
    have hl : lz ls 5 [some (.ref b0), some (.int (nI j)), some (.int p), none, none] := hl
    have hS : va_S (xA (cSt b0 u ks bv ar) H0) H0 H0 [] := va_S.rf
    refine x_aload_n X d_F_split_0 rfl hl rfl ?_
    refine x_iload_n X d_F_split_1 rfl hl rfl ?_
    refine x_goR (x_runV X (C_F_isVersion_t l D A _ b0 u ks bv q.1.length hO hl2 j hj) b_F_isVersion s_F_isVersion v_F_isVersion e_F_37 hO rfl rfl hl rfl (Nat.le_of_ble_eq_true rfl) d_F_split_2 (by dsimp only [x_rm]; omega) (by dsimp only [x_rm]; omega) ⟨(by dsimp only [x_rm]; omega), (by dsimp only [x_rm]; omega)⟩) hS (fun locs hS => ?_)
    refine n_if_eq X 25 d_F_split_5 rfl (by decide) (fun hc => absurd hc (by decide)) (fun hc_ => ?_)
    refine x_iload_n X d_F_split_8 rfl hl rfl ?_
    refine x_if_lt X 25 d_F_split_9 rfl (fun h => absurd h hp0) (fun _ => ?_)
    refine x_iload_n X d_F_split_12 rfl hl rfl ?_
    refine x_aload_n X d_F_split_13 rfl hl rfl ?_
    refine x_get X gF hO 2 (by decide) e_F_25 rfl d_F_split_14 ?_
    refine x_iload_n X d_F_split_17 rfl hl rfl ?_
    refine x_ver X hV hta (by omega) d_F_split_18 ?_
    refine x_getN X gT tO.2 4 (by decide) e_F_44 rfl d_F_split_19 ?_
    refine x_icmp_le X 27 d_F_split_22 rfl (fun h => absurd hp1 (Int32.not_lt.2 h)) (fun _ => ?_)
    refine x_iconst (v := -1) X d_F_split_25 rfl ?_
    exact x_iret X hS (Nat.zero_le _) (Nat.zero_le _) d_F_split_26 ⟨rfl, hkeep⟩
  have hor : ¬ (p < 0 ∨ nI (ft_zT t.1 t.2) < p) := fun h => h.elim hp0 hp1
  by_cases hn : 118 < q.1.length
  · skip
    rw [show sp_split q (nI j) p = (-2, q) from by unfold sp_split; rw [hat]; dsimp only; rw [if_neg hor, if_pos hn]]
    refine xC.of rfl (Nat.le_of_ble_eq_true rfl) ?_
    intro p_ e_ s_ m_ ar_ bl_ me_ c_ ls X hl
    have hl : lz ls 5 [some (.ref b0), some (.int (nI j)), some (.int p), none, none] := hl
    have hS : va_S (xA (cSt b0 u ks bv ar) H0) H0 H0 [] := va_S.rf
    refine x_aload_n X d_F_split_0 rfl hl rfl ?_
    refine x_iload_n X d_F_split_1 rfl hl rfl ?_
    refine x_goR (x_runV X (C_F_isVersion_t l D A _ b0 u ks bv q.1.length hO hl2 j hj) b_F_isVersion s_F_isVersion v_F_isVersion e_F_37 hO rfl rfl hl rfl (Nat.le_of_ble_eq_true rfl) d_F_split_2 (by dsimp only [x_rm]; omega) (by dsimp only [x_rm]; omega) ⟨(by dsimp only [x_rm]; omega), (by dsimp only [x_rm]; omega)⟩) hS (fun locs hS => ?_)
    refine n_if_eq X 25 d_F_split_5 rfl (by decide) (fun hc => absurd hc (by decide)) (fun hc_ => ?_)
    refine x_iload_n X d_F_split_8 rfl hl rfl ?_
    refine x_if_lt X 25 d_F_split_9 rfl (fun h => absurd h hp0) (fun _ => ?_)
    refine x_iload_n X d_F_split_12 rfl hl rfl ?_
    refine x_aload_n X d_F_split_13 rfl hl rfl ?_
    refine x_get X gF hO 2 (by decide) e_F_25 rfl d_F_split_14 ?_
    refine x_iload_n X d_F_split_17 rfl hl rfl ?_
    refine x_ver X hV hta (by omega) d_F_split_18 ?_
    refine x_getN X gT tO.2 4 (by decide) e_F_44 rfl d_F_split_19 ?_
    refine x_icmp_le X 27 d_F_split_22 rfl (fun _ => ?_) (fun h => absurd (Int32.not_lt.1 hp1) h)
    refine x_aload_n X d_F_split_27 rfl hl rfl ?_
    refine x_iconst (v := nI 2) X d_F_split_28 rfl ?_
    refine x_goR (x_runV X (C_F_hasRoomFor l D A _ b0 u ks bv q.1.length hO hl2 2 (by decide)) b_F_hasRoomFor s_F_hasRoomFor v_F_hasRoomFor e_F_41 hO rfl rfl hl rfl (Nat.le_of_ble_eq_true rfl) d_F_split_29 (by dsimp only [x_rm]; omega) (by dsimp only [x_rm]; omega) ⟨(by dsimp only [x_rm]; omega), (by dsimp only [x_rm]; omega)⟩) hS (fun locs hS => ?_)
    rw [if_neg (by omega)]
    refine n_if_ne X 38 d_F_split_32 rfl (by decide) (fun hc => absurd rfl hc) (fun hc_ => ?_)
    refine x_bipush (v := -2) X d_F_split_35 rfl ?_
    exact x_iret X hS (Nat.zero_le _) (Nat.zero_le _) d_F_split_37 ⟨rfl, hkeep⟩
  obtain ⟨pp, hpp, rfl⟩ := nI_of hp0
  have hpz : pp ≤ ft_zT t.1 t.2 := Nat.le_of_not_lt (fun h => hp1 ((nI_ltI (by omega) hpp).2 h))
  have hcl := nI_clamp hpp
  have hex := ft_ha_ok (c := q.2.1) ht.1 hpz
  have hsp : sp_split q (nI j) (nI pp) = (nI q.1.length, (q.1 ++ [(ft_ha t.1 t.2 pp q.2.1).1, (ft_ha t.1 t.2 pp q.2.1).2.1], (ft_ha t.1 t.2 pp q.2.1).2.2, q.2.2)) := by
    unfold sp_split; rw [hat]; dsimp only; rw [if_neg hor, if_neg hn, hcl]
  have hmc : (sp_split q (nI j) (nI pp)).2.1.length - q.1.length = 2 := by
    rw [hsp]
    simp [sp_keep]
  rw [hmc, hsp]
  refine xC.of rfl (Nat.le_of_ble_eq_true rfl) ?_
  intro p_ e_ s_ m_ ar_ bl_ me_ c_ ls X hl
  have hl : lz ls 5 [some (.ref b0), some (.int (nI j)), some (.int (nI pp)), none, none] := hl
  have hS : va_S (xA (cSt b0 u ks bv ar) H0) H0 H0 [] := va_S.rf
  have hSu : S u := hU.2.2.2
  have hSk := hSS ks (Or.inr (Or.inr (Or.inl rfl)))
  refine x_aload_n X d_F_split_0 rfl hl rfl ?_
  refine x_iload_n X d_F_split_1 rfl hl rfl ?_
  refine x_goR (x_runV X (C_F_isVersion_t l D A _ b0 u ks bv q.1.length hO hl2 j hj) b_F_isVersion s_F_isVersion v_F_isVersion e_F_37 hO rfl rfl hl rfl (Nat.le_of_ble_eq_true rfl) d_F_split_2 (by dsimp only [x_rm]; omega) (by dsimp only [x_rm]; omega) ⟨(by dsimp only [x_rm]; omega), (by dsimp only [x_rm]; omega)⟩) hS (fun locs hS => ?_)
  refine n_if_eq X 25 d_F_split_5 rfl (by decide) (fun hc => absurd hc (by decide)) (fun hc_ => ?_)
  refine x_iload_n X d_F_split_8 rfl hl rfl ?_
  refine x_if_lt X 25 d_F_split_9 rfl (fun h => absurd h hp0) (fun _ => ?_)
  refine x_iload_n X d_F_split_12 rfl hl rfl ?_
  refine x_aload_n X d_F_split_13 rfl hl rfl ?_
  refine x_get X gF hO 2 (by decide) e_F_25 rfl d_F_split_14 ?_
  refine x_iload_n X d_F_split_17 rfl hl rfl ?_
  refine x_ver X hV hta (by omega) d_F_split_18 ?_
  refine x_getN X gT tO.2 4 (by decide) e_F_44 rfl d_F_split_19 ?_
  refine x_icmp_le X 27 d_F_split_22 rfl (fun _ => ?_) (fun h => absurd (Int32.not_lt.1 hp1) h)
  refine x_aload_n X d_F_split_27 rfl hl rfl ?_
  refine x_iconst (v := nI 2) X d_F_split_28 rfl ?_
  refine x_goR (x_runV X (C_F_hasRoomFor l D A _ b0 u ks bv q.1.length hO hl2 2 (by decide)) b_F_hasRoomFor s_F_hasRoomFor v_F_hasRoomFor e_F_41 hO rfl rfl hl rfl (Nat.le_of_ble_eq_true rfl) d_F_split_29 (by dsimp only [x_rm]; omega) (by dsimp only [x_rm]; omega) ⟨(by dsimp only [x_rm]; omega), (by dsimp only [x_rm]; omega)⟩) hS (fun locs hS => ?_)
  rw [if_pos (by omega)]
  refine n_if_ne X 38 d_F_split_32 rfl (by decide) (fun hc_ => ?_) (fun hc => absurd hc (by decide))
  refine x_aload_n X d_F_split_38 rfl hl rfl ?_
  refine x_get X gF hO 0 (by decide) e_F_12 rfl d_F_split_39 ?_
  refine x_aload_n X d_F_split_42 rfl hl rfl ?_
  refine x_get X gF hO 2 (by decide) e_F_25 rfl d_F_split_43 ?_
  refine x_iload_n X d_F_split_46 rfl hl rfl ?_
  refine x_ver X hV hta (by omega) d_F_split_47 ?_
  refine x_iload_n X d_F_split_48 rfl hl rfl ?_
  refine x_gor (x_runVN X (C_U_halves l D A _ S rh q.2.2 q.2.2.length q.2.1 u nn em hU hSb hR.1 0 t.1 t.2 ta ht.1 hT hz pp hpz) b_U_halves s_U_halves v_U_halves e_F_83 hU.1 rfl rfl hl rfl (Nat.le_of_ble_eq_true rfl) d_F_split_49 (by dsimp only [x_rm]; omega) (by dsimp only [x_rm]; omega) ⟨(by dsimp only [x_rm]; omega), (by dsimp only [x_rm]; omega)⟩) hS (xA.mono (fun _ h => Or.inr (Or.inl h)) hS.1) (fun hq_ G1 locs hHa hF1 hS => ?_)
  have t_ : cTr S S H0 G1 := cTr.fr hF1 (fun q h => by rw [h]; exact hU.2.2.2)
  have hO := hF1.kp hO (xA.no (c_lt hO) n_b0_u)
  have hKs := hF1.kp hKs (xA.no (c_lt hKs) n_ks_u)
  have hV := hF1.kp hV (xA.no (c_lt hV) n_bv_u)
  have hMk := hF1.kp hMk (xA.no (c_lt hMk) n_ar_u)
  have hver := hver.tr t_ (fun _ _ h => h)
  have hT := hT.tr t_ (fun _ _ h => h)
  have tO := tO.tr t_
  have hU := hHa.2
  have hSb := c_sb hSb hF1.1
  obtain ⟨hb_, ha_, z1, z2, z3⟩ := hHa.1
  refine x_astore_n X d_F_split_52 rfl hl (by decide) rfl (fun ls hl => ?_)
  refine x_aload_n X d_F_split_53 rfl hl rfl ?_
  refine x_aload_n X d_F_split_54 rfl hl rfl ?_
  refine x_getN X gH z1.2 0 (by decide) e_F_87 rfl d_F_split_55 ?_
  obtain ⟨kl_, kr_, km_, ks_, kO_⟩ := cT_obj z2
  have hst : cF D A S b0 u ks bv ar rh (q.1, (ft_ha t.1 t.2 pp q.2.1).2.2, q.2.2) w nn em lt vs mv G1 := ⟨hO, hU, hKs, hV, hMk, hmv, hlt, hvs, hver⟩
  refine x_go1 (x_runV X (C_F_keep l D A _ b0 u ks bv (q.1.length) hO (vs) hV d3 hvs (by omega) hb_ _ kO_.2) b_F_keep s_F_keep v_F_keep e_F_56 hO rfl rfl hl rfl (Nat.le_of_ble_eq_true rfl) d_F_split_58 (by dsimp only [x_rm]; omega) (by dsimp only [x_rm]; omega) ⟨(by dsimp only [x_rm]; omega), (by dsimp only [x_rm]; omega)⟩) hS (fun x h => Or.inl (h.elim Or.inl (fun h => Or.inr (Or.inr (Or.inr (Or.inl h)))))) (fun G2 locs hC hF2 hS => ?_)
  have hK1 := cF.keep hd hSS hst z2 hF2 hC
  have t_ : cTr S S G1 G2 := cTr.of hF2 (fun x _ h => by
    rcases h with h | h
    · exact hSS x (Or.inl h)
    · exact hSS x (Or.inr (Or.inr (Or.inr (Or.inl h)))))
  have z1 := z1.tr t_
  have z3 := z3.tr t_ (fun _ _ h => h)
  have hSb := c_sb hSb hF2.1
  have hln : (q.1 ++ [(ft_ha t.1 t.2 pp q.2.1).1]).length = q.1.length + 1 := by simp
  obtain ⟨hO, hU, hKs, hV, hMk, hmv, hlt, hvs, hver⟩ := hK1
  rw [hln] at hO hvs
  refine x_istore X d_F_split_61 hl (by decide) rfl (fun ls hl => ?_)
  refine x_aload_n X d_F_split_63 rfl hl rfl ?_
  refine x_aload_n X d_F_split_64 rfl hl rfl ?_
  refine x_getN X gH z1.2 1 (by decide) e_F_92 rfl d_F_split_65 ?_
  obtain ⟨kl_, kr_, km_, ks_, kO_⟩ := cT_obj z3
  have hst : cF D A S b0 u ks bv ar rh (q.1 ++ [(ft_ha t.1 t.2 pp q.2.1).1], (ft_ha t.1 t.2 pp q.2.1).2.2, q.2.2) w nn em lt (vs ++ [hb_]) mv G2 := ⟨by dsimp only; rw [hln]; exact hO, hU, hKs, hV, hMk, hmv, hlt, by dsimp only; rw [hln]; exact hvs, hver⟩
  refine x_go1 (x_runV X (C_F_keep l D A _ b0 u ks bv (q.1.length + 1) hO (vs ++ [hb_]) hV d3 hvs (by omega) ha_ _ kO_.2) b_F_keep s_F_keep v_F_keep e_F_56 hO rfl rfl hl rfl (Nat.le_of_ble_eq_true rfl) d_F_split_68 (by dsimp only [x_rm]; omega) (by dsimp only [x_rm]; omega) ⟨(by dsimp only [x_rm]; omega), (by dsimp only [x_rm]; omega)⟩) hS (fun x h => Or.inl (h.elim Or.inl (fun h => Or.inr (Or.inr (Or.inr (Or.inl h)))))) (fun G3 locs hC hF3 hS => ?_)
  have hK1 := cF.keep hd hSS hst z3 hF3 (by rw [hln]; exact hC)
  rw [List.append_assoc] at hK1
  refine x_pop X d_F_split_71 rfl ?_
  refine x_iload X d_F_split_72 hl rfl ?_
  exact x_iret X hS (by omega) (by omega) d_F_split_74 ⟨rfl, hSS, c_sb hSb hF3.1, rh, nn, em, lt, _, mv, (hR.up hex.1.1), hK1.1, hK1.2.1, hK1.2.2.1, hK1.2.2.2.1, hK1.2.2.2.2.1, hmv, by omega, hK1.2.2.2.2.2.2.2.1, hK1.2.2.2.2.2.2.2.2⟩
