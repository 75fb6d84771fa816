/-! The class, call by call: replace. -/
/-- the class numbers the nodes of a replace from the inside -/
def ft_rh (rh : Nat → Nat) (M L : Nat) : Nat → Nat := fun n => if M < n ∧ n ≤ M + L then M + (M + L + 1 - n) else rh n
theorem ft_rh_old {rh : Nat → Nat} {M L n : Nat} (h : n ≤ M) : ft_rh rh M L n = rh n := if_neg (by omega)
theorem ft_rh_new {rh : Nat → Nat} {M L i : Nat} (h1 : 1 ≤ i) (h2 : i ≤ L) : ft_rh rh M L (M + i) = M + (L + 1 - i) := by
  unfold ft_rh
  rw [if_pos (by omega)]
  omega
theorem cR.rep {rh : Nat → Nat} {M : Nat} (h : cR rh M) (L : Nat) : cR (ft_rh rh M L) (M + L) := by
  have key : ∀ n, 1 ≤ n → n ≤ M + L → (n ≤ M ∧ ft_rh rh M L n = rh n ∧ 1 ≤ rh n ∧ rh n ≤ M) ∨ (M < n ∧ ft_rh rh M L n = M + (M + L + 1 - n)) := fun n h1 h2 => by
    by_cases h3 : n ≤ M
    · exact Or.inl ⟨h3, ft_rh_old h3, h.2.1 n h1 h3⟩
    · exact Or.inr ⟨by omega, if_pos (by omega)⟩
  refine ⟨fun n hn => ?_, fun n h1 h2 => ?_, fun m n h1 h2 h3 h4 e => ?_⟩
  · unfold ft_rh
    rw [if_neg (by omega)]
    exact h.1 n (by omega)
  · rcases key n h1 h2 with ⟨a1, a2, a3, a4⟩ | ⟨a1, a2⟩ <;> omega
  · rcases key m h1 h2 with ⟨a1, a2, a3, a4⟩ | ⟨a1, a2⟩ <;> rcases key n h3 h4 with ⟨c1, c2, c3, c4⟩ | ⟨c1, c2⟩
    · exact h.2.2 m n h1 a1 h3 c1 (by omega)
    · omega
    · omega
    · omega
set_option maxRecDepth 100000 in
set_option maxHeartbeats 4000000 in
theorem A_F_replace (l : Launch) (D : va_G) (A : Nat → ClassId) (H0 : Heap) (S : Nat → Prop) (b0 u ks bv ar : Nat) (hd : cDs b0 u ks bv ar) (q : ft_Q) (hq : sp_ok2 q) (w : Nat) (hw : w < 100000) (hG : cG D A S b0 u ks bv ar q w H0) (v : Int32) (p : Int32) (lo : Int32) (hi : Int32) : xC l y_F_replace c_F_replace 5 (some .int) 26 D A H0 [.ref b0, .int v, .int p, .int lo, .int hi] (xA (cSt b0 u ks bv ar) H0) (q1 (.int (sp_replace q v p lo hi).1) (fun H1 => cG D A S b0 u ks bv ar (sp_replace q v p lo hi).2 (w + 1) H1)) (5000 * ((sp_replace q v p lo hi).2.1.length - q.1.length)) (50000 * ((sp_replace q v p lo hi).2.1.length - q.1.length)) := by
  obtain ⟨hSS, hSb, rh, nn, em, lt, vs, mv, hR, hF⟩ := hG
  obtain ⟨hO, hU, hKs, hV, hMk, hmv, hlt, hvs, hver⟩ := hF
  have hl1 := hq.1.1
  have hl2 := hq.1.2.1
  obtain ⟨d1, d2, d3, d4, d5, d6, d7, d8, d9, d10⟩ := id hd
  have n_b0_u : ¬ b0 = u := d1
  have n_ks_u : ¬ ks = u := fun h => d5 h.symm
  have n_bv_u : ¬ bv = u := fun h => d6 h.symm
  have n_ar_u : ¬ ar = u := fun h => d7 h.symm
  have hmd0 := sp_md hq
  have hver : cVs D A S rh q.2.2 q.1 vs H0 := hver
  have hkeep : cG D A S b0 u ks bv ar q (w + 1) H0 := ⟨hSS, hSb, rh, nn, em, lt, vs, mv, hR, hO, hU, hKs, hV, hMk, hmv, by omega, hvs, hver⟩
  rcases sp_at_cases hq v with ⟨hv, hat⟩ | ⟨j, t, rfl, hj, hjt, hat⟩
  · skip
    rw [show sp_replace q v p lo hi = (-1, q) from by unfold sp_replace; rw [hat]]
    refine xC.of rfl (Nat.le_of_ble_eq_true rfl) ?_
    intro p_ e_ s_ m_ ar_ bl_ me_ c_ ls X hl
    have hl : lz ls 5 [some (.ref b0), some (.int v), some (.int p), some (.int lo), some (.int hi)] := hl
    have hS : va_S (xA (cSt b0 u ks bv ar) H0) H0 H0 [] := va_S.rf
    refine x_aload_n X d_F_replace_0 rfl hl rfl ?_
    refine x_iload_n X d_F_replace_1 rfl hl rfl ?_
    refine x_iload_n X d_F_replace_2 rfl hl rfl ?_
    refine x_goR (x_runV X (C_F_isPlace_n l D A _ b0 u ks bv q.1.length hO hl2 v p hv) b_F_isPlace s_F_isPlace v_F_isPlace e_F_95 hO rfl rfl hl rfl (Nat.le_of_ble_eq_true rfl) d_F_replace_3 (by dsimp only [x_rm]; omega) (by dsimp only [x_rm]; omega) ⟨(by dsimp only [x_rm]; omega), (by dsimp only [x_rm]; omega)⟩) hS (fun locs hS => ?_)
    refine n_if_eq X 15 d_F_replace_6 rfl (by decide) (fun hc_ => ?_) (fun hc => absurd rfl hc)
    refine x_iconst (v := -1) X d_F_replace_15 rfl ?_
    exact x_iret X hS (Nat.zero_le _) (Nat.zero_le _) d_F_replace_16 ⟨rfl, hkeep⟩
  have ht := hq.1.2.2.1 t (List.mem_of_getElem? hjt)
  have hz40 := ht.2
  obtain ⟨ta, hta, hT⟩ := hver j t hjt
  obtain ⟨tl, tr, tmv, trs, tO⟩ := cT_obj hT
  have hz : ft_zT t.1 t.2 < 64 := by omega
  have h5 := ft_len5 ht.1 hz
  by_cases hp : p < 0 ∨ nI (ft_zT t.1 t.2) ≤ p
  · skip
    rw [show sp_replace q (nI j) p lo hi = (-1, q) from by unfold sp_replace; rw [hat]; dsimp only; rw [if_pos (hp.elim Or.inl (fun h => Or.inr (Or.inl h)))]]
    refine xC.of rfl (Nat.le_of_ble_eq_true rfl) ?_
    intro p_ e_ s_ m_ ar_ bl_ me_ c_ ls X hl
    have hl : lz ls 5 [some (.ref b0), some (.int (nI j)), some (.int p), some (.int lo), some (.int hi)] := hl
    have hS : va_S (xA (cSt b0 u ks bv ar) H0) H0 H0 [] := va_S.rf
    refine x_aload_n X d_F_replace_0 rfl hl rfl ?_
    refine x_iload_n X d_F_replace_1 rfl hl rfl ?_
    refine x_iload_n X d_F_replace_2 rfl hl rfl ?_
    refine x_goR (x_runV X (C_F_isPlace_f l D A _ b0 u ks bv q.1.length hO hl2 vs hV hvs j ta (ft_zT t.1 t.2) hj hta tl tr tmv trs tO.2 hz p hp) b_F_isPlace s_F_isPlace v_F_isPlace e_F_95 hO rfl rfl hl rfl (Nat.le_of_ble_eq_true rfl) d_F_replace_3 (by dsimp only [x_rm]; omega) (by dsimp only [x_rm]; omega) ⟨(by dsimp only [x_rm]; omega), (by dsimp only [x_rm]; omega)⟩) hS (fun locs hS => ?_)
    refine n_if_eq X 15 d_F_replace_6 rfl (by decide) (fun hc_ => ?_) (fun hc => absurd rfl hc)
    refine x_iconst (v := -1) X d_F_replace_15 rfl ?_
    exact x_iret X hS (Nat.zero_le _) (Nat.zero_le _) d_F_replace_16 ⟨rfl, hkeep⟩
  obtain ⟨pp, hpp, rfl⟩ := nI_of (fun h => hp (Or.inl h))
  have hpz : pp < ft_zT t.1 t.2 := Nat.lt_of_not_le (fun h => hp (Or.inr ((nI_leI (by omega) hpp).2 h)))
  have hcl := nI_clamp hpp
  by_cases hlh : hi < lo
  · skip
    rw [show sp_replace q (nI j) (nI pp) lo hi = (-1, q) from by unfold sp_replace; rw [hat]; dsimp only; rw [if_pos (Or.inr (Or.inr hlh))]]
    refine xC.of rfl (Nat.le_of_ble_eq_true rfl) ?_
    intro p_ e_ s_ m_ ar_ bl_ me_ c_ ls X hl
    have hl : lz ls 5 [some (.ref b0), some (.int (nI j)), some (.int (nI pp)), some (.int lo), some (.int hi)] := hl
    have hS : va_S (xA (cSt b0 u ks bv ar) H0) H0 H0 [] := va_S.rf
    refine x_aload_n X d_F_replace_0 rfl hl rfl ?_
    refine x_iload_n X d_F_replace_1 rfl hl rfl ?_
    refine x_iload_n X d_F_replace_2 rfl hl rfl ?_
    refine x_goR (x_runV X (C_F_isPlace_t l D A _ b0 u ks bv q.1.length hO hl2 vs hV hvs j ta (ft_zT t.1 t.2) hj hta tl tr tmv trs tO.2 hz pp hpz) b_F_isPlace s_F_isPlace v_F_isPlace e_F_95 hO rfl rfl hl rfl (Nat.le_of_ble_eq_true rfl) d_F_replace_3 (by dsimp only [x_rm]; omega) (by dsimp only [x_rm]; omega) ⟨(by dsimp only [x_rm]; omega), (by dsimp only [x_rm]; omega)⟩) hS (fun locs hS => ?_)
    refine n_if_eq X 15 d_F_replace_6 rfl (by decide) (fun hc => absurd hc (by decide)) (fun hc_ => ?_)
    refine x_iload_n X d_F_replace_9 rfl hl rfl ?_
    refine x_iload X d_F_replace_10 hl rfl ?_
    refine x_icmp_le X 17 d_F_replace_12 rfl (fun h => absurd hlh (Int32.not_lt.2 h)) (fun _ => ?_)
    refine x_iconst (v := -1) X d_F_replace_15 rfl ?_
    exact x_iret X hS (Nat.zero_le _) (Nat.zero_le _) d_F_replace_16 ⟨rfl, hkeep⟩
  have hor : ¬ (nI pp < 0 ∨ nI (ft_zT t.1 t.2) ≤ nI pp ∨ hi < lo) := fun h => h.elim (fun h => hp (Or.inl h)) (fun h => h.elim (fun h => hp (Or.inr h)) hlh)
  by_cases hn : 120 ≤ q.1.length
  · skip
    rw [show sp_replace q (nI j) (nI pp) lo hi = (-2, q) from by unfold sp_replace; rw [hat]; dsimp only; rw [if_neg hor, if_pos hn]]
    refine xC.of rfl (Nat.le_of_ble_eq_true rfl) ?_
    intro p_ e_ s_ m_ ar_ bl_ me_ c_ ls X hl
    have hl : lz ls 5 [some (.ref b0), some (.int (nI j)), some (.int (nI pp)), some (.int lo), some (.int hi)] := hl
    have hS : va_S (xA (cSt b0 u ks bv ar) H0) H0 H0 [] := va_S.rf
    refine x_aload_n X d_F_replace_0 rfl hl rfl ?_
    refine x_iload_n X d_F_replace_1 rfl hl rfl ?_
    refine x_iload_n X d_F_replace_2 rfl hl rfl ?_
    refine x_goR (x_runV X (C_F_isPlace_t l D A _ b0 u ks bv q.1.length hO hl2 vs hV hvs j ta (ft_zT t.1 t.2) hj hta tl tr tmv trs tO.2 hz pp hpz) b_F_isPlace s_F_isPlace v_F_isPlace e_F_95 hO rfl rfl hl rfl (Nat.le_of_ble_eq_true rfl) d_F_replace_3 (by dsimp only [x_rm]; omega) (by dsimp only [x_rm]; omega) ⟨(by dsimp only [x_rm]; omega), (by dsimp only [x_rm]; omega)⟩) hS (fun locs hS => ?_)
    refine n_if_eq X 15 d_F_replace_6 rfl (by decide) (fun hc => absurd hc (by decide)) (fun hc_ => ?_)
    refine x_iload_n X d_F_replace_9 rfl hl rfl ?_
    refine x_iload X d_F_replace_10 hl rfl ?_
    refine x_icmp_le X 17 d_F_replace_12 rfl (fun _ => ?_) (fun h => absurd (Int32.not_lt.1 hlh) h)
    refine x_aload_n X d_F_replace_17 rfl hl rfl ?_
    refine x_iconst (v := nI 1) X d_F_replace_18 rfl ?_
    refine x_goR (x_runV X (C_F_hasRoomFor l D A _ b0 u ks bv q.1.length hO hl2 1 (by decide)) b_F_hasRoomFor s_F_hasRoomFor v_F_hasRoomFor e_F_41 hO rfl rfl hl rfl (Nat.le_of_ble_eq_true rfl) d_F_replace_19 (by dsimp only [x_rm]; omega) (by dsimp only [x_rm]; omega) ⟨(by dsimp only [x_rm]; omega), (by dsimp only [x_rm]; omega)⟩) hS (fun locs hS => ?_)
    rw [if_neg (by omega)]
    refine n_if_ne X 28 d_F_replace_22 rfl (by decide) (fun hc => absurd rfl hc) (fun hc_ => ?_)
    refine x_bipush (v := -2) X d_F_replace_25 rfl ?_
    exact x_iret X hS (Nat.zero_le _) (Nat.zero_le _) d_F_replace_27 ⟨rfl, hkeep⟩
  have ht0 := ht.1
  have hE : ∀ (e : Nat) (x : Int32 × Int32), q.2.2[e]? = some x → (q.2.2 ++ [(lo, hi)])[e]? = some x := fun e x h => by rw [List.getElem?_append_left (List.getElem?_eq_some_iff.1 h).1]; exact h
  have hEl : (q.2.2 ++ [(lo, hi)]).length = q.2.2.length + 1 := by simp
  have hT := hT.tr (cTr.rf S H0) hE
  have hver := hver.tr (cTr.rf S H0) hE
  have hU : cUs D A S rh (q.2.2 ++ [(lo, hi)]) u nn em q.2.1.1 H0 := ⟨hU.1, hU.2.1, hU.2.2.1.tr (cTr.rf S H0) hE, hU.2.2.2⟩
  have hrq : ∀ n, 1 ≤ n → n ≤ q.2.1.1 → (ft_rh rh q.2.1.1 (ft_lo t.1 t.2 pp)) n = rh n := fun n _ h => ft_rh_old h
  have hT := cT.rho hrq ht0 hT
  have hver : cVs D A S (ft_rh rh q.2.1.1 (ft_lo t.1 t.2 pp)) (q.2.2 ++ [(lo, hi)]) q.1 vs H0 := fun i x hi => by
    obtain ⟨a, h1, h2⟩ := hver i x hi
    exact ⟨a, h1, cT.rho hrq (hq.1.2.2.1 x (List.mem_of_getElem? hi)).1 h2⟩
  have hU : cUs D A S (ft_rh rh q.2.1.1 (ft_lo t.1 t.2 pp)) (q.2.2 ++ [(lo, hi)]) u nn em q.2.1.1 H0 := ⟨hU.1, hU.2.1, cT.rho (ne := 0) (mm := q.2.1.1) (zf := q.2.1.2) (k := 0) hrq trivial hU.2.2.1, hU.2.2.2⟩
  have okx := sp_new_ok q lo hi (c := q.2.1)
  have okT := sp_t_ok hq (List.mem_of_getElem? hjt) (q.2.2 ++ [(lo, hi)]) (by omega)
  have hzx : ft_z (sp_new q) = 1 := rfl
  have hrt := ft_rT_ok (c := q.2.1) t.1 0 pp okx okT hpz
  have hrn := ft_rT_n (c := q.2.1) t.1 0 pp okx okT hpz
  have hlo5 := ft_lo_le t.1 t.2 pp
  have hR := hR.rep (ft_lo t.1 t.2 pp)
  have hrw : ∀ i, 1 ≤ i → i ≤ 0 + ft_lo t.1 t.2 pp → (ft_rh rh q.2.1.1 (ft_lo t.1 t.2 pp)) (q.2.1.1 + i) = q.2.1.1 + (0 + ft_lo t.1 t.2 pp + 1 - i) := fun i h1 h2 => by
    rw [ft_rh_new h1 (by omega)]
    omega
  obtain ⟨rh, hrhE⟩ : ∃ r, (ft_rh rh q.2.1.1 (ft_lo t.1 t.2 pp)) = r := ⟨_, rfl⟩
  rw [hrhE] at hT hver hU hR hrw
  have hsp : sp_replace q (nI j) (nI pp) lo hi = sp_keep q (ft_rT 0 t.1 t.2 pp (sp_new q) q.2.1).1 (ft_rT 0 t.1 t.2 pp (sp_new q) q.2.1).2 (q.2.2 ++ [(lo, hi)]) := by
    unfold sp_replace; rw [hat]; dsimp only; rw [if_neg hor, if_neg hn, hcl]
  have hmc : (sp_replace q (nI j) (nI pp) lo hi).2.1.length - q.1.length = 1 := by
    rw [hsp]
    simp [sp_keep]
  rw [hmc, hsp]
  refine xC.of rfl (Nat.le_of_ble_eq_true rfl) ?_
  intro p_ e_ s_ m_ ar_ bl_ me_ c_ ls X hl
  have hl : lz ls 5 [some (.ref b0), some (.int (nI j)), some (.int (nI pp)), some (.int lo), some (.int hi)] := hl
  have hS : va_S (xA (cSt b0 u ks bv ar) H0) H0 H0 [] := va_S.rf
  have hSu : S u := hU.2.2.2
  have hSk := hSS ks (Or.inr (Or.inr (Or.inl rfl)))
  refine x_aload_n X d_F_replace_0 rfl hl rfl ?_
  refine x_iload_n X d_F_replace_1 rfl hl rfl ?_
  refine x_iload_n X d_F_replace_2 rfl hl rfl ?_
  refine x_goR (x_runV X (C_F_isPlace_t l D A _ b0 u ks bv q.1.length hO hl2 vs hV hvs j ta (ft_zT t.1 t.2) hj hta tl tr tmv trs tO.2 hz pp hpz) b_F_isPlace s_F_isPlace v_F_isPlace e_F_95 hO rfl rfl hl rfl (Nat.le_of_ble_eq_true rfl) d_F_replace_3 (by dsimp only [x_rm]; omega) (by dsimp only [x_rm]; omega) ⟨(by dsimp only [x_rm]; omega), (by dsimp only [x_rm]; omega)⟩) hS (fun locs hS => ?_)
  refine n_if_eq X 15 d_F_replace_6 rfl (by decide) (fun hc => absurd hc (by decide)) (fun hc_ => ?_)
  refine x_iload_n X d_F_replace_9 rfl hl rfl ?_
  refine x_iload X d_F_replace_10 hl rfl ?_
  refine x_icmp_le X 17 d_F_replace_12 rfl (fun _ => ?_) (fun h => absurd (Int32.not_lt.1 hlh) h)
  refine x_aload_n X d_F_replace_17 rfl hl rfl ?_
  refine x_iconst (v := nI 1) X d_F_replace_18 rfl ?_
  refine x_goR (x_runV X (C_F_hasRoomFor l D A _ b0 u ks bv q.1.length hO hl2 1 (by decide)) b_F_hasRoomFor s_F_hasRoomFor v_F_hasRoomFor e_F_41 hO rfl rfl hl rfl (Nat.le_of_ble_eq_true rfl) d_F_replace_19 (by dsimp only [x_rm]; omega) (by dsimp only [x_rm]; omega) ⟨(by dsimp only [x_rm]; omega), (by dsimp only [x_rm]; omega)⟩) hS (fun locs hS => ?_)
  rw [if_pos (by omega)]
  refine n_if_ne X 28 d_F_replace_22 rfl (by decide) (fun hc_ => ?_) (fun hc => absurd hc (by decide))
  refine x_aload_n X d_F_replace_28 rfl hl rfl ?_
  refine x_aload_n X d_F_replace_29 rfl hl rfl ?_
  refine x_get X gF hO 0 (by decide) e_F_12 rfl d_F_replace_30 ?_
  refine x_aload_n X d_F_replace_33 rfl hl rfl ?_
  refine x_get X gF hO 2 (by decide) e_F_25 rfl d_F_replace_34 ?_
  refine x_iload_n X d_F_replace_37 rfl hl rfl ?_
  refine x_ver X hV hta (by omega) d_F_replace_38 ?_
  refine x_iload_n X d_F_replace_39 rfl hl rfl ?_
  have zz := hS.1
  refine x_newO (S := S) X gI e_F_47 n_I i_I x_defI hS hSb (by dsimp only [x_rm]; omega) (by dsimp only [x_rm]; omega) d_F_replace_40 (fun it G1 h_it hIt hF1 t_it hS sb_ => ?_)
  have no_it : ¬ (S) it := c_ub hSb h_it
  have n_it_b0 : ¬ it = b0 := Nat.ne_of_gt (Nat.lt_of_lt_of_le (c_lt hO) h_it)
  have n_b0_it : ¬ b0 = it := Nat.ne_of_lt (Nat.lt_of_lt_of_le (c_lt hO) h_it)
  have n_it_ks : ¬ it = ks := Nat.ne_of_gt (Nat.lt_of_lt_of_le (c_lt hKs) h_it)
  have n_ks_it : ¬ ks = it := Nat.ne_of_lt (Nat.lt_of_lt_of_le (c_lt hKs) h_it)
  have n_it_bv : ¬ it = bv := Nat.ne_of_gt (Nat.lt_of_lt_of_le (c_lt hV) h_it)
  have n_bv_it : ¬ bv = it := Nat.ne_of_lt (Nat.lt_of_lt_of_le (c_lt hV) h_it)
  have n_it_ar : ¬ it = ar := Nat.ne_of_gt (Nat.lt_of_lt_of_le (c_lt hMk) h_it)
  have n_ar_it : ¬ ar = it := Nat.ne_of_lt (Nat.lt_of_lt_of_le (c_lt hMk) h_it)
  have n_it_u : ¬ it = u := Nat.ne_of_gt (Nat.lt_of_lt_of_le (c_lt hU.1) h_it)
  have n_u_it : ¬ u = it := Nat.ne_of_lt (Nat.lt_of_lt_of_le (c_lt hU.1) h_it)
  have t_ : cTr S (fun q => S q ∨ q = it) H0 G1 := t_it
  have hO := hF1.kp hO (fun h => h)
  have hKs := hF1.kp hKs (fun h => h)
  have hV := hF1.kp hV (fun h => h)
  have hMk := hF1.kp hMk (fun h => h)
  have hver := hver.tr t_ (fun _ _ h => h)
  have hT := hT.tr t_ (fun _ _ h => h)
  have tO := tO.tr t_
  have hU := hU.mv t_ hF1 (fun h => h) (by first | exact hSu | exact Or.inl hSu | exact Or.inl (Or.inl hSu))
  have hSb : ∀ q, (S q ∨ q = it) → q < G1.size := sb_
  have z_it : H0.size ≤ it := Nat.le_trans zz h_it
  refine x_dup X d_F_replace_43 rfl ?_
  refine x_iload_n X d_F_replace_44 rfl hl rfl ?_
  refine x_iload X d_F_replace_45 hl rfl ?_
  have hSbI := hSb
  refine x_go0 (x_runIN X (C_I_init l D A _ it (va_P1 hIt) lo hi) b_I_init rfl s_I_init e_F_49 rfl hl rfl (Nat.le_of_ble_eq_true rfl) d_F_replace_47 (by dsimp only [x_rm]; omega) (by dsimp only [x_rm]; omega) ⟨(by dsimp only [x_rm]; omega), (by dsimp only [x_rm]; omega)⟩) hS (xA.one z_it hS.1) (fun G2 locs hIt_ hF2 hS => ?_)
  have t_ : cTr (fun q => S q ∨ q = it) S G1 G2 := cTr.done hF2
  have hO := hF2.kp hO (xA.no (c_lt hO) n_b0_it)
  have hKs := hF2.kp hKs (xA.no (c_lt hKs) n_ks_it)
  have hV := hF2.kp hV (xA.no (c_lt hV) n_bv_it)
  have hMk := hF2.kp hMk (xA.no (c_lt hMk) n_ar_it)
  have hver := hver.tr t_ (fun _ _ h => h)
  have hT := hT.tr t_ (fun _ _ h => h)
  have tO := tO.tr t_
  have hU := hU.mv t_ hF2 (xA.no (c_lt hU.1) n_u_it) hSu
  have hSb := c_sbo hSb hF2.1
  have hIt := hIt_
  obtain ⟨ir, i1, i2, i3⟩ := hIt
  have hx : cI D A S rh (q.2.2 ++ [(lo, hi)]) (sp_new q) [it] G2 := ⟨it, ir, lo, hi, rfl, by simp, ⟨no_it, i1⟩, ⟨fun h => absurd (hSbI ir (Or.inl h)) (Nat.not_lt.2 i3), cArr_ext i2 (fun i h => absurd h (Nat.not_lt_zero _))⟩⟩
  refine x_gor (x_runVN X (C_U_withEntry l D A _ S rh (q.2.2 ++ [(lo, hi)]) (q.2.2 ++ [(lo, hi)]).length q.2.1 u nn em q.2.1.1 hU hSb 0 t.1 t.2 ta okT hT hz pp hpz hrw (sp_new q) it okx hx) b_U_withEntry s_U_withEntry v_U_withEntry e_F_99 hU.1 rfl rfl hl rfl (Nat.le_of_ble_eq_true rfl) d_F_replace_50 (by dsimp only [x_rm]; omega) (by dsimp only [x_rm]; omega) ⟨(by dsimp only [x_rm]; omega), (by dsimp only [x_rm]; omega)⟩) hS (xA.mono (fun _ h => Or.inr (Or.inl h)) hS.1) (fun r G3 locs hFr hF3 hS => ?_)
  have t_ : cTr S S G2 G3 := cTr.fr hF3 (fun q h => by rw [h]; exact hU.2.2.2)
  have hO := hF3.kp hO (xA.no (c_lt hO) n_b0_u)
  have hKs := hF3.kp hKs (xA.no (c_lt hKs) n_ks_u)
  have hV := hF3.kp hV (xA.no (c_lt hV) n_bv_u)
  have hMk := hF3.kp hMk (xA.no (c_lt hMk) n_ar_u)
  have hver := hver.tr t_ (fun _ _ h => h)
  have hT := hT.tr t_ (fun _ _ h => h)
  have tO := tO.tr t_
  have hx := hx.tr t_ (fun _ _ h => h)
  have hU := hFr.2
  have hSb := c_sb hSb hF3.1
  have hFr1 := hFr.1
  rw [← hrn] at hU
  have hR : cR rh (ft_rT 0 t.1 t.2 pp (sp_new q) q.2.1).2.1 := by rw [hrn, Nat.zero_add]; exact hR
  obtain ⟨kl_, kr_, km_, ks_, kO_⟩ := cT_obj hFr1
  have hst : cF D A S b0 u ks bv ar rh (q.1, (ft_rT 0 t.1 t.2 pp (sp_new q) q.2.1).2, (q.2.2 ++ [(lo, hi)])) w nn em lt vs mv G3 := ⟨hO, hU, hKs, hV, hMk, hmv, hlt, hvs, hver⟩
  refine x_go1 (x_runV X (C_F_keep l D A _ b0 u ks bv (q.1.length) hO (vs) hV d3 hvs (by omega) r _ kO_.2) b_F_keep s_F_keep v_F_keep e_F_56 hO rfl rfl hl rfl (Nat.le_of_ble_eq_true rfl) d_F_replace_53 (by dsimp only [x_rm]; omega) (by dsimp only [x_rm]; omega) ⟨(by dsimp only [x_rm]; omega), (by dsimp only [x_rm]; omega)⟩) hS (fun x h => Or.inl (h.elim Or.inl (fun h => Or.inr (Or.inr (Or.inr (Or.inl h)))))) (fun G4 locs hC hF4 hS => ?_)
  have hK1 := cF.keep hd hSS hst hFr1 hF4 hC
  exact x_iret X hS (by omega) (by omega) d_F_replace_56 ⟨rfl, hSS, c_sb hSb hF4.1, rh, nn, em, lt, _, mv, hR, hK1.1, hK1.2.1, hK1.2.2.1, hK1.2.2.2.1, hK1.2.2.2.2.1, hmv, by omega, hK1.2.2.2.2.2.2.2.1, hK1.2.2.2.2.2.2.2.2⟩
