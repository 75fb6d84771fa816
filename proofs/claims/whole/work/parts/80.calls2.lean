/-! The class, call by call: insert, removeTop. -/
theorem sp_find_eq {P : Nat → Bool} : ∀ (n j m : Nat), j ≤ m → m < j + n → P m = true → (∀ i, j ≤ i → i < m → P i = false) → sp_find P n j = m := by
  intro n
  induction n with
  | zero => intro j m h1 h2; omega
  | succ n ih =>
    intro j m h1 h2 hP hno
    unfold sp_find
    by_cases h : j = m
    · subst h; rw [hP]; rfl
    · rw [hno j (Nat.le_refl _) (by omega)]
      exact ih (j + 1) m (by omega) (by omega) hP (fun i h3 h4 => hno i (by omega) h4)
theorem sp_find_no {P : Nat → Bool} : ∀ (n j : Nat), (∀ i, j ≤ i → i < j + n → P i = false) → sp_find P n j = j + n := by
  intro n
  induction n with
  | zero => intro j _; rfl
  | succ n ih =>
    intro j hno
    unfold sp_find
    rw [hno j (Nat.le_refl _) (by omega)]
    exact (ih (j + 1) (fun i h1 h2 => hno i (by omega) (by omega))).trans (by omega)
theorem sp_ip_sp (lo : Int32) : ∀ (es : ft_E), (∀ i e, i < sp_ip lo es → es[i]? = some e → e.1 < lo) ∧ (∀ e, es[sp_ip lo es]? = some e → ¬ e.1 < lo) := by
  intro es
  induction es with
  | nil => exact ⟨fun i e h => absurd h (Nat.not_lt_zero _), fun e h => by simp at h⟩
  | cons x es ih =>
    unfold sp_ip
    by_cases h : x.1 < lo
    · rw [if_pos h]
      refine ⟨fun i e h1 h2 => ?_, fun e h2 => ?_⟩
      · cases i with
        | zero => simp at h2; rw [← h2]; exact h
        | succ i => exact ih.1 i e (by omega) (by simpa using h2)
      · rw [Nat.add_comm, List.getElem?_cons_succ] at h2
        exact ih.2 e h2
    · rw [if_neg h]
      exact ⟨fun i e h1 => absurd h1 (Nat.not_lt_zero _), fun e h2 => by simp at h2; rw [← h2]; exact h⟩
theorem ft_i64 {a b : Int32} : a.toInt64 < b.toInt64 ↔ a < b := by
  rw [Int64.lt_iff_toInt_lt, Int32.toInt_toInt64, Int32.toInt_toInt64, ← Int32.lt_iff_toInt_lt]
theorem ft_fold_lt {x : Int32 × Int32 → Int64} {lim : Int64} : ∀ (l : ft_E) (s : Int64), l.foldl (fun s e => if s < x e then x e else s) s < lim ↔ s < lim ∧ ∀ e ∈ l, x e < lim := by
  intro l
  induction l with
  | nil => intro s; simp
  | cons a l ih =>
    intro s
    rw [List.foldl_cons, ih]
    by_cases h : s < x a
    · rw [if_pos h]
      constructor
      · rintro ⟨h1, h2⟩
        exact ⟨Int64.lt_trans h h1, fun e he => by
          rcases List.mem_cons.1 he with rfl | he
          · exact h1
          · exact h2 e he⟩
      · rintro ⟨h1, h2⟩
        exact ⟨h2 a (by simp), fun e he => h2 e (by simp [he])⟩
    · rw [if_neg h]
      constructor
      · rintro ⟨h1, h2⟩
        exact ⟨h1, fun e he => by
          rcases List.mem_cons.1 he with rfl | he
          · exact Int64.lt_of_le_of_lt (Int64.not_lt.1 h) h1
          · exact h2 e he⟩
      · rintro ⟨h1, h2⟩
        exact ⟨h1, fun e he => h2 e (by simp [he])⟩
theorem ft_tt_lt {k : Int32} {lim : Int64} (l : ft_E) : sp_tt k l < lim ↔ (-2147483648 : Int64) < lim ∧ ∀ e ∈ l, sp_x k e < lim := ft_fold_lt l _
theorem ft_least (x : Int32) : ¬ x.toInt64 < (-2147483648 : Int64) := by
  rw [Int64.lt_iff_toInt_lt, Int32.toInt_toInt64]
  have := Int32.le_toInt x
  have e : (-2147483648 : Int64).toInt = -2147483648 := by decide +kernel
  rw [e]
  omega
/-- where the total of the greatest passes the limit -/
theorem ft_gtP {n : Nat} (hn : n = 1 ∨ n = 2) {x lim : Int64} : (decide (lim < x) || (decide (x = lim) && (decide (nI n = 1) || decide (nI n = 2)))) = decide (¬ x < lim) := by
  have e1 : (decide (nI n = 1) || decide (nI n = 2)) = true := by rcases hn with rfl | rfl <;> rfl
  rw [e1, Bool.and_true]
  by_cases h : x < lim
  · rw [decide_eq_false (Int64.lt_asymm h), decide_eq_false (fun h2 => Int64.lt_irrefl (by rw [h2] at h; exact h)), decide_eq_false (fun h2 => h2 h)]
    rfl
  · rw [decide_eq_true h]
    by_cases h2 : lim < x
    · rw [decide_eq_true h2]; rfl
    · rw [decide_eq_true (Int64.le_antisymm (Int64.not_lt.1 h2) (Int64.not_lt.1 h)), Bool.or_true]
theorem ft_take_mem {es : ft_E} {j : Nat} {e : Int32 × Int32} : e ∈ es.take (j + 1) ↔ ∃ i, i ≤ j ∧ es[i]? = some e := by
  rw [List.mem_iff_getElem?]
  constructor
  · rintro ⟨i, hi⟩
    rw [List.getElem?_take] at hi
    split at hi
    · exact ⟨i, by omega, hi⟩
    · cases hi
  · rintro ⟨i, h1, h2⟩
    exact ⟨i, by rw [List.getElem?_take, if_pos (by omega)]; exact h2⟩
theorem ft_ip (lo : Int32) (es : ft_E) : sp_find (fun j => decide (lo.toInt64 < sp_tot (nI 1) (es.take (j + 1))) || (decide (sp_tot (nI 1) (es.take (j + 1)) = lo.toInt64) && (decide (nI 1 = 1) || decide (nI 1 = 2)))) es.length 0 = sp_ip lo es := by
  obtain ⟨h1, h2⟩ := sp_ip_sp lo es
  have hle := sp_ip_le lo es
  have hx : ∀ e, sp_x (nI 1) e = e.1.toInt64 := fun e => rfl
  have hP : ∀ j, (decide (lo.toInt64 < sp_tot (nI 1) (es.take (j + 1))) || (decide (sp_tot (nI 1) (es.take (j + 1)) = lo.toInt64) && (decide (nI 1 = 1) || decide (nI 1 = 2)))) = decide (¬ sp_tt (nI 1) (es.take (j + 1)) < lo.toInt64) := fun j => by rw [ft_gtP (Or.inl rfl), ft_tot1]
  have hfalse : ∀ j, j < sp_ip lo es → decide (¬ sp_tt (nI 1) (es.take (j + 1)) < lo.toInt64) = false := fun j hj => by
    refine decide_eq_false (fun h => h ((ft_tt_lt _).2 ⟨?_, fun e he => ?_⟩))
    · have hj2 : j < es.length := by omega
      have h3 := h1 j es[j] hj (List.getElem?_eq_getElem hj2)
      exact Int64.lt_of_le_of_lt (Int64.not_lt.1 (ft_least _)) (ft_i64.2 h3)
    · obtain ⟨i, h3, h4⟩ := ft_take_mem.1 he
      rw [hx]
      exact ft_i64.2 (h1 i e (by omega) h4)
  by_cases hc : sp_ip lo es < es.length
  · refine sp_find_eq _ _ _ (Nat.zero_le _) (by omega) ?_ (fun i _ hi => (hP i).trans (hfalse i hi))
    refine (hP _).trans (decide_eq_true (fun h => ?_))
    have h3 := ((ft_tt_lt _).1 h).2 es[sp_ip lo es] (ft_take_mem.2 ⟨_, Nat.le_refl _, List.getElem?_eq_getElem hc⟩)
    rw [hx] at h3
    exact h2 _ (List.getElem?_eq_getElem hc) (ft_i64.1 h3)
  · rw [sp_find_no _ _ (fun i _ hi => (hP i).trans (hfalse i (by omega)))]
    omega
theorem sp_top_sp : ∀ (l : ft_E) (i : Nat) (b : Int32) (j : Nat), (sp_top i b j l = i ∧ ∀ e ∈ l, ¬ b < e.2) ∨ ∃ k e, l[k]? = some e ∧ sp_top i b j l = j + k ∧ b < e.2 ∧ (∀ k' e', k' < k → l[k']? = some e' → e'.2 < e.2) ∧ ∀ e' ∈ l, ¬ e.2 < e'.2 := by
  intro l
  induction l with
  | nil => intro i b j; exact Or.inl ⟨rfl, fun e h => by simp at h⟩
  | cons x l ih =>
    intro i b j
    unfold sp_top
    by_cases h : b < x.2
    · rw [if_pos h]
      rcases ih j x.2 (j + 1) with ⟨h1, h2⟩ | ⟨k, e, h1, h2, h3, h4, h5⟩
      · exact Or.inr ⟨0, x, rfl, h1, h, fun k' e' hk => absurd hk (Nat.not_lt_zero _), fun e' he => by
          rcases List.mem_cons.1 he with rfl | he
          · exact Int32.lt_irrefl
          · exact h2 e' he⟩
      · refine Or.inr ⟨k + 1, e, by simpa using h1, by omega, Int32.lt_trans h h3, fun k' e' hk he => ?_, fun e' he => ?_⟩
        · cases k' with
          | zero => simp at he; rw [← he]; exact h3
          | succ k' => exact h4 k' e' (by omega) (by simpa using he)
        · rcases List.mem_cons.1 he with rfl | he
          · exact Int32.lt_asymm h3
          · exact h5 e' he
    · rw [if_neg h]
      rcases ih i b (j + 1) with ⟨h1, h2⟩ | ⟨k, e, h1, h2, h3, h4, h5⟩
      · exact Or.inl ⟨h1, fun e he => by
          rcases List.mem_cons.1 he with rfl | he
          · exact h
          · exact h2 e he⟩
      · refine Or.inr ⟨k + 1, e, by simpa using h1, by omega, h3, fun k' e' hk he => ?_, fun e' he => ?_⟩
        · cases k' with
          | zero => simp at he; rw [← he]; exact Int32.lt_of_le_of_lt (Int32.not_lt.1 h) h3
          | succ k' => exact h4 k' e' (by omega) (by simpa using he)
        · rcases List.mem_cons.1 he with rfl | he
          · exact fun h6 => h (Int32.lt_trans h3 h6)
          · exact h5 e' he
theorem sp_tp_sp {es : ft_E} (h0 : 0 < es.length) : ∃ e, es[sp_tp es]? = some e ∧ (∀ i e', i < sp_tp es → es[i]? = some e' → e'.2 < e.2) ∧ ∀ e' ∈ es, ¬ e.2 < e'.2 := by
  cases es with
  | nil => exact absurd h0 (Nat.not_lt_zero _)
  | cons x l =>
    show ∃ e, (x :: l)[sp_top 0 x.2 1 l]? = some e ∧ (∀ i e', i < sp_top 0 x.2 1 l → (x :: l)[i]? = some e' → e'.2 < e.2) ∧ ∀ e' ∈ x :: l, ¬ e.2 < e'.2
    rcases sp_top_sp l 0 x.2 1 with ⟨h1, h2⟩ | ⟨k, e, h1, h2, h3, h4, h5⟩
    · rw [h1]
      exact ⟨x, rfl, fun i e' hi => absurd hi (Nat.not_lt_zero _), fun e' he => by
        rcases List.mem_cons.1 he with rfl | he
        · exact Int32.lt_irrefl
        · exact h2 e' he⟩
    · rw [h2]
      refine ⟨e, by rw [Nat.add_comm, List.getElem?_cons_succ]; exact h1, fun i e' hi he => ?_, fun e' he => ?_⟩
      · cases i with
        | zero => simp at he; rw [← he]; exact h3
        | succ i => exact h4 i e' (by omega) (by simpa using he)
      · rcases List.mem_cons.1 he with rfl | he
        · exact Int32.lt_asymm h3
        · exact h5 e' he
theorem ft_tp {es : ft_E} (h0 : 0 < es.length) : sp_find (fun j => decide (sp_tot (nI 2) es < sp_tot (nI 2) (es.take (j + 1))) || (decide (sp_tot (nI 2) (es.take (j + 1)) = sp_tot (nI 2) es) && (decide (nI 2 = 1) || decide (nI 2 = 2)))) es.length 0 = sp_tp es := by
  obtain ⟨e, h1, h2, h3⟩ := sp_tp_sp h0
  have hx : ∀ e, sp_x (nI 2) e = e.2.toInt64 := fun e => rfl
  have hlt := (List.getElem?_eq_some_iff.1 h1).1
  have hem := List.mem_of_getElem? h1
  have hge : ∀ l : ft_E, e ∈ l → ¬ sp_tt (nI 2) l < e.2.toInt64 := fun l hl h => Int64.lt_irrefl (((ft_tt_lt _).1 h).2 e hl)
  have hle : ∀ l : ft_E, (∀ e' ∈ l, ¬ e.2 < e'.2) → ¬ e.2.toInt64 < sp_tt (nI 2) l := fun l hl h => by
    refine Int64.lt_irrefl (a := sp_tt (nI 2) l) ((ft_tt_lt _).2 ⟨Int64.lt_of_le_of_lt (Int64.not_lt.1 (ft_least _)) h, fun e' he => Int64.lt_of_le_of_lt (Int64.not_lt.1 (fun h4 => hl e' he (ft_i64.1 h4))) h⟩)
  have htop : sp_tt (nI 2) es = e.2.toInt64 := Int64.le_antisymm (Int64.not_lt.1 (hle es h3)) (Int64.not_lt.1 (hge es hem))
  have hP : ∀ j, (decide (sp_tot (nI 2) es < sp_tot (nI 2) (es.take (j + 1))) || (decide (sp_tot (nI 2) (es.take (j + 1)) = sp_tot (nI 2) es) && (decide (nI 2 = 1) || decide (nI 2 = 2)))) = decide (¬ sp_tt (nI 2) (es.take (j + 1)) < e.2.toInt64) := fun j => by rw [ft_gtP (Or.inr rfl), ft_tot2, ft_tot2, htop]
  refine sp_find_eq _ _ _ (Nat.zero_le _) (by omega) ((hP _).trans (decide_eq_true (hge _ (ft_take_mem.2 ⟨_, Nat.le_refl _, h1⟩)))) (fun i _ hi => (hP i).trans (decide_eq_false (fun h => h ((ft_tt_lt _).2 ⟨?_, fun e' he => ?_⟩))))
  · have hi2 : i < es.length := by omega
    exact Int64.lt_of_le_of_lt (Int64.not_lt.1 (ft_least es[i].2)) (ft_i64.2 (h2 i es[i] hi (List.getElem?_eq_getElem hi2)))
  · obtain ⟨i', h4, h5⟩ := ft_take_mem.1 he
    exact ft_i64.2 (h2 i' e' (by omega) h5)
set_option maxRecDepth 100000 in
set_option maxHeartbeats 4000000 in
theorem A_F_insert (l : Launch) (D : va_G) (A : Nat → ClassId) (H0 : Heap) (S : Nat → Prop) (b0 u ks bv ar : Nat) (hd : cDs b0 u ks bv ar) (q : ft_Q) (hq : sp_ok2 q) (w : Nat) (hw : w < 100000) (hG : cG D A S b0 u ks bv ar q w H0) (v : Int32) (lo : Int32) (hi : Int32) : xC l y_F_insert c_F_insert 7 (some .int) 26 D A H0 [.ref b0, .int v, .int lo, .int hi] (xA (cSt b0 u ks bv ar) H0) (q1 (.int (sp_insert q v lo hi).1) (fun H1 => cG D A S b0 u ks bv ar (sp_insert q v lo hi).2 (w + 1) H1)) (5000 * ((sp_insert q v lo hi).2.1.length - q.1.length)) (50000 * ((sp_insert q v lo hi).2.1.length - q.1.length)) := by
  obtain ⟨hSS, hSb, rh, nn, em, lt, vs, mv, hR, hF⟩ := hG
  obtain ⟨hO, hU, hKs, hV, hMk, hmv, hlt, hvs, hver⟩ := hF
  have hl1 := hq.1.1
  have hl2 := hq.1.2.1
  obtain ⟨d1, d2, d3, d4, d5, d6, d7, d8, d9, d10⟩ := id hd
  have n_b0_u : ¬ b0 = u := d1
  have n_ks_u : ¬ ks = u := fun h => d5 h.symm
  have n_bv_u : ¬ bv = u := fun h => d6 h.symm
  have n_ar_u : ¬ ar = u := fun h => d7 h.symm
  have hmd0 := sp_md hq
  have hver : cVs D A S rh q.2.2 q.1 vs H0 := hver
  have hkeep : cG D A S b0 u ks bv ar q (w + 1) H0 := ⟨hSS, hSb, rh, nn, em, lt, vs, mv, hR, hO, hU, hKs, hV, hMk, hmv, by omega, hvs, hver⟩
  rcases sp_at_cases hq v with ⟨hv, hat⟩ | ⟨j, t, rfl, hj, hjt, hat⟩
  · skip
    rw [show sp_insert q v lo hi = (-1, q) from by unfold sp_insert; rw [hat]]
    refine xC.of rfl (Nat.le_of_ble_eq_true rfl) ?_
    intro p_ e_ s_ m_ ar_ bl_ me_ c_ ls X hl
    have hl : lz ls 7 [some (.ref b0), some (.int v), some (.int lo), some (.int hi), none, none, none] := hl
    have hS : va_S (xA (cSt b0 u ks bv ar) H0) H0 H0 [] := va_S.rf
    refine x_aload_n X d_F_insert_0 rfl hl rfl ?_
    refine x_iload_n X d_F_insert_1 rfl hl rfl ?_
    refine x_goR (x_runV X (C_F_isVersion_f l D A _ b0 u ks bv q.1.length hO hl2 v hv) b_F_isVersion s_F_isVersion v_F_isVersion e_F_37 hO rfl rfl hl rfl (Nat.le_of_ble_eq_true rfl) d_F_insert_2 (by dsimp only [x_rm]; omega) (by dsimp only [x_rm]; omega) ⟨(by dsimp only [x_rm]; omega), (by dsimp only [x_rm]; omega)⟩) hS (fun locs hS => ?_)
    refine n_if_eq X 13 d_F_insert_5 rfl (by decide) (fun hc_ => ?_) (fun hc => absurd rfl hc)
    refine x_iconst (v := -1) X d_F_insert_13 rfl ?_
    exact x_iret X hS (Nat.zero_le _) (Nat.zero_le _) d_F_insert_14 ⟨rfl, hkeep⟩
  have ht := hq.1.2.2.1 t (List.mem_of_getElem? hjt)
  have hz40 := ht.2
  obtain ⟨ta, hta, hT⟩ := hver j t hjt
  obtain ⟨tl, tr, tmv, trs, tO⟩ := cT_obj hT
  have hz : ft_zT t.1 t.2 < 64 := by omega
  have h5 := ft_len5 ht.1 hz
  by_cases hlh : hi < lo
  · skip
    rw [show sp_insert q (nI j) lo hi = (-1, q) from by unfold sp_insert; rw [hat]; dsimp only; rw [if_pos hlh]]
    refine xC.of rfl (Nat.le_of_ble_eq_true rfl) ?_
    intro p_ e_ s_ m_ ar_ bl_ me_ c_ ls X hl
    have hl : lz ls 7 [some (.ref b0), some (.int (nI j)), some (.int lo), some (.int hi), none, none, none] := hl
    have hS : va_S (xA (cSt b0 u ks bv ar) H0) H0 H0 [] := va_S.rf
    refine x_aload_n X d_F_insert_0 rfl hl rfl ?_
    refine x_iload_n X d_F_insert_1 rfl hl rfl ?_
    refine x_goR (x_runV X (C_F_isVersion_t l D A _ b0 u ks bv q.1.length hO hl2 j hj) b_F_isVersion s_F_isVersion v_F_isVersion e_F_37 hO rfl rfl hl rfl (Nat.le_of_ble_eq_true rfl) d_F_insert_2 (by dsimp only [x_rm]; omega) (by dsimp only [x_rm]; omega) ⟨(by dsimp only [x_rm]; omega), (by dsimp only [x_rm]; omega)⟩) hS (fun locs hS => ?_)
    refine n_if_eq X 13 d_F_insert_5 rfl (by decide) (fun hc => absurd hc (by decide)) (fun hc_ => ?_)
    refine x_iload_n X d_F_insert_8 rfl hl rfl ?_
    refine x_iload_n X d_F_insert_9 rfl hl rfl ?_
    refine x_icmp_le X 15 d_F_insert_10 rfl (fun h => absurd hlh (Int32.not_lt.2 h)) (fun _ => ?_)
    refine x_iconst (v := -1) X d_F_insert_13 rfl ?_
    exact x_iret X hS (Nat.zero_le _) (Nat.zero_le _) d_F_insert_14 ⟨rfl, hkeep⟩
  by_cases hn : 120 ≤ q.1.length
  · skip
    rw [show sp_insert q (nI j) lo hi = (-2, q) from by unfold sp_insert; rw [hat]; dsimp only; rw [if_neg hlh, if_pos (Or.inl hn)]]
    refine xC.of rfl (Nat.le_of_ble_eq_true rfl) ?_
    intro p_ e_ s_ m_ ar_ bl_ me_ c_ ls X hl
    have hl : lz ls 7 [some (.ref b0), some (.int (nI j)), some (.int lo), some (.int hi), none, none, none] := hl
    have hS : va_S (xA (cSt b0 u ks bv ar) H0) H0 H0 [] := va_S.rf
    refine x_aload_n X d_F_insert_0 rfl hl rfl ?_
    refine x_iload_n X d_F_insert_1 rfl hl rfl ?_
    refine x_goR (x_runV X (C_F_isVersion_t l D A _ b0 u ks bv q.1.length hO hl2 j hj) b_F_isVersion s_F_isVersion v_F_isVersion e_F_37 hO rfl rfl hl rfl (Nat.le_of_ble_eq_true rfl) d_F_insert_2 (by dsimp only [x_rm]; omega) (by dsimp only [x_rm]; omega) ⟨(by dsimp only [x_rm]; omega), (by dsimp only [x_rm]; omega)⟩) hS (fun locs hS => ?_)
    refine n_if_eq X 13 d_F_insert_5 rfl (by decide) (fun hc => absurd hc (by decide)) (fun hc_ => ?_)
    refine x_iload_n X d_F_insert_8 rfl hl rfl ?_
    refine x_iload_n X d_F_insert_9 rfl hl rfl ?_
    refine x_icmp_le X 15 d_F_insert_10 rfl (fun _ => ?_) (fun h => absurd (Int32.not_lt.1 hlh) h)
    refine x_aload_n X d_F_insert_15 rfl hl rfl ?_
    refine x_iconst (v := nI 1) X d_F_insert_16 rfl ?_
    refine x_goR (x_runV X (C_F_hasRoomFor l D A _ b0 u ks bv q.1.length hO hl2 1 (by decide)) b_F_hasRoomFor s_F_hasRoomFor v_F_hasRoomFor e_F_41 hO rfl rfl hl rfl (Nat.le_of_ble_eq_true rfl) d_F_insert_17 (by dsimp only [x_rm]; omega) (by dsimp only [x_rm]; omega) ⟨(by dsimp only [x_rm]; omega), (by dsimp only [x_rm]; omega)⟩) hS (fun locs hS => ?_)
    rw [if_neg (by omega)]
    refine n_if_eq X 37 d_F_insert_20 rfl (by decide) (fun hc_ => ?_) (fun hc => absurd rfl hc)
    refine x_bipush (v := -2) X d_F_insert_37 rfl ?_
    exact x_iret X hS (Nat.zero_le _) (Nat.zero_le _) d_F_insert_39 ⟨rfl, hkeep⟩
  by_cases hf : 40 ≤ ft_zT t.1 t.2
  · skip
    rw [show sp_insert q (nI j) lo hi = (-2, q) from by unfold sp_insert; rw [hat]; dsimp only; rw [if_neg hlh, if_pos (Or.inr hf)]]
    refine xC.of rfl (Nat.le_of_ble_eq_true rfl) ?_
    intro p_ e_ s_ m_ ar_ bl_ me_ c_ ls X hl
    have hl : lz ls 7 [some (.ref b0), some (.int (nI j)), some (.int lo), some (.int hi), none, none, none] := hl
    have hS : va_S (xA (cSt b0 u ks bv ar) H0) H0 H0 [] := va_S.rf
    refine x_aload_n X d_F_insert_0 rfl hl rfl ?_
    refine x_iload_n X d_F_insert_1 rfl hl rfl ?_
    refine x_goR (x_runV X (C_F_isVersion_t l D A _ b0 u ks bv q.1.length hO hl2 j hj) b_F_isVersion s_F_isVersion v_F_isVersion e_F_37 hO rfl rfl hl rfl (Nat.le_of_ble_eq_true rfl) d_F_insert_2 (by dsimp only [x_rm]; omega) (by dsimp only [x_rm]; omega) ⟨(by dsimp only [x_rm]; omega), (by dsimp only [x_rm]; omega)⟩) hS (fun locs hS => ?_)
    refine n_if_eq X 13 d_F_insert_5 rfl (by decide) (fun hc => absurd hc (by decide)) (fun hc_ => ?_)
    refine x_iload_n X d_F_insert_8 rfl hl rfl ?_
    refine x_iload_n X d_F_insert_9 rfl hl rfl ?_
    refine x_icmp_le X 15 d_F_insert_10 rfl (fun _ => ?_) (fun h => absurd (Int32.not_lt.1 hlh) h)
    refine x_aload_n X d_F_insert_15 rfl hl rfl ?_
    refine x_iconst (v := nI 1) X d_F_insert_16 rfl ?_
    refine x_goR (x_runV X (C_F_hasRoomFor l D A _ b0 u ks bv q.1.length hO hl2 1 (by decide)) b_F_hasRoomFor s_F_hasRoomFor v_F_hasRoomFor e_F_41 hO rfl rfl hl rfl (Nat.le_of_ble_eq_true rfl) d_F_insert_17 (by dsimp only [x_rm]; omega) (by dsimp only [x_rm]; omega) ⟨(by dsimp only [x_rm]; omega), (by dsimp only [x_rm]; omega)⟩) hS (fun locs hS => ?_)
    rw [if_pos (by omega)]
    refine n_if_eq X 37 d_F_insert_20 rfl (by decide) (fun hc => absurd hc (by decide)) (fun hc_ => ?_)
    refine x_aload_n X d_F_insert_23 rfl hl rfl ?_
    refine x_get X gF hO 2 (by decide) e_F_25 rfl d_F_insert_24 ?_
    refine x_iload_n X d_F_insert_27 rfl hl rfl ?_
    refine x_ver X hV hta (by omega) d_F_insert_28 ?_
    refine x_getN X gT tO.2 4 (by decide) e_F_44 rfl d_F_insert_29 ?_
    refine x_bipush (v := nI 40) X d_F_insert_32 rfl ?_
    refine n_icmp_lt X 40 d_F_insert_34 rfl (by omega) (by omega) (fun hc => absurd hc (by omega)) (fun hc_ => ?_)
    refine x_bipush (v := -2) X d_F_insert_37 rfl ?_
    exact x_iret X hS (Nat.zero_le _) (Nat.zero_le _) d_F_insert_39 ⟨rfl, hkeep⟩
  have hT0 := hT
  have hU0 := hU
  have hE : ∀ (e : Nat) (x : Int32 × Int32), q.2.2[e]? = some x → (q.2.2 ++ [(lo, hi)])[e]? = some x := fun e x h => by rw [List.getElem?_append_left (List.getElem?_eq_some_iff.1 h).1]; exact h
  have hEl : (q.2.2 ++ [(lo, hi)]).length = q.2.2.length + 1 := by simp
  have hT := hT.tr (cTr.rf S H0) hE
  have hver := hver.tr (cTr.rf S H0) hE
  have hU : cUs D A S rh (q.2.2 ++ [(lo, hi)]) u nn em q.2.1.1 H0 := ⟨hU.1, hU.2.1, hU.2.2.1.tr (cTr.rf S H0) hE, hU.2.2.2⟩
  have okx := sp_new_ok q lo hi (c := q.2.1)
  have okT := sp_t_ok hq (List.mem_of_getElem? hjt) (q.2.2 ++ [(lo, hi)]) (by omega)
  have hzx : ft_z (sp_new q) = 1 := rfl
  have hfp := C_F_firstPlace l D A H0 S rh q.2.2 q.2.2.length q.2.1.1 q.2.1.2 t.1 t.2 ta ht.1 hT0 hz 1 (by decide) lo.toInt64
  have hip := ft_ip lo (sp_es q t)
  rw [sp_es_len] at hip
  rw [show ft_es q.2.2 t.1 t.2 = sp_es q t from rfl, hip] at hfp
  have hipl := sp_ip_le lo (sp_es q t)
  rw [sp_es_len] at hipl
  obtain ⟨x1, x2, x3, x4, x5⟩ := ft_ha_ok (c := q.2.1) okT hipl
  have hex := sp_insT_ok okT okx hipl (by omega) hq.2
  obtain ⟨y1, y2⟩ := ft_fr_ok (ft_ha t.1 t.2 (sp_ip lo (sp_es q t)) q.2.1).2.1.1 (sp_new q) (ft_ha t.1 t.2 (sp_ip lo (sp_es q t)) q.2.1).2.1.2 (ft_ha t.1 t.2 (sp_ip lo (sp_es q t)) q.2.1).2.2 0 (ft_ok_ex x1 okx) x3
  have yz := ft_fr_z (ft_ha t.1 t.2 (sp_ip lo (sp_es q t)) q.2.1).2.1.1 (sp_new q) (ft_ha t.1 t.2 (sp_ip lo (sp_es q t)) q.2.1).2.1.2 (ft_ha t.1 t.2 (sp_ip lo (sp_es q t)) q.2.1).2.2
  have h0z : ft_zR [] = 0 := rfl
  have l1 := ft_len5 (ft_okT_ex y1 x2) (by omega)
  have l2 := ft_len5 x3 (by omega)
  have hit : (sp_insT t (sp_ip lo (sp_es q t)) (sp_new q) q.2.1) = ft_jn (ft_ha t.1 t.2 (sp_ip lo (sp_es q t)) q.2.1).1.1 (ft_ha t.1 t.2 (sp_ip lo (sp_es q t)) q.2.1).1.2 [] (ft_fr (sp_new q) (ft_ha t.1 t.2 (sp_ip lo (sp_es q t)) q.2.1).2.1.1 (ft_ha t.1 t.2 (sp_ip lo (sp_es q t)) q.2.1).2.1.2 (ft_ha t.1 t.2 (sp_ip lo (sp_es q t)) q.2.1).2.2).1.1 (ft_fr (sp_new q) (ft_ha t.1 t.2 (sp_ip lo (sp_es q t)) q.2.1).2.1.1 (ft_ha t.1 t.2 (sp_ip lo (sp_es q t)) q.2.1).2.1.2 (ft_ha t.1 t.2 (sp_ip lo (sp_es q t)) q.2.1).2.2).1.2 (ft_fr (sp_new q) (ft_ha t.1 t.2 (sp_ip lo (sp_es q t)) q.2.1).2.1.1 (ft_ha t.1 t.2 (sp_ip lo (sp_es q t)) q.2.1).2.1.2 (ft_ha t.1 t.2 (sp_ip lo (sp_es q t)) q.2.1).2.2).2 := rfl
  rw [hit] at hex
  have hsp : sp_insert q (nI j) lo hi = sp_keep q (sp_insT t (sp_ip lo (sp_es q t)) (sp_new q) q.2.1).1 (sp_insT t (sp_ip lo (sp_es q t)) (sp_new q) q.2.1).2 (q.2.2 ++ [(lo, hi)]) := by
    unfold sp_insert; rw [hat]; dsimp only; rw [if_neg hlh, if_neg (by omega)]
  have hmc : (sp_insert q (nI j) lo hi).2.1.length - q.1.length = 1 := by
    rw [hsp]
    simp [sp_keep]
  rw [hmc, hsp]
  refine xC.of rfl (Nat.le_of_ble_eq_true rfl) ?_
  intro p_ e_ s_ m_ ar_ bl_ me_ c_ ls X hl
  have hl : lz ls 7 [some (.ref b0), some (.int (nI j)), some (.int lo), some (.int hi), none, none, none] := hl
  have hS : va_S (xA (cSt b0 u ks bv ar) H0) H0 H0 [] := va_S.rf
  have hSu : S u := hU.2.2.2
  have hSk := hSS ks (Or.inr (Or.inr (Or.inl rfl)))
  refine x_aload_n X d_F_insert_0 rfl hl rfl ?_
  refine x_iload_n X d_F_insert_1 rfl hl rfl ?_
  refine x_goR (x_runV X (C_F_isVersion_t l D A _ b0 u ks bv q.1.length hO hl2 j hj) b_F_isVersion s_F_isVersion v_F_isVersion e_F_37 hO rfl rfl hl rfl (Nat.le_of_ble_eq_true rfl) d_F_insert_2 (by dsimp only [x_rm]; omega) (by dsimp only [x_rm]; omega) ⟨(by dsimp only [x_rm]; omega), (by dsimp only [x_rm]; omega)⟩) hS (fun locs hS => ?_)
  refine n_if_eq X 13 d_F_insert_5 rfl (by decide) (fun hc => absurd hc (by decide)) (fun hc_ => ?_)
  refine x_iload_n X d_F_insert_8 rfl hl rfl ?_
  refine x_iload_n X d_F_insert_9 rfl hl rfl ?_
  refine x_icmp_le X 15 d_F_insert_10 rfl (fun _ => ?_) (fun h => absurd (Int32.not_lt.1 hlh) h)
  refine x_aload_n X d_F_insert_15 rfl hl rfl ?_
  refine x_iconst (v := nI 1) X d_F_insert_16 rfl ?_
  refine x_goR (x_runV X (C_F_hasRoomFor l D A _ b0 u ks bv q.1.length hO hl2 1 (by decide)) b_F_hasRoomFor s_F_hasRoomFor v_F_hasRoomFor e_F_41 hO rfl rfl hl rfl (Nat.le_of_ble_eq_true rfl) d_F_insert_17 (by dsimp only [x_rm]; omega) (by dsimp only [x_rm]; omega) ⟨(by dsimp only [x_rm]; omega), (by dsimp only [x_rm]; omega)⟩) hS (fun locs hS => ?_)
  rw [if_pos (by omega)]
  refine n_if_eq X 37 d_F_insert_20 rfl (by decide) (fun hc => absurd hc (by decide)) (fun hc_ => ?_)
  refine x_aload_n X d_F_insert_23 rfl hl rfl ?_
  refine x_get X gF hO 2 (by decide) e_F_25 rfl d_F_insert_24 ?_
  refine x_iload_n X d_F_insert_27 rfl hl rfl ?_
  refine x_ver X hV hta (by omega) d_F_insert_28 ?_
  refine x_getN X gT tO.2 4 (by decide) e_F_44 rfl d_F_insert_29 ?_
  refine x_bipush (v := nI 40) X d_F_insert_32 rfl ?_
  refine n_icmp_lt X 40 d_F_insert_34 rfl (by omega) (by omega) (fun hc_ => ?_) (fun hc => absurd hc (by omega))
  rw [hit]
  refine x_aload_n X d_F_insert_40 rfl hl rfl ?_
  refine x_get X gF hO 2 (by decide) e_F_25 rfl d_F_insert_41 ?_
  refine x_iload_n X d_F_insert_44 rfl hl rfl ?_
  refine x_ver X hV hta (by omega) d_F_insert_45 ?_
  refine x_iconst (v := nI 1) X d_F_insert_46 rfl ?_
  refine x_iload_n X d_F_insert_47 rfl hl rfl ?_
  refine x_i2l X d_F_insert_48 rfl ?_
  refine x_goR (x_runS X (hfp) b_F_firstPlace s_F_firstPlace e_F_103 rfl hl rfl (Nat.le_of_ble_eq_true rfl) d_F_insert_49 (by dsimp only [x_rm]; omega) (by dsimp only [x_rm]; omega) ⟨(by dsimp only [x_rm]; omega), (by dsimp only [x_rm]; omega)⟩) hS (fun locs hS => ?_)
  refine x_istore X d_F_insert_52 hl (by decide) rfl (fun ls hl => ?_)
  refine x_aload_n X d_F_insert_54 rfl hl rfl ?_
  refine x_get X gF hO 0 (by decide) e_F_12 rfl d_F_insert_55 ?_
  refine x_aload_n X d_F_insert_58 rfl hl rfl ?_
  refine x_get X gF hO 2 (by decide) e_F_25 rfl d_F_insert_59 ?_
  refine x_iload_n X d_F_insert_62 rfl hl rfl ?_
  refine x_ver X hV hta (by omega) d_F_insert_63 ?_
  refine x_iload X d_F_insert_64 hl rfl ?_
  refine x_gor (x_runVN X (C_U_halves l D A _ S rh (q.2.2 ++ [(lo, hi)]) (q.2.2 ++ [(lo, hi)]).length q.2.1 u nn em hU hSb hR.1 0 t.1 t.2 ta okT hT hz _ hipl) b_U_halves s_U_halves v_U_halves e_F_83 hU.1 rfl rfl hl rfl (Nat.le_of_ble_eq_true rfl) d_F_insert_66 (by dsimp only [x_rm]; omega) (by dsimp only [x_rm]; omega) ⟨(by dsimp only [x_rm]; omega), (by dsimp only [x_rm]; omega)⟩) hS (xA.mono (fun _ h => Or.inr (Or.inl h)) hS.1) (fun hq_ G1 locs hHa hF1 hS => ?_)
  have t_ : cTr S S H0 G1 := cTr.fr hF1 (fun q h => by rw [h]; exact hU.2.2.2)
  have hO := hF1.kp hO (xA.no (c_lt hO) n_b0_u)
  have hKs := hF1.kp hKs (xA.no (c_lt hKs) n_ks_u)
  have hV := hF1.kp hV (xA.no (c_lt hV) n_bv_u)
  have hMk := hF1.kp hMk (xA.no (c_lt hMk) n_ar_u)
  have hver := hver.tr t_ (fun _ _ h => h)
  have hT := hT.tr t_ (fun _ _ h => h)
  have tO := tO.tr t_
  have hU := hHa.2
  have hSb := c_sb hSb hF1.1
  obtain ⟨hb_, ha_, z1, z2, z3⟩ := hHa.1
  refine x_astore X d_F_insert_69 hl (by decide) rfl (fun ls hl => ?_)
  refine x_aload_n X d_F_insert_71 rfl hl rfl ?_
  refine x_get X gF hO 0 (by decide) e_F_12 rfl d_F_insert_72 ?_
  have zz := hS.1
  refine x_newO (S := S) X gI e_F_47 n_I i_I x_defI hS hSb (by dsimp only [x_rm]; omega) (by dsimp only [x_rm]; omega) d_F_insert_75 (fun it G2 h_it hIt hF2 t_it hS sb_ => ?_)
  have no_it : ¬ (S) it := c_ub hSb h_it
  have n_it_b0 : ¬ it = b0 := Nat.ne_of_gt (Nat.lt_of_lt_of_le (c_lt hO) h_it)
  have n_b0_it : ¬ b0 = it := Nat.ne_of_lt (Nat.lt_of_lt_of_le (c_lt hO) h_it)
  have n_it_ks : ¬ it = ks := Nat.ne_of_gt (Nat.lt_of_lt_of_le (c_lt hKs) h_it)
  have n_ks_it : ¬ ks = it := Nat.ne_of_lt (Nat.lt_of_lt_of_le (c_lt hKs) h_it)
  have n_it_bv : ¬ it = bv := Nat.ne_of_gt (Nat.lt_of_lt_of_le (c_lt hV) h_it)
  have n_bv_it : ¬ bv = it := Nat.ne_of_lt (Nat.lt_of_lt_of_le (c_lt hV) h_it)
  have n_it_ar : ¬ it = ar := Nat.ne_of_gt (Nat.lt_of_lt_of_le (c_lt hMk) h_it)
  have n_ar_it : ¬ ar = it := Nat.ne_of_lt (Nat.lt_of_lt_of_le (c_lt hMk) h_it)
  have n_it_u : ¬ it = u := Nat.ne_of_gt (Nat.lt_of_lt_of_le (c_lt hU.1) h_it)
  have n_u_it : ¬ u = it := Nat.ne_of_lt (Nat.lt_of_lt_of_le (c_lt hU.1) h_it)
  have t_ : cTr S (fun q => S q ∨ q = it) G1 G2 := t_it
  have hO := hF2.kp hO (fun h => h)
  have hKs := hF2.kp hKs (fun h => h)
  have hV := hF2.kp hV (fun h => h)
  have hMk := hF2.kp hMk (fun h => h)
  have hver := hver.tr t_ (fun _ _ h => h)
  have hT := hT.tr t_ (fun _ _ h => h)
  have tO := tO.tr t_
  have z1 := z1.tr t_
  have z2 := z2.tr t_ (fun _ _ h => h)
  have z3 := z3.tr t_ (fun _ _ h => h)
  have hU := hU.mv t_ hF2 (fun h => h) (by first | exact hSu | exact Or.inl hSu | exact Or.inl (Or.inl hSu))
  have hSb : ∀ q, (S q ∨ q = it) → q < G2.size := sb_
  have z_it : H0.size ≤ it := Nat.le_trans zz h_it
  refine x_dup X d_F_insert_78 rfl ?_
  refine x_iload_n X d_F_insert_79 rfl hl rfl ?_
  refine x_iload_n X d_F_insert_80 rfl hl rfl ?_
  have hSbI := hSb
  refine x_go0 (x_runIN X (C_I_init l D A _ it (va_P1 hIt) lo hi) b_I_init rfl s_I_init e_F_49 rfl hl rfl (Nat.le_of_ble_eq_true rfl) d_F_insert_81 (by dsimp only [x_rm]; omega) (by dsimp only [x_rm]; omega) ⟨(by dsimp only [x_rm]; omega), (by dsimp only [x_rm]; omega)⟩) hS (xA.one z_it hS.1) (fun G3 locs hIt_ hF3 hS => ?_)
  have t_ : cTr (fun q => S q ∨ q = it) S G2 G3 := cTr.done hF3
  have hO := hF3.kp hO (xA.no (c_lt hO) n_b0_it)
  have hKs := hF3.kp hKs (xA.no (c_lt hKs) n_ks_it)
  have hV := hF3.kp hV (xA.no (c_lt hV) n_bv_it)
  have hMk := hF3.kp hMk (xA.no (c_lt hMk) n_ar_it)
  have hver := hver.tr t_ (fun _ _ h => h)
  have hT := hT.tr t_ (fun _ _ h => h)
  have tO := tO.tr t_
  have z1 := z1.tr t_
  have z2 := z2.tr t_ (fun _ _ h => h)
  have z3 := z3.tr t_ (fun _ _ h => h)
  have hU := hU.mv t_ hF3 (xA.no (c_lt hU.1) n_u_it) hSu
  have hSb := c_sbo hSb hF3.1
  have hIt := hIt_
  obtain ⟨ir, i1, i2, i3⟩ := hIt
  have hx : cI D A S rh (q.2.2 ++ [(lo, hi)]) (sp_new q) [it] G3 := ⟨it, ir, lo, hi, rfl, by simp, ⟨no_it, i1⟩, ⟨fun h => absurd (hSbI ir (Or.inl h)) (Nat.not_lt.2 i3), cArr_ext i2 (fun i h => absurd h (Nat.not_lt_zero _))⟩⟩
  refine x_aload X d_F_insert_84 hl rfl ?_
  refine x_getN X gH z1.2 1 (by decide) e_F_92 rfl d_F_insert_86 ?_
  refine x_gor (x_runVN X (C_U_front l D A _ S rh (q.2.2 ++ [(lo, hi)]) (q.2.2 ++ [(lo, hi)]).length (ft_ha t.1 t.2 (sp_ip lo (sp_es q t)) q.2.1).2.2 u nn em hU hSb (fun n hn => hR.1 n (Nat.lt_of_le_of_lt x1.1 hn)) 0 (sp_new q) it (ft_ok_ex x1 okx) hx (ft_ha t.1 t.2 (sp_ip lo (sp_es q t)) q.2.1).2.1.1 (ft_ha t.1 t.2 (sp_ip lo (sp_es q t)) q.2.1).2.1.2 ha_ x3 z3 (by omega)) b_U_front s_U_front v_U_front e_F_52 hU.1 rfl rfl hl rfl (Nat.le_of_ble_eq_true rfl) d_F_insert_89 (by dsimp only [x_rm]; omega) (by dsimp only [x_rm]; omega) ⟨(by dsimp only [x_rm]; omega), (by dsimp only [x_rm]; omega)⟩) hS (xA.mono (fun _ h => Or.inr (Or.inl h)) hS.1) (fun fr_ G4 locs hFr hF4 hS => ?_)
  have t_ : cTr S S G3 G4 := cTr.fr hF4 (fun q h => by rw [h]; exact hU.2.2.2)
  have hO := hF4.kp hO (xA.no (c_lt hO) n_b0_u)
  have hKs := hF4.kp hKs (xA.no (c_lt hKs) n_ks_u)
  have hV := hF4.kp hV (xA.no (c_lt hV) n_bv_u)
  have hMk := hF4.kp hMk (xA.no (c_lt hMk) n_ar_u)
  have hver := hver.tr t_ (fun _ _ h => h)
  have hT := hT.tr t_ (fun _ _ h => h)
  have tO := tO.tr t_
  have z1 := z1.tr t_
  have z2 := z2.tr t_ (fun _ _ h => h)
  have z3 := z3.tr t_ (fun _ _ h => h)
  have hx := hx.tr t_ (fun _ _ h => h)
  have hU := hFr.2
  have hSb := c_sb hSb hF4.1
  have hFr1 := hFr.1
  refine x_astore X d_F_insert_92 hl (by decide) rfl (fun ls hl => ?_)
  refine x_aload_n X d_F_insert_94 rfl hl rfl ?_
  refine x_aload_n X d_F_insert_95 rfl hl rfl ?_
  refine x_get X gF hO 0 (by decide) e_F_12 rfl d_F_insert_96 ?_
  refine x_aload X d_F_insert_99 hl rfl ?_
  refine x_getN X gH z1.2 0 (by decide) e_F_87 rfl d_F_insert_101 ?_
  refine x_aload_n X d_F_insert_104 rfl hl rfl ?_
  refine x_get X gF hO 0 (by decide) e_F_12 rfl d_F_insert_105 ?_
  refine x_getN X gU hU.1 0 (by decide) e_F_75 rfl d_F_insert_108 ?_
  refine x_aload X d_F_insert_111 hl rfl ?_
  refine x_gor (x_runVN X (C_U_join l D A _ S rh (q.2.2 ++ [(lo, hi)]) (q.2.2 ++ [(lo, hi)]).length (ft_fr (sp_new q) (ft_ha t.1 t.2 (sp_ip lo (sp_es q t)) q.2.1).2.1.1 (ft_ha t.1 t.2 (sp_ip lo (sp_es q t)) q.2.1).2.1.2 (ft_ha t.1 t.2 (sp_ip lo (sp_es q t)) q.2.1).2.2).2 u nn em hU hSb (fun n hn => hR.1 n (Nat.lt_of_le_of_lt (Nat.le_trans x1.1 y1.1) hn)) 0 [] [] nn (fun y hy => by simp at hy) hU.2.1 (cL_nil.2 rfl) (by simp) (by simp [ft_zR]) (ft_ha t.1 t.2 (sp_ip lo (sp_es q t)) q.2.1).1.1 (ft_ha t.1 t.2 (sp_ip lo (sp_es q t)) q.2.1).1.2 hb_ (ft_okT_ex y1 x2) z2 (ft_fr (sp_new q) (ft_ha t.1 t.2 (sp_ip lo (sp_es q t)) q.2.1).2.1.1 (ft_ha t.1 t.2 (sp_ip lo (sp_es q t)) q.2.1).2.1.2 (ft_ha t.1 t.2 (sp_ip lo (sp_es q t)) q.2.1).2.2).1.1 (ft_fr (sp_new q) (ft_ha t.1 t.2 (sp_ip lo (sp_es q t)) q.2.1).2.1.1 (ft_ha t.1 t.2 (sp_ip lo (sp_es q t)) q.2.1).2.1.2 (ft_ha t.1 t.2 (sp_ip lo (sp_es q t)) q.2.1).2.2).1.2 fr_ y2 hFr1 (by simp) (by omega)) b_U_join s_U_join v_U_join e_F_79 hU.1 rfl rfl hl rfl (Nat.le_of_ble_eq_true rfl) d_F_insert_113 (by dsimp only [x_rm]; omega) (by dsimp only [x_rm]; omega) ⟨(by dsimp only [x_rm]; omega), (by dsimp only [x_rm]; omega)⟩) hS (xA.mono (fun _ h => Or.inr (Or.inl h)) hS.1) (fun r G5 locs hJn hF5 hS => ?_)
  have t_ : cTr S S G4 G5 := cTr.fr hF5 (fun q h => by rw [h]; exact hU.2.2.2)
  have hO := hF5.kp hO (xA.no (c_lt hO) n_b0_u)
  have hKs := hF5.kp hKs (xA.no (c_lt hKs) n_ks_u)
  have hV := hF5.kp hV (xA.no (c_lt hV) n_bv_u)
  have hMk := hF5.kp hMk (xA.no (c_lt hMk) n_ar_u)
  have hver := hver.tr t_ (fun _ _ h => h)
  have hT := hT.tr t_ (fun _ _ h => h)
  have tO := tO.tr t_
  have z1 := z1.tr t_
  have z2 := z2.tr t_ (fun _ _ h => h)
  have z3 := z3.tr t_ (fun _ _ h => h)
  have hx := hx.tr t_ (fun _ _ h => h)
  have hFr1 := hFr1.tr t_ (fun _ _ h => h)
  have hU := hJn.2
  have hSb := c_sb hSb hF5.1
  have hJn1 := hJn.1
  obtain ⟨kl_, kr_, km_, ks_, kO_⟩ := cT_obj hJn1
  have hst : cF D A S b0 u ks bv ar rh (q.1, (ft_jn (ft_ha t.1 t.2 (sp_ip lo (sp_es q t)) q.2.1).1.1 (ft_ha t.1 t.2 (sp_ip lo (sp_es q t)) q.2.1).1.2 [] (ft_fr (sp_new q) (ft_ha t.1 t.2 (sp_ip lo (sp_es q t)) q.2.1).2.1.1 (ft_ha t.1 t.2 (sp_ip lo (sp_es q t)) q.2.1).2.1.2 (ft_ha t.1 t.2 (sp_ip lo (sp_es q t)) q.2.1).2.2).1.1 (ft_fr (sp_new q) (ft_ha t.1 t.2 (sp_ip lo (sp_es q t)) q.2.1).2.1.1 (ft_ha t.1 t.2 (sp_ip lo (sp_es q t)) q.2.1).2.1.2 (ft_ha t.1 t.2 (sp_ip lo (sp_es q t)) q.2.1).2.2).1.2 (ft_fr (sp_new q) (ft_ha t.1 t.2 (sp_ip lo (sp_es q t)) q.2.1).2.1.1 (ft_ha t.1 t.2 (sp_ip lo (sp_es q t)) q.2.1).2.1.2 (ft_ha t.1 t.2 (sp_ip lo (sp_es q t)) q.2.1).2.2).2).2, (q.2.2 ++ [(lo, hi)])) w nn em lt vs mv G5 := ⟨hO, hU, hKs, hV, hMk, hmv, hlt, hvs, hver⟩
  refine x_go1 (x_runV X (C_F_keep l D A _ b0 u ks bv (q.1.length) hO (vs) hV d3 hvs (by omega) r _ kO_.2) b_F_keep s_F_keep v_F_keep e_F_56 hO rfl rfl hl rfl (Nat.le_of_ble_eq_true rfl) d_F_insert_116 (by dsimp only [x_rm]; omega) (by dsimp only [x_rm]; omega) ⟨(by dsimp only [x_rm]; omega), (by dsimp only [x_rm]; omega)⟩) hS (fun x h => Or.inl (h.elim Or.inl (fun h => Or.inr (Or.inr (Or.inr (Or.inl h)))))) (fun G6 locs hC hF6 hS => ?_)
  have hK1 := cF.keep hd hSS hst hJn1 hF6 hC
  exact x_iret X hS (by omega) (by omega) d_F_insert_119 ⟨rfl, hSS, c_sb hSb hF6.1, rh, nn, em, lt, _, mv, (hR.up hex.1.1), hK1.1, hK1.2.1, hK1.2.2.1, hK1.2.2.2.1, hK1.2.2.2.2.1, hmv, by omega, hK1.2.2.2.2.2.2.2.1, hK1.2.2.2.2.2.2.2.2⟩
set_option maxRecDepth 100000 in
set_option maxHeartbeats 4000000 in
theorem A_F_removeTop (l : Launch) (D : va_G) (A : Nat → ClassId) (H0 : Heap) (S : Nat → Prop) (b0 u ks bv ar : Nat) (hd : cDs b0 u ks bv ar) (q : ft_Q) (hq : sp_ok2 q) (w : Nat) (hw : w < 100000) (hG : cG D A S b0 u ks bv ar q w H0) (v : Int32) : xC l y_F_removeTop c_F_removeTop 5 (some .int) 26 D A H0 [.ref b0, .int v] (xA (cSt b0 u ks bv ar) H0) (q1 (.int (sp_removeTop q v).1) (fun H1 => cG D A S b0 u ks bv ar (sp_removeTop q v).2 (w + 1) H1)) (5000 * ((sp_removeTop q v).2.1.length - q.1.length)) (50000 * ((sp_removeTop q v).2.1.length - q.1.length)) := by
  obtain ⟨hSS, hSb, rh, nn, em, lt, vs, mv, hR, hF⟩ := hG
  obtain ⟨hO, hU, hKs, hV, hMk, hmv, hlt, hvs, hver⟩ := hF
  have hl1 := hq.1.1
  have hl2 := hq.1.2.1
  obtain ⟨d1, d2, d3, d4, d5, d6, d7, d8, d9, d10⟩ := id hd
  have n_b0_u : ¬ b0 = u := d1
  have n_ks_u : ¬ ks = u := fun h => d5 h.symm
  have n_bv_u : ¬ bv = u := fun h => d6 h.symm
  have n_ar_u : ¬ ar = u := fun h => d7 h.symm
  have hmd0 := sp_md hq
  have hver : cVs D A S rh q.2.2 q.1 vs H0 := hver
  have hkeep : cG D A S b0 u ks bv ar q (w + 1) H0 := ⟨hSS, hSb, rh, nn, em, lt, vs, mv, hR, hO, hU, hKs, hV, hMk, hmv, by omega, hvs, hver⟩
  rcases sp_at_cases hq v with ⟨hv, hat⟩ | ⟨j, t, rfl, hj, hjt, hat⟩
  · skip
    rw [show sp_removeTop q v = (-1, q) from by unfold sp_removeTop; rw [hat]]
    refine xC.of rfl (Nat.le_of_ble_eq_true rfl) ?_
    intro p_ e_ s_ m_ ar_ bl_ me_ c_ ls X hl
    have hl : lz ls 5 [some (.ref b0), some (.int v), none, none, none] := hl
    have hS : va_S (xA (cSt b0 u ks bv ar) H0) H0 H0 [] := va_S.rf
    refine x_aload_n X d_F_removeTop_0 rfl hl rfl ?_
    refine x_iload_n X d_F_removeTop_1 rfl hl rfl ?_
    refine x_goR (x_runV X (C_F_isVersion_f l D A _ b0 u ks bv q.1.length hO hl2 v hv) b_F_isVersion s_F_isVersion v_F_isVersion e_F_37 hO rfl rfl hl rfl (Nat.le_of_ble_eq_true rfl) d_F_removeTop_2 (by dsimp only [x_rm]; omega) (by dsimp only [x_rm]; omega) ⟨(by dsimp only [x_rm]; omega), (by dsimp only [x_rm]; omega)⟩) hS (fun locs hS => ?_)
    refine n_if_eq X 20 d_F_removeTop_5 rfl (by decide) (fun hc_ => ?_) (fun hc => absurd rfl hc)
    refine x_iconst (v := -1) X d_F_removeTop_20 rfl ?_
    exact x_iret X hS (Nat.zero_le _) (Nat.zero_le _) d_F_removeTop_21 ⟨rfl, hkeep⟩
  have ht := hq.1.2.2.1 t (List.mem_of_getElem? hjt)
  have hz40 := ht.2
  obtain ⟨ta, hta, hT⟩ := hver j t hjt
  obtain ⟨tl, tr, tmv, trs, tO⟩ := cT_obj hT
  have hz : ft_zT t.1 t.2 < 64 := by omega
  have h5 := ft_len5 ht.1 hz
  by_cases hz0 : ft_zT t.1 t.2 = 0
  · skip
    rw [show sp_removeTop q (nI j) = (-1, q) from by unfold sp_removeTop; rw [hat]; dsimp only; rw [if_pos hz0]]
    refine xC.of rfl (Nat.le_of_ble_eq_true rfl) ?_
    intro p_ e_ s_ m_ ar_ bl_ me_ c_ ls X hl
    have hl : lz ls 5 [some (.ref b0), some (.int (nI j)), none, none, none] := hl
    have hS : va_S (xA (cSt b0 u ks bv ar) H0) H0 H0 [] := va_S.rf
    refine x_aload_n X d_F_removeTop_0 rfl hl rfl ?_
    refine x_iload_n X d_F_removeTop_1 rfl hl rfl ?_
    refine x_goR (x_runV X (C_F_isVersion_t l D A _ b0 u ks bv q.1.length hO hl2 j hj) b_F_isVersion s_F_isVersion v_F_isVersion e_F_37 hO rfl rfl hl rfl (Nat.le_of_ble_eq_true rfl) d_F_removeTop_2 (by dsimp only [x_rm]; omega) (by dsimp only [x_rm]; omega) ⟨(by dsimp only [x_rm]; omega), (by dsimp only [x_rm]; omega)⟩) hS (fun locs hS => ?_)
    refine n_if_eq X 20 d_F_removeTop_5 rfl (by decide) (fun hc => absurd hc (by decide)) (fun hc_ => ?_)
    refine x_aload_n X d_F_removeTop_8 rfl hl rfl ?_
    refine x_get X gF hO 2 (by decide) e_F_25 rfl d_F_removeTop_9 ?_
    refine x_iload_n X d_F_removeTop_12 rfl hl rfl ?_
    refine x_ver X hV hta (by omega) d_F_removeTop_13 ?_
    refine x_goR (x_runVN X (C_T_isEmpty l D A _ S rh q.2.2 q.2.2.length q.2.1.1 q.2.1.2 0 t.1 t.2 ta ht.1 hT hz) b_T_isEmpty s_T_isEmpty v_T_isEmpty e_F_64 tO.2 rfl rfl hl rfl (Nat.le_of_ble_eq_true rfl) d_F_removeTop_14 (by dsimp only [x_rm]; omega) (by dsimp only [x_rm]; omega) ⟨(by dsimp only [x_rm]; omega), (by dsimp only [x_rm]; omega)⟩) hS (fun locs hS => ?_)
    rw [show (if ft_em t.1 t.2 then 1 else 0) = 1 from by rw [(ft_em_z ht.1).2 hz0]; rfl]
    refine n_if_eq X 22 d_F_removeTop_17 rfl (by decide) (fun hc => absurd hc (by decide)) (fun hc_ => ?_)
    refine x_iconst (v := -1) X d_F_removeTop_20 rfl ?_
    exact x_iret X hS (Nat.zero_le _) (Nat.zero_le _) d_F_removeTop_21 ⟨rfl, hkeep⟩
  have hne := ft_zem ht.1 hz0
  by_cases hn : 120 ≤ q.1.length
  · skip
    rw [show sp_removeTop q (nI j) = (-2, q) from by unfold sp_removeTop; rw [hat]; dsimp only; rw [if_neg hz0, if_pos hn]]
    refine xC.of rfl (Nat.le_of_ble_eq_true rfl) ?_
    intro p_ e_ s_ m_ ar_ bl_ me_ c_ ls X hl
    have hl : lz ls 5 [some (.ref b0), some (.int (nI j)), none, none, none] := hl
    have hS : va_S (xA (cSt b0 u ks bv ar) H0) H0 H0 [] := va_S.rf
    refine x_aload_n X d_F_removeTop_0 rfl hl rfl ?_
    refine x_iload_n X d_F_removeTop_1 rfl hl rfl ?_
    refine x_goR (x_runV X (C_F_isVersion_t l D A _ b0 u ks bv q.1.length hO hl2 j hj) b_F_isVersion s_F_isVersion v_F_isVersion e_F_37 hO rfl rfl hl rfl (Nat.le_of_ble_eq_true rfl) d_F_removeTop_2 (by dsimp only [x_rm]; omega) (by dsimp only [x_rm]; omega) ⟨(by dsimp only [x_rm]; omega), (by dsimp only [x_rm]; omega)⟩) hS (fun locs hS => ?_)
    refine n_if_eq X 20 d_F_removeTop_5 rfl (by decide) (fun hc => absurd hc (by decide)) (fun hc_ => ?_)
    refine x_aload_n X d_F_removeTop_8 rfl hl rfl ?_
    refine x_get X gF hO 2 (by decide) e_F_25 rfl d_F_removeTop_9 ?_
    refine x_iload_n X d_F_removeTop_12 rfl hl rfl ?_
    refine x_ver X hV hta (by omega) d_F_removeTop_13 ?_
    refine x_goR (x_runVN X (C_T_isEmpty l D A _ S rh q.2.2 q.2.2.length q.2.1.1 q.2.1.2 0 t.1 t.2 ta ht.1 hT hz) b_T_isEmpty s_T_isEmpty v_T_isEmpty e_F_64 tO.2 rfl rfl hl rfl (Nat.le_of_ble_eq_true rfl) d_F_removeTop_14 (by dsimp only [x_rm]; omega) (by dsimp only [x_rm]; omega) ⟨(by dsimp only [x_rm]; omega), (by dsimp only [x_rm]; omega)⟩) hS (fun locs hS => ?_)
    rw [show (if ft_em t.1 t.2 then 1 else 0) = 0 from by rw [hne]; rfl]
    refine n_if_eq X 22 d_F_removeTop_17 rfl (by decide) (fun hc_ => ?_) (fun hc => absurd rfl hc)
    refine x_aload_n X d_F_removeTop_22 rfl hl rfl ?_
    refine x_iconst (v := nI 1) X d_F_removeTop_23 rfl ?_
    refine x_goR (x_runV X (C_F_hasRoomFor l D A _ b0 u ks bv q.1.length hO hl2 1 (by decide)) b_F_hasRoomFor s_F_hasRoomFor v_F_hasRoomFor e_F_41 hO rfl rfl hl rfl (Nat.le_of_ble_eq_true rfl) d_F_removeTop_24 (by dsimp only [x_rm]; omega) (by dsimp only [x_rm]; omega) ⟨(by dsimp only [x_rm]; omega), (by dsimp only [x_rm]; omega)⟩) hS (fun locs hS => ?_)
    rw [if_neg (by omega)]
    refine n_if_ne X 33 d_F_removeTop_27 rfl (by decide) (fun hc => absurd rfl hc) (fun hc_ => ?_)
    refine x_bipush (v := -2) X d_F_removeTop_30 rfl ?_
    exact x_iret X hS (Nat.zero_le _) (Nat.zero_le _) d_F_removeTop_32 ⟨rfl, hkeep⟩
  have hel := sp_es_len q t
  have htp := sp_tp_lt (es := sp_es q t) (by omega)
  have htot := C_F_total l D A H0 S rh q.2.2 q.2.2.length q.2.1.1 q.2.1.2 t.1 t.2 ta ht.1 hT hz 2 (by decide)
  have hfp := C_F_firstPlace l D A H0 S rh q.2.2 q.2.2.length q.2.1.1 q.2.1.2 t.1 t.2 ta ht.1 hT hz 2 (by decide) (sp_tot (nI 2) (sp_es q t))
  have hip := ft_tp (es := sp_es q t) (by omega)
  rw [hel] at hip
  rw [show ft_es q.2.2 t.1 t.2 = sp_es q t from rfl, hip] at hfp
  rw [show ft_es q.2.2 t.1 t.2 = sp_es q t from rfl] at htot
  obtain ⟨k1, k2, k3, k4, k5, k6⟩ := ft_cu_ok ht.1 (p := (sp_tp (sp_es q t))) (by omega)
  have h0z : ft_zR [] = 0 := rfl
  have l1 := ft_len5 k1 (by omega)
  have hex := ft_jn_ok (ft_cu t.1 t.2 (sp_tp (sp_es q t))).1.1 (ft_cu t.1 t.2 (sp_tp (sp_es q t))).1.2 [] (ft_cu t.1 t.2 (sp_tp (sp_es q t))).2.2.1 (ft_cu t.1 t.2 (sp_tp (sp_es q t))).2.2.2 q.2.1 0 (by simp) (fun y hy => by simp at hy) k1 k3
  have hsp : sp_removeTop q (nI j) = sp_keep q (ft_jn (ft_cu t.1 t.2 (sp_tp (sp_es q t))).1.1 (ft_cu t.1 t.2 (sp_tp (sp_es q t))).1.2 [] (ft_cu t.1 t.2 (sp_tp (sp_es q t))).2.2.1 (ft_cu t.1 t.2 (sp_tp (sp_es q t))).2.2.2 q.2.1).1 (ft_jn (ft_cu t.1 t.2 (sp_tp (sp_es q t))).1.1 (ft_cu t.1 t.2 (sp_tp (sp_es q t))).1.2 [] (ft_cu t.1 t.2 (sp_tp (sp_es q t))).2.2.1 (ft_cu t.1 t.2 (sp_tp (sp_es q t))).2.2.2 q.2.1).2 q.2.2 := by
    unfold sp_removeTop; rw [hat]; dsimp only; rw [if_neg hz0, if_neg hn]
  have hmc : (sp_removeTop q (nI j)).2.1.length - q.1.length = 1 := by
    rw [hsp]
    simp [sp_keep]
  rw [hmc, hsp]
  refine xC.of rfl (Nat.le_of_ble_eq_true rfl) ?_
  intro p_ e_ s_ m_ ar_ bl_ me_ c_ ls X hl
  have hl : lz ls 5 [some (.ref b0), some (.int (nI j)), none, none, none] := hl
  have hS : va_S (xA (cSt b0 u ks bv ar) H0) H0 H0 [] := va_S.rf
  have hSu : S u := hU.2.2.2
  have hSk := hSS ks (Or.inr (Or.inr (Or.inl rfl)))
  refine x_aload_n X d_F_removeTop_0 rfl hl rfl ?_
  refine x_iload_n X d_F_removeTop_1 rfl hl rfl ?_
  refine x_goR (x_runV X (C_F_isVersion_t l D A _ b0 u ks bv q.1.length hO hl2 j hj) b_F_isVersion s_F_isVersion v_F_isVersion e_F_37 hO rfl rfl hl rfl (Nat.le_of_ble_eq_true rfl) d_F_removeTop_2 (by dsimp only [x_rm]; omega) (by dsimp only [x_rm]; omega) ⟨(by dsimp only [x_rm]; omega), (by dsimp only [x_rm]; omega)⟩) hS (fun locs hS => ?_)
  refine n_if_eq X 20 d_F_removeTop_5 rfl (by decide) (fun hc => absurd hc (by decide)) (fun hc_ => ?_)
  refine x_aload_n X d_F_removeTop_8 rfl hl rfl ?_
  refine x_get X gF hO 2 (by decide) e_F_25 rfl d_F_removeTop_9 ?_
  refine x_iload_n X d_F_removeTop_12 rfl hl rfl ?_
  refine x_ver X hV hta (by omega) d_F_removeTop_13 ?_
  refine x_goR (x_runVN X (C_T_isEmpty l D A _ S rh q.2.2 q.2.2.length q.2.1.1 q.2.1.2 0 t.1 t.2 ta ht.1 hT hz) b_T_isEmpty s_T_isEmpty v_T_isEmpty e_F_64 tO.2 rfl rfl hl rfl (Nat.le_of_ble_eq_true rfl) d_F_removeTop_14 (by dsimp only [x_rm]; omega) (by dsimp only [x_rm]; omega) ⟨(by dsimp only [x_rm]; omega), (by dsimp only [x_rm]; omega)⟩) hS (fun locs hS => ?_)
  rw [show (if ft_em t.1 t.2 then 1 else 0) = 0 from by rw [hne]; rfl]
  refine n_if_eq X 22 d_F_removeTop_17 rfl (by decide) (fun hc_ => ?_) (fun hc => absurd rfl hc)
  refine x_aload_n X d_F_removeTop_22 rfl hl rfl ?_
  refine x_iconst (v := nI 1) X d_F_removeTop_23 rfl ?_
  refine x_goR (x_runV X (C_F_hasRoomFor l D A _ b0 u ks bv q.1.length hO hl2 1 (by decide)) b_F_hasRoomFor s_F_hasRoomFor v_F_hasRoomFor e_F_41 hO rfl rfl hl rfl (Nat.le_of_ble_eq_true rfl) d_F_removeTop_24 (by dsimp only [x_rm]; omega) (by dsimp only [x_rm]; omega) ⟨(by dsimp only [x_rm]; omega), (by dsimp only [x_rm]; omega)⟩) hS (fun locs hS => ?_)
  rw [if_pos (by omega)]
  refine n_if_ne X 33 d_F_removeTop_27 rfl (by decide) (fun hc_ => ?_) (fun hc => absurd hc (by decide))
  refine x_aload_n X d_F_removeTop_33 rfl hl rfl ?_
  refine x_get X gF hO 2 (by decide) e_F_25 rfl d_F_removeTop_34 ?_
  refine x_iload_n X d_F_removeTop_37 rfl hl rfl ?_
  refine x_ver X hV hta (by omega) d_F_removeTop_38 ?_
  refine x_iconst (v := nI 2) X d_F_removeTop_39 rfl ?_
  refine x_goR (x_runS X (htot) b_F_total s_F_total e_F_107 rfl hl rfl (Nat.le_of_ble_eq_true rfl) d_F_removeTop_40 (by dsimp only [x_rm]; omega) (by dsimp only [x_rm]; omega) ⟨(by dsimp only [x_rm]; omega), (by dsimp only [x_rm]; omega)⟩) hS (fun locs hS => ?_)
  refine x_lstore_n X d_F_removeTop_43 rfl hl (by decide) rfl (fun ls hl => ?_)
  refine x_aload_n X d_F_removeTop_44 rfl hl rfl ?_
  refine x_get X gF hO 0 (by decide) e_F_12 rfl d_F_removeTop_45 ?_
  refine x_aload_n X d_F_removeTop_48 rfl hl rfl ?_
  refine x_get X gF hO 2 (by decide) e_F_25 rfl d_F_removeTop_49 ?_
  refine x_iload_n X d_F_removeTop_52 rfl hl rfl ?_
  refine x_ver X hV hta (by omega) d_F_removeTop_53 ?_
  refine x_aload_n X d_F_removeTop_54 rfl hl rfl ?_
  refine x_get X gF hO 2 (by decide) e_F_25 rfl d_F_removeTop_55 ?_
  refine x_iload_n X d_F_removeTop_58 rfl hl rfl ?_
  refine x_ver X hV hta (by omega) d_F_removeTop_59 ?_
  refine x_iconst (v := nI 2) X d_F_removeTop_60 rfl ?_
  refine x_lload_n X d_F_removeTop_61 rfl hl rfl ?_
  refine x_goR (x_runS X (hfp) b_F_firstPlace s_F_firstPlace e_F_103 rfl hl rfl (Nat.le_of_ble_eq_true rfl) d_F_removeTop_62 (by dsimp only [x_rm]; omega) (by dsimp only [x_rm]; omega) ⟨(by dsimp only [x_rm]; omega), (by dsimp only [x_rm]; omega)⟩) hS (fun locs hS => ?_)
  refine x_gor (x_runVN X (C_U_cut l D A _ S rh q.2.2 q.2.2.length q.2.1.1 q.2.1.2 u nn em q.2.1.1 hU hSb 0 t.1 t.2 ta ht.1 hT hz (sp_tp (sp_es q t)) (by omega)) b_U_cut s_U_cut v_U_cut e_F_111 hU.1 rfl rfl hl rfl (Nat.le_of_ble_eq_true rfl) d_F_removeTop_65 (by dsimp only [x_rm]; omega) (by dsimp only [x_rm]; omega) ⟨(by dsimp only [x_rm]; omega), (by dsimp only [x_rm]; omega)⟩) hS (xA.mono (fun _ h => h.elim) hS.1) (fun cq G1 locs hCu hF1 hS => ?_)
  obtain ⟨cb, ci_, ca, u1, u2, u3, u4⟩ := hCu
  have t_ : cTr S S H0 G1 := cTr.fr hF1 (fun _ h => h.elim)
  have hO := hF1.kp hO (xA.no (c_lt hO) (fun h => h))
  have hKs := hF1.kp hKs (xA.no (c_lt hKs) (fun h => h))
  have hV := hF1.kp hV (xA.no (c_lt hV) (fun h => h))
  have hMk := hF1.kp hMk (xA.no (c_lt hMk) (fun h => h))
  have hver := hver.tr t_ (fun _ _ h => h)
  have hT := hT.tr t_ (fun _ _ h => h)
  have tO := tO.tr t_
  have hU := hU.mv t_ hF1 (xA.no (c_lt hU.1) (fun h => h)) hSu
  have hSb := c_sb hSb hF1.1
  refine x_astore X d_F_removeTop_68 hl (by decide) rfl (fun ls hl => ?_)
  refine x_aload_n X d_F_removeTop_70 rfl hl rfl ?_
  refine x_aload_n X d_F_removeTop_71 rfl hl rfl ?_
  refine x_get X gF hO 0 (by decide) e_F_12 rfl d_F_removeTop_72 ?_
  refine x_aload X d_F_removeTop_75 hl rfl ?_
  refine x_getN X gC u1.2 0 (by decide) e_F_115 rfl d_F_removeTop_77 ?_
  refine x_aload_n X d_F_removeTop_80 rfl hl rfl ?_
  refine x_get X gF hO 0 (by decide) e_F_12 rfl d_F_removeTop_81 ?_
  refine x_getN X gU hU.1 0 (by decide) e_F_75 rfl d_F_removeTop_84 ?_
  refine x_aload X d_F_removeTop_87 hl rfl ?_
  refine x_getN X gC u1.2 2 (by decide) e_F_118 rfl d_F_removeTop_89 ?_
  refine x_gor (x_runVN X (C_U_join l D A _ S rh q.2.2 q.2.2.length q.2.1 u nn em hU hSb hR.1 0 [] [] nn (fun y hy => by simp at hy) hU.2.1 (cL_nil.2 rfl) (by simp) (by simp [ft_zR]) (ft_cu t.1 t.2 (sp_tp (sp_es q t))).1.1 (ft_cu t.1 t.2 (sp_tp (sp_es q t))).1.2 cb k1 u2 (ft_cu t.1 t.2 (sp_tp (sp_es q t))).2.2.1 (ft_cu t.1 t.2 (sp_tp (sp_es q t))).2.2.2 ca k3 u4 (by simp) (by omega)) b_U_join s_U_join v_U_join e_F_79 hU.1 rfl rfl hl rfl (Nat.le_of_ble_eq_true rfl) d_F_removeTop_92 (by dsimp only [x_rm]; omega) (by dsimp only [x_rm]; omega) ⟨(by dsimp only [x_rm]; omega), (by dsimp only [x_rm]; omega)⟩) hS (xA.mono (fun _ h => Or.inr (Or.inl h)) hS.1) (fun r G2 locs hJn hF2 hS => ?_)
  have t_ : cTr S S G1 G2 := cTr.fr hF2 (fun q h => by rw [h]; exact hU.2.2.2)
  have hO := hF2.kp hO (xA.no (c_lt hO) n_b0_u)
  have hKs := hF2.kp hKs (xA.no (c_lt hKs) n_ks_u)
  have hV := hF2.kp hV (xA.no (c_lt hV) n_bv_u)
  have hMk := hF2.kp hMk (xA.no (c_lt hMk) n_ar_u)
  have hver := hver.tr t_ (fun _ _ h => h)
  have hT := hT.tr t_ (fun _ _ h => h)
  have tO := tO.tr t_
  have u1 := u1.tr t_
  have u2 := u2.tr t_ (fun _ _ h => h)
  have u4 := u4.tr t_ (fun _ _ h => h)
  have hU := hJn.2
  have hSb := c_sb hSb hF2.1
  have hJn1 := hJn.1
  obtain ⟨kl_, kr_, km_, ks_, kO_⟩ := cT_obj hJn1
  have hst : cF D A S b0 u ks bv ar rh (q.1, (ft_jn (ft_cu t.1 t.2 (sp_tp (sp_es q t))).1.1 (ft_cu t.1 t.2 (sp_tp (sp_es q t))).1.2 [] (ft_cu t.1 t.2 (sp_tp (sp_es q t))).2.2.1 (ft_cu t.1 t.2 (sp_tp (sp_es q t))).2.2.2 q.2.1).2, q.2.2) w nn em lt vs mv G2 := ⟨hO, hU, hKs, hV, hMk, hmv, hlt, hvs, hver⟩
  refine x_go1 (x_runV X (C_F_keep l D A _ b0 u ks bv (q.1.length) hO (vs) hV d3 hvs (by omega) r _ kO_.2) b_F_keep s_F_keep v_F_keep e_F_56 hO rfl rfl hl rfl (Nat.le_of_ble_eq_true rfl) d_F_removeTop_95 (by dsimp only [x_rm]; omega) (by dsimp only [x_rm]; omega) ⟨(by dsimp only [x_rm]; omega), (by dsimp only [x_rm]; omega)⟩) hS (fun x h => Or.inl (h.elim Or.inl (fun h => Or.inr (Or.inr (Or.inr (Or.inl h)))))) (fun G3 locs hC hF3 hS => ?_)
  have hK1 := cF.keep hd hSS hst hJn1 hF3 hC
  exact x_iret X hS (by omega) (by omega) d_F_removeTop_98 ⟨rfl, hSS, c_sb hSb hF3.1, rh, nn, em, lt, _, mv, (hR.up hex.1.1), hK1.1, hK1.2.1, hK1.2.2.1, hK1.2.2.2.1, hK1.2.2.2.2.1, hmv, by omega, hK1.2.2.2.2.2.2.2.1, hK1.2.2.2.2.2.2.2.2⟩
