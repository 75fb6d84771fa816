/-! The class: reads of rows, items, trees. -/
theorem cL_at {D : va_G} {A : Nat → ClassId} {S : Nat → Prop} {rh : Nat → Nat} {E : ft_E} {H : Heap} {ne mm : Nat} {zf : Nat → Nat} {k : Nat} {l : List ft_I} {as : List Nat} (ok : ft_okR ne mm zf k l) (h : cL D A S rh E l as H) {i : Nat} (hi : i < l.length) : ∃ a, as[i]? = some a ∧ ft_ok ne mm zf k (l.getD i ft_no) ∧ cI D A S rh E (l.getD i ft_no) [a] H := by
  have hx : l[i]? = some (l.getD i ft_no) := by rw [List.getD_eq_getElem?_getD, List.getElem?_eq_getElem hi]; rfl
  obtain ⟨a, h1, h2⟩ := cL_get h hx
  exact ⟨a, h1, ok _ (ft_getD_mem hi), h2⟩
set_option maxRecDepth 100000 in
set_option maxHeartbeats 4000000 in
theorem C_R_entriesIn (l : Launch) (D : va_G) (A : Nat → ClassId) (H0 : Heap) (S : Nat → Prop) (rh : Nat → Nat) (E : ft_E) (ne mm : Nat) (zf : Nat → Nat) (k : Nat) (lr : List ft_I) (as : List Nat) (r : Nat) (ok : ft_okR ne mm zf k lr) (hr : cRw D A S as r H0) (hL : cL D A S rh E lr as H0) (h9 : lr.length < 64) (hz : ft_zR lr < 4096) : xC l y_R_entriesIn c_R_entriesIn 6 (some .int) 0 D A H0 [.ref r] (fun _ => False) (q1 (.int (nI (ft_zR lr))) (fun H1 => H1 = H0)) 0 0 := by
  have hlen := cL_len hL
  refine xC.of rfl (Nat.le_of_ble_eq_true rfl) ?_
  intro p_ e_ s_ m_ ar_ bl_ me_ c_ ls X hl
  have hl : lz ls 6 [some (.ref r), none, none, none, none, none] := hl
  have hS : va_S (fun _ => False) H0 H0 [] := va_S.rf
  refine x_iconst (v := nI 0) X d_R_entriesIn_0 rfl ?_
  refine x_istore_n X d_R_entriesIn_1 rfl hl (by decide) rfl (fun ls hl => ?_)
  refine x_aload_n X d_R_entriesIn_2 rfl hl rfl ?_
  refine x_astore_n X d_R_entriesIn_3 rfl hl (by decide) rfl (fun ls hl => ?_)
  refine x_aload_n X d_R_entriesIn_4 rfl hl rfl ?_
  refine x_alen X hr d_R_entriesIn_5 ?_
  rw [hlen]
  refine x_istore_n X d_R_entriesIn_6 rfl hl (by decide) rfl (fun ls hl => ?_)
  refine x_iconst (v := nI 0) X d_R_entriesIn_7 rfl ?_
  refine x_istore X d_R_entriesIn_8 hl (by decide) rfl (fun ls hl => ?_)
  have loop : ∀ (g i : Nat) (v5 : Option Value) (locs : List Loc) (ls : Array Slot), lr.length - i = g → i ≤ lr.length → lz ls 6 [some (.ref r), some (.int (nI (ft_zR (lr.take i)))), some (.ref r), some (.int (nI lr.length)), some (.int (nI i)), v5] → va_S (fun _ => False) H0 H0 locs → W p_ l e_ (x_rm 0 0 0) s_ m_ ar_ bl_ me_ c_ H0 locs 0 0 (MQ bl_ (xQ (fun _ => False) (q1 (.int (nI (ft_zR lr))) (fun H1 => H1 = H0))) ar_ s_ 0 0 (fun _ => False)) (F0 m_ 10 ls []) := by
    clear hl hS
    intro g
    induction g with
    | zero =>
      intro i v5 locs ls hg hi2 hl hS
      have hie : i = lr.length := by omega
      subst hie
      rw [List.take_length] at hl
      refine x_iload X d_R_entriesIn_10 hl rfl ?_
      refine x_iload_n X d_R_entriesIn_12 rfl hl rfl ?_
      refine n_icmp_ge X 36 d_R_entriesIn_13 rfl (by omega) (by omega) (fun hc => ?_) (fun hc => absurd hc (by omega))
      refine x_iload_n X d_R_entriesIn_36 rfl hl rfl ?_
      exact x_iret X hS (Nat.le_refl _) (Nat.le_refl _) d_R_entriesIn_37 ⟨rfl, rfl⟩
    | succ g ih =>
      intro i v5 locs ls hg hi2 hl hS
      obtain ⟨b, hb, okx, hx⟩ := cL_at ok hL (i := i) (by omega)
      obtain ⟨nu, lo, hi, r', bs, c1, c2, c3, c4, c5⟩ := cI_has okx hx
      refine x_iload X d_R_entriesIn_10 hl rfl ?_
      refine x_iload_n X d_R_entriesIn_12 rfl hl rfl ?_
      refine n_icmp_ge X 36 d_R_entriesIn_13 rfl (by omega) (by omega) (fun hc => absurd hc (by omega)) (fun hc => ?_)
      refine x_aload_n X d_R_entriesIn_16 rfl hl rfl ?_
      refine x_iload X d_R_entriesIn_17 hl rfl ?_
      refine x_aald X hr hb (by omega) d_R_entriesIn_19 ?_
      refine x_astore X d_R_entriesIn_20 hl (by decide) rfl (fun ls hl => ?_)
      refine x_iload_n X d_R_entriesIn_22 rfl hl rfl ?_
      refine x_aload X d_R_entriesIn_23 hl rfl ?_
      refine x_getN X gI c1.2 4 (by decide) e_R_7 rfl d_R_entriesIn_25 ?_
      refine n_iadd X d_R_entriesIn_28 ?_
      refine x_istore_n X d_R_entriesIn_29 rfl hl (by decide) rfl (fun ls hl => ?_)
      refine n_iinc (d := 1) X d_R_entriesIn_30 rfl hl rfl (by decide) rfl (fun ls hl => ?_)
      refine x_goto X 10 d_R_entriesIn_33 rfl ?_
      exact ih (i + 1) _ _ _ (by omega) (by omega) (by rw [ft_zR_tk (by omega)]; exact hl) hS
  exact loop _ 0 none _ _ rfl (Nat.zero_le _) hl hS
set_option maxRecDepth 100000 in
set_option maxHeartbeats 4000000 in
theorem C_R_entriesBefore (l : Launch) (D : va_G) (A : Nat → ClassId) (H0 : Heap) (S : Nat → Prop) (rh : Nat → Nat) (E : ft_E) (ne mm : Nat) (zf : Nat → Nat) (k : Nat) (lr : List ft_I) (as : List Nat) (r : Nat) (ok : ft_okR ne mm zf k lr) (hr : cRw D A S as r H0) (hL : cL D A S rh E lr as H0) (h9 : lr.length < 64) (hz : ft_zR lr < 4096) (n : Nat) (hn : n ≤ lr.length) : xC l y_R_entriesBefore c_R_entriesBefore 4 (some .int) 0 D A H0 [.ref r, .int (nI n)] (fun _ => False) (q1 (.int (nI (ft_zR (lr.take n)))) (fun H1 => H1 = H0)) 0 0 := by
  have hlen := cL_len hL
  refine xC.of rfl (Nat.le_of_ble_eq_true rfl) ?_
  intro p_ e_ s_ m_ ar_ bl_ me_ c_ ls X hl
  have hl : lz ls 4 [some (.ref r), some (.int (nI n)), none, none] := hl
  have hS : va_S (fun _ => False) H0 H0 [] := va_S.rf
  refine x_iconst (v := nI 0) X d_R_entriesBefore_0 rfl ?_
  refine x_istore_n X d_R_entriesBefore_1 rfl hl (by decide) rfl (fun ls hl => ?_)
  refine x_iconst (v := nI 0) X d_R_entriesBefore_2 rfl ?_
  refine x_istore_n X d_R_entriesBefore_3 rfl hl (by decide) rfl (fun ls hl => ?_)
  have loop : ∀ (g i : Nat) (locs : List Loc) (ls : Array Slot), n - i = g → i ≤ n → lz ls 4 [some (.ref r), some (.int (nI n)), some (.int (nI (ft_zR (lr.take i)))), some (.int (nI i))] → va_S (fun _ => False) H0 H0 locs → W p_ l e_ (x_rm 0 0 0) s_ m_ ar_ bl_ me_ c_ H0 locs 0 0 (MQ bl_ (xQ (fun _ => False) (q1 (.int (nI (ft_zR (lr.take n)))) (fun H1 => H1 = H0))) ar_ s_ 0 0 (fun _ => False)) (F0 m_ 4 ls []) := by
    clear hl hS
    intro g
    induction g with
    | zero =>
      intro i locs ls hg hi2 hl hS
      have hie : i = n := by omega
      subst hie
      refine x_iload_n X d_R_entriesBefore_4 rfl hl rfl ?_
      refine x_iload_n X d_R_entriesBefore_5 rfl hl rfl ?_
      refine n_icmp_ge X 24 d_R_entriesBefore_6 rfl (by omega) (by omega) (fun hc => ?_) (fun hc => absurd hc (by omega))
      refine x_iload_n X d_R_entriesBefore_24 rfl hl rfl ?_
      exact x_iret X hS (Nat.le_refl _) (Nat.le_refl _) d_R_entriesBefore_25 ⟨rfl, rfl⟩
    | succ g ih =>
      intro i locs ls hg hi2 hl hS
      obtain ⟨b, hb, okx, hx⟩ := cL_at ok hL (i := i) (by omega)
      obtain ⟨nu, lo, hi, r', bs, c1, c2, c3, c4, c5⟩ := cI_has okx hx
      refine x_iload_n X d_R_entriesBefore_4 rfl hl rfl ?_
      refine x_iload_n X d_R_entriesBefore_5 rfl hl rfl ?_
      refine n_icmp_ge X 24 d_R_entriesBefore_6 rfl (by omega) (by omega) (fun hc => absurd hc (by omega)) (fun hc => ?_)
      refine x_iload_n X d_R_entriesBefore_9 rfl hl rfl ?_
      refine x_aload_n X d_R_entriesBefore_10 rfl hl rfl ?_
      refine x_iload_n X d_R_entriesBefore_11 rfl hl rfl ?_
      refine x_aald X hr hb (by omega) d_R_entriesBefore_12 ?_
      refine x_getN X gI c1.2 4 (by decide) e_R_7 rfl d_R_entriesBefore_13 ?_
      refine n_iadd X d_R_entriesBefore_16 ?_
      refine x_istore_n X d_R_entriesBefore_17 rfl hl (by decide) rfl (fun ls hl => ?_)
      refine n_iinc (d := 1) X d_R_entriesBefore_18 rfl hl rfl (by decide) rfl (fun ls hl => ?_)
      refine x_goto X 4 d_R_entriesBefore_21 rfl ?_
      exact ih (i + 1) _ _ (by omega) (by omega) (by rw [ft_zR_tk (by omega)]; exact hl) hS
  exact loop _ 0 _ _ rfl (Nat.zero_le _) hl hS
theorem ft_ix_cons (x : ft_I) (l : List ft_I) (p : Nat) : ft_ix (x :: l) p = if l.length = 0 ∨ p < ft_z x then 0 else 1 + ft_ix l (p - ft_z x) := rfl
theorem ft_ix_drop : ∀ (l : List ft_I) (p i : Nat), i < l.length → ft_zR (l.take i) ≤ p → ft_ix l p = i + ft_ix (l.drop i) (p - ft_zR (l.take i)) := by
  intro l
  induction l with
  | nil => intro p i hi; simp at hi
  | cons x l ih =>
    intro p i hi hp
    cases i with
    | zero => simp [ft_zR]
    | succ i =>
      simp only [List.length_cons] at hi
      simp only [List.take_succ_cons, ft_zR, List.drop_succ_cons] at hp ⊢
      have h1 := ih (p - ft_z x) i (by omega) (by omega)
      conv => lhs; unfold ft_ix
      rw [if_neg (by omega), h1, Nat.sub_sub]
      omega
set_option maxRecDepth 100000 in
set_option maxHeartbeats 4000000 in
theorem C_R_indexOf (l : Launch) (D : va_G) (A : Nat → ClassId) (H0 : Heap) (S : Nat → Prop) (rh : Nat → Nat) (E : ft_E) (ne mm : Nat) (zf : Nat → Nat) (k : Nat) (lr : List ft_I) (as : List Nat) (r : Nat) (ok : ft_okR ne mm zf k lr) (hr : cRw D A S as r H0) (hL : cL D A S rh E lr as H0) (h9 : lr.length < 64) (hz : ft_zR lr < 4096) (hl0 : 0 < lr.length) (p : Nat) (hp : p < 4096) : xC l y_R_indexOf c_R_indexOf 4 (some .int) 0 D A H0 [.ref r, .int (nI p)] (fun _ => False) (q1 (.int (nI (ft_ix lr p))) (fun H1 => H1 = H0)) 0 0 := by
  have hlen := cL_len hL
  refine xC.of rfl (Nat.le_of_ble_eq_true rfl) ?_
  intro p_ e_ s_ m_ ar_ bl_ me_ c_ ls X hl
  have hl : lz ls 4 [some (.ref r), some (.int (nI p)), none, none] := hl
  have hS : va_S (fun _ => False) H0 H0 [] := va_S.rf
  obtain ⟨b, hb, okx, hx⟩ := cL_at ok hL (i := 0) (by omega)
  obtain ⟨nu, lo, hi, r', bs, c1, c2, c3, c4, c5⟩ := cI_has okx hx
  refine x_iconst (v := nI 0) X d_R_indexOf_0 rfl ?_
  refine x_istore_n X d_R_indexOf_1 rfl hl (by decide) rfl (fun ls hl => ?_)
  refine x_aload_n X d_R_indexOf_2 rfl hl rfl ?_
  refine x_iconst (v := nI 0) X d_R_indexOf_3 rfl ?_
  refine x_aald X hr hb (by omega) d_R_indexOf_4 ?_
  refine x_getN X gI c1.2 4 (by decide) e_R_7 rfl d_R_indexOf_5 ?_
  refine x_istore_n X d_R_indexOf_8 rfl hl (by decide) rfl (fun ls hl => ?_)
  have loop : ∀ (g i : Nat) (locs : List Loc) (ls : Array Slot), lr.length - i = g → i < lr.length → ft_zR (lr.take i) ≤ p → lz ls 4 [some (.ref r), some (.int (nI p)), some (.int (nI i)), some (.int (nI (ft_zR (lr.take (i + 1)))))] → va_S (fun _ => False) H0 H0 locs → W p_ l e_ (x_rm 0 0 0) s_ m_ ar_ bl_ me_ c_ H0 locs 0 0 (MQ bl_ (xQ (fun _ => False) (q1 (.int (nI (ft_ix lr p))) (fun H1 => H1 = H0))) ar_ s_ 0 0 (fun _ => False)) (F0 m_ 9 ls []) := by
    clear hl hS b hb okx hx nu lo hi r' bs c1 c2 c3 c4 c5
    intro g
    induction g with
    | zero => intro i locs ls hg hi2; omega
    | succ g ih =>
      intro i locs ls hg hi2 hpi hl hS
      have hix := ft_ix_drop lr p i hi2 hpi
      have htk := ft_zR_tk hi2
      have hle := ft_zR_td lr (i + 1)
      have hdr : lr.drop i = lr.getD i ft_no :: lr.drop (i + 1) := by
        rw [List.getD_eq_getElem?_getD, List.getElem?_eq_getElem hi2, Option.getD_some, ← List.drop_eq_getElem_cons hi2]
      rw [hdr, ft_ix_cons] at hix
      have hdl : (lr.drop (i + 1)).length = lr.length - (i + 1) := List.length_drop
      refine x_iload_n X d_R_indexOf_9 rfl hl rfl ?_
      refine x_iload_n X d_R_indexOf_10 rfl hl rfl ?_
      refine n_icmp_lt X 37 d_R_indexOf_11 rfl (by omega) (by omega) (fun hc => ?_) (fun hc => ?_)
      · rw [if_pos (Or.inr (by omega))] at hix
        rw [hix, Nat.add_zero]
        refine x_iload_n X d_R_indexOf_37 rfl hl rfl ?_
        exact x_iret X hS (Nat.le_refl _) (Nat.le_refl _) d_R_indexOf_38 ⟨rfl, rfl⟩
      refine x_iload_n X d_R_indexOf_14 rfl hl rfl ?_
      refine x_aload_n X d_R_indexOf_15 rfl hl rfl ?_
      refine x_alen X hr d_R_indexOf_16 ?_
      rw [hlen]
      refine x_iconst (v := nI 1) X d_R_indexOf_17 rfl ?_
      refine n_isub X d_R_indexOf_18 (by omega) ?_
      refine n_icmp_ge X 37 d_R_indexOf_19 rfl (by omega) (by omega) (fun hc2 => ?_) (fun hc2 => ?_)
      · rw [if_pos (Or.inl (by omega))] at hix
        rw [hix, Nat.add_zero]
        refine x_iload_n X d_R_indexOf_37 rfl hl rfl ?_
        exact x_iret X hS (Nat.le_refl _) (Nat.le_refl _) d_R_indexOf_38 ⟨rfl, rfl⟩
      obtain ⟨b, hb, okx, hx⟩ := cL_at ok hL (i := (i + 1)) (by omega)
      obtain ⟨nu, lo, hi, r', bs, c1, c2, c3, c4, c5⟩ := cI_has okx hx
      refine n_iinc (d := 1) X d_R_indexOf_22 rfl hl rfl (by decide) rfl (fun ls hl => ?_)
      refine x_iload_n X d_R_indexOf_25 rfl hl rfl ?_
      refine x_aload_n X d_R_indexOf_26 rfl hl rfl ?_
      refine x_iload_n X d_R_indexOf_27 rfl hl rfl ?_
      refine x_aald X hr hb (by omega) d_R_indexOf_28 ?_
      refine x_getN X gI c1.2 4 (by decide) e_R_7 rfl d_R_indexOf_29 ?_
      refine n_iadd X d_R_indexOf_32 ?_
      refine x_istore_n X d_R_indexOf_33 rfl hl (by decide) rfl (fun ls hl => ?_)
      refine x_goto X 9 d_R_indexOf_34 rfl ?_
      exact ih (i + 1) _ _ (by omega) (by omega) (by omega) (by rw [ft_zR_tk (i := i + 1) (by omega)]; exact hl) hS
  exact loop _ 0 _ _ rfl hl0 (by simp [ft_zR]) (by rw [ft_zR_tk hl0]; simp only [List.take_zero, ft_zR, Nat.zero_add]; exact hl) hS
set_option maxRecDepth 100000 in
set_option maxHeartbeats 4000000 in
theorem C_I_isNode (l : Launch) (D : va_G) (A : Nat → ClassId) (H0 : Heap) (S : Nat → Prop) (rh : Nat → Nat) (E : ft_E) (ne mm : Nat) (zf : Nat → Nat) (k : Nat) (x : ft_I) (a : Nat) (ok : ft_ok ne mm zf k x) (hx : cI D A S rh E x [a] H0) : xC l y_I_isNode c_I_isNode 1 (some .boolean) 0 D A H0 [.ref a] (fun _ => False) (q1 (.int (nI (if k = 0 then 0 else 1))) (fun H1 => H1 = H0)) 0 0 := by
  obtain ⟨nu, lo, hi, r', bs, c1, c2, c3, c4, c5⟩ := cI_has ok hx
  have hlen := cL_len c3
  refine xC.of rfl (Nat.le_of_ble_eq_true rfl) ?_
  intro p_ e_ s_ m_ ar_ bl_ me_ c_ ls X hl
  have hl : lz ls 1 [some (.ref a)] := hl
  have hS : va_S (fun _ => False) H0 H0 [] := va_S.rf
  refine x_aload_n X d_I_isNode_0 rfl hl rfl ?_
  refine x_get X gI c1.2 3 (by decide) e_I_19 rfl d_I_isNode_1 ?_
  refine x_alen X c2 d_I_isNode_4 ?_
  cases k with
  | zero =>
    obtain ⟨rfl, _⟩ := c4 rfl
    refine n_if_le X 12 d_I_isNode_5 rfl (by decide) (fun hc => ?_) (fun hc => absurd hc (by decide))
    refine x_iconst (v := nI 0) X d_I_isNode_12 rfl ?_
    exact x_zret X hS (Nat.le_refl _) (Nat.le_refl _) d_I_isNode_13 rfl ⟨rfl, rfl⟩
  | succ k =>
    obtain ⟨p1, p2, p3, p4⟩ := ft_okR_ps ok
    refine n_if_le X 12 d_I_isNode_5 rfl (by omega) (fun hc => absurd hc (by omega)) (fun hc => ?_)
    refine x_iconst (v := nI 1) X d_I_isNode_8 rfl ?_
    refine x_goto X 13 d_I_isNode_9 rfl ?_
    exact x_zret X hS (Nat.le_refl _) (Nat.le_refl _) d_I_isNode_13 rfl ⟨rfl, rfl⟩
