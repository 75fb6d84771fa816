/-! The class: before, after, joined, rowOf. -/
theorem xA.mono {S S1 : Nat → Prop} {H0 H : Heap} (h1 : ∀ q, S q → S1 q) (h2 : H0.size ≤ H.size) : ∀ q, xA S H q → xA S1 H0 q := fun q h => by
  rcases h with h | h
  · exact Or.inl (h1 q h)
  · exact Or.inr (Nat.le_trans h2 h)
set_option maxRecDepth 100000 in
set_option maxHeartbeats 4000000 in
theorem C_R_before (l : Launch) (D : va_G) (A : Nat → ClassId) (H0 : Heap) (S : Nat → Prop) (rh : Nat → Nat) (E : ft_E) (ne mm : Nat) (zf : Nat → Nat) (k : Nat) (lr1 : List ft_I) (as1 : List Nat) (r1 : Nat) (ok1 : ft_okR ne mm zf k lr1) (hr1 : cRw D A S as1 r1 H0) (hL1 : cL D A S rh E lr1 as1 H0) (h91 : lr1.length < 64) (hz1 : ft_zR lr1 < 4096) (n : Nat) (hn : n ≤ lr1.length) (h12 : n ≤ 12) : xC l y_R_before c_R_before 2 (some (.array (.object "FingerSpans$Item"))) 1 D A H0 [.ref r1, .int (nI n)] (xA (fun _ => False) H0) (qr (fun q H1 => cNR D A (as1.take n) q H0 H1)) 1 12 := by
  refine xC.of rfl (Nat.le_of_ble_eq_true rfl) ?_
  intro p_ e_ s_ m_ ar_ bl_ me_ c_ ls X hl
  have hl : lz ls 2 [some (.ref r1), some (.int (nI n))] := hl
  have hS : va_S (xA (fun _ => False) H0) H0 H0 [] := va_S.rf
  refine x_aload_n X d_R_before_0 rfl hl rfl ?_
  refine x_iconst (v := nI 0) X d_R_before_1 rfl ?_
  refine x_iload_n X d_R_before_2 rfl hl rfl ?_
  refine x_gor (x_runS X (C_R_slice l D A _ S rh E ne mm zf k lr1 as1 r1 ok1 hr1 hL1 h91 hz1 0 n (Nat.zero_le _) hn (by omega)) b_R_slice s_R_slice e_R_34 rfl hl rfl (Nat.le_of_ble_eq_true rfl) d_R_before_3 (Nat.le_of_ble_eq_true rfl) (Nat.le_of_ble_eq_true rfl) ⟨Nat.le_of_ble_eq_true rfl, Nat.le_of_ble_eq_true rfl⟩) hS (xA.mono (fun _ h => h) (Nat.le_refl _)) (fun q H locs hP hF hS => ?_)
  rw [List.drop_zero, Nat.sub_zero] at hP
  exact x_aret X (Or.inr ⟨_, rfl⟩) hS (Nat.le_of_ble_eq_true rfl) (Nat.le_of_ble_eq_true rfl) d_R_before_6 ⟨_, rfl, hP⟩
set_option maxRecDepth 100000 in
set_option maxHeartbeats 4000000 in
theorem C_R_after (l : Launch) (D : va_G) (A : Nat → ClassId) (H0 : Heap) (S : Nat → Prop) (rh : Nat → Nat) (E : ft_E) (ne mm : Nat) (zf : Nat → Nat) (k : Nat) (lr1 : List ft_I) (as1 : List Nat) (r1 : Nat) (ok1 : ft_okR ne mm zf k lr1) (hr1 : cRw D A S as1 r1 H0) (hL1 : cL D A S rh E lr1 as1 H0) (h91 : lr1.length < 64) (hz1 : ft_zR lr1 < 4096) (n : Nat) (hn : n < lr1.length) (h12 : lr1.length ≤ 12) : xC l y_R_after c_R_after 2 (some (.array (.object "FingerSpans$Item"))) 1 D A H0 [.ref r1, .int (nI n)] (xA (fun _ => False) H0) (qr (fun q H1 => cNR D A (as1.drop (n + 1)) q H0 H1)) 1 12 := by
  have hlen := cL_len hL1
  refine xC.of rfl (Nat.le_of_ble_eq_true rfl) ?_
  intro p_ e_ s_ m_ ar_ bl_ me_ c_ ls X hl
  have hl : lz ls 2 [some (.ref r1), some (.int (nI n))] := hl
  have hS : va_S (xA (fun _ => False) H0) H0 H0 [] := va_S.rf
  refine x_aload_n X d_R_after_0 rfl hl rfl ?_
  refine x_iload_n X d_R_after_1 rfl hl rfl ?_
  refine x_iconst (v := nI 1) X d_R_after_2 rfl ?_
  refine n_iadd X d_R_after_3 ?_
  refine x_aload_n X d_R_after_4 rfl hl rfl ?_
  refine x_alen X hr1 d_R_after_5 ?_
  rw [hlen]
  refine x_gor (x_runS X (C_R_slice l D A _ S rh E ne mm zf k lr1 as1 r1 ok1 hr1 hL1 h91 hz1 (n + 1) lr1.length (by omega) (Nat.le_refl _) (by omega)) b_R_slice s_R_slice e_R_34 rfl hl rfl (Nat.le_of_ble_eq_true rfl) d_R_after_6 (Nat.le_of_ble_eq_true rfl) (Nat.le_of_ble_eq_true rfl) ⟨Nat.le_of_ble_eq_true rfl, Nat.le_of_ble_eq_true rfl⟩) hS (xA.mono (fun _ h => h) (Nat.le_refl _)) (fun q H locs hP hF hS => ?_)
  rw [List.take_of_length_le (by rw [List.length_drop]; omega)] at hP
  exact x_aret X (Or.inr ⟨_, rfl⟩) hS (Nat.le_of_ble_eq_true rfl) (Nat.le_of_ble_eq_true rfl) d_R_after_9 ⟨_, rfl, hP⟩
set_option maxRecDepth 100000 in
set_option maxHeartbeats 4000000 in
theorem C_R_joined (l : Launch) (D : va_G) (A : Nat → ClassId) (H0 : Heap) (S : Nat → Prop) (rh : Nat → Nat) (E : ft_E) (ne mm : Nat) (zf : Nat → Nat) (k : Nat) (lr1 : List ft_I) (as1 : List Nat) (r1 : Nat) (ok1 : ft_okR ne mm zf k lr1) (hr1 : cRw D A S as1 r1 H0) (hL1 : cL D A S rh E lr1 as1 H0) (h91 : lr1.length < 64) (hz1 : ft_zR lr1 < 4096) (lr2 : List ft_I) (as2 : List Nat) (r2 : Nat) (ok2 : ft_okR ne mm zf k lr2) (hr2 : cRw D A S as2 r2 H0) (hL2 : cL D A S rh E lr2 as2 H0) (h92 : lr2.length < 64) (hz2 : ft_zR lr2 < 4096) (h12 : lr1.length + lr2.length ≤ 12) : xC l y_R_joined c_R_joined 4 (some (.array (.object "FingerSpans$Item"))) 0 D A H0 [.ref r1, .ref r2] (xA (fun _ => False) H0) (qr (fun q H1 => cNR D A (as1 ++ as2) q H0 H1)) 1 12 := by
  have hs : ∀ q, q < H0.size → xA (fun _ => False) H0 q → S q := fun q h1 h2 => by
    rcases h2 with h2 | h2
    · exact h2.elim
    · omega
  have hA : ∀ q, H0.size ≤ q → xA (fun _ => False) H0 q := fun q h => Or.inr h
  have hlen1 := cL_len hL1
  have hlen2 := cL_len hL2
  refine xC.of rfl (Nat.le_of_ble_eq_true rfl) ?_
  intro p_ e_ s_ m_ ar_ bl_ me_ c_ ls X hl
  have hl : lz ls 4 [some (.ref r1), some (.ref r2), none, none] := hl
  have hS : va_S (xA (fun _ => False) H0) H0 H0 [] := va_S.rf
  refine x_aload_n X d_R_joined_0 rfl hl rfl ?_
  refine x_alen X hr1 d_R_joined_1 ?_
  rw [hlen1]
  refine x_aload_n X d_R_joined_2 rfl hl rfl ?_
  refine x_alen X hr2 d_R_joined_3 ?_
  rw [hlen2]
  refine n_iadd X d_R_joined_4 ?_
  refine x_newq X e_R_8 (ws := []) (fun k x hk => by simp at hk) ⟨fun i j x y hx => by simp at hx, fun k x hx => by simp at hx⟩ hS hA (by omega) (Nat.le_of_ble_eq_true rfl) (by dsimp only [x_rm]; omega) d_R_joined_5 (fun q H hP hD hS => ?_)
  refine x_astore_n X d_R_joined_8 rfl hl (by decide) rfl (fun ls hl => ?_)
  refine x_iconst (v := nI 0) X d_R_joined_9 rfl ?_
  refine x_istore_n X d_R_joined_10 rfl hl (by decide) rfl (fun ls hl => ?_)
  have hP : va_P D vwCl [(q, cArr A 3 (lr1.length + lr2.length) (c_fl (as1 ++ as2) 0))] H := by rw [c_fl_0]; exact hP
  have hD : va_D (xA (fun _ => False) H0) [(q, cArr A 3 (lr1.length + lr2.length) (c_fl (as1 ++ as2) 0))] := by rw [c_fl_0]; exact hD
  have loop2 : ∀ (g i : Nat) (H : Heap) (locs : List Loc) (ls : Array Slot), lr2.length - i = g → i ≤ lr2.length → lz ls 4 [some (.ref r1), some (.ref r2), some (.ref q), some (.int (nI i))] → va_P D vwCl [(q, cArr A 3 (lr1.length + lr2.length) (c_fl (as1 ++ as2) (lr1.length + i)))] H → va_D (xA (fun _ => False) H0) [(q, cArr A 3 (lr1.length + lr2.length) (c_fl (as1 ++ as2) (lr1.length + i)))] → va_S (xA (fun _ => False) H0) H0 H locs → W p_ l e_ (x_rm 0 1 12) s_ m_ ar_ bl_ me_ c_ H locs (0 + 1) (0 + (lr1.length + lr2.length)) (MQ bl_ (xQ (xA (fun _ => False) H0) (qr (fun q H1 => cNR D A (as1 ++ as2) q H0 H1))) ar_ s_ 1 12 (xA (fun _ => False) H0)) (F0 m_ 31 ls []) := by
    clear hl hP hD hS
    intro g
    induction g with
    | zero =>
      intro i H locs ls hg hi2 hl hP hD hS
      have hie : i = lr2.length := by omega
      subst hie
      refine x_iload_n X d_R_joined_31 rfl hl rfl ?_
      refine x_aload_n X d_R_joined_32 rfl hl rfl ?_
      refine x_alen X (hr2.tr (cTr.ofS hS hs)) d_R_joined_33 ?_
      rw [hlen2]
      refine n_icmp_ge X 52 d_R_joined_34 rfl (by omega) (by omega) (fun hc => ?_) (fun hc => absurd hc (by omega))
      refine x_aload_n X d_R_joined_52 rfl hl rfl ?_
      have hq : H0.size ≤ q := by
        rcases hD.2 0 _ rfl with h | h
        · exact h.elim
        · exact h
      exact x_aret X (Or.inr ⟨_, rfl⟩) hS (Nat.le_of_ble_eq_true rfl) (by omega) d_R_joined_53 ⟨_, rfl, hq, c_fl_e (hP 0 _ rfl) (by rw [List.length_append]; omega) (fun i hi => rfl)⟩
    | succ g ih =>
      intro i H locs ls hg hi2 hl hP hD hS
      obtain ⟨b, hb, okx, hx⟩ := cL_at ok2 hL2 (i := i) (by omega)
      obtain ⟨nu, lo, hi, r', bs, c1, c2, c3, c4, c5⟩ := cI_has okx hx
      have hb2 : (as1 ++ as2)[lr1.length + i]? = some b := by rw [List.getElem?_append_right (by omega), show lr1.length + i - as1.length = i from by omega]; exact hb
      refine x_iload_n X d_R_joined_31 rfl hl rfl ?_
      refine x_aload_n X d_R_joined_32 rfl hl rfl ?_
      refine x_alen X (hr2.tr (cTr.ofS hS hs)) d_R_joined_33 ?_
      rw [hlen2]
      refine n_icmp_ge X 52 d_R_joined_34 rfl (by omega) (by omega) (fun hc => absurd hc (by omega)) (fun hc => ?_)
      refine x_aload_n X d_R_joined_37 rfl hl rfl ?_
      refine x_aload_n X d_R_joined_38 rfl hl rfl ?_
      refine x_alen X (hr1.tr (cTr.ofS hS hs)) d_R_joined_39 ?_
      rw [hlen1]
      refine x_iload_n X d_R_joined_40 rfl hl rfl ?_
      refine n_iadd X d_R_joined_41 ?_
      refine x_aload_n X d_R_joined_42 rfl hl rfl ?_
      refine x_iload_n X d_R_joined_43 rfl hl rfl ?_
      refine x_aald X (hr2.tr (cTr.ofS hS hs)) hb (by omega) d_R_joined_44 ?_
      refine x_aast X hP hD hS 0 rfl (c1.tr (cTr.ofS hS hs)).2 (by omega) (by omega) d_R_joined_45 (fun H locs hP hD hS => ?_)
      rw [c_fl_s hb2] at hP hD
      refine n_iinc (d := 1) X d_R_joined_46 rfl hl rfl (by decide) rfl (fun ls hl => ?_)
      refine x_goto X 31 d_R_joined_49 rfl ?_
      exact ih (i + 1) _ _ _ (by omega) (by omega) hl hP hD hS
  have loop1 : ∀ (g i : Nat) (H : Heap) (locs : List Loc) (ls : Array Slot), lr1.length - i = g → i ≤ lr1.length → lz ls 4 [some (.ref r1), some (.ref r2), some (.ref q), some (.int (nI i))] → va_P D vwCl [(q, cArr A 3 (lr1.length + lr2.length) (c_fl (as1 ++ as2) i))] H → va_D (xA (fun _ => False) H0) [(q, cArr A 3 (lr1.length + lr2.length) (c_fl (as1 ++ as2) i))] → va_S (xA (fun _ => False) H0) H0 H locs → W p_ l e_ (x_rm 0 1 12) s_ m_ ar_ bl_ me_ c_ H locs (0 + 1) (0 + (lr1.length + lr2.length)) (MQ bl_ (xQ (xA (fun _ => False) H0) (qr (fun q H1 => cNR D A (as1 ++ as2) q H0 H1))) ar_ s_ 1 12 (xA (fun _ => False) H0)) (F0 m_ 11 ls []) := by
    clear hl hP hD hS
    intro g
    induction g with
    | zero =>
      intro i H locs ls hg hi2 hl hP hD hS
      have hie : i = lr1.length := by omega
      subst hie
      refine x_iload_n X d_R_joined_11 rfl hl rfl ?_
      refine x_aload_n X d_R_joined_12 rfl hl rfl ?_
      refine x_alen X (hr1.tr (cTr.ofS hS hs)) d_R_joined_13 ?_
      rw [hlen1]
      refine n_icmp_ge X 29 d_R_joined_14 rfl (by omega) (by omega) (fun hc => ?_) (fun hc => absurd hc (by omega))
      refine x_iconst (v := nI 0) X d_R_joined_29 rfl ?_
      refine x_istore_n X d_R_joined_30 rfl hl (by decide) rfl (fun ls hl => ?_)
      exact loop2 _ 0 _ _ _ rfl (Nat.zero_le _) hl hP hD hS
    | succ g ih =>
      intro i H locs ls hg hi2 hl hP hD hS
      obtain ⟨b, hb, okx, hx⟩ := cL_at ok1 hL1 (i := i) (by omega)
      obtain ⟨nu, lo, hi, r', bs, c1, c2, c3, c4, c5⟩ := cI_has okx hx
      have hb2 : (as1 ++ as2)[i]? = some b := by rw [List.getElem?_append_left (by omega)]; exact hb
      refine x_iload_n X d_R_joined_11 rfl hl rfl ?_
      refine x_aload_n X d_R_joined_12 rfl hl rfl ?_
      refine x_alen X (hr1.tr (cTr.ofS hS hs)) d_R_joined_13 ?_
      rw [hlen1]
      refine n_icmp_ge X 29 d_R_joined_14 rfl (by omega) (by omega) (fun hc => absurd hc (by omega)) (fun hc => ?_)
      refine x_aload_n X d_R_joined_17 rfl hl rfl ?_
      refine x_iload_n X d_R_joined_18 rfl hl rfl ?_
      refine x_aload_n X d_R_joined_19 rfl hl rfl ?_
      refine x_iload_n X d_R_joined_20 rfl hl rfl ?_
      refine x_aald X (hr1.tr (cTr.ofS hS hs)) hb (by omega) d_R_joined_21 ?_
      refine x_aast X hP hD hS 0 rfl (c1.tr (cTr.ofS hS hs)).2 (by omega) (by omega) d_R_joined_22 (fun H locs hP hD hS => ?_)
      rw [c_fl_s hb2] at hP hD
      refine n_iinc (d := 1) X d_R_joined_23 rfl hl rfl (by decide) rfl (fun ls hl => ?_)
      refine x_goto X 11 d_R_joined_26 rfl ?_
      exact ih (i + 1) _ _ _ (by omega) (by omega) hl hP hD hS
  exact loop1 _ 0 _ _ _ rfl (Nat.zero_le _) hl hP hD hS
set_option maxRecDepth 100000 in
set_option maxHeartbeats 4000000 in
theorem C_U_rowOf (l : Launch) (D : va_G) (A : Nat → ClassId) (H0 : Heap) (S : Nat → Prop) (rh : Nat → Nat) (E : ft_E) (ne mm : Nat) (zf : Nat → Nat) (k : Nat) (x : ft_I) (a : Nat) (okx : ft_ok ne mm zf k x) (hx : cI D A S rh E x [a] H0) : xC l y_U_rowOf c_U_rowOf 1 (some (.array (.object "FingerSpans$Item"))) 0 D A H0 [.ref a] (xA (fun _ => False) H0) (qr (fun q H1 => cNR D A [a] q H0 H1)) 1 12 := by
  have hs : ∀ q, q < H0.size → xA (fun _ => False) H0 q → S q := fun q h1 h2 => by
    rcases h2 with h2 | h2
    · exact h2.elim
    · omega
  have hA : ∀ q, H0.size ≤ q → xA (fun _ => False) H0 q := fun q h => Or.inr h
  obtain ⟨nu, lo, hi, r', bs, c1, c2, c3, c4, c5⟩ := cI_has okx hx
  refine xC.of rfl (Nat.le_of_ble_eq_true rfl) ?_
  intro p_ e_ s_ m_ ar_ bl_ me_ c_ ls X hl
  have hl : lz ls 1 [some (.ref a)] := hl
  have hS : va_S (xA (fun _ => False) H0) H0 H0 [] := va_S.rf
  refine x_iconst (v := nI 1) X d_U_rowOf_0 rfl ?_
  refine x_newq X e_U_9 (ws := []) (fun k x hk => by simp at hk) ⟨fun i j x y hx => by simp at hx, fun k x hx => by simp at hx⟩ hS hA (by decide) (Nat.le_of_ble_eq_true rfl) (Nat.le_of_ble_eq_true rfl) d_U_rowOf_1 (fun q H hP hD hS => ?_)
  refine x_dup X d_U_rowOf_4 rfl ?_
  refine x_iconst (v := nI 0) X d_U_rowOf_5 rfl ?_
  refine x_aload_n X d_U_rowOf_6 rfl hl rfl ?_
  refine x_aast X hP hD hS 0 rfl (c1.tr (cTr.ofS hS hs)).2 (by decide) (by decide) d_U_rowOf_7 (fun H locs hP hD hS => ?_)
  have hq : H0.size ≤ q := by
    rcases hD.2 0 _ rfl with h | h
    · exact h.elim
    · exact h
  exact x_aret X (Or.inr ⟨_, rfl⟩) hS (Nat.le_of_ble_eq_true rfl) (Nat.le_of_ble_eq_true rfl) d_U_rowOf_8 ⟨_, rfl, hq, cArr_ext (hP 0 _ rfl) (fun i hi => by
    have hi : i < 1 := hi
    have : i = 0 := by omega
    subst this
    rfl)⟩
