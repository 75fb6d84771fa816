/-! The class: the entry at a place of a tree, and its level. -/
set_option maxRecDepth 100000 in
set_option maxHeartbeats 4000000 in
theorem C_T_entryAt (l : Launch) (D : va_G) (A : Nat → ClassId) (H0 : Heap) (S : Nat → Prop) (rh : Nat → Nat) (E : ft_E) (ne mm : Nat) (zf : Nat → Nat) (k : Nat) (sp : ft_S) (o : Option ft_I) (a : Nat) (ok : ft_okT ne mm zf k sp o) (hT : cT D A S rh E sp o a H0) (hz : ft_zT sp o < 64) (p : Nat) (hp : p < ft_zT sp o) : xC l y_T_entryAt c_T_entryAt 2 (some (.object "FingerSpans$Item")) (2 * sp.length + k + 4) D A H0 [.ref a, .int (nI p)] (fun _ => False) (qr (fun b H1 => H1 = H0 ∧ ∃ en pa, (ft_lT sp o)[p]? = some (en, pa) ∧ cI D A S rh E (.num en) [b] H0)) 0 0 := by
  induction sp generalizing k a p with
  | nil =>
    have ok0 := ok
    have hT0 := hT
    obtain ⟨lc, rc, as, t1, t2, t3, t4⟩ := hT
    cases o with
    | none => simp [ft_zT] at hp
    | some x =>
      have hzx : ft_zT [] (some x) = ft_z x := rfl
      have hRs : ft_zR [x] = ft_z x := by simp [ft_zR]
      have hLs : ft_lR [x] = ft_lv x := by simp [ft_lR]
      have okR : ft_okR ne mm zf k [x] := fun y hy => by simp at hy; rw [hy]; exact ok
      refine xC.of rfl (Nat.le_of_ble_eq_true rfl) ?_
      intro p_ e_ s_ m_ ar_ bl_ me_ c_ ls X hl
      have hl : lz ls 2 [some (.ref a), some (.int (nI p))] := hl
      have hS : va_S (fun _ => False) H0 H0 [] := va_S.rf
      refine x_iload_n X d_T_entryAt_0 rfl hl rfl ?_
      refine x_aload_n X d_T_entryAt_1 rfl hl rfl ?_
      refine x_get X gT t1.2 3 (by decide) e_T_30 rfl d_T_entryAt_2 ?_
      refine n_icmp_lt X 22 d_T_entryAt_5 rfl (by omega) (by omega) (fun hc => ?_) (fun hc => absurd hc (by omega))
      refine x_aload_n X d_T_entryAt_22 rfl hl rfl ?_
      refine x_iload_n X d_T_entryAt_23 rfl hl rfl ?_
      refine x_goR (x_runV X (C_T_holdsInMiddle l D A _ S rh E ne mm zf k [] (some x) a ok0 hT0 hz p (by omega)) b_T_holdsInMiddle s_T_holdsInMiddle v_T_holdsInMiddle e_T_45 t1.2 rfl rfl hl rfl (Nat.le_of_ble_eq_true rfl) d_T_entryAt_24 (by dsimp only [x_rm]; omega) (by dsimp only [x_rm]; omega) ⟨Nat.le_of_ble_eq_true rfl, Nat.le_of_ble_eq_true rfl⟩) hS (fun locs hS => ?_)
      rw [show ft_hm [] (some x) p = 0 from if_neg (by show ¬ (ft_zT [] (some x) ≤ p ∧ p < ft_zT [] (some x)); omega)]
      refine n_if_eq X 44 d_T_entryAt_27 rfl (by decide) (fun hc => ?_) (fun hc => absurd rfl hc)
      refine x_aload_n X d_T_entryAt_44 rfl hl rfl ?_
      refine x_get X gT t1.2 0 (by decide) e_T_7 rfl d_T_entryAt_45 ?_
      refine x_iload_n X d_T_entryAt_48 rfl hl rfl ?_
      refine x_goRr (x_runSN X (C_R_entryAt l D A _ S rh E ne mm zf k [x] _ _ okR t2 t4 (by simp) (by omega) (by simp) (p) (by omega)) b_R_entryAt s_R_entryAt e_T_41 rfl hl rfl (Nat.le_of_ble_eq_true rfl) d_T_entryAt_49 (by dsimp only [x_rm]; omega) (by dsimp only [x_rm]; omega) ⟨Nat.le_of_ble_eq_true rfl, Nat.le_of_ble_eq_true rfl⟩) hS (fun b2 locs hp2 hS => ?_)
      obtain ⟨en, pa, w1, w2⟩ := hp2
      rw [hLs] at w1
      exact x_aret X (Or.inl ⟨_, rfl⟩) hS (Nat.le_refl _) (Nat.le_refl _) d_T_entryAt_52 ⟨_, rfl, rfl, en, pa, w1, w2⟩
  | cons d sp ih =>
    have ok0 := ok
    have hT0 := hT
    obtain ⟨lc, mc, rc, as, bs, t1, t2, t3, t4, t5, t6⟩ := hT
    obtain ⟨o1, o2, o3⟩ := ok
    have hzz : ft_zT (d :: sp) o = ft_zR d.1 + ft_zT sp o + ft_zR d.2 := rfl
    have hll : (2 * (d :: sp).length + k + 4) = 2 * sp.length + k + 6 := by rw [List.length_cons]; omega
    have hlT : ft_lT (d :: sp) o = ft_lR d.1 ++ ft_lT sp o ++ ft_lR d.2 := rfl
    rw [hll]
    refine xC.of rfl (Nat.le_of_ble_eq_true rfl) ?_
    intro p_ e_ s_ m_ ar_ bl_ me_ c_ ls X hl
    have hl : lz ls 2 [some (.ref a), some (.int (nI p))] := hl
    have hS : va_S (fun _ => False) H0 H0 [] := va_S.rf
    refine x_iload_n X d_T_entryAt_0 rfl hl rfl ?_
    refine x_aload_n X d_T_entryAt_1 rfl hl rfl ?_
    refine x_get X gT t1.2 3 (by decide) e_T_30 rfl d_T_entryAt_2 ?_
    refine n_icmp_lt X 22 d_T_entryAt_5 rfl (by omega) (by omega) (fun hc => ?_) (fun hc => ?_)
    · skip
      refine x_aload_n X d_T_entryAt_22 rfl hl rfl ?_
      refine x_iload_n X d_T_entryAt_23 rfl hl rfl ?_
      refine x_goR (x_runV X (C_T_holdsInMiddle l D A _ S rh E ne mm zf k (d :: sp) o a ok0 hT0 hz p (by omega)) b_T_holdsInMiddle s_T_holdsInMiddle v_T_holdsInMiddle e_T_45 t1.2 rfl rfl hl rfl (Nat.le_of_ble_eq_true rfl) d_T_entryAt_24 (by dsimp only [x_rm]; omega) (by dsimp only [x_rm]; omega) ⟨Nat.le_of_ble_eq_true rfl, Nat.le_of_ble_eq_true rfl⟩) hS (fun locs hS => ?_)
      have hm : ft_hm (d :: sp) o p = if ft_zR d.1 ≤ p then 1 else 0 := by
        unfold ft_hm
        show (if ft_zR d.1 ≤ p ∧ p < ft_zR d.1 + ft_zT sp o then 1 else 0) = _
        by_cases h : ft_zR d.1 ≤ p
        · rw [if_pos ⟨h, hc⟩, if_pos h]
        · rw [if_neg (fun h2 => h h2.1), if_neg h]
      rw [hm]
      by_cases hq : ft_zR d.1 ≤ p
      · rw [if_pos hq]
        refine n_if_eq X 44 d_T_entryAt_27 rfl (by decide) (fun hc => absurd hc (by decide)) (fun hc => ?_)
        refine x_aload_n X d_T_entryAt_30 rfl hl rfl ?_
        refine x_get X gT t1.2 1 (by decide) e_T_13 rfl d_T_entryAt_31 ?_
        refine x_iload_n X d_T_entryAt_34 rfl hl rfl ?_
        refine x_aload_n X d_T_entryAt_35 rfl hl rfl ?_
        refine x_goR (x_runV X (C_T_middleStart l D A _ S rh E ne mm zf k (d :: sp) o a ok0 hT0 hz) b_T_middleStart s_T_middleStart v_T_middleStart e_T_37 t1.2 rfl rfl hl rfl (Nat.le_of_ble_eq_true rfl) d_T_entryAt_36 (by dsimp only [x_rm]; omega) (by dsimp only [x_rm]; omega) ⟨Nat.le_of_ble_eq_true rfl, Nat.le_of_ble_eq_true rfl⟩) hS (fun locs hS => ?_)
        rw [show ft_ms (d :: sp) o = ft_zR d.1 from rfl]
        refine n_isub X d_T_entryAt_39 (by omega) ?_
        obtain ⟨l2, r2, mv, rs, t7⟩ := cT_obj t6
        refine x_goRr (x_runV X (ih (k + 1) mc o3 t6 (by omega) (p - ft_zR d.1) (by omega)) b_T_entryAt s_T_entryAt v_T_entryAt e_T_49 t7.2 rfl rfl hl rfl (Nat.le_of_ble_eq_true rfl) d_T_entryAt_40 (by dsimp only [x_rm]; omega) (by dsimp only [x_rm]; omega) ⟨Nat.le_of_ble_eq_true rfl, Nat.le_of_ble_eq_true rfl⟩) hS (fun b2 locs hp2 hS => ?_)
        obtain ⟨en, pa, w1, w2⟩ := hp2
        have w3 : (ft_lT (d :: sp) o)[p]? = some (en, pa) := by
          rw [hlT, List.append_assoc, List.getElem?_append_right (by rw [ft_lR_len]; exact hq), ft_lR_len, List.getElem?_append_left (by rw [ft_lT_len]; omega), w1]
        exact x_aret X (Or.inl ⟨_, rfl⟩) hS (Nat.le_refl _) (Nat.le_refl _) d_T_entryAt_43 ⟨_, rfl, rfl, en, pa, w3, w2⟩
      · rw [if_neg hq]
        refine n_if_eq X 44 d_T_entryAt_27 rfl (by decide) (fun hc => ?_) (fun hc => absurd rfl hc)
        refine x_aload_n X d_T_entryAt_44 rfl hl rfl ?_
        refine x_get X gT t1.2 0 (by decide) e_T_7 rfl d_T_entryAt_45 ?_
        refine x_iload_n X d_T_entryAt_48 rfl hl rfl ?_
        refine x_goRr (x_runSN X (C_R_entryAt l D A _ S rh E ne mm zf k d.1 _ _ o1.2.2 t2 t4 (by omega) (by omega) (by omega) (p) (by omega)) b_R_entryAt s_R_entryAt e_T_41 rfl hl rfl (Nat.le_of_ble_eq_true rfl) d_T_entryAt_49 (by dsimp only [x_rm]; omega) (by dsimp only [x_rm]; omega) ⟨Nat.le_of_ble_eq_true rfl, Nat.le_of_ble_eq_true rfl⟩) hS (fun b2 locs hp2 hS => ?_)
        obtain ⟨en, pa, w1, w2⟩ := hp2
        have w3 : (ft_lT (d :: sp) o)[p]? = some (en, pa) := by
          rw [hlT, List.append_assoc, List.getElem?_append_left (by rw [ft_lR_len]; omega), w1]
        exact x_aret X (Or.inl ⟨_, rfl⟩) hS (Nat.le_refl _) (Nat.le_refl _) d_T_entryAt_52 ⟨_, rfl, rfl, en, pa, w3, w2⟩
    refine x_aload_n X d_T_entryAt_8 rfl hl rfl ?_
    refine x_get X gT t1.2 2 (by decide) e_T_17 rfl d_T_entryAt_9 ?_
    refine x_iload_n X d_T_entryAt_12 rfl hl rfl ?_
    refine x_aload_n X d_T_entryAt_13 rfl hl rfl ?_
    refine x_get X gT t1.2 3 (by decide) e_T_30 rfl d_T_entryAt_14 ?_
    refine n_isub X d_T_entryAt_17 (by omega) ?_
    refine x_goRr (x_runSN X (C_R_entryAt l D A _ S rh E ne mm zf k d.2 _ _ o2.2.2 t3 t5 (by omega) (by omega) (by omega) (p - (ft_zR d.1 + ft_zT sp o)) (by omega)) b_R_entryAt s_R_entryAt e_T_41 rfl hl rfl (Nat.le_of_ble_eq_true rfl) d_T_entryAt_18 (by dsimp only [x_rm]; omega) (by dsimp only [x_rm]; omega) ⟨Nat.le_of_ble_eq_true rfl, Nat.le_of_ble_eq_true rfl⟩) hS (fun b2 locs hp2 hS => ?_)
    obtain ⟨en, pa, w1, w2⟩ := hp2
    have w3 : (ft_lT (d :: sp) o)[p]? = some (en, pa) := by
      rw [hlT, List.getElem?_append_right (by rw [List.length_append, ft_lR_len, ft_lT_len]; omega), List.length_append, ft_lR_len, ft_lT_len, w1]
    exact x_aret X (Or.inl ⟨_, rfl⟩) hS (Nat.le_refl _) (Nat.le_refl _) d_T_entryAt_21 ⟨_, rfl, rfl, en, pa, w3, w2⟩
