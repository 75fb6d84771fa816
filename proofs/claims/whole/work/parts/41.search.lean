/-! The reference, call by call: upTo, measure, search. -/
def sp_su (es : ft_E) : Int64 := es.foldl (fun s e => s + e.2.toInt64 - e.1.toInt64 + 1) 0
def sp_x (k : Int32) (e : Int32 × Int32) : Int64 := if k = 1 then e.1.toInt64 else e.2.toInt64
def sp_tt (k : Int32) (es : ft_E) : Int64 := es.foldl (fun s e => if s < sp_x k e then sp_x k e else s) (-2147483648)
theorem sp_su1 (es : ft_E) (e : Int32 × Int32) : sp_su (es ++ [e]) = sp_su es + e.2.toInt64 - e.1.toInt64 + 1 := by unfold sp_su; rw [List.foldl_append]; rfl
theorem sp_tt1 (k : Int32) (es : ft_E) (e : Int32 × Int32) : sp_tt k (es ++ [e]) = if sp_tt k es < sp_x k e then sp_x k e else sp_tt k es := by unfold sp_tt; rw [List.foldl_append]; rfl
theorem sp_tot_eq (k : Int32) (es : ft_E) : sp_tot k es = if k = 0 then lN es.length else if k = 3 then sp_su es else sp_tt k es := by
  unfold sp_tot sp_su sp_tt sp_x
  by_cases h0 : k = 0
  · rw [if_pos h0, if_pos h0]
  · rw [if_neg h0, if_neg h0]
    by_cases h3 : k = 3
    · rw [if_pos h3, if_pos h3]
    · rw [if_neg h3, if_neg h3]
      by_cases h1 : k = 1
      · simp only [if_pos h1]
      · simp only [if_neg h1]
theorem sp_take1 {es : ft_E} {i : Nat} {e : Int32 × Int32} (h : es[i]? = some e) : es.take (i + 1) = es.take i ++ [e] := by
  rw [List.take_add_one, h]
  rfl
section XL
variable {p : Program} {l : Launch} {e : Env} {R : Room} {s : State} {m : MethodId} {args : Array Value} {below : List Frame} {meth : Method} {c : Code} {H : Heap} {locs : List Loc} {cells slots : Nat} {Q : State → Prop}
variable {cc : ByteArray} {nL : Nat} {own : String} {ret : Option FieldType} {D : va_G} {A : Nat → ClassId} {H0 : Heap} {pc : Nat} {ls : Array Slot} {rest : List Value}
theorem x_lcmp (X : xx p s m args meth c cc nL own ret D A H0) {x y : Int64} (hdg : decode cc pc = .ok (.lcmp, 1)) (kk : W p l e R s m args below meth c H locs cells slots Q (F0 m (pc + 1) ls (.int (lg_cmp x y) :: rest))) : W p l e R s m args below meth c H locs cells slots Q (F0 m pc ls (.long y :: .long x :: rest)) := W.lcmp X.1 X.2.1 hdg kk
end XL
set_option maxRecDepth 100000 in
set_option maxHeartbeats 4000000 in
theorem C_M_upTo (l : Launch) (D : va_G) (A : Nat → ClassId) (H0 : Heap) (a : Nat → Nat) (lo hi : Nat → Int32) (en md vs n : Nat) (zf mk pl ct w : Nat → Nat) (q : ft_Q) (hq : sp_ok2 q) (hR : mR q lo hi en zf mk md pl ct vs w n) (hP : mH D a A lo hi en zf mk md pl ct vs w n H0) (j k : Nat) (t : ft_T) (kd : Int32) (hjt : q.1[j]? = some t) (hk : k ≤ ft_zT t.1 t.2) : xC l y_M_upTo c_M_upTo 12 (some .long) 1 D A H0 [.ref (a 0), .int (nI j), .int (nI k), .int kd] (fun _ => False) (q1 (.long (if kd = 0 then lN k else if kd = 3 then sp_su ((sp_es q t).take k) else sp_tt kd ((sp_es q t).take k))) (fun H1 => H1 = H0)) 0 0 := by
  obtain ⟨⟨rfl, rfl, rfl, rfl⟩, h5, h6, h7, h8, h9, h10⟩ := id hR
  have hl2 := hq.1.2.1
  have hj := (List.getElem?_eq_some_iff.1 hjt).1
  have ht := hq.1.2.2.1 t (List.mem_of_getElem? hjt)
  obtain ⟨hct, hpl⟩ := h6 j t hjt
  have hz40 := ht.2
  refine xC.of rfl (Nat.le_of_ble_eq_true rfl) ?_
  intro p_ e_ s_ m_ ar_ bl_ me_ c_ ls X hl
  have hl : lz ls 12 [some (.ref (a 0)), some (.int (nI j)), some (.int (nI k)), some (.int kd), none, none, none, none, none, none, none, none] := hl
  have hS : va_S (fun _ => False) H0 H0 [] := va_S.rf
  refine x_lconst (v := lN 0) X d_M_upTo_0 rfl ?_
  refine x_lstore X d_M_upTo_1 hl (by decide) rfl (fun ls hl => ?_)
  refine x_ldc2 X e_M_150 d_M_upTo_3 ?_
  refine x_lstore X d_M_upTo_6 hl (by decide) rfl (fun ls hl => ?_)
  refine x_iconst (v := nI 0) X d_M_upTo_8 rfl ?_
  refine x_istore X d_M_upTo_9 hl (by decide) rfl (fun ls hl => ?_)
  have loop : ∀ (g i : Nat) (v9 v10 : Option Value) (locs : List Loc) (ls : Array Slot), k - i = g → i ≤ k → lz ls 12 [some (.ref (a 0)), some (.int (nI j)), some (.int (nI k)), some (.int kd), some (.long (sp_su ((sp_es q t).take i))), none, some (.long (sp_tt kd ((sp_es q t).take i))), none, some (.int (nI i)), v9, v10, none] → va_S (fun _ => False) H0 H0 locs → W p_ l e_ (x_rm 1 0 0) s_ m_ ar_ bl_ me_ c_ H0 locs 0 0 (MQ bl_ (xQ (fun _ => False) (q1 (.long (if kd = 0 then lN k else if kd = 3 then sp_su ((sp_es q t).take k) else sp_tt kd ((sp_es q t).take k))) (fun H1 => H1 = H0))) ar_ s_ 0 0 (fun _ => False)) (F0 m_ 11 ls []) := by
    clear hl hS
    intro g
    induction g with
    | zero =>
      intro i v9 v10 locs ls hg hik hl hS
      have hie : i = k := by omega
      subst hie
      refine x_iload X d_M_upTo_11 hl rfl ?_
      refine x_iload_n X d_M_upTo_13 rfl hl rfl ?_
      refine n_icmp_ge X 107 d_M_upTo_14 rfl (by omega) (by omega) (fun hc => ?_) (fun hc => absurd hc (by omega))
      refine x_iload_n X d_M_upTo_107 rfl hl rfl ?_
      refine x_if_ne X 116 d_M_upTo_108 rfl (fun h0 => ?_) (fun h0 => ?_)
      · skip
        refine x_iload_n X d_M_upTo_116 rfl hl rfl ?_
        refine x_iconst (v := nI 3) X d_M_upTo_117 rfl ?_
        refine x_icmp_ne X 126 d_M_upTo_118 rfl (fun h3 => ?_) (fun h3 => ?_)
        · skip
          refine x_lload X d_M_upTo_126 hl rfl ?_
          exact x_lret X hS (Nat.le_refl _) (Nat.le_refl _) d_M_upTo_128 ⟨by rw [if_neg h0, if_neg (fun e => h3 (e.trans (by decide)))], rfl⟩
        · skip
          refine x_lload X d_M_upTo_121 hl rfl ?_
          refine x_goto X 128 d_M_upTo_123 rfl ?_
          exact x_lret X hS (Nat.le_refl _) (Nat.le_refl _) d_M_upTo_128 ⟨by rw [if_neg h0, if_pos (h3.trans (by decide))], rfl⟩
      · skip
        refine x_iload_n X d_M_upTo_111 rfl hl rfl ?_
        refine x_i2l X d_M_upTo_112 (nI_l (by omega)) ?_
        refine x_goto X 128 d_M_upTo_113 rfl ?_
        exact x_lret X hS (Nat.le_refl _) (Nat.le_refl _) d_M_upTo_128 ⟨by rw [if_pos h0], rfl⟩
    | succ g ih =>
      intro i v9 v10 locs ls hg hik hl hS
      obtain ⟨e, he1, he2, he3, he4⟩ := mR_at (p := i) hq h5 (List.mem_of_getElem? hjt) hpl (by omega)
      have hsu := sp_su1 ((sp_es q t).take i) e
      have htt := sp_tt1 kd ((sp_es q t).take i) e
      rw [← sp_take1 he1] at hsu htt
      refine x_iload X d_M_upTo_11 hl rfl ?_
      refine x_iload_n X d_M_upTo_13 rfl hl rfl ?_
      refine n_icmp_ge X 107 d_M_upTo_14 rfl (by omega) (by omega) (fun hc => absurd hc (by omega)) (fun hc => ?_)
      refine x_aload_n X d_M_upTo_17 rfl hl rfl ?_
      refine m_get X hP 6 (by decide) e_M_23 rfl d_M_upTo_18 ?_
      refine x_bipush (v := nI 40) X d_M_upTo_21 rfl ?_
      refine x_iload_n X d_M_upTo_23 rfl hl rfl ?_
      refine n_imul X d_M_upTo_24 ?_
      refine x_iload X d_M_upTo_25 hl rfl ?_
      refine n_iadd X d_M_upTo_27 ?_
      refine m_ld_pl X hP (by omega) d_M_upTo_28 ?_
      refine x_goR (x_runS X (C_M_entry l D A _ (pl (40 * j + i))) b_M_entry s_M_entry e_M_144 rfl hl rfl (Nat.le_of_ble_eq_true rfl) d_M_upTo_29 (Nat.le_of_ble_eq_true rfl) (Nat.le_of_ble_eq_true rfl) ⟨Nat.le_of_ble_eq_true rfl, Nat.le_of_ble_eq_true rfl⟩) hS (fun locs hS => ?_)
      refine x_istore X d_M_upTo_32 hl (by decide) rfl (fun ls hl => ?_)
      refine x_iload_n X d_M_upTo_34 rfl hl rfl ?_
      refine x_iconst (v := nI 1) X d_M_upTo_35 rfl ?_
      have mid : ∀ (locs : List Loc) (ls : Array Slot), lz ls 12 [some (.ref (a 0)), some (.int (nI j)), some (.int (nI k)), some (.int kd), some (.long (sp_su ((sp_es q t).take i))), none, some (.long (sp_tt kd ((sp_es q t).take i))), none, some (.int (nI i)), some (.int (nI (pl (40 * j + i) % 128))), v10, none] → va_S (fun _ => False) H0 H0 locs → W p_ l e_ (x_rm 1 0 0) s_ m_ ar_ bl_ me_ c_ H0 locs 0 0 (MQ bl_ (xQ (fun _ => False) (q1 (.long (if kd = 0 then lN k else if kd = 3 then sp_su ((sp_es q t).take k) else sp_tt kd ((sp_es q t).take k))) (fun H1 => H1 = H0))) ar_ s_ 0 0 (fun _ => False)) (F0 m_ 58 ls [.long (sp_x kd e)]) := by
        intro locs ls hl hS
        refine x_lstore X d_M_upTo_58 hl (by decide) rfl (fun ls hl => ?_)
        refine x_lload X d_M_upTo_60 hl rfl ?_
        refine x_lload X d_M_upTo_62 hl rfl ?_
        refine x_lcmp X d_M_upTo_64 ?_
        have tail : ∀ (locs : List Loc) (ls : Array Slot), lz ls 12 [some (.ref (a 0)), some (.int (nI j)), some (.int (nI k)), some (.int kd), some (.long (sp_su ((sp_es q t).take i))), none, some (.long (sp_tt kd ((sp_es q t).take i))), none, some (.int (nI i)), some (.int (nI (pl (40 * j + i) % 128))), some (.long (sp_x kd e)), none] → va_S (fun _ => False) H0 H0 locs → W p_ l e_ (x_rm 1 0 0) s_ m_ ar_ bl_ me_ c_ H0 locs 0 0 (MQ bl_ (xQ (fun _ => False) (q1 (.long (if kd = 0 then lN k else if kd = 3 then sp_su ((sp_es q t).take k) else sp_tt kd ((sp_es q t).take k))) (fun H1 => H1 = H0))) ar_ s_ 0 0 (fun _ => False)) (F0 m_ 75 ls [.long (sp_tt kd ((sp_es q t).take (i + 1)))]) := by
          intro locs ls hl hS
          refine x_lstore X d_M_upTo_75 hl (by decide) rfl (fun ls hl => ?_)
          refine x_lload X d_M_upTo_77 hl rfl ?_
          refine x_aload_n X d_M_upTo_79 rfl hl rfl ?_
          refine m_get X hP 1 (by decide) e_M_13 rfl d_M_upTo_80 ?_
          refine x_iload X d_M_upTo_83 hl rfl ?_
          refine m_ld_hi X hP (by omega) d_M_upTo_85 ?_
          rw [he4]
          refine x_i2l X d_M_upTo_86 rfl ?_
          refine x_ladd X d_M_upTo_87 ?_
          refine x_aload_n X d_M_upTo_88 rfl hl rfl ?_
          refine m_get X hP 0 (by decide) e_M_7 rfl d_M_upTo_89 ?_
          refine x_iload X d_M_upTo_92 hl rfl ?_
          refine m_ld_lo X hP (by omega) d_M_upTo_94 ?_
          rw [he3]
          refine x_i2l X d_M_upTo_95 rfl ?_
          refine x_lsub X d_M_upTo_96 ?_
          refine x_lconst (v := lN 1) X d_M_upTo_97 rfl ?_
          refine x_ladd X d_M_upTo_98 ?_
          refine x_topl (y := sp_su ((sp_es q t).take (i + 1))) (by rw [hsu]; rfl) ?_
          refine x_lstore X d_M_upTo_99 hl (by decide) rfl (fun ls hl => ?_)
          refine n_iinc (d := 1) X d_M_upTo_101 rfl hl rfl (by decide) rfl (fun ls hl => ?_)
          refine x_goto X 11 d_M_upTo_104 rfl ?_
          exact ih (i + 1) _ _ _ _ (by omega) (by omega) hl hS
        refine x_if_le X 73 d_M_upTo_65 rfl (fun h => ?_) (fun h => ?_)
        · rw [lg_cmp_le] at h
          rw [if_neg (Int64.not_lt.2 h)] at htt
          refine x_lload X d_M_upTo_73 hl rfl ?_
          rw [← htt]
          exact tail _ _ hl hS
        · rw [lg_cmp_le] at h
          rw [if_pos (Int64.not_le.1 h)] at htt
          refine x_lload X d_M_upTo_68 hl rfl ?_
          refine x_goto X 75 d_M_upTo_70 rfl ?_
          rw [← htt]
          exact tail _ _ hl hS
      refine x_icmp_ne X 50 d_M_upTo_36 rfl (fun h => ?_) (fun h => ?_)
      · have hx : sp_x kd e = e.2.toInt64 := by unfold sp_x; rw [if_neg (fun e2 => h (e2.trans (by decide)))]
        refine x_aload_n X d_M_upTo_50 rfl hl rfl ?_
        refine m_get X hP 1 (by decide) e_M_13 rfl d_M_upTo_51 ?_
        refine x_iload X d_M_upTo_54 hl rfl ?_
        refine m_ld_hi X hP (by omega) d_M_upTo_56 ?_
        rw [he4]
        refine x_i2l X d_M_upTo_57 hx.symm ?_
        exact mid _ _ hl hS
      · have hx : sp_x kd e = e.1.toInt64 := by unfold sp_x; rw [if_pos (h.trans (by decide))]
        refine x_aload_n X d_M_upTo_39 rfl hl rfl ?_
        refine m_get X hP 0 (by decide) e_M_7 rfl d_M_upTo_40 ?_
        refine x_iload X d_M_upTo_43 hl rfl ?_
        refine m_ld_lo X hP (by omega) d_M_upTo_45 ?_
        rw [he3]
        refine x_i2l X d_M_upTo_46 hx.symm ?_
        refine x_goto X 58 d_M_upTo_47 rfl ?_
        exact mid _ _ hl hS
  exact loop k 0 none none _ _ rfl (Nat.zero_le _) hl hS
set_option maxRecDepth 100000 in
set_option maxHeartbeats 4000000 in
theorem A_M_measure (l : Launch) (D : va_G) (A : Nat → ClassId) (H0 : Heap) (a : Nat → Nat) (q : ft_Q) (hq : sp_ok2 q) (hI : mI D a A q H0) (v : Int32) (kd : Int32) : xC l y_M_measure c_M_measure 3 (some .long) 4 D A H0 [.ref (a 0), .int v, .int kd] (fun _ => False) (q1 (.long (sp_measure q v kd)) (fun H1 => H1 = H0)) 0 0 := by
  obtain ⟨lo, hi, en, zf, mk, md, pl, ct, vs, w, n, hR, hP⟩ := hI
  obtain ⟨⟨rfl, rfl, rfl, rfl⟩, h5, h6, h7, h8, h9, h10⟩ := id hR
  have hl1 := hq.1.1
  have hl2 := hq.1.2.1
  have hl3 := hq.1.2.2.2.1
  have hmd0 := sp_md hq
  rcases sp_at_cases hq v with ⟨hv, hat⟩ | ⟨j, t, rfl, hj, hjt, hat⟩
  · rw [show sp_measure q v kd = lN 0 from by unfold sp_measure; rw [hat]; rfl]
    refine xC.of rfl (Nat.le_of_ble_eq_true rfl) ?_
    intro p_ e_ s_ m_ ar_ bl_ me_ c_ ls X hl
    have hl : lz ls 3 [some (.ref (a 0)), some (.int v), some (.int kd)] := hl
    have hS : va_S (fun _ => False) H0 H0 [] := va_S.rf
    refine x_aload_n X d_M_measure_0 rfl hl rfl ?_
    refine x_iload_n X d_M_measure_1 rfl hl rfl ?_
    refine x_goR (x_runV X (C_M_none_t l D A _ a lo hi q.2.2.length q.2.1.1 q.1.length n q.2.1.2 mk pl ct w hP v hv) b_M_none s_M_none v_M_none e_M_109 (m_at hP) rfl rfl hl rfl (Nat.le_of_ble_eq_true rfl) d_M_measure_2 (Nat.le_of_ble_eq_true rfl) (Nat.le_of_ble_eq_true rfl) ⟨Nat.le_of_ble_eq_true rfl, Nat.le_of_ble_eq_true rfl⟩) hS (fun locs hS => ?_)
    refine n_if_ne X 26 d_M_measure_5 rfl (by decide) (fun hc => ?_) (fun hc => absurd hc (by decide))
    refine x_lconst (v := lN 0) X d_M_measure_26 rfl ?_
    refine x_goto X 42 d_M_measure_27 rfl ?_
    exact x_lret X hS (Nat.le_refl _) (Nat.le_refl _) d_M_measure_42 ⟨rfl, rfl⟩
  have ht := hq.1.2.2.1 t (List.mem_of_getElem? hjt)
  obtain ⟨hct, hpl⟩ := h6 j t hjt
  have hz40 := ht.2
  by_cases hb : ft_zT t.1 t.2 = 0 ∨ kd < 0 ∨ 3 < kd
  · rw [show sp_measure q (nI j) kd = lN 0 from by unfold sp_measure; rw [hat]; dsimp only; rw [if_pos hb]; rfl]
    refine xC.of rfl (Nat.le_of_ble_eq_true rfl) ?_
    intro p_ e_ s_ m_ ar_ bl_ me_ c_ ls X hl
    have hl : lz ls 3 [some (.ref (a 0)), some (.int (nI j)), some (.int kd)] := hl
    have hS : va_S (fun _ => False) H0 H0 [] := va_S.rf
    have fin : ∀ (locs : List Loc), va_S (fun _ => False) H0 H0 locs → W p_ l e_ (x_rm 4 0 0) s_ m_ ar_ bl_ me_ c_ H0 locs 0 0 (MQ bl_ (xQ (fun _ => False) (q1 (.long (lN 0)) (fun H1 => H1 = H0))) ar_ s_ 0 0 (fun _ => False)) (F0 m_ 26 ls []) := by
      intro locs hS
      refine x_lconst (v := lN 0) X d_M_measure_26 rfl ?_
      refine x_goto X 42 d_M_measure_27 rfl ?_
      exact x_lret X hS (Nat.le_refl _) (Nat.le_refl _) d_M_measure_42 ⟨rfl, rfl⟩
    refine x_aload_n X d_M_measure_0 rfl hl rfl ?_
    refine x_iload_n X d_M_measure_1 rfl hl rfl ?_
    refine x_goR (x_runV X (C_M_none_f l D A _ a lo hi q.2.2.length q.2.1.1 q.1.length n q.2.1.2 mk pl ct w hP j hj (by omega)) b_M_none s_M_none v_M_none e_M_109 (m_at hP) rfl rfl hl rfl (Nat.le_of_ble_eq_true rfl) d_M_measure_2 (Nat.le_of_ble_eq_true rfl) (Nat.le_of_ble_eq_true rfl) ⟨Nat.le_of_ble_eq_true rfl, Nat.le_of_ble_eq_true rfl⟩) hS (fun locs hS => ?_)
    refine n_if_ne X 26 d_M_measure_5 rfl (by decide) (fun hc => absurd rfl hc) (fun hc => ?_)
    refine x_aload_n X d_M_measure_8 rfl hl rfl ?_
    refine m_get X hP 7 (by decide) e_M_27 rfl d_M_measure_9 ?_
    refine x_iload_n X d_M_measure_12 rfl hl rfl ?_
    refine m_ld_ct X hP (by omega) d_M_measure_13 ?_
    rw [hct]
    refine n_if_eq X 26 d_M_measure_14 rfl (by omega) (fun _ => fin _ hS) (fun hz0 => ?_)
    refine x_iload_n X d_M_measure_17 rfl hl rfl ?_
    refine x_if_lt X 26 d_M_measure_18 rfl (fun _ => fin _ hS) (fun h0 => ?_)
    refine x_iload_n X d_M_measure_21 rfl hl rfl ?_
    refine x_iconst (v := nI 3) X d_M_measure_22 rfl ?_
    refine x_icmp_le X 30 d_M_measure_23 rfl (fun h => ?_) (fun _ => fin _ hS)
    rcases hb with hb | hb | hb
    · exact absurd hb hz0
    · exact absurd hb h0
    · exact absurd hb (Int32.not_lt.2 h)
  rw [show sp_measure q (nI j) kd = sp_tot kd (sp_es q t) from by unfold sp_measure; rw [hat]; dsimp only; rw [if_neg hb]]
  have hes := sp_es_len q t
  refine xC.of rfl (Nat.le_of_ble_eq_true rfl) ?_
  intro p_ e_ s_ m_ ar_ bl_ me_ c_ ls X hl
  have hl : lz ls 3 [some (.ref (a 0)), some (.int (nI j)), some (.int kd)] := hl
  have hS : va_S (fun _ => False) H0 H0 [] := va_S.rf
  refine x_aload_n X d_M_measure_0 rfl hl rfl ?_
  refine x_iload_n X d_M_measure_1 rfl hl rfl ?_
  refine x_goR (x_runV X (C_M_none_f l D A _ a lo hi q.2.2.length q.2.1.1 q.1.length n q.2.1.2 mk pl ct w hP j hj (by omega)) b_M_none s_M_none v_M_none e_M_109 (m_at hP) rfl rfl hl rfl (Nat.le_of_ble_eq_true rfl) d_M_measure_2 (Nat.le_of_ble_eq_true rfl) (Nat.le_of_ble_eq_true rfl) ⟨Nat.le_of_ble_eq_true rfl, Nat.le_of_ble_eq_true rfl⟩) hS (fun locs hS => ?_)
  refine n_if_ne X 26 d_M_measure_5 rfl (by decide) (fun hc => absurd rfl hc) (fun hc => ?_)
  refine x_aload_n X d_M_measure_8 rfl hl rfl ?_
  refine m_get X hP 7 (by decide) e_M_27 rfl d_M_measure_9 ?_
  refine x_iload_n X d_M_measure_12 rfl hl rfl ?_
  refine m_ld_ct X hP (by omega) d_M_measure_13 ?_
  rw [hct]
  refine n_if_eq X 26 d_M_measure_14 rfl (by omega) (fun hc => absurd (Or.inl hc) hb) (fun hc => ?_)
  refine x_iload_n X d_M_measure_17 rfl hl rfl ?_
  refine x_if_lt X 26 d_M_measure_18 rfl (fun h0 => absurd (Or.inr (Or.inl h0)) hb) (fun h0 => ?_)
  refine x_iload_n X d_M_measure_21 rfl hl rfl ?_
  refine x_iconst (v := nI 3) X d_M_measure_22 rfl ?_
  refine x_icmp_le X 30 d_M_measure_23 rfl (fun _ => ?_) (fun h => absurd (Or.inr (Or.inr (Int32.not_le.1 h))) hb)
  refine x_aload_n X d_M_measure_30 rfl hl rfl ?_
  refine x_iload_n X d_M_measure_31 rfl hl rfl ?_
  refine x_aload_n X d_M_measure_32 rfl hl rfl ?_
  refine m_get X hP 7 (by decide) e_M_27 rfl d_M_measure_33 ?_
  refine x_iload_n X d_M_measure_36 rfl hl rfl ?_
  refine m_ld_ct X hP (by omega) d_M_measure_37 ?_
  rw [hct]
  refine x_iload_n X d_M_measure_38 rfl hl rfl ?_
  refine x_goR (x_runV X (C_M_upTo l D A _ a lo hi q.2.2.length q.2.1.1 q.1.length n q.2.1.2 mk pl ct w q hq hR hP j (ft_zT t.1 t.2) t kd hjt (Nat.le_refl _)) b_M_upTo s_M_upTo v_M_upTo e_M_152 (m_at hP) rfl rfl hl rfl (Nat.le_of_ble_eq_true rfl) d_M_measure_39 (Nat.le_of_ble_eq_true rfl) (Nat.le_of_ble_eq_true rfl) ⟨Nat.le_of_ble_eq_true rfl, Nat.le_of_ble_eq_true rfl⟩) hS (fun locs hS => ?_)
  exact x_lret X hS (Nat.le_refl _) (Nat.le_refl _) d_M_measure_42 ⟨by rw [sp_tot_eq, List.take_of_length_le (by omega), hes], rfl⟩
set_option maxRecDepth 100000 in
set_option maxHeartbeats 4000000 in
theorem A_M_search (l : Launch) (D : va_G) (A : Nat → ClassId) (H0 : Heap) (a : Nat → Nat) (q : ft_Q) (hq : sp_ok2 q) (hI : mI D a A q H0) (v : Int32) (kd : Int32) (lim : Int64) : xC l y_M_search c_M_search 8 (some .int) 4 D A H0 [.ref (a 0), .int v, .int kd, .long lim] (fun _ => False) (q1 (.int (sp_search q v kd lim)) (fun H1 => H1 = H0)) 0 0 := by
  obtain ⟨lo, hi, en, zf, mk, md, pl, ct, vs, w, n, hR, hP⟩ := hI
  obtain ⟨⟨rfl, rfl, rfl, rfl⟩, h5, h6, h7, h8, h9, h10⟩ := id hR
  have hl1 := hq.1.1
  have hl2 := hq.1.2.1
  have hl3 := hq.1.2.2.2.1
  have hmd0 := sp_md hq
  rcases sp_at_cases hq v with ⟨hv, hat⟩ | ⟨j, t, rfl, hj, hjt, hat⟩
  · rw [show sp_search q v kd lim = -1 from by unfold sp_search; rw [hat]]
    refine xC.of rfl (Nat.le_of_ble_eq_true rfl) ?_
    intro p_ e_ s_ m_ ar_ bl_ me_ c_ ls X hl
    have hl : lz ls 8 [some (.ref (a 0)), some (.int v), some (.int kd), some (.long lim), none, none, none, none] := hl
    have hS : va_S (fun _ => False) H0 H0 [] := va_S.rf
    refine x_aload_n X d_M_search_0 rfl hl rfl ?_
    refine x_iload_n X d_M_search_1 rfl hl rfl ?_
    refine x_goR (x_runV X (C_M_none_t l D A _ a lo hi q.2.2.length q.2.1.1 q.1.length n q.2.1.2 mk pl ct w hP v hv) b_M_none s_M_none v_M_none e_M_109 (m_at hP) rfl rfl hl rfl (Nat.le_of_ble_eq_true rfl) d_M_search_2 (Nat.le_of_ble_eq_true rfl) (Nat.le_of_ble_eq_true rfl) ⟨Nat.le_of_ble_eq_true rfl, Nat.le_of_ble_eq_true rfl⟩) hS (fun locs hS => ?_)
    refine n_if_ne X 17 d_M_search_5 rfl (by decide) (fun hc => ?_) (fun hc => absurd hc (by decide))
    refine x_iconst (v := -1) X d_M_search_17 rfl ?_
    exact x_iret X hS (Nat.le_refl _) (Nat.le_refl _) d_M_search_18 ⟨rfl, rfl⟩
  have ht := hq.1.2.2.1 t (List.mem_of_getElem? hjt)
  obtain ⟨hct, hpl⟩ := h6 j t hjt
  have hz40 := ht.2
  by_cases hb : kd < 0 ∨ 3 < kd
  · rw [show sp_search q (nI j) kd lim = -1 from by unfold sp_search; rw [hat]; dsimp only; rw [if_pos hb]]
    refine xC.of rfl (Nat.le_of_ble_eq_true rfl) ?_
    intro p_ e_ s_ m_ ar_ bl_ me_ c_ ls X hl
    have hl : lz ls 8 [some (.ref (a 0)), some (.int (nI j)), some (.int kd), some (.long lim), none, none, none, none] := hl
    have hS : va_S (fun _ => False) H0 H0 [] := va_S.rf
    have fin : ∀ (locs : List Loc), va_S (fun _ => False) H0 H0 locs → W p_ l e_ (x_rm 4 0 0) s_ m_ ar_ bl_ me_ c_ H0 locs 0 0 (MQ bl_ (xQ (fun _ => False) (q1 (.int (-1)) (fun H1 => H1 = H0))) ar_ s_ 0 0 (fun _ => False)) (F0 m_ 17 ls []) := by
      intro locs hS
      refine x_iconst (v := -1) X d_M_search_17 rfl ?_
      exact x_iret X hS (Nat.le_refl _) (Nat.le_refl _) d_M_search_18 ⟨rfl, rfl⟩
    refine x_aload_n X d_M_search_0 rfl hl rfl ?_
    refine x_iload_n X d_M_search_1 rfl hl rfl ?_
    refine x_goR (x_runV X (C_M_none_f l D A _ a lo hi q.2.2.length q.2.1.1 q.1.length n q.2.1.2 mk pl ct w hP j hj (by omega)) b_M_none s_M_none v_M_none e_M_109 (m_at hP) rfl rfl hl rfl (Nat.le_of_ble_eq_true rfl) d_M_search_2 (Nat.le_of_ble_eq_true rfl) (Nat.le_of_ble_eq_true rfl) ⟨Nat.le_of_ble_eq_true rfl, Nat.le_of_ble_eq_true rfl⟩) hS (fun locs hS => ?_)
    refine n_if_ne X 17 d_M_search_5 rfl (by decide) (fun hc => absurd rfl hc) (fun hc => ?_)
    refine x_iload_n X d_M_search_8 rfl hl rfl ?_
    refine x_if_lt X 17 d_M_search_9 rfl (fun _ => fin _ hS) (fun h0 => ?_)
    refine x_iload_n X d_M_search_12 rfl hl rfl ?_
    refine x_iconst (v := nI 3) X d_M_search_13 rfl ?_
    refine x_icmp_le X 19 d_M_search_14 rfl (fun h => ?_) (fun _ => fin _ hS)
    rcases hb with hb | hb
    · exact absurd hb h0
    · exact absurd hb (Int32.not_lt.2 h)
  rw [show sp_search q (nI j) kd lim = nI (sp_find (fun j => decide (lim < sp_tot kd ((sp_es q t).take (j + 1))) || (decide (sp_tot kd ((sp_es q t).take (j + 1)) = lim) && (decide (kd = 1) || decide (kd = 2)))) (ft_zT t.1 t.2) 0) from by unfold sp_search; rw [hat]; dsimp only; rw [if_neg hb]]
  have hes := sp_es_len q t
  generalize hPr : (fun j => decide (lim < sp_tot kd ((sp_es q t).take (j + 1))) || (decide (sp_tot kd ((sp_es q t).take (j + 1)) = lim) && (decide (kd = 1) || decide (kd = 2)))) = Pr
  refine xC.of rfl (Nat.le_of_ble_eq_true rfl) ?_
  intro p_ e_ s_ m_ ar_ bl_ me_ c_ ls X hl
  have hl : lz ls 8 [some (.ref (a 0)), some (.int (nI j)), some (.int kd), some (.long lim), none, none, none, none] := hl
  have hS : va_S (fun _ => False) H0 H0 [] := va_S.rf
  refine x_aload_n X d_M_search_0 rfl hl rfl ?_
  refine x_iload_n X d_M_search_1 rfl hl rfl ?_
  refine x_goR (x_runV X (C_M_none_f l D A _ a lo hi q.2.2.length q.2.1.1 q.1.length n q.2.1.2 mk pl ct w hP j hj (by omega)) b_M_none s_M_none v_M_none e_M_109 (m_at hP) rfl rfl hl rfl (Nat.le_of_ble_eq_true rfl) d_M_search_2 (Nat.le_of_ble_eq_true rfl) (Nat.le_of_ble_eq_true rfl) ⟨Nat.le_of_ble_eq_true rfl, Nat.le_of_ble_eq_true rfl⟩) hS (fun locs hS => ?_)
  refine n_if_ne X 17 d_M_search_5 rfl (by decide) (fun hc => absurd rfl hc) (fun hc => ?_)
  refine x_iload_n X d_M_search_8 rfl hl rfl ?_
  refine x_if_lt X 17 d_M_search_9 rfl (fun h0 => absurd (Or.inl h0) hb) (fun h0 => ?_)
  refine x_iload_n X d_M_search_12 rfl hl rfl ?_
  refine x_iconst (v := nI 3) X d_M_search_13 rfl ?_
  refine x_icmp_le X 19 d_M_search_14 rfl (fun _ => ?_) (fun h => absurd (Or.inr (Int32.not_le.1 h)) hb)
  refine x_iconst (v := nI 0) X d_M_search_19 rfl ?_
  refine x_istore X d_M_search_20 hl (by decide) rfl (fun ls hl => ?_)
  have loop : ∀ (g i : Nat) (v6 : Option Value) (locs : List Loc) (ls : Array Slot), ft_zT t.1 t.2 - i = g → i ≤ ft_zT t.1 t.2 → sp_find Pr (ft_zT t.1 t.2 - i) i = sp_find Pr (ft_zT t.1 t.2) 0 → lz ls 8 [some (.ref (a 0)), some (.int (nI j)), some (.int kd), some (.long lim), none, some (.int (nI i)), v6, none] → va_S (fun _ => False) H0 H0 locs → W p_ l e_ (x_rm 4 0 0) s_ m_ ar_ bl_ me_ c_ H0 locs 0 0 (MQ bl_ (xQ (fun _ => False) (q1 (.int (nI (sp_find Pr (ft_zT t.1 t.2) 0))) (fun H1 => H1 = H0))) ar_ s_ 0 0 (fun _ => False)) (F0 m_ 22 ls []) := by
    clear hl hS
    intro g
    induction g with
    | zero =>
      intro i v6 locs ls hg hi31 hfi hl hS
      rw [hg] at hfi
      have hfi : i = sp_find Pr (ft_zT t.1 t.2) 0 := hfi
      have hie : i = ft_zT t.1 t.2 := by omega
      rw [← hfi, hie]
      refine x_iload X d_M_search_22 hl rfl ?_
      refine x_aload_n X d_M_search_24 rfl hl rfl ?_
      refine m_get X hP 7 (by decide) e_M_27 rfl d_M_search_25 ?_
      refine x_iload_n X d_M_search_28 rfl hl rfl ?_
      refine m_ld_ct X hP (by omega) d_M_search_29 ?_
      rw [hct]
      refine n_icmp_ge X 78 d_M_search_30 rfl (by omega) (by omega) (fun hc => ?_) (fun hc => absurd hc (by omega))
      refine x_aload_n X d_M_search_78 rfl hl rfl ?_
      refine m_get X hP 7 (by decide) e_M_27 rfl d_M_search_79 ?_
      refine x_iload_n X d_M_search_82 rfl hl rfl ?_
      refine m_ld_ct X hP (by omega) d_M_search_83 ?_
      rw [hct]
      exact x_iret X hS (Nat.le_refl _) (Nat.le_refl _) d_M_search_84 ⟨rfl, rfl⟩
    | succ g ih =>
      intro i v6 locs ls hg hi31 hfi hl hS
      have hiz : i < ft_zT t.1 t.2 := by omega
      rw [hg] at hfi
      change (if Pr i = true then i else sp_find Pr g (i + 1)) = sp_find Pr (ft_zT t.1 t.2) 0 at hfi
      have hpi : Pr i = (decide (lim < (sp_tot kd ((sp_es q t).take (i + 1)))) || (decide ((sp_tot kd ((sp_es q t).take (i + 1))) = lim) && (decide (kd = 1) || decide (kd = 2)))) := by rw [← hPr]
      have next : ∀ (v6 : Option Value) (locs : List Loc) (ls : Array Slot), Pr i = false → lz ls 8 [some (.ref (a 0)), some (.int (nI j)), some (.int kd), some (.long lim), none, some (.int (nI i)), v6, none] → va_S (fun _ => False) H0 H0 locs → W p_ l e_ (x_rm 4 0 0) s_ m_ ar_ bl_ me_ c_ H0 locs 0 0 (MQ bl_ (xQ (fun _ => False) (q1 (.int (nI (sp_find Pr (ft_zT t.1 t.2) 0))) (fun H1 => H1 = H0))) ar_ s_ 0 0 (fun _ => False)) (F0 m_ 72 ls []) := by
        intro v6 locs ls hm hl hS
        rw [hm] at hfi
        simp only [Bool.false_eq_true, if_false] at hfi
        refine n_iinc (d := 1) X d_M_search_72 rfl hl rfl (by decide) rfl (fun ls hl => ?_)
        refine x_goto X 22 d_M_search_75 rfl ?_
        exact ih (i + 1) v6 _ _ (by omega) (by omega) (by rw [show ft_zT t.1 t.2 - (i + 1) = g from by omega]; exact hfi) hl hS
      have found : ∀ (v6 : Option Value) (locs : List Loc) (ls : Array Slot), Pr i = true → lz ls 8 [some (.ref (a 0)), some (.int (nI j)), some (.int kd), some (.long lim), none, some (.int (nI i)), v6, none] → va_S (fun _ => False) H0 H0 locs → W p_ l e_ (x_rm 4 0 0) s_ m_ ar_ bl_ me_ c_ H0 locs 0 0 (MQ bl_ (xQ (fun _ => False) (q1 (.int (nI (sp_find Pr (ft_zT t.1 t.2) 0))) (fun H1 => H1 = H0))) ar_ s_ 0 0 (fun _ => False)) (F0 m_ 69 ls []) := by
        intro v6 locs ls hm hl hS
        rw [hm, if_pos rfl] at hfi
        rw [← hfi]
        refine x_iload X d_M_search_69 hl rfl ?_
        exact x_iret X hS (Nat.le_refl _) (Nat.le_refl _) d_M_search_71 ⟨rfl, rfl⟩
      refine x_iload X d_M_search_22 hl rfl ?_
      refine x_aload_n X d_M_search_24 rfl hl rfl ?_
      refine m_get X hP 7 (by decide) e_M_27 rfl d_M_search_25 ?_
      refine x_iload_n X d_M_search_28 rfl hl rfl ?_
      refine m_ld_ct X hP (by omega) d_M_search_29 ?_
      rw [hct]
      refine n_icmp_ge X 78 d_M_search_30 rfl (by omega) (by omega) (fun hc => absurd hc (by omega)) (fun hc => ?_)
      refine x_aload_n X d_M_search_33 rfl hl rfl ?_
      refine x_iload_n X d_M_search_34 rfl hl rfl ?_
      refine x_iload X d_M_search_35 hl rfl ?_
      refine x_iconst (v := nI 1) X d_M_search_37 rfl ?_
      refine n_iadd X d_M_search_38 ?_
      refine x_iload_n X d_M_search_39 rfl hl rfl ?_
      refine x_goR (x_runV X (C_M_upTo l D A _ a lo hi q.2.2.length q.2.1.1 q.1.length n q.2.1.2 mk pl ct w q hq hR hP j (i + 1) t kd hjt hiz) b_M_upTo s_M_upTo v_M_upTo e_M_152 (m_at hP) rfl rfl hl rfl (Nat.le_of_ble_eq_true rfl) d_M_search_40 (Nat.le_of_ble_eq_true rfl) (Nat.le_of_ble_eq_true rfl) ⟨Nat.le_of_ble_eq_true rfl, Nat.le_of_ble_eq_true rfl⟩) hS (fun locs hS => ?_)
      refine x_topl (y := (sp_tot kd ((sp_es q t).take (i + 1)))) (by rw [sp_tot_eq, List.length_take, Nat.min_eq_left (by omega)]) ?_
      refine x_lstore X d_M_search_43 hl (by decide) rfl (fun ls hl => ?_)
      refine x_lload X d_M_search_45 hl rfl ?_
      refine x_lload_n X d_M_search_47 rfl hl rfl ?_
      refine x_lcmp X d_M_search_48 ?_
      refine x_if_gt X 69 d_M_search_49 rfl (fun h => ?_) (fun h => ?_)
      · rw [lg_cmp_gt] at h
        exact found _ _ _ (by rw [hpi, decide_eq_true h]; rfl) hl hS
      rw [lg_cmp_gt] at h
      refine x_lload X d_M_search_52 hl rfl ?_
      refine x_lload_n X d_M_search_54 rfl hl rfl ?_
      refine x_lcmp X d_M_search_55 ?_
      refine x_if_ne X 72 d_M_search_56 rfl (fun h2 => ?_) (fun h2 => ?_)
      · rw [Ne, lg_cmp_eq] at h2
        exact next _ _ _ (by rw [hpi, decide_eq_false h, decide_eq_false h2]; rfl) hl hS
      rw [lg_cmp_eq] at h2
      refine x_iload_n X d_M_search_59 rfl hl rfl ?_
      refine x_iconst (v := nI 1) X d_M_search_60 rfl ?_
      refine x_icmp_eq X 69 d_M_search_61 rfl (fun h3 => found _ _ _ (by rw [hpi, decide_eq_false h, decide_eq_true h2, decide_eq_true (h3.trans (by decide))]; rfl) hl hS) (fun h3 => ?_)
      refine x_iload_n X d_M_search_64 rfl hl rfl ?_
      refine x_iconst (v := nI 2) X d_M_search_65 rfl ?_
      refine x_icmp_ne X 72 d_M_search_66 rfl (fun h4 => next _ _ _ (by rw [hpi, decide_eq_false h, decide_eq_true h2, decide_eq_false (fun e => h3 (e.trans (by decide))), decide_eq_false (fun e => h4 (e.trans (by decide)))]; rfl) hl hS) (fun h4 => found _ _ _ (by rw [hpi, decide_eq_false h, decide_eq_true h2, decide_eq_true (show kd = 2 from h4.trans (by decide))]; simp) hl hS)
  exact loop _ 0 none _ _ rfl (Nat.zero_le _) rfl hl hS
