/-! The reference, call by call: paint, shared. -/
/-- painting the numbers of a list: those with the mark f get g; how many -/
def ft_pn (f g : Nat) : (Nat → Nat) → Nat → List Nat → (Nat → Nat) × Nat
  | k0, cn, [] => (k0, cn)
  | k0, cn, d :: ns => if k0 d = f then ft_pn f g (va_up k0 d g) (cn + 1) ns else ft_pn f g k0 cn ns
theorem ft_pn_mk {f g : Nat} (hfg : f ≠ g) : ∀ (ns : List Nat) (mk : Nat → Nat) (cn : Nat) (d : Nat), (ft_pn f g mk cn ns).1 d = if mk d = f ∧ d ∈ ns then g else mk d := by
  intro ns
  induction ns with
  | nil => intro mk cn d; simp [ft_pn]
  | cons x ns ih =>
    intro mk cn d
    unfold ft_pn
    split
    · rename_i hx
      rw [ih]
      by_cases e : d = x
      · subst e
        have h1 : va_up mk d g d = g := by simp [va_up]
        rw [h1, if_neg (fun h => hfg h.1.symm), if_pos ⟨hx, by simp⟩]
      · have h1 : va_up mk x g d = mk d := by simp [va_up, e]
        rw [h1]
        by_cases h : mk d = f ∧ d ∈ ns
        · rw [if_pos h, if_pos ⟨h.1, by simp [h.2]⟩]
        · rw [if_neg h, if_neg (fun h2 => h ⟨h2.1, by simpa [e] using h2.2⟩)]
    · rename_i hx
      rw [ih]
      by_cases h : mk d = f ∧ d ∈ ns
      · rw [if_pos h, if_pos ⟨h.1, by simp [h.2]⟩]
      · rw [if_neg h, if_neg (fun h2 => h ⟨h2.1, by
          rcases List.mem_cons.1 h2.2 with e | e
          · subst e; exact absurd h2.1 hx
          · exact e⟩)]
theorem ft_rc (P : Nat → Bool) (d : Nat) : ∀ N, ((List.range N).filter (fun x => if x = d then true else P x)).length = ((List.range N).filter (fun x => if x = d then false else P x)).length + if d < N then 1 else 0 := by
  intro N
  induction N with
  | zero => simp
  | succ N ih =>
    rw [List.range_succ, List.filter_append, List.filter_append, List.length_append, List.length_append, ih]
    by_cases e : N = d
    · subst e
      simp
    · have e1 : (List.filter (fun x => if x = d then true else P x) [N]).length = (List.filter (fun x => if x = d then false else P x) [N]).length := by simp [List.filter, e]
      rw [e1]
      by_cases h : d < N
      · rw [if_pos h, if_pos (by omega)]; omega
      · rw [if_neg h, if_neg (by omega)]; omega
theorem ft_pn_ct {f g : Nat} (hfg : f ≠ g) (N : Nat) : ∀ (ns : List Nat) (mk : Nat → Nat) (cn : Nat), (∀ d ∈ ns, d < N) → (ft_pn f g mk cn ns).2 = cn + ((List.range N).filter (fun d => decide (d ∈ ns) && decide (mk d = f))).length := by
  intro ns
  induction ns with
  | nil => intro mk cn _; simp [ft_pn]
  | cons x ns ih =>
    intro mk cn h
    have hx := h x (by simp)
    have hr : ∀ d ∈ ns, d < N := fun d hd => h d (by simp [hd])
    unfold ft_pn
    split
    · rename_i hm
      rw [ih _ _ hr]
      have e1 := ft_rc (fun d => decide (d ∈ ns) && decide (mk d = f)) x N
      rw [if_pos hx] at e1
      have e2 : (fun d => decide (d ∈ x :: ns) && decide (mk d = f)) = (fun d => if d = x then true else decide (d ∈ ns) && decide (mk d = f)) := funext fun d => by
        by_cases e : d = x
        · subst e; simp [hm]
        · simp [e]
      have e3 : (fun d => decide (d ∈ ns) && decide (va_up mk x g d = f)) = (fun d => if d = x then false else decide (d ∈ ns) && decide (mk d = f)) := funext fun d => by
        by_cases e : d = x
        · subst e; simp [va_up]; intro _ h; exact hfg h.symm
        · simp [e, va_up]
      rw [e2, e1, e3]
      omega
    · rename_i hm
      rw [ih _ _ hr]
      congr 2
      apply List.filter_congr
      intro d _
      by_cases e : d = x
      · subst e; simp [hm]
      · simp [e]
set_option maxRecDepth 100000 in
set_option maxHeartbeats 4000000 in
theorem C_M_paint (l : Launch) (D : va_G) (A : Nat → ClassId) (H0 : Heap) (a : Nat → Nat) (lo hi : Nat → Int32) (en md vs n : Nat) (zf mk pl ct w : Nat → Nat) (q : ft_Q) (hq : sp_ok2 q) (h5 : ∀ (v : Nat) (t : ft_T), q.1[v]? = some t → ct v = ft_zT t.1 t.2 ∧ ft_hd pl (40 * v) (ft_wT t.1 t.2)) (h8 : ft_bw pl) (hP : mH D a A lo hi en zf mk md pl ct vs w n H0) (hd : mDs a) (j f g : Nat) (t : ft_T) (hjt : q.1[j]? = some t) (hf : f < 3) (hg : g < 3) (hmk : ∀ i, mk i < 3) : xC l y_M_paint c_M_paint 10 (some .int) 1 D A H0 [.ref (a 0), .int (nI j), .int (nI f), .int (nI g)] (mFr a) (q1 (.int (nI (ft_pn f g mk 0 (sp_ns t)).2)) (fun H1 => mH D a A lo hi en zf (ft_pn f g mk 0 (sp_ns t)).1 md pl ct vs w n H1)) 0 0 := by
  have hl2 := hq.1.2.1
  have hj := (List.getElem?_eq_some_iff.1 hjt).1
  have ht := hq.1.2.2.1 t (List.mem_of_getElem? hjt)
  have hmd0 := sp_md hq
  have hl3 := hq.1.2.2.2.1
  obtain ⟨hct, hpl⟩ := h5 j t hjt
  have hz40 := ht.2
  have hll := ft_lT_len t.1 t.2
  refine xC.of rfl (Nat.le_of_ble_eq_true rfl) ?_
  intro p_ e_ s_ m_ ar_ bl_ me_ c_ ls X hl
  have hl : lz ls 10 [some (.ref (a 0)), some (.int (nI j)), some (.int (nI f)), some (.int (nI g)), none, none, none, none, none, none] := hl
  have hS : va_S (mFr a) H0 H0 [] := va_S.rf
  generalize hRes : (ft_pn f g mk 0 (sp_ns t)) = Res
  refine x_iconst (v := nI 0) X d_M_paint_0 rfl ?_
  refine x_istore X d_M_paint_1 hl (by decide) rfl (fun ls hl => ?_)
  refine x_iconst (v := nI 0) X d_M_paint_3 rfl ?_
  refine x_istore X d_M_paint_4 hl (by decide) rfl (fun ls hl => ?_)
  have loop : ∀ (gg i cn : Nat) (mk : Nat → Nat) (v6 v8 v9 : Option Value) (H1 : Heap) (locs : List Loc) (ls : Array Slot), ft_zT t.1 t.2 - i = gg → i ≤ ft_zT t.1 t.2 → ft_pn f g mk cn (((ft_lT t.1 t.2).drop i).flatMap (fun l => l.2)) = Res → (∀ i, mk i < 3) → lz ls 10 [some (.ref (a 0)), some (.int (nI j)), some (.int (nI f)), some (.int (nI g)), some (.int (nI cn)), some (.int (nI i)), v6, none, v8, v9] → mH D a A lo hi en zf mk md pl ct vs w n H1 → va_S (mFr a) H0 H1 locs → W p_ l e_ (x_rm 1 0 0) s_ m_ ar_ bl_ me_ c_ H1 locs 0 0 (MQ bl_ (xQ (mFr a) (q1 (.int (nI Res.2)) (fun H1 => mH D a A lo hi en zf Res.1 md pl ct vs w n H1))) ar_ s_ 0 0 (mFr a)) (F0 m_ 6 ls []) := by
    clear hP hl hS hRes hmk
    intro gg
    induction gg with
    | zero =>
      intro i cn mk v6 v8 v9 H1 locs ls hgg hi2 hr hmk hl hP hS
      rw [List.drop_of_length_le (by omega)] at hr
      have hr : (mk, cn) = Res := hr
      rw [← hr]
      refine x_iload X d_M_paint_6 hl rfl ?_
      refine x_aload_n X d_M_paint_8 rfl hl rfl ?_
      refine m_get X hP 7 (by decide) e_M_27 rfl d_M_paint_9 ?_
      refine x_iload_n X d_M_paint_12 rfl hl rfl ?_
      refine m_ld_ct X hP (by omega) d_M_paint_13 ?_
      rw [hct]
      refine n_icmp_ge X 88 d_M_paint_14 rfl (by omega) (by omega) (fun hc => ?_) (fun hc => absurd hc (by omega))
      refine x_iload X d_M_paint_88 hl rfl ?_
      exact x_iret X hS (Nat.le_refl _) (Nat.le_refl _) d_M_paint_90 ⟨rfl, hP⟩
    | succ gg ih =>
      intro i cn mk v6 v8 v9 H1 locs ls hgg hi2 hr hmk hl hP hS
      have hlt : i < (ft_lT t.1 t.2).length := by omega
      obtain ⟨lf, sd, a1, a2, a3, a4, a5, a6⟩ := ft_hd_leaf (by omega) (by omega) ht.1 ht.2 hpl (p := i) (by omega)
      have hb := h8 (40 * j + i)
      have hlv : ft_le8 (pl (40 * j + i)) = lf.2.length := by rw [a2]; exact ft_wd_level a4 (by omega)
      dsimp only [ft_le8] at hlv
      have hlen := a4.2.1
      have hdr : (ft_lT t.1 t.2).drop i = lf :: (ft_lT t.1 t.2).drop (i + 1) := by
        rw [List.drop_eq_getElem_cons hlt]
        congr 1
        exact (List.getElem?_eq_some_iff.1 a1).2
      rw [hdr, List.flatMap_cons] at hr
      refine x_iload X d_M_paint_6 hl rfl ?_
      refine x_aload_n X d_M_paint_8 rfl hl rfl ?_
      refine m_get X hP 7 (by decide) e_M_27 rfl d_M_paint_9 ?_
      refine x_iload_n X d_M_paint_12 rfl hl rfl ?_
      refine m_ld_ct X hP (by omega) d_M_paint_13 ?_
      rw [hct]
      refine n_icmp_ge X 88 d_M_paint_14 rfl (by omega) (by omega) (fun hc => absurd hc (by omega)) (fun hc => ?_)
      refine x_aload_n X d_M_paint_17 rfl hl rfl ?_
      refine m_get X hP 6 (by decide) e_M_23 rfl d_M_paint_18 ?_
      refine x_bipush (v := nI 40) X d_M_paint_21 rfl ?_
      refine x_iload_n X d_M_paint_23 rfl hl rfl ?_
      refine n_imul X d_M_paint_24 ?_
      refine x_iload X d_M_paint_25 hl rfl ?_
      refine n_iadd X d_M_paint_27 ?_
      refine m_ld_pl X hP (by omega) d_M_paint_28 ?_
      refine x_lstore X d_M_paint_29 hl (by decide) rfl (fun ls hl => ?_)
      refine x_iconst (v := nI 1) X d_M_paint_31 rfl ?_
      refine x_istore X d_M_paint_32 hl (by decide) rfl (fun ls hl => ?_)
      have inner : ∀ (g2 e cn : Nat) (mk : Nat → Nat) (v9 : Option Value) (H1 : Heap) (locs : List Loc) (ls : Array Slot), lf.2.length - e = g2 → e ≤ lf.2.length → ft_pn f g mk cn (lf.2.drop e ++ (((ft_lT t.1 t.2).drop (i + 1)).flatMap (fun l => l.2))) = Res → (∀ i, mk i < 3) → lz ls 10 [some (.ref (a 0)), some (.int (nI j)), some (.int (nI f)), some (.int (nI g)), some (.int (nI cn)), some (.int (nI i)), some (.long (lN (pl (40 * j + i)))), none, some (.int (nI (e + 1))), v9] → mH D a A lo hi en zf mk md pl ct vs w n H1 → va_S (mFr a) H0 H1 locs → W p_ l e_ (x_rm 1 0 0) s_ m_ ar_ bl_ me_ c_ H1 locs 0 0 (MQ bl_ (xQ (mFr a) (q1 (.int (nI Res.2)) (fun H1 => mH D a A lo hi en zf Res.1 md pl ct vs w n H1))) ar_ s_ 0 0 (mFr a)) (F0 m_ 34 ls []) := by
        clear hP hl hS hr hmk
        intro g2
        induction g2 with
        | zero =>
          intro e cn mk v9 H1 locs ls hg2 he2 hr hmk hl hP hS
          rw [List.drop_of_length_le (by omega), List.nil_append] at hr
          refine x_iload X d_M_paint_34 hl rfl ?_
          refine x_lload X d_M_paint_36 hl rfl ?_
          refine x_goR (x_runS X (C_M_level l D A _ (pl (40 * j + i)) (by omega)) b_M_level s_M_level e_M_40 rfl hl rfl (Nat.le_of_ble_eq_true rfl) d_M_paint_38 (Nat.le_of_ble_eq_true rfl) (Nat.le_of_ble_eq_true rfl) ⟨Nat.le_of_ble_eq_true rfl, Nat.le_of_ble_eq_true rfl⟩) hS (fun locs hS => ?_)
          rw [hlv]
          refine n_icmp_gt X 82 d_M_paint_41 rfl (by omega) (by omega) (fun hc => ?_) (fun hc => absurd hc (by omega))
          refine n_iinc (d := 1) X d_M_paint_82 rfl hl rfl (by decide) rfl (fun ls hl => ?_)
          refine x_goto X 6 d_M_paint_85 rfl ?_
          exact ih (i + 1) cn mk _ _ _ _ _ _ (by omega) (by omega) hr hmk hl hP hS
        | succ g2 ih2 =>
          intro e cn mk v9 H1 locs ls hg2 he2 hr hmk hl hP hS
          have hel : e < lf.2.length := by omega
          have hnode : (pl (40 * j + i)) / (4096 * 8192 ^ e) % 8192 = lf.2.getD e 0 := by rw [a2]; exact ft_wd_node a4 (by omega) e
          have hgd : lf.2.getD e 0 = lf.2[e] := by rw [List.getD_eq_getElem?_getD, List.getElem?_eq_getElem hel]; rfl
          have hdm := (a6 lf.2[e] (List.getElem_mem hel)).2
          have hmd1 := hmk (lf.2[e])
          rw [List.drop_eq_getElem_cons hel, List.cons_append] at hr
          unfold ft_pn at hr
          refine x_iload X d_M_paint_34 hl rfl ?_
          refine x_lload X d_M_paint_36 hl rfl ?_
          refine x_goR (x_runS X (C_M_level l D A _ (pl (40 * j + i)) (by omega)) b_M_level s_M_level e_M_40 rfl hl rfl (Nat.le_of_ble_eq_true rfl) d_M_paint_38 (Nat.le_of_ble_eq_true rfl) (Nat.le_of_ble_eq_true rfl) ⟨Nat.le_of_ble_eq_true rfl, Nat.le_of_ble_eq_true rfl⟩) hS (fun locs hS => ?_)
          rw [hlv]
          refine n_icmp_gt X 82 d_M_paint_41 rfl (by omega) (by omega) (fun hc => absurd hc (by omega)) (fun hc => ?_)
          refine x_lload X d_M_paint_44 hl rfl ?_
          refine x_iload X d_M_paint_46 hl rfl ?_
          refine x_goR (x_runS X (C_M_node l D A _ (pl (40 * j + i)) e (by omega) (by omega)) b_M_node s_M_node e_M_47 rfl hl rfl (Nat.le_of_ble_eq_true rfl) d_M_paint_48 (Nat.le_of_ble_eq_true rfl) (Nat.le_of_ble_eq_true rfl) ⟨Nat.le_of_ble_eq_true rfl, Nat.le_of_ble_eq_true rfl⟩) hS (fun locs hS => ?_)
          rw [hnode, hgd]
          refine x_istore X d_M_paint_51 hl (by decide) rfl (fun ls hl => ?_)
          refine x_aload_n X d_M_paint_53 rfl hl rfl ?_
          refine m_get X hP 4 (by decide) e_M_20 rfl d_M_paint_54 ?_
          refine x_iload X d_M_paint_57 hl rfl ?_
          refine m_ld_mk X hP (by omega) d_M_paint_59 ?_
          refine x_iload_n X d_M_paint_60 rfl hl rfl ?_
          refine n_icmp_ne X 76 d_M_paint_61 rfl (by omega) (by omega) (fun hm => ?_) (fun hm => ?_)
          · rw [if_neg hm] at hr
            refine n_iinc (d := 1) X d_M_paint_76 rfl hl rfl (by decide) rfl (fun ls hl => ?_)
            refine x_goto X 34 d_M_paint_79 rfl ?_
            exact ih2 (e + 1) cn mk _ _ _ _ (by omega) (by omega) hr hmk hl hP hS
          rw [if_pos hm] at hr
          refine x_aload_n X d_M_paint_64 rfl hl rfl ?_
          refine m_get X hP 4 (by decide) e_M_20 rfl d_M_paint_65 ?_
          refine x_iload X d_M_paint_68 hl rfl ?_
          refine x_iload_n X d_M_paint_70 rfl hl rfl ?_
          refine x_i2b X d_M_paint_71 (m_byte2 _ (by omega)) ?_
          refine m_st_mk X hP hd hS (by omega) (by omega) d_M_paint_72 (fun H locs hP hS => ?_)
          refine n_iinc (d := 1) X d_M_paint_73 rfl hl rfl (by decide) rfl (fun ls hl => ?_)
          refine n_iinc (d := 1) X d_M_paint_76 rfl hl rfl (by decide) rfl (fun ls hl => ?_)
          refine x_goto X 34 d_M_paint_79 rfl ?_
          exact ih2 (e + 1) (cn + 1) (va_up mk lf.2[e] g) _ _ _ _ (by omega) (by omega) hr (fun x => by
            unfold va_up; split
            · exact hg
            · exact hmk x) hl hP hS
      exact inner _ 0 cn mk _ _ _ _ rfl (Nat.zero_le _) (by rw [List.drop_zero]; exact hr) hmk hl hP hS
  exact loop _ 0 0 mk none none none H0 _ _ rfl (Nat.zero_le _) (by rw [List.drop_zero]; exact hRes) hmk hl hP hS
set_option maxRecDepth 100000 in
set_option maxHeartbeats 4000000 in
theorem A_M_shared (l : Launch) (D : va_G) (A : Nat → ClassId) (H0 : Heap) (a : Nat → Nat) (hd : mDs a) (q : ft_Q) (hq : sp_ok2 q) (hI : mI D a A q H0) (v : Int32) (u : Int32) : xC l y_M_shared c_M_shared 4 (some .int) 7 D A H0 [.ref (a 0), .int v, .int u] (mFr a) (q1 (.int (sp_shared q v u)) (fun H1 => mI D a A q H1)) 0 0 := by
  obtain ⟨lo, hi, en, zf, mk, md, pl, ct, vs, w, n, hR, hP⟩ := hI
  obtain ⟨⟨rfl, rfl, rfl, rfl⟩, h5, h6, h7, h8, h9, h10⟩ := id hR
  have hl1 := hq.1.1
  have hl2 := hq.1.2.1
  have hl3 := hq.1.2.2.2.1
  have hmd0 := sp_md hq
  rcases sp_at_cases hq v with ⟨hv, hat⟩ | ⟨j, t, rfl, hj, hjt, hat⟩
  · rw [show sp_shared q v u = -1 from by unfold sp_shared; rw [hat]]
    refine xC.of rfl (Nat.le_of_ble_eq_true rfl) ?_
    intro p_ e_ s_ m_ ar_ bl_ me_ c_ ls X hl
    have hl : lz ls 4 [some (.ref (a 0)), some (.int v), some (.int u), none] := hl
    have hS : va_S (mFr a) H0 H0 [] := va_S.rf
    refine x_aload_n X d_M_shared_0 rfl hl rfl ?_
    refine x_iload_n X d_M_shared_1 rfl hl rfl ?_
    refine x_goR (x_runV X (C_M_none_t l D A _ a lo hi q.2.2.length q.2.1.1 q.1.length n q.2.1.2 mk pl ct w hP v hv) b_M_none s_M_none v_M_none e_M_109 (m_at hP) rfl rfl hl rfl (Nat.le_of_ble_eq_true rfl) d_M_shared_2 (Nat.le_of_ble_eq_true rfl) (Nat.le_of_ble_eq_true rfl) ⟨Nat.le_of_ble_eq_true rfl, Nat.le_of_ble_eq_true rfl⟩) hS (fun locs hS => ?_)
    refine n_if_ne X 16 d_M_shared_5 rfl (by decide) (fun hc => ?_) (fun hc => absurd hc (by decide))
    refine x_iconst (v := -1) X d_M_shared_16 rfl ?_
    exact x_iret X hS (Nat.le_refl _) (Nat.le_refl _) d_M_shared_17 ⟨rfl, _, _, _, _, _, _, _, _, _, _, _, hR, hP⟩
  have ht := hq.1.2.2.1 t (List.mem_of_getElem? hjt)
  obtain ⟨hct, hpl⟩ := h6 j t hjt
  have hz40 := ht.2
  rcases sp_at_cases hq u with ⟨hv, hat2⟩ | ⟨j2, t2, rfl, hj2, hjt2, hat2⟩
  · rw [show sp_shared q (nI j) u = -1 from by unfold sp_shared; rw [hat, hat2]]
    refine xC.of rfl (Nat.le_of_ble_eq_true rfl) ?_
    intro p_ e_ s_ m_ ar_ bl_ me_ c_ ls X hl
    have hl : lz ls 4 [some (.ref (a 0)), some (.int (nI j)), some (.int u), none] := hl
    have hS : va_S (mFr a) H0 H0 [] := va_S.rf
    refine x_aload_n X d_M_shared_0 rfl hl rfl ?_
    refine x_iload_n X d_M_shared_1 rfl hl rfl ?_
    refine x_goR (x_runV X (C_M_none_f l D A _ a lo hi q.2.2.length q.2.1.1 q.1.length n q.2.1.2 mk pl ct w hP j hj (by omega)) b_M_none s_M_none v_M_none e_M_109 (m_at hP) rfl rfl hl rfl (Nat.le_of_ble_eq_true rfl) d_M_shared_2 (Nat.le_of_ble_eq_true rfl) (Nat.le_of_ble_eq_true rfl) ⟨Nat.le_of_ble_eq_true rfl, Nat.le_of_ble_eq_true rfl⟩) hS (fun locs hS => ?_)
    refine n_if_ne X 16 d_M_shared_5 rfl (by decide) (fun hc => absurd rfl hc) (fun hc => ?_)
    refine x_aload_n X d_M_shared_8 rfl hl rfl ?_
    refine x_iload_n X d_M_shared_9 rfl hl rfl ?_
    refine x_goR (x_runV X (C_M_none_t l D A _ a lo hi q.2.2.length q.2.1.1 q.1.length n q.2.1.2 mk pl ct w hP u hv) b_M_none s_M_none v_M_none e_M_109 (m_at hP) rfl rfl hl rfl (Nat.le_of_ble_eq_true rfl) d_M_shared_10 (Nat.le_of_ble_eq_true rfl) (Nat.le_of_ble_eq_true rfl) ⟨Nat.le_of_ble_eq_true rfl, Nat.le_of_ble_eq_true rfl⟩) hS (fun locs hS => ?_)
    refine n_if_eq X 18 d_M_shared_13 rfl (by decide) (fun hc => absurd hc (by decide)) (fun hc => ?_)
    refine x_iconst (v := -1) X d_M_shared_16 rfl ?_
    exact x_iret X hS (Nat.le_refl _) (Nat.le_refl _) d_M_shared_17 ⟨rfl, _, _, _, _, _, _, _, _, _, _, _, hR, hP⟩
  have ht2 := hq.1.2.2.1 t2 (List.mem_of_getElem? hjt2)
  rw [show sp_shared q (nI j) (nI j2) = nI (((List.range (q.2.1.1 + 1)).filter (fun d => decide (d ∈ sp_ns t) && decide (d ∈ sp_ns t2))).length) from by unfold sp_shared; rw [hat, hat2]]
  have nsl : ∀ u ∈ q.1, ∀ d ∈ sp_ns u, d < q.2.1.1 + 1 := by
    intro u hu d hd
    obtain ⟨l, hl, hdl⟩ := List.mem_flatMap.1 hd
    obtain ⟨i, hi, e⟩ := List.getElem_of_mem hl
    have h9 := hq.1.2.2.1 u hu
    obtain ⟨l', sd, x, b1, b2, b3⟩ : ∃ (l' : Nat × List Nat) (sd x : Nat), (ft_lT u.1 u.2)[i]? = some l' ∧ x = ft_wd sd l' ∧ ∀ d ∈ l'.2, 1 ≤ d ∧ d ≤ q.2.1.1 := by
      have hlt : i < (ft_wT u.1 u.2).length := by rw [ft_wT_len, ← ft_lT_len]; exact hi
      obtain ⟨l', sd, c1, c2, c3, c4, c5, c6⟩ := ft_wT_leaf (by omega) (by omega) h9.1 (by omega) i _ (List.getElem?_eq_getElem hlt)
      exact ⟨l', sd, _, c1, c2, c6⟩
    rw [List.getElem?_eq_getElem hi, e] at b1
    cases b1
    have := (b3 d hdl).2
    omega
  have hmz : mk = fun _ => 0 := funext h7
  subst hmz
  refine xC.of rfl (Nat.le_of_ble_eq_true rfl) ?_
  intro p_ e_ s_ m_ ar_ bl_ me_ c_ ls X hl
  have hl : lz ls 4 [some (.ref (a 0)), some (.int (nI j)), some (.int (nI j2)), none] := hl
  have hS : va_S (mFr a) H0 H0 [] := va_S.rf
  refine x_aload_n X d_M_shared_0 rfl hl rfl ?_
  refine x_iload_n X d_M_shared_1 rfl hl rfl ?_
  refine x_goR (x_runV X (C_M_none_f l D A _ a lo hi q.2.2.length q.2.1.1 q.1.length n q.2.1.2 (fun _ => 0) pl ct w hP j hj (by omega)) b_M_none s_M_none v_M_none e_M_109 (m_at hP) rfl rfl hl rfl (Nat.le_of_ble_eq_true rfl) d_M_shared_2 (Nat.le_of_ble_eq_true rfl) (Nat.le_of_ble_eq_true rfl) ⟨Nat.le_of_ble_eq_true rfl, Nat.le_of_ble_eq_true rfl⟩) hS (fun locs hS => ?_)
  refine n_if_ne X 16 d_M_shared_5 rfl (by decide) (fun hc => absurd rfl hc) (fun hc => ?_)
  refine x_aload_n X d_M_shared_8 rfl hl rfl ?_
  refine x_iload_n X d_M_shared_9 rfl hl rfl ?_
  refine x_goR (x_runV X (C_M_none_f l D A _ a lo hi q.2.2.length q.2.1.1 q.1.length n q.2.1.2 (fun _ => 0) pl ct w hP j2 hj2 (by omega)) b_M_none s_M_none v_M_none e_M_109 (m_at hP) rfl rfl hl rfl (Nat.le_of_ble_eq_true rfl) d_M_shared_10 (Nat.le_of_ble_eq_true rfl) (Nat.le_of_ble_eq_true rfl) ⟨Nat.le_of_ble_eq_true rfl, Nat.le_of_ble_eq_true rfl⟩) hS (fun locs hS => ?_)
  refine n_if_eq X 18 d_M_shared_13 rfl (by decide) (fun hc => ?_) (fun hc => absurd rfl hc)
  refine x_aload_n X d_M_shared_18 rfl hl rfl ?_
  refine x_iload_n X d_M_shared_19 rfl hl rfl ?_
  refine x_iconst (v := nI 0) X d_M_shared_20 rfl ?_
  refine x_iconst (v := nI 1) X d_M_shared_21 rfl ?_
  refine x_go1 (x_runV X (C_M_paint l D A _ a lo hi q.2.2.length q.2.1.1 q.1.length n q.2.1.2 (fun _ => 0) pl ct w q hq h6 h8 hP hd j 0 1 t hjt (by decide) (by decide) (fun _ => by decide)) b_M_paint s_M_paint v_M_paint e_M_156 (m_at hP) rfl rfl hl rfl (Nat.le_of_ble_eq_true rfl) d_M_shared_22 (Nat.le_of_ble_eq_true rfl) (Nat.le_of_ble_eq_true rfl) ⟨Nat.le_of_ble_eq_true rfl, Nat.le_of_ble_eq_true rfl⟩) hS (fun _ h => h) (fun H locs hP hF hS => ?_)
  have m1 : ∀ d, (ft_pn 0 1 (fun _ => 0) 0 (sp_ns t)).1 d = if d ∈ sp_ns t then 1 else 0 := fun d => by
    rw [ft_pn_mk (by decide)]
    by_cases h : d ∈ sp_ns t <;> simp [h]
  generalize (ft_pn 0 1 (fun _ => 0) 0 (sp_ns t)).1 = k1 at hP m1
  refine x_pop X d_M_shared_25 rfl ?_
  refine x_aload_n X d_M_shared_26 rfl hl rfl ?_
  refine x_iload_n X d_M_shared_27 rfl hl rfl ?_
  refine x_iconst (v := nI 1) X d_M_shared_28 rfl ?_
  refine x_iconst (v := nI 2) X d_M_shared_29 rfl ?_
  refine x_go1 (x_runV X (C_M_paint l D A _ a lo hi q.2.2.length q.2.1.1 q.1.length n q.2.1.2 k1 pl ct w q hq h6 h8 hP hd j2 1 2 t2 hjt2 (by decide) (by decide) (fun d => by rw [m1]; split <;> decide)) b_M_paint s_M_paint v_M_paint e_M_156 (m_at hP) rfl rfl hl rfl (Nat.le_of_ble_eq_true rfl) d_M_shared_30 (Nat.le_of_ble_eq_true rfl) (Nat.le_of_ble_eq_true rfl) ⟨Nat.le_of_ble_eq_true rfl, Nat.le_of_ble_eq_true rfl⟩) hS (fun _ h => h) (fun H locs hP hF hS => ?_)
  have cnt := ft_pn_ct (f := 1) (g := 2) (by decide) (q.2.1.1 + 1) (sp_ns t2) k1 0 (nsl t2 (List.mem_of_getElem? hjt2))
  have m2 : ∀ d, (ft_pn 1 2 k1 0 (sp_ns t2)).1 d = if d ∈ sp_ns t then (if d ∈ sp_ns t2 then 2 else 1) else 0 := fun d => by
    rw [ft_pn_mk (by decide), m1]
    by_cases h : d ∈ sp_ns t <;> by_cases h2 : d ∈ sp_ns t2 <;> simp [h, h2]
  have hcc : (ft_pn 1 2 k1 0 (sp_ns t2)).2 = ((List.range (q.2.1.1 + 1)).filter (fun d => decide (d ∈ sp_ns t) && decide (d ∈ sp_ns t2))).length := by
    rw [cnt, Nat.zero_add]
    congr 1
    apply List.filter_congr
    intro d _
    rw [m1]
    by_cases h : d ∈ sp_ns t <;> by_cases h2 : d ∈ sp_ns t2 <;> simp [h, h2]
  rw [hcc]
  generalize (ft_pn 1 2 k1 0 (sp_ns t2)).1 = k2 at hP m2
  refine x_istore_n X d_M_shared_33 rfl hl (by decide) rfl (fun ls hl => ?_)
  refine x_aload_n X d_M_shared_34 rfl hl rfl ?_
  refine x_iload_n X d_M_shared_35 rfl hl rfl ?_
  refine x_iconst (v := nI 1) X d_M_shared_36 rfl ?_
  refine x_iconst (v := nI 0) X d_M_shared_37 rfl ?_
  refine x_go1 (x_runV X (C_M_paint l D A _ a lo hi q.2.2.length q.2.1.1 q.1.length n q.2.1.2 k2 pl ct w q hq h6 h8 hP hd j 1 0 t hjt (by decide) (by decide) (fun d => by rw [m2]; split; split <;> decide; decide)) b_M_paint s_M_paint v_M_paint e_M_156 (m_at hP) rfl rfl hl rfl (Nat.le_of_ble_eq_true rfl) d_M_shared_38 (Nat.le_of_ble_eq_true rfl) (Nat.le_of_ble_eq_true rfl) ⟨Nat.le_of_ble_eq_true rfl, Nat.le_of_ble_eq_true rfl⟩) hS (fun _ h => h) (fun H locs hP hF hS => ?_)
  have m3 : ∀ d, (ft_pn 1 0 k2 0 (sp_ns t)).1 d = if d ∈ sp_ns t then (if d ∈ sp_ns t2 then 2 else 0) else 0 := fun d => by
    rw [ft_pn_mk (by decide), m2]
    by_cases h : d ∈ sp_ns t <;> by_cases h2 : d ∈ sp_ns t2 <;> simp [h, h2]
  generalize (ft_pn 1 0 k2 0 (sp_ns t)).1 = k3 at hP m3
  refine x_pop X d_M_shared_41 rfl ?_
  refine x_aload_n X d_M_shared_42 rfl hl rfl ?_
  refine x_iload_n X d_M_shared_43 rfl hl rfl ?_
  refine x_iconst (v := nI 2) X d_M_shared_44 rfl ?_
  refine x_iconst (v := nI 0) X d_M_shared_45 rfl ?_
  refine x_go1 (x_runV X (C_M_paint l D A _ a lo hi q.2.2.length q.2.1.1 q.1.length n q.2.1.2 k3 pl ct w q hq h6 h8 hP hd j 2 0 t hjt (by decide) (by decide) (fun d => by rw [m3]; split; split <;> decide; decide)) b_M_paint s_M_paint v_M_paint e_M_156 (m_at hP) rfl rfl hl rfl (Nat.le_of_ble_eq_true rfl) d_M_shared_46 (Nat.le_of_ble_eq_true rfl) (Nat.le_of_ble_eq_true rfl) ⟨Nat.le_of_ble_eq_true rfl, Nat.le_of_ble_eq_true rfl⟩) hS (fun _ h => h) (fun H locs hP hF hS => ?_)
  have m4 : ∀ d, (ft_pn 2 0 k3 0 (sp_ns t)).1 d = 0 := fun d => by
    rw [ft_pn_mk (by decide), m3]
    by_cases h : d ∈ sp_ns t <;> by_cases h2 : d ∈ sp_ns t2 <;> simp [h, h2]
  generalize (ft_pn 2 0 k3 0 (sp_ns t)).1 = k4 at hP m4
  refine x_pop X d_M_shared_49 rfl ?_
  refine x_iload_n X d_M_shared_50 rfl hl rfl ?_
  exact x_iret X hS (Nat.le_refl _) (Nat.le_refl _) d_M_shared_51 ⟨rfl, _, _, _, _, _, _, _, _, _, _, _, ⟨⟨rfl, rfl, rfl, rfl⟩, h5, h6, m4, h8, h9, h10⟩, hP⟩
