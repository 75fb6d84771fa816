/-! The reference, call by call: spine, digit. -/
/-- spine's two numbers over words -/
def ft_sn : Nat → Nat → List Nat → Nat × Nat
  | d, s, [] => (d, s)
  | d, s, x :: L => ft_sn (if ft_sd x = 0 ∧ d ≤ ft_le8 x then ft_le8 x + 1 else d) (if ft_sd x = 2 then 1 else s) L
theorem ft_sn_app (B : List Nat) : ∀ (A : List Nat) (d s : Nat), ft_sn d s (A ++ B) = ft_sn (ft_sn d s A).1 (ft_sn d s A).2 B := by
  intro A
  induction A with
  | nil => intro d s; rfl
  | cons x A ih => intro d s; simp only [List.cons_append, ft_sn, ih]
theorem ft_sn_0 {k : Nat} : ∀ (A : List Nat) (s : Nat), (∀ x ∈ A, ft_le8 x = k ∧ ft_sd x = 0) → ft_sn (k + 1) s A = (k + 1, s) := by
  intro A
  induction A with
  | nil => intro s _; rfl
  | cons x A ih =>
    intro s h
    obtain ⟨h1, h2⟩ := h x (by simp)
    simp only [ft_sn]
    rw [if_neg (by omega), if_neg (by omega)]
    exact ih s (fun y hy => h y (by simp [hy]))
theorem ft_sn_1 : ∀ (A : List Nat) (d s : Nat), (∀ x ∈ A, ft_sd x = 1) → ft_sn d s A = (d, s) := by
  intro A
  induction A with
  | nil => intro d s _; rfl
  | cons x A ih =>
    intro d s h
    have h1 := h x (by simp)
    simp only [ft_sn]
    rw [if_neg (by omega), if_neg (by omega)]
    exact ih d s (fun y hy => h y (by simp [hy]))
theorem ft_sn_2 : ∀ (A : List Nat) (d s : Nat), (∀ x ∈ A, ft_sd x = 2) → ft_sn d s A = (d, if A = [] then s else 1) := by
  intro A
  induction A with
  | nil => intro d s _; rfl
  | cons x A ih =>
    intro d s h
    have h1 := h x (by simp)
    simp only [ft_sn]
    rw [if_neg (by omega), if_pos h1, ih d 1 (fun y hy => h y (by simp [hy]))]
    simp
theorem ft_wR_all {ne mm : Nat} {zf : Nat → Nat} {k sd : Nat} {l : List ft_I} (h : ft_okR ne mm zf k l) (hne : ne ≤ 128) (hmm : mm < 8192) (hk : k ≤ 3) (hs : sd < 4) : ∀ x ∈ ft_wR sd l, ft_le8 x = k ∧ ft_sd x = sd := fun x hx => by
  obtain ⟨q, hq, rfl⟩ := List.mem_map.1 hx
  have hf := ft_okR_fit h hne hmm hk q hq
  exact ⟨(ft_wd_level hf.1 hs).trans hf.2, ft_wd_side hf.1 hs⟩
theorem ft_wI_all {ne mm : Nat} {zf : Nat → Nat} {k sd : Nat} {x : ft_I} (h : ft_ok ne mm zf k x) (hne : ne ≤ 128) (hmm : mm < 8192) (hk : k ≤ 3) (hs : sd < 4) : ∀ y ∈ ft_wI sd x, ft_le8 y = k ∧ ft_sd y = sd := fun y hy => by
  obtain ⟨q, hq, rfl⟩ := List.mem_map.1 hy
  have hf := ft_ok_fit h hne hmm hk q hq
  exact ⟨(ft_wd_level hf.1 hs).trans hf.2, ft_wd_side hf.1 hs⟩
theorem ft_sn_T {ne mm : Nat} {zf : Nat → Nat} {o : Option ft_I} (hne : ne ≤ 128) (hmm : mm < 8192) : ∀ (sp : ft_S) (k s : Nat), ft_okT ne mm zf k sp o → 2 * 2 ^ k + ft_zT sp o ≤ 42 → ft_sn k s (ft_wT sp o) = (k + sp.length, if o.isSome then 1 else s) := by
  intro sp
  induction sp with
  | nil =>
    intro k s h hB
    cases o with
    | none => rfl
    | some x =>
      have hz := ft_ok_z h
      have hzp := ft_ok_zpos h
      simp only [ft_zT] at hB
      have hk3 : k ≤ 3 := ft_k3 (by omega)
      show ft_sn k s (ft_wI 2 x) = _
      rw [ft_sn_2 _ _ _ (fun y hy => (ft_wI_all h hne hmm hk3 (by decide) y hy).2), if_neg (fun e => by have := ft_wI_len 2 x; rw [e] at this; simp at this; omega)]
      rfl
  | cons d sp ih =>
    intro k s h hB
    have hzd := ft_okT_zd h
    obtain ⟨a1, a2, a3⟩ := h
    simp only [ft_zT] at hB
    have hk3 : k ≤ 3 := ft_k3 (by omega)
    have h2k := Nat.one_le_two_pow (n := k)
    have hw := ft_wR_all (sd := 0) a1.2.2 hne hmm hk3 (by decide)
    have h0 : ft_sn k s (ft_wR 0 d.1) = (k + 1, s) := by
      have hlen := ft_wR_len 0 d.1
      cases hx : ft_wR 0 d.1 with
      | nil => rw [hx] at hlen; simp at hlen; omega
      | cons x L =>
        rw [hx] at hw
        obtain ⟨w1, w2⟩ := hw x (by simp)
        simp only [ft_sn]
        rw [if_pos ⟨w2, by omega⟩, if_neg (by omega), w1]
        exact ft_sn_0 L s (fun y hy => hw y (by simp [hy]))
    simp only [ft_wT]
    rw [ft_sn_app, ft_sn_app, h0, ih (k + 1) s a3 (by rw [Nat.pow_succ]; omega), ft_sn_1 _ _ _ (fun y hy => (ft_wR_all a2.2.2 hne hmm hk3 (by decide) y hy).2)]
    simp only [List.length_cons]
    rw [show k + 1 + sp.length = k + (sp.length + 1) from by omega]
set_option maxRecDepth 100000 in
set_option maxHeartbeats 4000000 in
theorem A_M_spine (l : Launch) (D : va_G) (A : Nat → ClassId) (H0 : Heap) (a : Nat → Nat) (hd : mDs a) (q : ft_Q) (hq : sp_ok2 q) (hI : mI D a A q H0) (v : Int32) : xC l y_M_spine c_M_spine 7 (some .int) 4 D A H0 [.ref (a 0), .int v] (fun _ => False) (q1 (.int (sp_spine q v)) (fun H1 => H1 = H0)) 0 0 := by
  obtain ⟨lo, hi, en, zf, mk, md, pl, ct, vs, w, n, hR, hP⟩ := hI
  obtain ⟨⟨rfl, rfl, rfl, rfl⟩, h5, h6, h7, h8, h9, h10⟩ := id hR
  have hl1 := hq.1.1
  have hl2 := hq.1.2.1
  have hl3 := hq.1.2.2.2.1
  have hmd0 := sp_md hq
  rcases sp_at_cases hq v with ⟨hv, hat⟩ | ⟨j, t, rfl, hj, hjt, hat⟩
  · rw [show sp_spine q v = -1 from by unfold sp_spine; rw [hat]]
    refine xC.of rfl (Nat.le_of_ble_eq_true rfl) ?_
    intro p_ e_ s_ m_ ar_ bl_ me_ c_ ls X hl
    have hl : lz ls 7 [some (.ref (a 0)), some (.int v), none, none, none, none, none] := hl
    have hS : va_S (fun _ => False) H0 H0 [] := va_S.rf
    refine x_aload_n X d_M_spine_0 rfl hl rfl ?_
    refine x_iload_n X d_M_spine_1 rfl hl rfl ?_
    refine x_goR (x_runV X (C_M_none_t l D A _ a lo hi q.2.2.length q.2.1.1 q.1.length n q.2.1.2 mk pl ct w hP v hv) b_M_none s_M_none v_M_none e_M_109 (m_at hP) rfl rfl hl rfl (Nat.le_of_ble_eq_true rfl) d_M_spine_2 (Nat.le_of_ble_eq_true rfl) (Nat.le_of_ble_eq_true rfl) ⟨Nat.le_of_ble_eq_true rfl, Nat.le_of_ble_eq_true rfl⟩) hS (fun locs hS => ?_)
    refine n_if_eq X 10 d_M_spine_5 rfl (by decide) (fun hc => absurd hc (by decide)) (fun hc => ?_)
    refine x_iconst (v := -1) X d_M_spine_8 rfl ?_
    exact x_iret X hS (Nat.le_refl _) (Nat.le_refl _) d_M_spine_9 ⟨rfl, rfl⟩
  have ht := hq.1.2.2.1 t (List.mem_of_getElem? hjt)
  obtain ⟨hct, hpl⟩ := h6 j t hjt
  have hz40 := ht.2
  rw [show sp_spine q (nI j) = nI (2 * t.1.length + if t.2.isSome then 1 else 0) from by unfold sp_spine; rw [hat]]
  have hsn := ft_sn_T (by omega) (by omega) t.1 0 0 ht.1 (by omega)
  rw [Nat.zero_add] at hsn
  have hwl := ft_wT_len t.1 t.2
  refine xC.of rfl (Nat.le_of_ble_eq_true rfl) ?_
  intro p_ e_ s_ m_ ar_ bl_ me_ c_ ls X hl
  have hl : lz ls 7 [some (.ref (a 0)), some (.int (nI j)), none, none, none, none, none] := hl
  have hS : va_S (fun _ => False) H0 H0 [] := va_S.rf
  refine x_aload_n X d_M_spine_0 rfl hl rfl ?_
  refine x_iload_n X d_M_spine_1 rfl hl rfl ?_
  refine x_goR (x_runV X (C_M_none_f l D A _ a lo hi q.2.2.length q.2.1.1 q.1.length n q.2.1.2 mk pl ct w hP j hj (by omega)) b_M_none s_M_none v_M_none e_M_109 (m_at hP) rfl rfl hl rfl (Nat.le_of_ble_eq_true rfl) d_M_spine_2 (Nat.le_of_ble_eq_true rfl) (Nat.le_of_ble_eq_true rfl) ⟨Nat.le_of_ble_eq_true rfl, Nat.le_of_ble_eq_true rfl⟩) hS (fun locs hS => ?_)
  refine n_if_eq X 10 d_M_spine_5 rfl (by decide) (fun hc => ?_) (fun hc => absurd rfl hc)
  refine x_iconst (v := nI 0) X d_M_spine_10 rfl ?_
  refine x_istore_n X d_M_spine_11 rfl hl (by decide) rfl (fun ls hl => ?_)
  refine x_iconst (v := nI 0) X d_M_spine_12 rfl ?_
  refine x_istore_n X d_M_spine_13 rfl hl (by decide) rfl (fun ls hl => ?_)
  refine x_iconst (v := nI 0) X d_M_spine_14 rfl ?_
  refine x_istore X d_M_spine_15 hl (by decide) rfl (fun ls hl => ?_)
  have loop : ∀ (g i de si : Nat) (v5 : Option Value) (locs : List Loc) (ls : Array Slot), ft_zT t.1 t.2 - i = g → i ≤ ft_zT t.1 t.2 → ft_sn de si ((ft_wT t.1 t.2).drop i) = (t.1.length, if t.2.isSome then 1 else 0) → de < 100 → si < 100 → lz ls 7 [some (.ref (a 0)), some (.int (nI j)), some (.int (nI de)), some (.int (nI si)), some (.int (nI i)), v5, none] → va_S (fun _ => False) H0 H0 locs → W p_ l e_ (x_rm 4 0 0) s_ m_ ar_ bl_ me_ c_ H0 locs 0 0 (MQ bl_ (xQ (fun _ => False) (q1 (.int (nI (2 * t.1.length + if t.2.isSome then 1 else 0))) (fun H1 => H1 = H0))) ar_ s_ 0 0 (fun _ => False)) (F0 m_ 17 ls []) := by
    clear hl hS
    intro g
    induction g with
    | zero =>
      intro i de si v5 locs ls hg hiz hs hd9 hs9 hl hS
      have hie : i = ft_zT t.1 t.2 := by omega
      rw [List.drop_of_length_le (by omega)] at hs
      have hs : (de, si) = (t.1.length, if t.2.isSome then 1 else 0) := hs
      obtain ⟨e1, e2⟩ := Prod.mk.inj hs
      rw [← e1, ← e2]
      refine x_iload X d_M_spine_17 hl rfl ?_
      refine x_aload_n X d_M_spine_19 rfl hl rfl ?_
      refine m_get X hP 7 (by decide) e_M_27 rfl d_M_spine_20 ?_
      refine x_iload_n X d_M_spine_23 rfl hl rfl ?_
      refine m_ld_ct X hP (by omega) d_M_spine_24 ?_
      rw [hct]
      refine n_icmp_ge X 92 d_M_spine_25 rfl (by omega) (by omega) (fun hc => ?_) (fun hc => absurd hc (by omega))
      refine x_iconst (v := nI 2) X d_M_spine_92 rfl ?_
      refine x_iload_n X d_M_spine_93 rfl hl rfl ?_
      refine n_imul X d_M_spine_94 ?_
      refine x_iload_n X d_M_spine_95 rfl hl rfl ?_
      refine n_iadd X d_M_spine_96 ?_
      exact x_iret X hS (Nat.le_refl _) (Nat.le_refl _) d_M_spine_97 ⟨rfl, rfl⟩
    | succ g ih =>
      intro i de si v5 locs ls hg hiz hs hd9 hs9 hl hS
      have hlt : i < (ft_wT t.1 t.2).length := by omega
      have hx := hpl i _ (List.getElem?_eq_getElem hlt)
      have hb := h8 (40 * j + i)
      rw [List.drop_eq_getElem_cons hlt, ← hx] at hs
      change ft_sn (if ft_sd (pl (40 * j + i)) = 0 ∧ de ≤ ft_le8 (pl (40 * j + i)) then ft_le8 (pl (40 * j + i)) + 1 else de) (if ft_sd (pl (40 * j + i)) = 2 then 1 else si) ((ft_wT t.1 t.2).drop (i + 1)) = _ at hs
      have hle := Nat.mod_lt (pl (40 * j + i) / 512) (by decide : 0 < 8)
      refine x_iload X d_M_spine_17 hl rfl ?_
      refine x_aload_n X d_M_spine_19 rfl hl rfl ?_
      refine m_get X hP 7 (by decide) e_M_27 rfl d_M_spine_20 ?_
      refine x_iload_n X d_M_spine_23 rfl hl rfl ?_
      refine m_ld_ct X hP (by omega) d_M_spine_24 ?_
      rw [hct]
      refine n_icmp_ge X 92 d_M_spine_25 rfl (by omega) (by omega) (fun hc => absurd hc (by omega)) (fun hc => ?_)
      refine x_aload_n X d_M_spine_28 rfl hl rfl ?_
      refine m_get X hP 6 (by decide) e_M_23 rfl d_M_spine_29 ?_
      refine x_bipush (v := nI 40) X d_M_spine_32 rfl ?_
      refine x_iload_n X d_M_spine_34 rfl hl rfl ?_
      refine n_imul X d_M_spine_35 ?_
      refine x_iload X d_M_spine_36 hl rfl ?_
      refine n_iadd X d_M_spine_38 ?_
      refine m_ld_pl X hP (by omega) d_M_spine_39 ?_
      refine x_lstore X d_M_spine_40 hl (by decide) rfl (fun ls hl => ?_)
      refine x_lload X d_M_spine_42 hl rfl ?_
      refine x_goR (x_runS X (C_M_side l D A _ (pl (40 * j + i)) (by omega)) b_M_side s_M_side e_M_44 rfl hl rfl (Nat.le_of_ble_eq_true rfl) d_M_spine_44 (Nat.le_of_ble_eq_true rfl) (Nat.le_of_ble_eq_true rfl) ⟨Nat.le_of_ble_eq_true rfl, Nat.le_of_ble_eq_true rfl⟩) hS (fun locs hS => ?_)
      have tail : ∀ (de' : Nat) (locs : List Loc) (ls : Array Slot), de' = (if ft_sd (pl (40 * j + i)) = 0 ∧ de ≤ ft_le8 (pl (40 * j + i)) then ft_le8 (pl (40 * j + i)) + 1 else de) → lz ls 7 [some (.ref (a 0)), some (.int (nI j)), some (.int (nI de)), some (.int (nI si)), some (.int (nI i)), some (.long (lN (pl (40 * j + i)))), none] → va_S (fun _ => False) H0 H0 locs → W p_ l e_ (x_rm 4 0 0) s_ m_ ar_ bl_ me_ c_ H0 locs 0 0 (MQ bl_ (xQ (fun _ => False) (q1 (.int (nI (2 * t.1.length + if t.2.isSome then 1 else 0))) (fun H1 => H1 = H0))) ar_ s_ 0 0 (fun _ => False)) (F0 m_ 70 ls [.int (nI de')]) := by
        intro de' locs ls hde hl hS
        have hd9' : de' < 100 := by
          have h8' : ft_le8 (pl (40 * j + i)) < 8 := hle
          rw [hde]
          split <;> omega
        rw [← hde] at hs
        refine x_istore_n X d_M_spine_70 rfl hl (by decide) rfl (fun ls hl => ?_)
        refine x_lload X d_M_spine_71 hl rfl ?_
        refine x_goR (x_runS X (C_M_side l D A _ (pl (40 * j + i)) (by omega)) b_M_side s_M_side e_M_44 rfl hl rfl (Nat.le_of_ble_eq_true rfl) d_M_spine_73 (Nat.le_of_ble_eq_true rfl) (Nat.le_of_ble_eq_true rfl) ⟨Nat.le_of_ble_eq_true rfl, Nat.le_of_ble_eq_true rfl⟩) hS (fun locs hS => ?_)
        refine x_iconst (v := nI 2) X d_M_spine_76 rfl ?_
        refine n_icmp_ne X 84 d_M_spine_77 rfl (by omega) (by omega) (fun h2 => ?_) (fun h2 => ?_)
        · rw [if_neg h2] at hs
          refine x_iload_n X d_M_spine_84 rfl hl rfl ?_
          refine x_istore_n X d_M_spine_85 rfl hl (by decide) rfl (fun ls hl => ?_)
          refine n_iinc (d := 1) X d_M_spine_86 rfl hl rfl (by decide) rfl (fun ls hl => ?_)
          refine x_goto X 17 d_M_spine_89 rfl ?_
          exact ih (i + 1) de' si _ _ _ (by omega) (by omega) hs hd9' hs9 hl hS
        · rw [if_pos h2] at hs
          refine x_iconst (v := nI 1) X d_M_spine_80 rfl ?_
          refine x_goto X 85 d_M_spine_81 rfl ?_
          refine x_istore_n X d_M_spine_85 rfl hl (by decide) rfl (fun ls hl => ?_)
          refine n_iinc (d := 1) X d_M_spine_86 rfl hl rfl (by decide) rfl (fun ls hl => ?_)
          refine x_goto X 17 d_M_spine_89 rfl ?_
          exact ih (i + 1) de' 1 _ _ _ (by omega) (by omega) hs hd9' (by decide) hl hS
      refine n_if_ne X 69 d_M_spine_47 rfl (by omega) (fun h0 => ?_) (fun h0 => ?_)
      · skip
        refine x_iload_n X d_M_spine_69 rfl hl rfl ?_
        exact tail de _ _ (by rw [if_neg (fun h => h0 h.1)]) hl hS
      refine x_lload X d_M_spine_50 hl rfl ?_
      refine x_goR (x_runS X (C_M_level l D A _ (pl (40 * j + i)) (by omega)) b_M_level s_M_level e_M_40 rfl hl rfl (Nat.le_of_ble_eq_true rfl) d_M_spine_52 (Nat.le_of_ble_eq_true rfl) (Nat.le_of_ble_eq_true rfl) ⟨Nat.le_of_ble_eq_true rfl, Nat.le_of_ble_eq_true rfl⟩) hS (fun locs hS => ?_)
      refine x_iload_n X d_M_spine_55 rfl hl rfl ?_
      refine n_icmp_lt X 69 d_M_spine_56 rfl (by omega) (by omega) (fun h1 => ?_) (fun h1 => ?_)
      · skip
        refine x_iload_n X d_M_spine_69 rfl hl rfl ?_
        exact tail de _ _ (by rw [if_neg (fun h => by have := h.2; dsimp only [ft_le8] at this; omega)]) hl hS
      refine x_lload X d_M_spine_59 hl rfl ?_
      refine x_goR (x_runS X (C_M_level l D A _ (pl (40 * j + i)) (by omega)) b_M_level s_M_level e_M_40 rfl hl rfl (Nat.le_of_ble_eq_true rfl) d_M_spine_61 (Nat.le_of_ble_eq_true rfl) (Nat.le_of_ble_eq_true rfl) ⟨Nat.le_of_ble_eq_true rfl, Nat.le_of_ble_eq_true rfl⟩) hS (fun locs hS => ?_)
      refine x_iconst (v := nI 1) X d_M_spine_64 rfl ?_
      refine n_iadd X d_M_spine_65 ?_
      refine x_goto X 70 d_M_spine_66 rfl ?_
      exact tail _ _ _ (by rw [if_pos ⟨h0, h1⟩]) hl hS
  exact loop _ 0 0 0 none _ _ rfl (Nat.zero_le _) hsn (by decide) (by decide) hl hS
/-- the items of a tree's digits, with level and side -/
def ft_it : Nat → ft_S → Option ft_I → List (Nat × Nat × ft_I)
  | k, [], o => match o with
    | none => []
    | some x => [(k, 2, x)]
  | k, d :: sp, o => d.1.map (fun x => (k, 0, x)) ++ ft_it (k + 1) sp o ++ d.2.map (fun x => (k, 1, x))
def ft_hl (w : Nat → Nat) : Nat → List (Nat × Nat × ft_I) → Prop
  | _, [] => True
  | s, e :: L => ft_hd w s (ft_wI e.2.1 e.2.2) ∧ ft_hl w (s + ft_z e.2.2) L
def ft_zL : List (Nat × Nat × ft_I) → Nat
  | [] => 0
  | e :: L => ft_z e.2.2 + ft_zL L
theorem ft_hl_app {w : Nat → Nat} {B : List (Nat × Nat × ft_I)} : ∀ {A : List (Nat × Nat × ft_I)} {s : Nat}, ft_hl w s A → ft_hl w (s + ft_zL A) B → ft_hl w s (A ++ B) := by
  intro A
  induction A with
  | nil => intro s _ h; exact h
  | cons e A ih => intro s h1 h2; exact ⟨h1.1, ih h1.2 (by rw [Nat.add_assoc]; exact h2)⟩
theorem ft_zL_app (A B : List (Nat × Nat × ft_I)) : ft_zL (A ++ B) = ft_zL A + ft_zL B := by
  induction A with
  | nil => simp [ft_zL]
  | cons e A ih => simp only [List.cons_append, ft_zL, ih]; omega
theorem ft_zL_map (k sd : Nat) (l : List ft_I) : ft_zL (l.map (fun x => (k, sd, x))) = ft_zR l := by
  induction l with
  | nil => rfl
  | cons x l ih => simp only [List.map_cons, ft_zL, ft_zR, ih]
theorem ft_hl_map {w : Nat → Nat} {k sd : Nat} : ∀ {l : List ft_I} {s : Nat}, ft_hd w s (ft_wR sd l) → ft_hl w s (l.map (fun x => (k, sd, x))) := by
  intro l
  induction l with
  | nil => intro s _; trivial
  | cons x l ih =>
    intro s h
    rw [ft_wR_cons, ft_hd_app, ft_wI_len] at h
    exact ⟨h.1, ih h.2⟩
theorem ft_zL_it : ∀ (sp : ft_S) (o : Option ft_I) (k : Nat), ft_zL (ft_it k sp o) = ft_zT sp o := by
  intro sp
  induction sp with
  | nil => intro o k; cases o <;> simp [ft_it, ft_zL, ft_zT]
  | cons d sp ih => intro o k; simp only [ft_it, ft_zL_app, ft_zL_map, ih, ft_zT]
theorem ft_hl_it {w : Nat → Nat} : ∀ {sp : ft_S} {o : Option ft_I} {k s : Nat}, ft_hd w s (ft_wT sp o) → ft_hl w s (ft_it k sp o) := by
  intro sp
  induction sp with
  | nil => intro o k s h; cases o with
    | none => trivial
    | some x => exact ⟨h, trivial⟩
  | cons d sp ih =>
    intro o k s h
    obtain ⟨h1, h2, h3⟩ := ft_hd3 h
    refine ft_hl_app (ft_hl_app (ft_hl_map h1) (by rw [ft_zL_map]; exact ih h2)) ?_
    rw [ft_zL_app, ft_zL_map, ft_zL_it, ← Nat.add_assoc]
    exact ft_hl_map h3
theorem ft_it_ok {ne mm : Nat} {zf : Nat → Nat} {o : Option ft_I} : ∀ {sp : ft_S} {k : Nat}, ft_okT ne mm zf k sp o → 2 * 2 ^ k + ft_zT sp o ≤ 42 → ∀ e ∈ ft_it k sp o, ft_ok ne mm zf e.1 e.2.2 ∧ e.1 ≤ 3 ∧ e.2.1 < 3 := by
  intro sp
  induction sp with
  | nil =>
    intro k h hB e he
    cases o with
    | none => simp [ft_it] at he
    | some x =>
      simp only [ft_it, List.mem_singleton] at he
      subst he
      have hz := ft_ok_z h
      simp only [ft_zT] at hB
      exact ⟨h, show k ≤ 3 from ft_k3 (by omega), by show 2 < 3; decide⟩
  | cons d sp ih =>
    intro k h hB e he
    have hzd := ft_okT_zd h
    obtain ⟨a1, a2, a3⟩ := h
    simp only [ft_zT] at hB
    have hk3 : k ≤ 3 := ft_k3 (by omega)
    simp only [ft_it, List.mem_append, List.mem_map] at he
    rcases he with (⟨x, hx, rfl⟩ | he) | ⟨x, hx, rfl⟩
    · exact ⟨a1.2.2 x hx, hk3, by show 0 < 3; decide⟩
    · exact ih a3 (by rw [Nat.pow_succ]; omega) e he
    · exact ⟨a2.2.2 x hx, hk3, by show 1 < 3; decide⟩
def ft_ct (P : Nat × Nat × ft_I → Bool) (L : List (Nat × Nat × ft_I)) : Nat := (L.filter P).length
theorem ft_ct_app (P : Nat × Nat × ft_I → Bool) (A B : List (Nat × Nat × ft_I)) : ft_ct P (A ++ B) = ft_ct P A + ft_ct P B := by simp [ft_ct]
theorem ft_ct_cons (P : Nat × Nat × ft_I → Bool) (e : Nat × Nat × ft_I) (L : List (Nat × Nat × ft_I)) : ft_ct P (e :: L) = (if P e then 1 else 0) + ft_ct P L := by
  unfold ft_ct
  rw [List.filter_cons]
  split <;> simp
  omega
theorem ft_ct_map (P : Nat × Nat × ft_I → Bool) (k sd : Nat) (l : List ft_I) (b : Bool) (h : ∀ x, P (k, sd, x) = b) : ft_ct P (l.map (fun x => (k, sd, x))) = if b then l.length else 0 := by
  induction l with
  | nil => cases b <;> rfl
  | cons x l ih =>
    rw [List.map_cons, ft_ct_cons, ih, h]
    cases b
    · simp
    · simp; omega
def ft_dp (lev : Int32) (rr : Nat) (e : Nat × Nat × ft_I) : Bool := decide (nI e.1 = lev) && decide (e.2.1 = rr)
theorem ft_ct_it {ne mm : Nat} {zf : Nat → Nat} {o : Option ft_I} {lev rr : Nat} (hr : rr < 2) (hlv : lev < 2 ^ 31) : ∀ (sp : ft_S) (k : Nat), ft_okT ne mm zf k sp o → 2 * 2 ^ k + ft_zT sp o ≤ 42 → ft_ct (ft_dp (nI lev) rr) (ft_it k sp o) = if k ≤ lev then (match sp[lev - k]? with
    | none => 0
    | some d => if rr = 0 then d.1.length else d.2.length) else 0 := by
  intro sp
  induction sp with
  | nil =>
    intro k h hB
    have : ft_ct (ft_dp (nI lev) rr) (ft_it k [] o) = 0 := by
      cases o with
      | none => rfl
      | some x =>
        simp only [ft_it]
        rw [ft_ct_cons]
        have : ft_dp (nI lev) rr (k, 2, x) = false := by unfold ft_dp; rw [decide_eq_false (show ¬ (k, 2, x).2.1 = rr from by simp only []; omega), Bool.and_false]
        rw [this]
        rfl
    rw [this]
    simp
  | cons d sp ih =>
    intro k h hB
    have hzd := ft_okT_zd h
    obtain ⟨a1, a2, a3⟩ := h
    simp only [ft_zT] at hB
    have hk3 : k ≤ 3 := ft_k3 (by omega)
    have i := ih (k + 1) a3 (by rw [Nat.pow_succ]; omega)
    have m0 := ft_ct_map (ft_dp (nI lev) rr) k 0 d.1 (decide (k = lev) && decide (0 = rr)) (fun x => by unfold ft_dp; congr 1; exact decide_eq_decide.2 (nI_eq (by omega) hlv))
    have m1 := ft_ct_map (ft_dp (nI lev) rr) k 1 d.2 (decide (k = lev) && decide (1 = rr)) (fun x => by unfold ft_dp; congr 1; exact decide_eq_decide.2 (nI_eq (by omega) hlv))
    rcases Nat.lt_trichotomy k lev with hlt | heq | hgt
    · have e1 : decide (k = lev) = false := decide_eq_false (by omega)
      rw [e1, Bool.false_and] at m0 m1
      simp only [ft_it, ft_ct_app, m0, m1, i]
      rw [if_pos (show k + 1 ≤ lev by omega), if_pos (show k ≤ lev by omega), show lev - k = (lev - (k + 1)) + 1 from by omega, List.getElem?_cons_succ]
      simp
    · subst heq
      rw [decide_eq_true rfl, Bool.true_and] at m0 m1
      simp only [ft_it, ft_ct_app, m0, m1, i]
      rw [if_neg (show ¬ k + 1 ≤ k by omega), if_pos (Nat.le_refl k), Nat.sub_self, List.getElem?_cons_zero]
      have : rr = 0 ∨ rr = 1 := by omega
      rcases this with rfl | rfl <;> simp
    · have e1 : decide (k = lev) = false := decide_eq_false (by omega)
      rw [e1, Bool.false_and] at m0 m1
      simp only [ft_it, ft_ct_app, m0, m1, i]
      rw [if_neg (show ¬ k + 1 ≤ lev by omega), if_neg (show ¬ k ≤ lev by omega)]
      simp
theorem ft_ct_neg {lev : Int32} {rr : Nat} (h : lev < 0) (L : List (Nat × Nat × ft_I)) (hL : ∀ e ∈ L, e.1 ≤ 3) : ft_ct (ft_dp lev rr) L = 0 := by
  induction L with
  | nil => rfl
  | cons e L ih =>
    rw [ft_ct_cons, ih (fun x hx => hL x (by simp [hx]))]
    have : ft_dp lev rr e = false := by
      unfold ft_dp
      have h3 := hL e (by simp)
      rw [decide_eq_false (fun e2 => nI_pos (n := e.1) (by omega) (by rw [e2]; exact h)), Bool.false_and]
    rw [this]
    rfl
set_option maxRecDepth 100000 in
set_option maxHeartbeats 4000000 in
theorem A_M_digit (l : Launch) (D : va_G) (A : Nat → ClassId) (H0 : Heap) (a : Nat → Nat) (hd : mDs a) (q : ft_Q) (hq : sp_ok2 q) (hI : mI D a A q H0) (v : Int32) (lev : Int32) (rr : Nat) (hrr : rr < 2) : xC l y_M_digit c_M_digit 8 (some .int) 4 D A H0 [.ref (a 0), .int v, .int lev, .int (nI rr)] (mFr a) (q1 (.int (sp_digit q v lev (decide (rr ≠ 0)))) (fun H1 => mI D a A q H1)) 0 0 := by
  obtain ⟨lo, hi, en, zf, mk, md, pl, ct, vs, w, n, hR, hP⟩ := hI
  obtain ⟨⟨rfl, rfl, rfl, rfl⟩, h5, h6, h7, h8, h9, h10⟩ := id hR
  have hl1 := hq.1.1
  have hl2 := hq.1.2.1
  have hl3 := hq.1.2.2.2.1
  have hmd0 := sp_md hq
  rcases sp_at_cases hq v with ⟨hv, hat⟩ | ⟨j, t, rfl, hj, hjt, hat⟩
  · rw [show sp_digit q v lev (decide (rr ≠ 0)) = -1 from by unfold sp_digit; rw [hat]]
    refine xC.of rfl (Nat.le_of_ble_eq_true rfl) ?_
    intro p_ e_ s_ m_ ar_ bl_ me_ c_ ls X hl
    have hl : lz ls 8 [some (.ref (a 0)), some (.int v), some (.int lev), some (.int (nI rr)), none, none, none, none] := hl
    have hS : va_S (mFr a) H0 H0 [] := va_S.rf
    refine x_aload_n X d_M_digit_0 rfl hl rfl ?_
    refine x_iload_n X d_M_digit_1 rfl hl rfl ?_
    refine x_goR (x_runV X (C_M_none_t l D A _ a lo hi q.2.2.length q.2.1.1 q.1.length n q.2.1.2 mk pl ct w hP v hv) b_M_none s_M_none v_M_none e_M_109 (m_at hP) rfl rfl hl rfl (Nat.le_of_ble_eq_true rfl) d_M_digit_2 (Nat.le_of_ble_eq_true rfl) (Nat.le_of_ble_eq_true rfl) ⟨Nat.le_of_ble_eq_true rfl, Nat.le_of_ble_eq_true rfl⟩) hS (fun locs hS => ?_)
    refine n_if_eq X 10 d_M_digit_5 rfl (by decide) (fun hc => absurd hc (by decide)) (fun hc => ?_)
    refine x_iconst (v := -1) X d_M_digit_8 rfl ?_
    exact x_iret X hS (Nat.le_refl _) (Nat.le_refl _) d_M_digit_9 ⟨rfl, _, _, _, _, _, _, _, _, _, _, _, hR, hP⟩
  have ht := hq.1.2.2.1 t (List.mem_of_getElem? hjt)
  obtain ⟨hct, hpl⟩ := h6 j t hjt
  have hz40 := ht.2
  have hio := ft_it_ok ht.1 (by omega)
  have hval : sp_digit q (nI j) lev (decide (rr ≠ 0)) = nI (ft_ct (ft_dp lev rr) (ft_it 0 t.1 t.2)) := by
    unfold sp_digit
    rw [hat]
    dsimp only
    by_cases hn : lev < 0
    · rw [if_pos hn, ft_ct_neg hn _ (fun e he => (hio e he).2.1)]
      rfl
    · rw [if_neg hn]
      obtain ⟨lv, hlv, rfl⟩ := nI_of hn
      rw [nI_clamp hlv, ft_ct_it hrr hlv t.1 0 ht.1 (by omega), if_pos (Nat.zero_le _), Nat.sub_zero]
      cases t.1[lv]? with
      | none => rfl
      | some d =>
        have : rr = 0 ∨ rr = 1 := by omega
        rcases this with rfl | rfl <;> simp
  rw [hval]
  refine xC.of rfl (Nat.le_of_ble_eq_true rfl) ?_
  intro p_ e_ s_ m_ ar_ bl_ me_ c_ ls X hl
  have hl : lz ls 8 [some (.ref (a 0)), some (.int (nI j)), some (.int lev), some (.int (nI rr)), none, none, none, none] := hl
  have hS : va_S (mFr a) H0 H0 [] := va_S.rf
  refine x_aload_n X d_M_digit_0 rfl hl rfl ?_
  refine x_iload_n X d_M_digit_1 rfl hl rfl ?_
  refine x_goR (x_runV X (C_M_none_f l D A _ a lo hi q.2.2.length q.2.1.1 q.1.length n q.2.1.2 mk pl ct w hP j hj (by omega)) b_M_none s_M_none v_M_none e_M_109 (m_at hP) rfl rfl hl rfl (Nat.le_of_ble_eq_true rfl) d_M_digit_2 (Nat.le_of_ble_eq_true rfl) (Nat.le_of_ble_eq_true rfl) ⟨Nat.le_of_ble_eq_true rfl, Nat.le_of_ble_eq_true rfl⟩) hS (fun locs hS => ?_)
  refine n_if_eq X 10 d_M_digit_5 rfl (by decide) (fun hc => ?_) (fun hc => absurd rfl hc)
  refine x_aload_n X d_M_digit_10 rfl hl rfl ?_
  refine x_iload_n X d_M_digit_11 rfl hl rfl ?_
  refine x_go0 (x_runV X (C_M_load l D A _ a lo hi q.2.2.length q.2.1.1 q.1.length n q.2.1.2 mk pl ct w hP hd j (by omega) (by omega)) b_M_load s_M_load v_M_load e_M_113 (m_at hP) rfl rfl hl rfl (Nat.le_of_ble_eq_true rfl) d_M_digit_12 (Nat.le_of_ble_eq_true rfl) (Nat.le_of_ble_eq_true rfl) ⟨Nat.le_of_ble_eq_true rfl, Nat.le_of_ble_eq_true rfl⟩) hS (fun _ h => h) (fun H locs hP hF hS => ?_)
  rw [hct] at hP
  have hw1 := ft_ld_bw (j := j) (m := ft_zT t.1 t.2) h9 h8
  have hd1 := ft_ld_hd (w := w) (m := ft_zT t.1 t.2) hpl (by rw [ft_wT_len]; exact Nat.le_refl _)
  generalize ft_ld w pl j (ft_zT t.1 t.2) = w1 at hP hw1 hd1
  have hR1 : mR q lo hi q.2.2.length q.2.1.2 mk q.2.1.1 pl ct q.1.length w1 (ft_zT t.1 t.2) := ⟨⟨rfl, rfl, rfl, rfl⟩, h5, h6, h7, h8, hw1, by omega⟩
  have hzl := ft_zL_it t.1 t.2 0
  have hhl := ft_hl_it (k := 0) hd1
  have hcl : ∀ P, ft_ct P (ft_it 0 t.1 t.2) ≤ 1000 := fun P => by
    have h1 : ∀ L : List (Nat × Nat × ft_I), (∀ e ∈ L, ft_ok q.2.2.length q.2.1.1 q.2.1.2 e.1 e.2.2 ∧ e.1 ≤ 3 ∧ e.2.1 < 3) → ft_ct P L ≤ ft_zL L := by
      intro L
      induction L with
      | nil => intro _; exact Nat.le_refl _
      | cons e L ih =>
        intro h
        have h1 := ft_ok_zpos (h e (by simp)).1
        have h2 := ih (fun x hx => h x (by simp [hx]))
        rw [ft_ct_cons]
        simp only [ft_zL]
        split <;> omega
    have := h1 _ hio
    omega
  refine x_iconst (v := nI 0) X d_M_digit_15 rfl ?_
  refine x_istore X d_M_digit_16 hl (by decide) rfl (fun ls hl => ?_)
  refine x_iconst (v := nI 0) X d_M_digit_18 rfl ?_
  refine x_istore X d_M_digit_19 hl (by decide) rfl (fun ls hl => ?_)
  have loop : ∀ (L : List (Nat × Nat × ft_I)) (qq cn : Nat) (v6 v7 : Option Value) (locs : List Loc) (ls : Array Slot), (∀ e ∈ L, ft_ok q.2.2.length q.2.1.1 q.2.1.2 e.1 e.2.2 ∧ e.1 ≤ 3 ∧ e.2.1 < 3) → ft_hl w1 qq L → qq + ft_zL L = ft_zT t.1 t.2 → cn + ft_ct (ft_dp lev rr) L = (ft_ct (ft_dp lev rr) (ft_it 0 t.1 t.2)) → lz ls 8 [some (.ref (a 0)), some (.int (nI j)), some (.int lev), some (.int (nI rr)), some (.int (nI cn)), some (.int (nI qq)), v6, v7] → va_S (mFr a) H0 H locs → W p_ l e_ (x_rm 4 0 0) s_ m_ ar_ bl_ me_ c_ H locs 0 0 (MQ bl_ (xQ (mFr a) (q1 (.int (nI (ft_ct (ft_dp lev rr) (ft_it 0 t.1 t.2)))) (fun H1 => mI D a A q H1))) ar_ s_ 0 0 (mFr a)) (F0 m_ 21 ls []) := by
    clear hl hS
    have hcl := hcl (ft_dp lev rr)
    intro L
    induction L with
    | nil =>
      intro qq cn v6 v7 locs ls hL hh hz hcn hl hS
      have hcn : cn = (ft_ct (ft_dp lev rr) (ft_it 0 t.1 t.2)) := hcn
      simp only [ft_zL] at hz
      rw [← hcn]
      refine x_iload X d_M_digit_21 hl rfl ?_
      refine x_aload_n X d_M_digit_23 rfl hl rfl ?_
      refine m_get X hP 10 (by decide) e_M_37 rfl d_M_digit_24 ?_
      refine n_icmp_ge X 106 d_M_digit_27 rfl (by omega) (by omega) (fun hc => ?_) (fun hc => absurd hc (by omega))
      refine x_iload X d_M_digit_106 hl rfl ?_
      exact x_iret X hS (Nat.le_refl _) (Nat.le_refl _) d_M_digit_108 ⟨rfl, _, _, _, _, _, _, _, _, _, _, _, hR1, hP⟩
    | cons e L ih =>
      intro qq cn v6 v7 locs ls hL hh hz hcn hl hS
      obtain ⟨oke, hk3, hs3⟩ := hL e (by simp)
      have hzp := ft_ok_zpos oke
      obtain ⟨hx, hrest⟩ := hh
      simp only [ft_zL] at hz
      have hat1 := ft_wI_at (i := 0) oke hx (by omega) (by omega) hk3 (by omega) hzp
      rw [Nat.add_zero] at hat1
      have hlv := hat1.2.1
      have hsd := hat1.1
      dsimp only [ft_le8, ft_sd] at hlv hsd
      have hwq := hw1 qq
      rw [ft_ct_cons] at hcn
      have tail : ∀ (b : Nat) (v6 : Option Value) (locs : List Loc) (ls : Array Slot), b = (if ft_dp lev rr e then 1 else 0) → v6 = some (.int (nI e.1)) → lz ls 8 [some (.ref (a 0)), some (.int (nI j)), some (.int lev), some (.int (nI rr)), some (.int (nI cn)), some (.int (nI qq)), v6, v7] → va_S (mFr a) H0 H locs → W p_ l e_ (x_rm 4 0 0) s_ m_ ar_ bl_ me_ c_ H locs 0 0 (MQ bl_ (xQ (mFr a) (q1 (.int (nI (ft_ct (ft_dp lev rr) (ft_it 0 t.1 t.2)))) (fun H1 => mI D a A q H1))) ar_ s_ 0 0 (mFr a)) (F0 m_ 75 ls [.int (nI b)]) := by
        intro b v6 locs ls hb hv6 hl hS
        subst hv6
        rw [← hb] at hcn
        have hb2 : b = 0 ∨ b = 1 := by rw [hb]; split <;> simp
        refine x_istore X d_M_digit_75 hl (by decide) rfl (fun ls hl => ?_)
        refine x_iload X d_M_digit_77 hl rfl ?_
        have t2 : ∀ (cn' : Nat) (locs : List Loc) (ls : Array Slot), cn' = cn + b → lz ls 8 [some (.ref (a 0)), some (.int (nI j)), some (.int lev), some (.int (nI rr)), some (.int (nI cn)), some (.int (nI qq)), some (.int (nI e.1)), some (.int (nI b))] → va_S (mFr a) H0 H locs → W p_ l e_ (x_rm 4 0 0) s_ m_ ar_ bl_ me_ c_ H locs 0 0 (MQ bl_ (xQ (mFr a) (q1 (.int (nI (ft_ct (ft_dp lev rr) (ft_it 0 t.1 t.2)))) (fun H1 => mI D a A q H1))) ar_ s_ 0 0 (mFr a)) (F0 m_ 91 ls [.int (nI cn')]) := by
          intro cn' locs ls hcb hl hS
          refine x_istore X d_M_digit_91 hl (by decide) rfl (fun ls hl => ?_)
          refine x_aload_n X d_M_digit_93 rfl hl rfl ?_
          refine x_iload X d_M_digit_94 hl rfl ?_
          refine x_iload X d_M_digit_96 hl rfl ?_
          refine x_goR (x_runV X (C_M_endI l D A _ a lo hi q.2.2.length q.2.1.1 q.1.length (ft_zT t.1 t.2) q.2.1.2 mk pl ct w1 hP hw1 hq.2 q.2.2.length q.2.1.1 e.1 qq e.2.1 e.2.2 oke hx (by omega) hmd0 hk3 (by omega) (by omega)) b_M_end s_M_end v_M_end e_M_60 (m_at hP) rfl rfl hl rfl (Nat.le_of_ble_eq_true rfl) d_M_digit_98 (Nat.le_of_ble_eq_true rfl) (Nat.le_of_ble_eq_true rfl) ⟨Nat.le_of_ble_eq_true rfl, Nat.le_of_ble_eq_true rfl⟩) hS (fun locs hS => ?_)
          refine x_istore X d_M_digit_101 hl (by decide) rfl (fun ls hl => ?_)
          refine x_goto X 21 d_M_digit_103 rfl ?_
          exact ih _ cn' _ _ _ _ (fun x hx => hL x (by simp [hx])) hrest (by omega) (by omega) hl hS
        refine n_if_eq X 89 d_M_digit_79 rfl (by omega) (fun hb0 => ?_) (fun hb0 => ?_)
        · skip
          refine x_iload X d_M_digit_89 hl rfl ?_
          exact t2 cn _ _ (by omega) hl hS
        refine x_iload X d_M_digit_82 hl rfl ?_
        refine x_iconst (v := nI 1) X d_M_digit_84 rfl ?_
        refine n_iadd X d_M_digit_85 ?_
        refine x_goto X 91 d_M_digit_86 rfl ?_
        exact t2 (cn + 1) _ _ (by omega) hl hS
      refine x_iload X d_M_digit_21 hl rfl ?_
      refine x_aload_n X d_M_digit_23 rfl hl rfl ?_
      refine m_get X hP 10 (by decide) e_M_37 rfl d_M_digit_24 ?_
      refine n_icmp_ge X 106 d_M_digit_27 rfl (by omega) (by omega) (fun hc => absurd hc (by omega)) (fun hc => ?_)
      refine x_aload_n X d_M_digit_30 rfl hl rfl ?_
      refine m_get X hP 9 (by decide) e_M_34 rfl d_M_digit_31 ?_
      refine x_iload X d_M_digit_34 hl rfl ?_
      refine m_ld_w X hP (by omega) d_M_digit_36 ?_
      refine x_goR (x_runS X (C_M_level l D A _ (w1 qq) (by omega)) b_M_level s_M_level e_M_40 rfl hl rfl (Nat.le_of_ble_eq_true rfl) d_M_digit_37 (Nat.le_of_ble_eq_true rfl) (Nat.le_of_ble_eq_true rfl) ⟨Nat.le_of_ble_eq_true rfl, Nat.le_of_ble_eq_true rfl⟩) hS (fun locs hS => ?_)
      rw [hlv]
      refine x_istore X d_M_digit_40 hl (by decide) rfl (fun ls hl => ?_)
      refine x_iload X d_M_digit_42 hl rfl ?_
      refine x_iload_n X d_M_digit_44 rfl hl rfl ?_
      refine x_icmp_ne X 74 d_M_digit_45 rfl (fun h => ?_) (fun h => ?_)
      · skip
        refine x_iconst (v := nI 0) X d_M_digit_74 rfl ?_
        exact tail 0 _ _ _ (by unfold ft_dp; rw [decide_eq_false h]; rfl) rfl hl hS
      refine x_aload_n X d_M_digit_48 rfl hl rfl ?_
      refine m_get X hP 9 (by decide) e_M_34 rfl d_M_digit_49 ?_
      refine x_iload X d_M_digit_52 hl rfl ?_
      refine m_ld_w X hP (by omega) d_M_digit_54 ?_
      refine x_goR (x_runS X (C_M_side l D A _ (w1 qq) (by omega)) b_M_side s_M_side e_M_44 rfl hl rfl (Nat.le_of_ble_eq_true rfl) d_M_digit_55 (Nat.le_of_ble_eq_true rfl) (Nat.le_of_ble_eq_true rfl) ⟨Nat.le_of_ble_eq_true rfl, Nat.le_of_ble_eq_true rfl⟩) hS (fun locs hS => ?_)
      rw [hsd]
      refine x_iload_n X d_M_digit_58 rfl hl rfl ?_
      have cmp : ∀ (locs : List Loc) (ls : Array Slot), lz ls 8 [some (.ref (a 0)), some (.int (nI j)), some (.int lev), some (.int (nI rr)), some (.int (nI cn)), some (.int (nI qq)), some (.int (nI e.1)), v7] → va_S (mFr a) H0 H locs → W p_ l e_ (x_rm 4 0 0) s_ m_ ar_ bl_ me_ c_ H locs 0 0 (MQ bl_ (xQ (mFr a) (q1 (.int (nI (ft_ct (ft_dp lev rr) (ft_it 0 t.1 t.2)))) (fun H1 => mI D a A q H1))) ar_ s_ 0 0 (mFr a)) (F0 m_ 67 ls [.int (nI rr), .int (nI e.2.1)]) := by
        intro locs ls hl hS
        refine n_icmp_ne X 74 d_M_digit_67 rfl (by omega) (by omega) (fun h2 => ?_) (fun h2 => ?_)
        · skip
          refine x_iconst (v := nI 0) X d_M_digit_74 rfl ?_
          exact tail 0 _ _ _ (by unfold ft_dp; rw [decide_eq_false h2, Bool.and_false]; rfl) rfl hl hS
        refine x_iconst (v := nI 1) X d_M_digit_70 rfl ?_
        refine x_goto X 75 d_M_digit_71 rfl ?_
        exact tail 1 _ _ _ (by unfold ft_dp; rw [decide_eq_true h, decide_eq_true h2]; rfl) rfl hl hS
      refine n_if_eq X 66 d_M_digit_59 rfl (by omega) (fun h3 => ?_) (fun h3 => ?_)
      · skip
        refine x_iconst (v := nI 0) X d_M_digit_66 rfl ?_
        refine x_topi (y := nI rr) (by rw [h3]) ?_
        exact cmp _ _ hl hS
      refine x_iconst (v := nI 1) X d_M_digit_62 rfl ?_
      refine x_goto X 67 d_M_digit_63 rfl ?_
      refine x_topi (y := nI rr) (by rw [show rr = 1 from by omega]) ?_
      exact cmp _ _ hl hS
  exact loop _ 0 0 none none _ _ hio hhl (by omega) (by omega) hl hS
