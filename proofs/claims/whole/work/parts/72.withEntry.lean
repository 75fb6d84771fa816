/-! The class: withEntry. -/
theorem ft_rR_one (k : Nat) (x : ft_I) (p : Nat) (y : ft_I) (c : ft_C) : ft_rR k [x] p y c = ([(ft_rp k x p y c).1], (ft_rp k x p y c).2) := by
  simp [ft_rR, ft_ix, ft_zR]
theorem ft_rT_n {ne : Nat} {y : ft_I} {o : Option ft_I} {c : ft_C} : ∀ (sp : ft_S) (k p : Nat), ft_ok ne c.1 c.2 0 y → ft_okT ne c.1 c.2 k sp o → p < ft_zT sp o → (ft_rT k sp o p y c).2.1 = c.1 + (k + ft_lo sp o p) := by
  intro sp
  induction sp with
  | nil =>
    intro k p hy h hp
    cases o with
    | none => exact absurd hp (Nat.not_lt_zero _)
    | some x => exact (ft_rp_ok k x p c hy h hp).2.2.2
  | cons d sp ih =>
    intro k p hy h hp
    have hzz : ft_zT (d :: sp) o = ft_zR d.1 + ft_zT sp o + ft_zR d.2 := rfl
    show (if _ then _ else _ : ft_T × ft_C).2.1 = c.1 + (k + if _ then _ else _)
    by_cases h1 : ft_zR d.1 + ft_zT sp o ≤ p
    · rw [if_pos h1, if_neg (by omega)]
      exact (ft_rR_ok hy h.2.1.2.2 (by omega) h.2.1.1).2.2.2.1
    · rw [if_neg h1]
      by_cases h2 : p < ft_zR d.1
      · rw [if_pos h2, if_neg (by omega)]
        exact (ft_rR_ok hy h.1.2.2 h2 h.1.1).2.2.2.1
      · rw [if_neg h2, if_pos ⟨by omega, by omega⟩]
        have := ih (k + 1) (p - ft_zR d.1) hy h.2.2 (by omega)
        show (ft_rT (k + 1) sp o (p - ft_zR d.1) y c).2.1 = _
        rw [this]
        omega
set_option maxRecDepth 100000 in
set_option maxHeartbeats 4000000 in
theorem C_U_withEntry (l : Launch) (D : va_G) (A : Nat → ClassId) (H0 : Heap) (S : Nat → Prop) (rh : Nat → Nat) (E : ft_E) (ne : Nat) (c0 : ft_C) (u nn em md : Nat) (hU : cUs D A S rh E u nn em md H0) (hSb : ∀ q, S q → q < H0.size) (k : Nat) (sp : ft_S) (o : Option ft_I) (t : Nat) (okt : ft_okT ne c0.1 c0.2 k sp o) (hT : cT D A S rh E sp o t H0) (hz : ft_zT sp o < 64) (p : Nat) (hp : p < ft_zT sp o) (hrh : ∀ i, 1 ≤ i → i ≤ k + ft_lo sp o p → rh (c0.1 + i) = md + (k + ft_lo sp o p + 1 - i)) (y : ft_I) (ya : Nat) (oky : ft_ok ne c0.1 c0.2 0 y) (hy : cI D A S rh E y [ya] H0) : xC l y_U_withEntry c_U_withEntry 5 (some (.object "FingerSpans$Tree")) (2 * sp.length + k + 6) D A H0 [.ref u, .ref t, .int (nI p), .ref ya] (xA (fun q => q = u) H0) (qr (fun q H1 => cT D A S rh E (ft_rT k sp o p y c0).1.1 (ft_rT k sp o p y c0).1.2 q H1 ∧ cUs D A S rh E u nn em (md + (k + ft_lo sp o p)) H1)) (3 * sp.length + 2 * k + 2) (17 * sp.length + 12 * k + 9) := by
  induction sp generalizing H0 S k t p ya with
  | nil =>
    cases o with
    | none => exact absurd hp (Nat.not_lt_zero _)
    | some x =>
      have hT0 := hT
      obtain ⟨lc, rc, as, t1, t2, t3, t4⟩ := hT
      have hp' : p < ft_z x := hp
      have hz0 : ft_zT [] (some x) = ft_z x := rfl
      have hz1 : ft_zR [x] = ft_z x := rfl
      have hx1 : [x].length = 1 := rfl
      have t4 : cL D A S rh E [x] as H0 := t4
      have hlo : ft_lo [] (some x) p = 0 := rfl
      have hrt : ft_rT k [] (some x) p y c0 = (([], some (ft_rp k x p y c0).1), (ft_rp k x p y c0).2) := rfl
      rw [hlo] at hrh ⊢
      rw [hrt]
      have hro := ft_rR_one k x p y c0
      have hrk := ft_rp_ok k x p c0 oky okt hp'
      refine xC.of rfl (Nat.le_of_ble_eq_true rfl) ?_
      intro p_ e_ s_ m_ ar_ bl_ me_ c_ ls X hl
      have hl : lz ls 5 [some (.ref u), some (.ref t), some (.int (nI p)), some (.ref ya), none] := hl
      have hS : va_S (xA (fun q => q = u) H0) H0 H0 [] := va_S.rf
      have hSu : S u := hU.2.2.2
      refine x_iload_n X d_U_withEntry_0 rfl hl rfl ?_
      refine x_aload_n X d_U_withEntry_1 rfl hl rfl ?_
      refine x_getN X gT t1.2 3 (by decide) e_U_132 rfl d_U_withEntry_2 ?_
      rw [hz0]
      refine n_icmp_lt X 43 d_U_withEntry_5 rfl (by omega) (by omega) (fun hc => ?_) (fun hc => absurd hc (by omega))
      refine x_aload_n X d_U_withEntry_43 rfl hl rfl ?_
      refine x_iload_n X d_U_withEntry_44 rfl hl rfl ?_
      refine x_goR (x_runVN X (C_T_holdsInMiddle l D A _ S rh E ne c0.1 c0.2 k [] (some x) t okt hT0 hz p (by omega)) b_T_holdsInMiddle s_T_holdsInMiddle v_T_holdsInMiddle e_U_139 t1.2 rfl rfl hl rfl (Nat.le_of_ble_eq_true rfl) d_U_withEntry_45 (by dsimp only [x_rm]; omega) (by dsimp only [x_rm]; omega) ⟨(by dsimp only [x_rm]; omega), (by dsimp only [x_rm]; omega)⟩) hS (fun locs hS => ?_)
      rw [show ft_hm [] (some x) p = 0 from if_neg (fun h => absurd h.1 (Nat.not_le.2 hp))]
      refine n_if_eq X 86 d_U_withEntry_48 rfl (by decide) (fun hc => ?_) (fun hc => absurd rfl hc)
      have zz := hS.1
      refine x_newO (S := S) X gT e_U_17 n_T i_T x_defT hS hSb (by dsimp only [x_rm]; omega) (by dsimp only [x_rm]; omega) d_U_withEntry_86 (fun oo G1 h_oo hO hF1 t_oo hS sb_ => ?_)
      have no_oo : ¬ (S) oo := c_ub hSb h_oo
      have n_oo_u : ¬ oo = u := Nat.ne_of_gt (Nat.lt_of_lt_of_le (c_lt hU.1) h_oo)
      have n_u_oo : ¬ u = oo := Nat.ne_of_lt (Nat.lt_of_lt_of_le (c_lt hU.1) h_oo)
      have t_ : cTr S (fun q => S q ∨ q = oo) H0 G1 := t_oo
      have t1 := t1.tr t_
      have t2 := t2.tr t_
      have t3 := t3.tr t_
      have t4 := t4.tr t_ (fun _ _ h => h)
      have hy := hy.tr t_ (fun _ _ h => h)
      have hU := hU.mv t_ hF1 (fun h => h) (by first | exact hSu | exact Or.inl hSu | exact Or.inl (Or.inl hSu))
      have hSb : ∀ q, (S q ∨ q = oo) → q < G1.size := sb_
      have z_oo : H0.size ≤ oo := Nat.le_trans zz h_oo
      refine x_dup X d_U_withEntry_89 rfl ?_
      refine x_aload_n X d_U_withEntry_90 rfl hl rfl ?_
      refine x_aload_n X d_U_withEntry_91 rfl hl rfl ?_
      refine x_getN X gT t1.2 0 (by decide) e_U_48 rfl d_U_withEntry_92 ?_
      refine x_iload_n X d_U_withEntry_95 rfl hl rfl ?_
      refine x_aload_n X d_U_withEntry_96 rfl hl rfl ?_
      refine x_gor (x_runV X (C_U_rowWithEntry l D A _ (fun q => S q ∨ q = oo) rh E ne c0 u nn em md hU hSb k hrh [x] as lc (ft_okR_one okt) t2 t4 (by omega) (by omega) ⟨by omega, by omega⟩ (by omega) p (by omega) y ya oky hy) b_U_rowWithEntry s_U_rowWithEntry v_U_rowWithEntry e_U_167 hU.1 rfl rfl hl rfl (Nat.le_of_ble_eq_true rfl) d_U_withEntry_97 (by dsimp only [x_rm]; omega) (by dsimp only [x_rm]; omega) ⟨(by dsimp only [x_rm]; omega), (by dsimp only [x_rm]; omega)⟩) hS (xA.mono (fun _ h => h) hS.1) (fun nr G2 locs hN hF2 hS => ?_)
      rw [hro] at hN
      obtain ⟨nb, hn1, hn2, hUn⟩ := hN
      have hn1 := hn1.rw hSb
      have t_ : cTr (fun q => S q ∨ q = oo) (fun q => S q ∨ q = oo) G1 G2 := cTr.fr hF2 (fun q h => by rw [h]; exact hU.2.2.2)
      have hO := hF2.kp hO (xA.no (c_lt hO) n_oo_u)
      have t1 := t1.tr t_
      have t2 := t2.tr t_
      have t3 := t3.tr t_
      have t4 := t4.tr t_ (fun _ _ h => h)
      have hy := hy.tr t_ (fun _ _ h => h)
      have hU := hUn
      have hSb := c_sb hSb hF2.1
      refine x_aload_n X d_U_withEntry_100 rfl hl rfl ?_
      refine x_getN X gT t1.2 1 (by decide) e_U_57 rfl d_U_withEntry_101 ?_
      refine x_aload_n X d_U_withEntry_104 rfl hl rfl ?_
      refine x_getN X gT t1.2 2 (by decide) e_U_60 rfl d_U_withEntry_105 ?_
      have hzn : ft_zR [(ft_rp k x p y c0).1] = ft_z x := hrk.2.2.1
      refine x_go0 (x_runIN X (C_T_init_n l D A _ oo (va_P1 hO) (fun q => S q ∨ q = oo) rh E ne (ft_rp k x p y c0).2.1 (ft_rp k x p y c0).2.2 (Or.inr rfl) k [(ft_rp k x p y c0).1] nb nr (ft_okR_one hrk.2.1) hn1 hn2 (by simp) (by omega) [] [] rc (fun y hy => by simp at hy) t3 (cL_nil.2 rfl) (by simp) (by simp [ft_zR]) ) b_T_init rfl s_T_init e_U_19 rfl hl rfl (Nat.le_of_ble_eq_true rfl) d_U_withEntry_108 (by dsimp only [x_rm]; omega) (by dsimp only [x_rm]; omega) ⟨(by dsimp only [x_rm]; omega), (by dsimp only [x_rm]; omega)⟩) hS (xA.one z_oo hS.1) (fun G3 locs hO_ hF3 hS => ?_)
      have t_ : cTr (fun q => S q ∨ q = oo) S G2 G3 := cTr.done hF3
      have t1 := t1.tr t_
      have t2 := t2.tr t_
      have t3 := t3.tr t_
      have hy := hy.tr t_ (fun _ _ h => h)
      have hn1 := hn1.tr t_
      have hn2 := hn2.tr t_ (fun _ _ h => h)
      have hU := hU.mv t_ hF3 (xA.no (c_lt hU.1) n_u_oo) hSu
      have hSb := c_sbo hSb hF3.1
      have hO := hO_
      exact x_aret X (Or.inl ⟨_, rfl⟩) hS (by omega) (by omega) d_U_withEntry_111 ⟨_, rfl, ⟨nr, rc, nb, ⟨no_oo, hO⟩, hn1, t3, hn2⟩, hU⟩
  | cons d sp ih =>
    have ok0 := okt
    have hT0 := hT
    obtain ⟨lc, mt, rc, as, bs, t1, t2, t3, t4, tb, tm⟩ := hT
    obtain ⟨o1, o2, o3⟩ := okt
    have hzz : ft_zT (d :: sp) o = ft_zR d.1 + ft_zT sp o + ft_zR d.2 := rfl
    have hle : (d :: sp).length = sp.length + 1 := rfl
    rw [hle]
    by_cases hA : ft_zR d.1 + ft_zT sp o ≤ p
    · skip
      have hlo : ft_lo (d :: sp) o p = 0 := if_neg (fun h => absurd h.2 (Nat.not_lt.2 hA))
      have hrt : ft_rT k (d :: sp) o p y c0 = (((d.1, (ft_rR k d.2 (p - (ft_zR d.1 + ft_zT sp o)) y c0).1) :: sp, o), (ft_rR k d.2 (p - (ft_zR d.1 + ft_zT sp o)) y c0).2) := by
        show (if _ then _ else _) = _
        rw [if_pos hA]
      rw [hlo] at hrh ⊢
      rw [hrt]
      obtain ⟨w1, w2, w3, w4, w5⟩ := ft_rR_ok (p := (p - (ft_zR d.1 + ft_zT sp o))) oky o2.2.2 (by omega) o2.1
      obtain ⟨rr, hrr⟩ : ∃ r, (ft_rR k d.2 (p - (ft_zR d.1 + ft_zT sp o)) y c0) = r := ⟨_, rfl⟩
      rw [hrr] at w1 w2 w3 w4 w5 ⊢
      have ow := ft_okR_ex w1 o1.2.2
      refine xC.of rfl (Nat.le_of_ble_eq_true rfl) ?_
      intro p_ e_ s_ m_ ar_ bl_ me_ c_ ls X hl
      have hl : lz ls 5 [some (.ref u), some (.ref t), some (.int (nI p)), some (.ref ya), none] := hl
      have hS : va_S (xA (fun q => q = u) H0) H0 H0 [] := va_S.rf
      have hSu : S u := hU.2.2.2
      refine x_iload_n X d_U_withEntry_0 rfl hl rfl ?_
      refine x_aload_n X d_U_withEntry_1 rfl hl rfl ?_
      refine x_getN X gT t1.2 3 (by decide) e_U_132 rfl d_U_withEntry_2 ?_
      refine n_icmp_lt X 43 d_U_withEntry_5 rfl (by omega) (by omega) (fun hc => absurd hc (by omega)) (fun hc => ?_)
      refine x_aload_n X d_U_withEntry_8 rfl hl rfl ?_
      refine x_aload_n X d_U_withEntry_9 rfl hl rfl ?_
      refine x_getN X gT t1.2 2 (by decide) e_U_60 rfl d_U_withEntry_10 ?_
      refine x_iload_n X d_U_withEntry_13 rfl hl rfl ?_
      refine x_aload_n X d_U_withEntry_14 rfl hl rfl ?_
      refine x_getN X gT t1.2 3 (by decide) e_U_132 rfl d_U_withEntry_15 ?_
      refine n_isub X d_U_withEntry_18 (by omega) ?_
      refine x_aload_n X d_U_withEntry_19 rfl hl rfl ?_
      refine x_gor (x_runV X (C_U_rowWithEntry l D A _ S rh E ne c0 u nn em md hU hSb k hrh d.2 bs rc o2.2.2 t3 tb (by omega) (by omega) ⟨by omega, by omega⟩ (by omega) (p - (ft_zR d.1 + ft_zT sp o)) (by omega) y ya oky hy) b_U_rowWithEntry s_U_rowWithEntry v_U_rowWithEntry e_U_167 hU.1 rfl rfl hl rfl (Nat.le_of_ble_eq_true rfl) d_U_withEntry_20 (by dsimp only [x_rm]; omega) (by dsimp only [x_rm]; omega) ⟨(by dsimp only [x_rm]; omega), (by dsimp only [x_rm]; omega)⟩) hS (xA.mono (fun _ h => h) hS.1) (fun nr G1 locs hN hF1 hS => ?_)
      rw [hrr] at hN
      obtain ⟨nb, hn1, hn2, hUn⟩ := hN
      have hn1 := hn1.rw hSb
      have t_ : cTr S S H0 G1 := cTr.fr hF1 (fun q h => by rw [h]; exact hU.2.2.2)
      have t1 := t1.tr t_
      have t2 := t2.tr t_
      have t3 := t3.tr t_
      have t4 := t4.tr t_ (fun _ _ h => h)
      have tb := tb.tr t_ (fun _ _ h => h)
      have tm := tm.tr t_ (fun _ _ h => h)
      have hT0 := hT0.tr t_ (fun _ _ h => h)
      have hy := hy.tr t_ (fun _ _ h => h)
      have hU := hUn
      have hSb := c_sb hSb hF1.1
      refine x_astore X d_U_withEntry_23 hl (by decide) rfl (fun ls hl => ?_)
      have zz := hS.1
      refine x_newO (S := S) X gT e_U_17 n_T i_T x_defT hS hSb (by dsimp only [x_rm]; omega) (by dsimp only [x_rm]; omega) d_U_withEntry_25 (fun oo G2 h_oo hO hF2 t_oo hS sb_ => ?_)
      have no_oo : ¬ (S) oo := c_ub hSb h_oo
      have n_oo_u : ¬ oo = u := Nat.ne_of_gt (Nat.lt_of_lt_of_le (c_lt hU.1) h_oo)
      have n_u_oo : ¬ u = oo := Nat.ne_of_lt (Nat.lt_of_lt_of_le (c_lt hU.1) h_oo)
      have t_ : cTr S (fun q => S q ∨ q = oo) G1 G2 := t_oo
      have t1 := t1.tr t_
      have t2 := t2.tr t_
      have t3 := t3.tr t_
      have t4 := t4.tr t_ (fun _ _ h => h)
      have tb := tb.tr t_ (fun _ _ h => h)
      have tm := tm.tr t_ (fun _ _ h => h)
      have hT0 := hT0.tr t_ (fun _ _ h => h)
      have hy := hy.tr t_ (fun _ _ h => h)
      have hn1 := hn1.tr t_
      have hn2 := hn2.tr t_ (fun _ _ h => h)
      have hU := hU.mv t_ hF2 (fun h => h) (by first | exact hSu | exact Or.inl hSu | exact Or.inl (Or.inl hSu))
      have hSb : ∀ q, (S q ∨ q = oo) → q < G2.size := sb_
      have z_oo : H0.size ≤ oo := Nat.le_trans zz h_oo
      refine x_dup X d_U_withEntry_28 rfl ?_
      refine x_aload_n X d_U_withEntry_29 rfl hl rfl ?_
      refine x_getN X gT t1.2 0 (by decide) e_U_48 rfl d_U_withEntry_30 ?_
      refine x_aload_n X d_U_withEntry_33 rfl hl rfl ?_
      refine x_getN X gT t1.2 1 (by decide) e_U_57 rfl d_U_withEntry_34 ?_
      refine x_aload X d_U_withEntry_37 hl rfl ?_
      refine x_go0 (x_runIN X (C_T_init_d l D A _ oo (va_P1 hO) (fun q => S q ∨ q = oo) rh E ne rr.2.1 rr.2.2 (Or.inr rfl) k d.1 as lc ow t2 t4 (by omega) (by omega) rr.1 nb nr w2 hn1 hn2 (by omega) (by omega) sp o mt tm) b_T_init rfl s_T_init e_U_19 rfl hl rfl (Nat.le_of_ble_eq_true rfl) d_U_withEntry_39 (by dsimp only [x_rm]; omega) (by dsimp only [x_rm]; omega) ⟨(by dsimp only [x_rm]; omega), (by dsimp only [x_rm]; omega)⟩) hS (xA.one z_oo hS.1) (fun G3 locs hO_ hF3 hS => ?_)
      have t_ : cTr (fun q => S q ∨ q = oo) S G2 G3 := cTr.done hF3
      have t1 := t1.tr t_
      have t2 := t2.tr t_
      have t3 := t3.tr t_
      have t4 := t4.tr t_ (fun _ _ h => h)
      have tb := tb.tr t_ (fun _ _ h => h)
      have tm := tm.tr t_ (fun _ _ h => h)
      have hT0 := hT0.tr t_ (fun _ _ h => h)
      have hy := hy.tr t_ (fun _ _ h => h)
      have hn1 := hn1.tr t_
      have hn2 := hn2.tr t_ (fun _ _ h => h)
      have hU := hU.mv t_ hF3 (xA.no (c_lt hU.1) n_u_oo) hSu
      have hSb := c_sbo hSb hF3.1
      have hO := hO_
      exact x_aret X (Or.inl ⟨_, rfl⟩) hS (by omega) (by omega) d_U_withEntry_42 ⟨_, rfl, cT.mk hO no_oo t2 hn1 t4 hn2 tm, hU⟩
    by_cases hB : p < ft_zR d.1
    · skip
      have hlo : ft_lo (d :: sp) o p = 0 := if_neg (fun h => absurd h.1 (Nat.not_le.2 hB))
      have hrt : ft_rT k (d :: sp) o p y c0 = ((((ft_rR k d.1 p y c0).1, d.2) :: sp, o), (ft_rR k d.1 p y c0).2) := by
        show (if _ then _ else _) = _
        rw [if_neg hA, if_pos hB]
      rw [hlo] at hrh ⊢
      rw [hrt]
      obtain ⟨w1, w2, w3, w4, w5⟩ := ft_rR_ok (p := p) oky o1.2.2 hB o1.1
      obtain ⟨rr, hrr⟩ : ∃ r, (ft_rR k d.1 p y c0) = r := ⟨_, rfl⟩
      rw [hrr] at w1 w2 w3 w4 w5 ⊢
      have ow := ft_okR_ex w1 o2.2.2
      refine xC.of rfl (Nat.le_of_ble_eq_true rfl) ?_
      intro p_ e_ s_ m_ ar_ bl_ me_ c_ ls X hl
      have hl : lz ls 5 [some (.ref u), some (.ref t), some (.int (nI p)), some (.ref ya), none] := hl
      have hS : va_S (xA (fun q => q = u) H0) H0 H0 [] := va_S.rf
      have hSu : S u := hU.2.2.2
      refine x_iload_n X d_U_withEntry_0 rfl hl rfl ?_
      refine x_aload_n X d_U_withEntry_1 rfl hl rfl ?_
      refine x_getN X gT t1.2 3 (by decide) e_U_132 rfl d_U_withEntry_2 ?_
      refine n_icmp_lt X 43 d_U_withEntry_5 rfl (by omega) (by omega) (fun hc => ?_) (fun hc => absurd hc (by omega))
      refine x_aload_n X d_U_withEntry_43 rfl hl rfl ?_
      refine x_iload_n X d_U_withEntry_44 rfl hl rfl ?_
      refine x_goR (x_runVN X (C_T_holdsInMiddle l D A _ S rh E ne c0.1 c0.2 k (d :: sp) o t ok0 hT0 hz p (by omega)) b_T_holdsInMiddle s_T_holdsInMiddle v_T_holdsInMiddle e_U_139 t1.2 rfl rfl hl rfl (Nat.le_of_ble_eq_true rfl) d_U_withEntry_45 (by dsimp only [x_rm]; omega) (by dsimp only [x_rm]; omega) ⟨(by dsimp only [x_rm]; omega), (by dsimp only [x_rm]; omega)⟩) hS (fun locs hS => ?_)
      rw [show ft_hm (d :: sp) o p = 0 from if_neg (fun h => absurd h.1 (Nat.not_le.2 hB))]
      refine n_if_eq X 86 d_U_withEntry_48 rfl (by decide) (fun hc => ?_) (fun hc => absurd rfl hc)
      have zz := hS.1
      refine x_newO (S := S) X gT e_U_17 n_T i_T x_defT hS hSb (by dsimp only [x_rm]; omega) (by dsimp only [x_rm]; omega) d_U_withEntry_86 (fun oo G1 h_oo hO hF1 t_oo hS sb_ => ?_)
      have no_oo : ¬ (S) oo := c_ub hSb h_oo
      have n_oo_u : ¬ oo = u := Nat.ne_of_gt (Nat.lt_of_lt_of_le (c_lt hU.1) h_oo)
      have n_u_oo : ¬ u = oo := Nat.ne_of_lt (Nat.lt_of_lt_of_le (c_lt hU.1) h_oo)
      have t_ : cTr S (fun q => S q ∨ q = oo) H0 G1 := t_oo
      have t1 := t1.tr t_
      have t2 := t2.tr t_
      have t3 := t3.tr t_
      have t4 := t4.tr t_ (fun _ _ h => h)
      have tb := tb.tr t_ (fun _ _ h => h)
      have tm := tm.tr t_ (fun _ _ h => h)
      have hT0 := hT0.tr t_ (fun _ _ h => h)
      have hy := hy.tr t_ (fun _ _ h => h)
      have hU := hU.mv t_ hF1 (fun h => h) (by first | exact hSu | exact Or.inl hSu | exact Or.inl (Or.inl hSu))
      have hSb : ∀ q, (S q ∨ q = oo) → q < G1.size := sb_
      have z_oo : H0.size ≤ oo := Nat.le_trans zz h_oo
      refine x_dup X d_U_withEntry_89 rfl ?_
      refine x_aload_n X d_U_withEntry_90 rfl hl rfl ?_
      refine x_aload_n X d_U_withEntry_91 rfl hl rfl ?_
      refine x_getN X gT t1.2 0 (by decide) e_U_48 rfl d_U_withEntry_92 ?_
      refine x_iload_n X d_U_withEntry_95 rfl hl rfl ?_
      refine x_aload_n X d_U_withEntry_96 rfl hl rfl ?_
      refine x_gor (x_runV X (C_U_rowWithEntry l D A _ (fun q => S q ∨ q = oo) rh E ne c0 u nn em md hU hSb k hrh d.1 as lc o1.2.2 t2 t4 (by omega) (by omega) ⟨by omega, by omega⟩ (by omega) p (by omega) y ya oky hy) b_U_rowWithEntry s_U_rowWithEntry v_U_rowWithEntry e_U_167 hU.1 rfl rfl hl rfl (Nat.le_of_ble_eq_true rfl) d_U_withEntry_97 (by dsimp only [x_rm]; omega) (by dsimp only [x_rm]; omega) ⟨(by dsimp only [x_rm]; omega), (by dsimp only [x_rm]; omega)⟩) hS (xA.mono (fun _ h => h) hS.1) (fun nr G2 locs hN hF2 hS => ?_)
      rw [hrr] at hN
      obtain ⟨nb, hn1, hn2, hUn⟩ := hN
      have hn1 := hn1.rw hSb
      have t_ : cTr (fun q => S q ∨ q = oo) (fun q => S q ∨ q = oo) G1 G2 := cTr.fr hF2 (fun q h => by rw [h]; exact hU.2.2.2)
      have hO := hF2.kp hO (xA.no (c_lt hO) n_oo_u)
      have t1 := t1.tr t_
      have t2 := t2.tr t_
      have t3 := t3.tr t_
      have t4 := t4.tr t_ (fun _ _ h => h)
      have tb := tb.tr t_ (fun _ _ h => h)
      have tm := tm.tr t_ (fun _ _ h => h)
      have hT0 := hT0.tr t_ (fun _ _ h => h)
      have hy := hy.tr t_ (fun _ _ h => h)
      have hU := hUn
      have hSb := c_sb hSb hF2.1
      refine x_aload_n X d_U_withEntry_100 rfl hl rfl ?_
      refine x_getN X gT t1.2 1 (by decide) e_U_57 rfl d_U_withEntry_101 ?_
      refine x_aload_n X d_U_withEntry_104 rfl hl rfl ?_
      refine x_getN X gT t1.2 2 (by decide) e_U_60 rfl d_U_withEntry_105 ?_
      refine x_go0 (x_runIN X (C_T_init_d l D A _ oo (va_P1 hO) (fun q => S q ∨ q = oo) rh E ne rr.2.1 rr.2.2 (Or.inr rfl) k rr.1 nb nr w2 hn1 hn2 (by omega) (by omega) d.2 bs rc ow t3 tb (by omega) (by omega) sp o mt tm) b_T_init rfl s_T_init e_U_19 rfl hl rfl (Nat.le_of_ble_eq_true rfl) d_U_withEntry_108 (by dsimp only [x_rm]; omega) (by dsimp only [x_rm]; omega) ⟨(by dsimp only [x_rm]; omega), (by dsimp only [x_rm]; omega)⟩) hS (xA.one z_oo hS.1) (fun G3 locs hO_ hF3 hS => ?_)
      have t_ : cTr (fun q => S q ∨ q = oo) S G2 G3 := cTr.done hF3
      have t1 := t1.tr t_
      have t2 := t2.tr t_
      have t3 := t3.tr t_
      have t4 := t4.tr t_ (fun _ _ h => h)
      have tb := tb.tr t_ (fun _ _ h => h)
      have tm := tm.tr t_ (fun _ _ h => h)
      have hT0 := hT0.tr t_ (fun _ _ h => h)
      have hy := hy.tr t_ (fun _ _ h => h)
      have hn1 := hn1.tr t_
      have hn2 := hn2.tr t_ (fun _ _ h => h)
      have hU := hU.mv t_ hF3 (xA.no (c_lt hU.1) n_u_oo) hSu
      have hSb := c_sbo hSb hF3.1
      have hO := hO_
      exact x_aret X (Or.inl ⟨_, rfl⟩) hS (by omega) (by omega) d_U_withEntry_111 ⟨_, rfl, cT.mk hO no_oo hn1 t3 hn2 tb tm, hU⟩
    have hlo : ft_lo (d :: sp) o p = 1 + ft_lo sp o (p - ft_zR d.1) := if_pos ⟨Nat.le_of_not_lt hB, Nat.lt_of_not_le hA⟩
    have hrt : ft_rT k (d :: sp) o p y c0 = (((d.1, d.2) :: (ft_rT (k + 1) sp o (p - ft_zR d.1) y c0).1.1, (ft_rT (k + 1) sp o (p - ft_zR d.1) y c0).1.2), (ft_rT (k + 1) sp o (p - ft_zR d.1) y c0).2) := by
      show (if _ then _ else _) = _
      rw [if_neg hA, if_neg hB]
    rw [hlo] at hrh ⊢
    rw [hrt]
    obtain ⟨w1, w2, w3⟩ := ft_rT_ok (c := c0) sp (k + 1) (p - ft_zR d.1) oky o3 (by omega)
    obtain ⟨rr, hrr⟩ : ∃ r, (ft_rT (k + 1) sp o (p - ft_zR d.1) y c0) = r := ⟨_, rfl⟩
    rw [hrr] at w1 w2 w3 ⊢
    have ow := ft_okR_ex w1 o2.2.2
    have ow1 := ft_okR_ex w1 o1.2.2
    have hkl : k + (1 + ft_lo sp o (p - ft_zR d.1)) = k + 1 + ft_lo sp o (p - ft_zR d.1) := by omega
    rw [hkl] at hrh ⊢
    refine xC.of rfl (Nat.le_of_ble_eq_true rfl) ?_
    intro p_ e_ s_ m_ ar_ bl_ me_ c_ ls X hl
    have hl : lz ls 5 [some (.ref u), some (.ref t), some (.int (nI p)), some (.ref ya), none] := hl
    have hS : va_S (xA (fun q => q = u) H0) H0 H0 [] := va_S.rf
    have hSu : S u := hU.2.2.2
    refine x_iload_n X d_U_withEntry_0 rfl hl rfl ?_
    refine x_aload_n X d_U_withEntry_1 rfl hl rfl ?_
    refine x_getN X gT t1.2 3 (by decide) e_U_132 rfl d_U_withEntry_2 ?_
    refine n_icmp_lt X 43 d_U_withEntry_5 rfl (by omega) (by omega) (fun hc => ?_) (fun hc => absurd hc (by omega))
    refine x_aload_n X d_U_withEntry_43 rfl hl rfl ?_
    refine x_iload_n X d_U_withEntry_44 rfl hl rfl ?_
    refine x_goR (x_runVN X (C_T_holdsInMiddle l D A _ S rh E ne c0.1 c0.2 k (d :: sp) o t ok0 hT0 hz p (by omega)) b_T_holdsInMiddle s_T_holdsInMiddle v_T_holdsInMiddle e_U_139 t1.2 rfl rfl hl rfl (Nat.le_of_ble_eq_true rfl) d_U_withEntry_45 (by dsimp only [x_rm]; omega) (by dsimp only [x_rm]; omega) ⟨(by dsimp only [x_rm]; omega), (by dsimp only [x_rm]; omega)⟩) hS (fun locs hS => ?_)
    rw [show ft_hm (d :: sp) o p = 1 from if_pos ⟨Nat.le_of_not_lt hB, Nat.lt_of_not_le hA⟩]
    refine n_if_eq X 86 d_U_withEntry_48 rfl (by decide) (fun hc => absurd hc (by decide)) (fun hc => ?_)
    refine x_aload_n X d_U_withEntry_51 rfl hl rfl ?_
    refine x_aload_n X d_U_withEntry_52 rfl hl rfl ?_
    refine x_getN X gT t1.2 1 (by decide) e_U_57 rfl d_U_withEntry_53 ?_
    refine x_iload_n X d_U_withEntry_56 rfl hl rfl ?_
    refine x_aload_n X d_U_withEntry_57 rfl hl rfl ?_
    refine x_goR (x_runVN X (C_T_middleStart l D A _ S rh E ne c0.1 c0.2 k (d :: sp) o t ok0 hT0 hz) b_T_middleStart s_T_middleStart v_T_middleStart e_U_143 t1.2 rfl rfl hl rfl (Nat.le_of_ble_eq_true rfl) d_U_withEntry_58 (by dsimp only [x_rm]; omega) (by dsimp only [x_rm]; omega) ⟨(by dsimp only [x_rm]; omega), (by dsimp only [x_rm]; omega)⟩) hS (fun locs hS => ?_)
    rw [show ft_ms (d :: sp) o = ft_zR d.1 from rfl]
    refine n_isub X d_U_withEntry_61 (by omega) ?_
    refine x_aload_n X d_U_withEntry_62 rfl hl rfl ?_
    refine x_gor (x_runV X (ih (H0 := H0) (S := S) hU hSb (k + 1) mt o3 tm (by omega) (p - ft_zR d.1) (by omega) hrh ya hy) b_U_withEntry s_U_withEntry v_U_withEntry e_U_171 hU.1 rfl rfl hl rfl (Nat.le_of_ble_eq_true rfl) d_U_withEntry_63 (by dsimp only [x_rm]; omega) (by dsimp only [x_rm]; omega) ⟨(by dsimp only [x_rm]; omega), (by dsimp only [x_rm]; omega)⟩) hS (xA.mono (fun _ h => h) hS.1) (fun mu G1 locs hM hF1 hS => ?_)
    rw [hrr] at hM
    have t_ : cTr S S H0 G1 := cTr.fr hF1 (fun q h => by rw [h]; exact hU.2.2.2)
    have t1 := t1.tr t_
    have t2 := t2.tr t_
    have t3 := t3.tr t_
    have t4 := t4.tr t_ (fun _ _ h => h)
    have tb := tb.tr t_ (fun _ _ h => h)
    have tm := tm.tr t_ (fun _ _ h => h)
    have hT0 := hT0.tr t_ (fun _ _ h => h)
    have hy := hy.tr t_ (fun _ _ h => h)
    have hU := hM.2
    have hSb := c_sb hSb hF1.1
    have hMt := hM.1
    refine x_astore X d_U_withEntry_66 hl (by decide) rfl (fun ls hl => ?_)
    have zz := hS.1
    refine x_newO (S := S) X gT e_U_17 n_T i_T x_defT hS hSb (by dsimp only [x_rm]; omega) (by dsimp only [x_rm]; omega) d_U_withEntry_68 (fun oo G2 h_oo hO hF2 t_oo hS sb_ => ?_)
    have no_oo : ¬ (S) oo := c_ub hSb h_oo
    have n_oo_u : ¬ oo = u := Nat.ne_of_gt (Nat.lt_of_lt_of_le (c_lt hU.1) h_oo)
    have n_u_oo : ¬ u = oo := Nat.ne_of_lt (Nat.lt_of_lt_of_le (c_lt hU.1) h_oo)
    have t_ : cTr S (fun q => S q ∨ q = oo) G1 G2 := t_oo
    have t1 := t1.tr t_
    have t2 := t2.tr t_
    have t3 := t3.tr t_
    have t4 := t4.tr t_ (fun _ _ h => h)
    have tb := tb.tr t_ (fun _ _ h => h)
    have tm := tm.tr t_ (fun _ _ h => h)
    have hT0 := hT0.tr t_ (fun _ _ h => h)
    have hy := hy.tr t_ (fun _ _ h => h)
    have hMt := hMt.tr t_ (fun _ _ h => h)
    have hU := hU.mv t_ hF2 (fun h => h) (by first | exact hSu | exact Or.inl hSu | exact Or.inl (Or.inl hSu))
    have hSb : ∀ q, (S q ∨ q = oo) → q < G2.size := sb_
    have z_oo : H0.size ≤ oo := Nat.le_trans zz h_oo
    refine x_dup X d_U_withEntry_71 rfl ?_
    refine x_aload_n X d_U_withEntry_72 rfl hl rfl ?_
    refine x_getN X gT t1.2 0 (by decide) e_U_48 rfl d_U_withEntry_73 ?_
    refine x_aload X d_U_withEntry_76 hl rfl ?_
    refine x_aload_n X d_U_withEntry_78 rfl hl rfl ?_
    refine x_getN X gT t1.2 2 (by decide) e_U_60 rfl d_U_withEntry_79 ?_
    refine x_go0 (x_runIN X (C_T_init_d l D A _ oo (va_P1 hO) (fun q => S q ∨ q = oo) rh E ne rr.2.1 rr.2.2 (Or.inr rfl) k d.1 as lc ow1 t2 t4 (by omega) (by omega) d.2 bs rc ow t3 tb (by omega) (by omega) rr.1.1 rr.1.2 mu hMt) b_T_init rfl s_T_init e_U_19 rfl hl rfl (Nat.le_of_ble_eq_true rfl) d_U_withEntry_82 (by dsimp only [x_rm]; omega) (by dsimp only [x_rm]; omega) ⟨(by dsimp only [x_rm]; omega), (by dsimp only [x_rm]; omega)⟩) hS (xA.one z_oo hS.1) (fun G3 locs hO_ hF3 hS => ?_)
    have t_ : cTr (fun q => S q ∨ q = oo) S G2 G3 := cTr.done hF3
    have t1 := t1.tr t_
    have t2 := t2.tr t_
    have t3 := t3.tr t_
    have t4 := t4.tr t_ (fun _ _ h => h)
    have tb := tb.tr t_ (fun _ _ h => h)
    have tm := tm.tr t_ (fun _ _ h => h)
    have hT0 := hT0.tr t_ (fun _ _ h => h)
    have hy := hy.tr t_ (fun _ _ h => h)
    have hMt := hMt.tr t_ (fun _ _ h => h)
    have hU := hU.mv t_ hF3 (xA.no (c_lt hU.1) n_u_oo) hSu
    have hSb := c_sbo hSb hF3.1
    have hO := hO_
    exact x_aret X (Or.inl ⟨_, rfl⟩) hS (by omega) (by omega) d_U_withEntry_85 ⟨_, rfl, cT.mk hO no_oo t2 t3 t4 tb hMt, hU⟩
