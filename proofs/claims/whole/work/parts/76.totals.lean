/-! The class: totals. -/
theorem z_mxLs : Cond.static Lib.MathLoose.max_long.x ∈ lw_tbl := List.mem_of_getElem? (i := 440) (by decide +kernel)
theorem z_mxLc : Cond.code Lib.MathLoose.max_long.x Lib.MathLoose.max_long.code 4 (some .long) ∈ lw_tbl := List.mem_of_getElem? (i := 441) (by decide +kernel)
theorem z_mxIs : Cond.static Lib.Math.max.name ∈ lw_tbl := List.mem_of_getElem? (i := 481) (by decide +kernel)
theorem z_mxIc : Cond.code Lib.Math.max.name Lib.Math.max.code 2 (some .int) ∈ lw_tbl := List.mem_of_getElem? (i := 482) (by decide +kernel)
theorem z_mxi : Cond.initialized "java/lang/Math" ∈ lw_tbl := List.mem_of_getElem? (i := 68) (by decide +kernel)
section XTO
variable {p : Program} {l : Launch} {e : Env} {R : Room} {s : State} {m : MethodId} {args : Array Value} {below : List Frame} {meth : Method} {c : Code} {H : Heap} {locs : List Loc} {cells slots : Nat} {Q : State → Prop}
variable {cc : ByteArray} {nL : Nat} {own : String} {ret : Option FieldType} {D : va_G} {A : Nat → ClassId} {H0 : Heap} {pc : Nat} {ls : Array Slot} {rest : List Value} {L : List (Option Value)}
theorem x_maxL (X : xx p s m args meth c cc nL R_F ret D A H0) (hl : lz ls nL L) (h1 : 1 ≤ R.frames) (h2 : (rest.map fun v => v.category).sum + 15 ≤ R.locals) (hc : cells ≤ R.cells) (hs : slots ≤ R.slots) {x y : Int64} (hdg : decode cc pc = .ok (.invokestatic 178, 3)) (kk : W p l e R s m args below meth c H locs cells slots Q (F0 m (pc + 3) ls (.long (if x < y then y else x) :: rest))) : W p l e R s m args below meth c H locs cells slots Q (F0 m pc ls (.long y :: .long x :: rest)) := by
  refine va_mmax_long X.1 X.2.1 (by rw [X.2.2.1]; exact hl.1.symm) X.2.2.2.1 (x_word X e_F_178 rfl) (x_word X z_mxLs rfl) (x_word X z_mxi rfl) (x_word X z_mxLc rfl) h1 h2 hc hs hdg ?_
  have e1 : (if y < x then x else y) = (if x < y then y else x) := by
    by_cases h3 : x < y
    · rw [if_pos h3, if_neg (Int64.lt_asymm h3)]
    · by_cases h4 : y < x
      · rw [if_pos h4, if_neg h3]
      · rw [if_neg h3, if_neg h4]
        exact Int64.le_antisymm (Int64.not_lt.1 h3) (Int64.not_lt.1 h4)
  rw [e1]
  exact kk
theorem x_maxI (X : xx p s m args meth c cc nL R_F ret D A H0) (hl : lz ls nL L) (h1 : 1 ≤ R.frames) (h2 : (rest.map fun v => v.category).sum + 13 ≤ R.locals) (hc : cells ≤ R.cells) (hs : slots ≤ R.slots) {x y : Int32} (hdg : decode cc pc = .ok (.invokestatic 132, 3)) (kk : W p l e R s m args below meth c H locs cells slots Q (F0 m (pc + 3) ls (.int (if x < y then y else x) :: rest))) : W p l e R s m args below meth c H locs cells slots Q (F0 m pc ls (.int y :: .int x :: rest)) :=
  va_mmax X.1 X.2.1 (by rw [X.2.2.1]; exact hl.1.symm) X.2.2.2.1 (x_word X e_F_132 rfl) (x_word X z_mxIs rfl) (x_word X z_mxi rfl) (x_word X z_mxIc rfl) h1 h2 hc hs hdg kk
theorem x_tabI (X : xx p s m args meth c cc nL own ret D A H0) {dflt lo hi : Int} {offs : Array Int} {len : Nat} {x : Int32} {off : Int} (tgt : Nat) (hdg : decode cc pc = .ok (.tableswitch dflt lo hi offs, len)) (h1 : ¬ x.toInt < lo) (h2 : ¬ hi < x.toInt) (ho : offs[(x.toInt - lo).toNat]? = some off) (ht : (pc : Int) + off = (tgt : Int)) (k : W p l e R s m args below meth c H locs cells slots Q (F0 m tgt ls rest)) : W p l e R s m args below meth c H locs cells slots Q (F0 m pc ls (.int x :: rest)) := lv_tableIn X.1 X.2.1 hdg h1 h2 ho ht k
theorem x_tabO (X : xx p s m args meth c cc nL own ret D A H0) {dflt lo hi : Int} {offs : Array Int} {len : Nat} {x : Int32} (tgt : Nat) (hdg : decode cc pc = .ok (.tableswitch dflt lo hi offs, len)) (h : x.toInt < lo ∨ hi < x.toInt) (ht : (pc : Int) + dflt = (tgt : Int)) (k : W p l e R s m args below meth c H locs cells slots Q (F0 m tgt ls rest)) : W p l e R s m args below meth c H locs cells slots Q (F0 m pc ls (.int x :: rest)) := lv_tableOut X.1 X.2.1 hdg h ht k
end XTO
theorem ft_tot0 (es : ft_E) : sp_tot (nI 0) es = lN es.length := by rw [sp_tot_eq]; rfl
theorem ft_tot3 (es : ft_E) : sp_tot (nI 3) es = sp_su es := by rw [sp_tot_eq]; rfl
theorem ft_tot1 (es : ft_E) : sp_tot (nI 1) es = sp_tt (nI 1) es := by rw [sp_tot_eq]; rfl
theorem ft_tot2 (es : ft_E) : sp_tot (nI 2) es = sp_tt (nI 2) es := by rw [sp_tot_eq]; rfl
/-- the kinds that take the greatest -/
abbrev ft_gt (n : Nat) : Prop := n = 1 ∨ n = 2
def ft_by (n : Nat) (x y : Int64) : Nat := if ft_gt n then (if y ≤ x then 1 else 0) else (if y < x then 1 else 0)
set_option maxRecDepth 100000 in
set_option maxHeartbeats 4000000 in
theorem C_F_isGreatest (l : Launch) (D : va_G) (A : Nat → ClassId) (H0 : Heap) (n : Nat) (hn : n ≤ 3) : xC l y_F_isGreatest c_F_isGreatest 1 (some .boolean) 0 D A H0 [.int (nI n)] (fun _ => False) (q1 (.int (nI (if ft_gt n then 1 else 0))) (fun H1 => H1 = H0)) 0 0 := by
  match n, hn with
  | 0, _ =>
    refine xC.of rfl (Nat.le_of_ble_eq_true rfl) ?_
    intro p_ e_ s_ m_ ar_ bl_ me_ c_ ls X hl
    have hl : lz ls 1 [some (.int (nI 0))] := hl
    have hS : va_S (fun _ => False) H0 H0 [] := va_S.rf
    refine x_iload_n X d_F_isGreatest_0 rfl hl rfl ?_
    refine x_iconst (v := nI 1) X d_F_isGreatest_1 rfl ?_
    refine n_icmp_eq X 10 d_F_isGreatest_2 rfl (by decide) (by decide) (fun hc => absurd hc (by decide)) (fun hc_ => ?_)
    refine x_iload_n X d_F_isGreatest_5 rfl hl rfl ?_
    refine x_iconst (v := nI 2) X d_F_isGreatest_6 rfl ?_
    refine n_icmp_ne X 14 d_F_isGreatest_7 rfl (by decide) (by decide) (fun hc_ => ?_) (fun hc => absurd hc (by decide))
    refine x_iconst (v := nI 0) X d_F_isGreatest_14 rfl ?_
    exact x_zret X hS (Nat.le_refl _) (Nat.le_refl _) d_F_isGreatest_15 rfl ⟨rfl, rfl⟩
  | 1, _ =>
    refine xC.of rfl (Nat.le_of_ble_eq_true rfl) ?_
    intro p_ e_ s_ m_ ar_ bl_ me_ c_ ls X hl
    have hl : lz ls 1 [some (.int (nI 1))] := hl
    have hS : va_S (fun _ => False) H0 H0 [] := va_S.rf
    refine x_iload_n X d_F_isGreatest_0 rfl hl rfl ?_
    refine x_iconst (v := nI 1) X d_F_isGreatest_1 rfl ?_
    refine n_icmp_eq X 10 d_F_isGreatest_2 rfl (by decide) (by decide) (fun hc_ => ?_) (fun hc => absurd rfl hc)
    refine x_iconst (v := nI 1) X d_F_isGreatest_10 rfl ?_
    refine x_goto X 15 d_F_isGreatest_11 rfl ?_
    exact x_zret X hS (Nat.le_refl _) (Nat.le_refl _) d_F_isGreatest_15 rfl ⟨rfl, rfl⟩
  | 2, _ =>
    refine xC.of rfl (Nat.le_of_ble_eq_true rfl) ?_
    intro p_ e_ s_ m_ ar_ bl_ me_ c_ ls X hl
    have hl : lz ls 1 [some (.int (nI 2))] := hl
    have hS : va_S (fun _ => False) H0 H0 [] := va_S.rf
    refine x_iload_n X d_F_isGreatest_0 rfl hl rfl ?_
    refine x_iconst (v := nI 1) X d_F_isGreatest_1 rfl ?_
    refine n_icmp_eq X 10 d_F_isGreatest_2 rfl (by decide) (by decide) (fun hc => absurd hc (by decide)) (fun hc_ => ?_)
    refine x_iload_n X d_F_isGreatest_5 rfl hl rfl ?_
    refine x_iconst (v := nI 2) X d_F_isGreatest_6 rfl ?_
    refine n_icmp_ne X 14 d_F_isGreatest_7 rfl (by decide) (by decide) (fun hc => absurd rfl hc) (fun hc_ => ?_)
    refine x_iconst (v := nI 1) X d_F_isGreatest_10 rfl ?_
    refine x_goto X 15 d_F_isGreatest_11 rfl ?_
    exact x_zret X hS (Nat.le_refl _) (Nat.le_refl _) d_F_isGreatest_15 rfl ⟨rfl, rfl⟩
  | 3, _ =>
    refine xC.of rfl (Nat.le_of_ble_eq_true rfl) ?_
    intro p_ e_ s_ m_ ar_ bl_ me_ c_ ls X hl
    have hl : lz ls 1 [some (.int (nI 3))] := hl
    have hS : va_S (fun _ => False) H0 H0 [] := va_S.rf
    refine x_iload_n X d_F_isGreatest_0 rfl hl rfl ?_
    refine x_iconst (v := nI 1) X d_F_isGreatest_1 rfl ?_
    refine n_icmp_eq X 10 d_F_isGreatest_2 rfl (by decide) (by decide) (fun hc => absurd hc (by decide)) (fun hc_ => ?_)
    refine x_iload_n X d_F_isGreatest_5 rfl hl rfl ?_
    refine x_iconst (v := nI 2) X d_F_isGreatest_6 rfl ?_
    refine n_icmp_ne X 14 d_F_isGreatest_7 rfl (by decide) (by decide) (fun hc_ => ?_) (fun hc => absurd hc (by decide))
    refine x_iconst (v := nI 0) X d_F_isGreatest_14 rfl ?_
    exact x_zret X hS (Nat.le_refl _) (Nat.le_refl _) d_F_isGreatest_15 rfl ⟨rfl, rfl⟩
set_option maxRecDepth 100000 in
set_option maxHeartbeats 4000000 in
theorem C_F_totalOfNone (l : Launch) (D : va_G) (A : Nat → ClassId) (H0 : Heap) (n : Nat) (hn : n ≤ 3) : xC l y_F_totalOfNone c_F_totalOfNone 1 (some .long) 1 D A H0 [.int (nI n)] (fun _ => False) (q1 (.long (sp_tot (nI n) [])) (fun H1 => H1 = H0)) 0 0 := by
  match n, hn with
  | 0, _ =>
    have hG := C_F_isGreatest l D A H0 0 (by decide)
    rw [show (if ft_gt 0 then 1 else 0) = 0 from rfl] at hG
    refine xC.of rfl (Nat.le_of_ble_eq_true rfl) ?_
    intro p_ e_ s_ m_ ar_ bl_ me_ c_ ls X hl
    have hl : lz ls 1 [some (.int (nI 0))] := hl
    have hS : va_S (fun _ => False) H0 H0 [] := va_S.rf
    refine x_iload_n X d_F_totalOfNone_0 rfl hl rfl ?_
    refine x_goR (x_runS X (hG) b_F_isGreatest s_F_isGreatest e_F_173 rfl hl rfl (Nat.le_of_ble_eq_true rfl) d_F_totalOfNone_1 (by dsimp only [x_rm]; omega) (by dsimp only [x_rm]; omega) ⟨(by dsimp only [x_rm]; omega), (by dsimp only [x_rm]; omega)⟩) hS (fun locs hS => ?_)
    refine n_if_eq X 13 d_F_totalOfNone_4 rfl (by decide) (fun hc_ => ?_) (fun hc => absurd rfl hc)
    refine x_lconst (v := lN 0) X d_F_totalOfNone_13 rfl ?_
    exact x_lret X hS (Nat.le_refl _) (Nat.le_refl _) d_F_totalOfNone_14 ⟨rfl, rfl⟩
  | 1, _ =>
    have hG := C_F_isGreatest l D A H0 1 (by decide)
    rw [show (if ft_gt 1 then 1 else 0) = 1 from rfl] at hG
    refine xC.of rfl (Nat.le_of_ble_eq_true rfl) ?_
    intro p_ e_ s_ m_ ar_ bl_ me_ c_ ls X hl
    have hl : lz ls 1 [some (.int (nI 1))] := hl
    have hS : va_S (fun _ => False) H0 H0 [] := va_S.rf
    refine x_iload_n X d_F_totalOfNone_0 rfl hl rfl ?_
    refine x_goR (x_runS X (hG) b_F_isGreatest s_F_isGreatest e_F_173 rfl hl rfl (Nat.le_of_ble_eq_true rfl) d_F_totalOfNone_1 (by dsimp only [x_rm]; omega) (by dsimp only [x_rm]; omega) ⟨(by dsimp only [x_rm]; omega), (by dsimp only [x_rm]; omega)⟩) hS (fun locs hS => ?_)
    refine n_if_eq X 13 d_F_totalOfNone_4 rfl (by decide) (fun hc => absurd hc (by decide)) (fun hc_ => ?_)
    refine x_ldc2 X e_F_176 d_F_totalOfNone_7 ?_
    refine x_goto X 14 d_F_totalOfNone_10 rfl ?_
    exact x_lret X hS (Nat.le_refl _) (Nat.le_refl _) d_F_totalOfNone_14 ⟨rfl, rfl⟩
  | 2, _ =>
    have hG := C_F_isGreatest l D A H0 2 (by decide)
    rw [show (if ft_gt 2 then 1 else 0) = 1 from rfl] at hG
    refine xC.of rfl (Nat.le_of_ble_eq_true rfl) ?_
    intro p_ e_ s_ m_ ar_ bl_ me_ c_ ls X hl
    have hl : lz ls 1 [some (.int (nI 2))] := hl
    have hS : va_S (fun _ => False) H0 H0 [] := va_S.rf
    refine x_iload_n X d_F_totalOfNone_0 rfl hl rfl ?_
    refine x_goR (x_runS X (hG) b_F_isGreatest s_F_isGreatest e_F_173 rfl hl rfl (Nat.le_of_ble_eq_true rfl) d_F_totalOfNone_1 (by dsimp only [x_rm]; omega) (by dsimp only [x_rm]; omega) ⟨(by dsimp only [x_rm]; omega), (by dsimp only [x_rm]; omega)⟩) hS (fun locs hS => ?_)
    refine n_if_eq X 13 d_F_totalOfNone_4 rfl (by decide) (fun hc => absurd hc (by decide)) (fun hc_ => ?_)
    refine x_ldc2 X e_F_176 d_F_totalOfNone_7 ?_
    refine x_goto X 14 d_F_totalOfNone_10 rfl ?_
    exact x_lret X hS (Nat.le_refl _) (Nat.le_refl _) d_F_totalOfNone_14 ⟨rfl, rfl⟩
  | 3, _ =>
    have hG := C_F_isGreatest l D A H0 3 (by decide)
    rw [show (if ft_gt 3 then 1 else 0) = 0 from rfl] at hG
    refine xC.of rfl (Nat.le_of_ble_eq_true rfl) ?_
    intro p_ e_ s_ m_ ar_ bl_ me_ c_ ls X hl
    have hl : lz ls 1 [some (.int (nI 3))] := hl
    have hS : va_S (fun _ => False) H0 H0 [] := va_S.rf
    refine x_iload_n X d_F_totalOfNone_0 rfl hl rfl ?_
    refine x_goR (x_runS X (hG) b_F_isGreatest s_F_isGreatest e_F_173 rfl hl rfl (Nat.le_of_ble_eq_true rfl) d_F_totalOfNone_1 (by dsimp only [x_rm]; omega) (by dsimp only [x_rm]; omega) ⟨(by dsimp only [x_rm]; omega), (by dsimp only [x_rm]; omega)⟩) hS (fun locs hS => ?_)
    refine n_if_eq X 13 d_F_totalOfNone_4 rfl (by decide) (fun hc_ => ?_) (fun hc => absurd rfl hc)
    refine x_lconst (v := lN 0) X d_F_totalOfNone_13 rfl ?_
    exact x_lret X hS (Nat.le_refl _) (Nat.le_refl _) d_F_totalOfNone_14 ⟨rfl, rfl⟩
set_option maxRecDepth 100000 in
set_option maxHeartbeats 4000000 in
theorem C_F_totalWith (l : Launch) (D : va_G) (A : Nat → ClassId) (H0 : Heap) (es : ft_E) (a r : Nat) (nu lo hi z : Int32) (ha : va_at D vwCl (a, .inr (0, [.int nu, .int lo, .int hi, .ref r, .int z])) H0) (n : Nat) (hn : n ≤ 3) : xC l y_F_totalWith c_F_totalWith 4 (some .long) 1 D A H0 [.long (sp_tot (nI n) es), .ref a, .int (nI n)] (fun _ => False) (q1 (.long (sp_tot (nI n) (es ++ [(lo, hi)]))) (fun H1 => H1 = H0)) 0 0 := by
  match n, hn with
  | 0, _ =>
    refine xC.of rfl (Nat.le_of_ble_eq_true rfl) ?_
    intro p_ e_ s_ m_ ar_ bl_ me_ c_ ls X hl
    have hl : lz ls 4 [some (.long (sp_tot (nI 0) es)), none, some (.ref a), some (.int (nI 0))] := hl
    have hS : va_S (fun _ => False) H0 H0 [] := va_S.rf
    refine x_iload_n X d_F_totalWith_0 rfl hl rfl ?_
    refine x_tabO X 64 d_F_totalWith_1 (Or.inl (by decide +kernel)) (by decide +kernel) ?_
    refine x_lload_n X d_F_totalWith_64 rfl hl rfl ?_
    refine x_lconst (v := lN 1) X d_F_totalWith_65 rfl ?_
    refine x_ladd X d_F_totalWith_66 ?_
    have hfin : sp_tot (nI 0) (es ++ [(lo, hi)]) = sp_tot (nI 0) es + lN 1 := by
      rw [ft_tot0, ft_tot0, List.length_append]
      exact (Int64.ofNat_add _ _)
    exact x_lret X hS (Nat.le_refl _) (Nat.le_refl _) d_F_totalWith_67 ⟨by rw [hfin], rfl⟩
  | 1, _ =>
    refine xC.of rfl (Nat.le_of_ble_eq_true rfl) ?_
    intro p_ e_ s_ m_ ar_ bl_ me_ c_ ls X hl
    have hl : lz ls 4 [some (.long (sp_tot (nI 1) es)), none, some (.ref a), some (.int (nI 1))] := hl
    have hS : va_S (fun _ => False) H0 H0 [] := va_S.rf
    refine x_iload_n X d_F_totalWith_0 rfl hl rfl ?_
    refine x_tabI X 28 d_F_totalWith_1 (by decide +kernel) (by decide +kernel) rfl (by decide +kernel) ?_
    refine x_lload_n X d_F_totalWith_28 rfl hl rfl ?_
    refine x_aload_n X d_F_totalWith_29 rfl hl rfl ?_
    refine x_getN X gI ha 1 (by decide) e_F_123 rfl d_F_totalWith_30 ?_
    refine x_i2l X d_F_totalWith_33 rfl ?_
    refine x_maxL X hl (by dsimp only [x_rm]; omega) (by show 0 + _ ≤ _; dsimp only [x_rm]; omega) (by dsimp only [x_rm]; omega) (by dsimp only [x_rm]; omega) d_F_totalWith_34 ?_
    have hfin : sp_tot (nI 1) (es ++ [(lo, hi)]) = if sp_tot (nI 1) es < lo.toInt64 then lo.toInt64 else sp_tot (nI 1) es := by rw [ft_tot1, ft_tot1, sp_tt1]; rfl
    exact x_lret X hS (Nat.le_refl _) (Nat.le_refl _) d_F_totalWith_37 ⟨by rw [hfin], rfl⟩
  | 2, _ =>
    refine xC.of rfl (Nat.le_of_ble_eq_true rfl) ?_
    intro p_ e_ s_ m_ ar_ bl_ me_ c_ ls X hl
    have hl : lz ls 4 [some (.long (sp_tot (nI 2) es)), none, some (.ref a), some (.int (nI 2))] := hl
    have hS : va_S (fun _ => False) H0 H0 [] := va_S.rf
    refine x_iload_n X d_F_totalWith_0 rfl hl rfl ?_
    refine x_tabI X 38 d_F_totalWith_1 (by decide +kernel) (by decide +kernel) rfl (by decide +kernel) ?_
    refine x_lload_n X d_F_totalWith_38 rfl hl rfl ?_
    refine x_aload_n X d_F_totalWith_39 rfl hl rfl ?_
    refine x_getN X gI ha 2 (by decide) e_F_126 rfl d_F_totalWith_40 ?_
    refine x_i2l X d_F_totalWith_43 rfl ?_
    refine x_maxL X hl (by dsimp only [x_rm]; omega) (by show 0 + _ ≤ _; dsimp only [x_rm]; omega) (by dsimp only [x_rm]; omega) (by dsimp only [x_rm]; omega) d_F_totalWith_44 ?_
    have hfin : sp_tot (nI 2) (es ++ [(lo, hi)]) = if sp_tot (nI 2) es < hi.toInt64 then hi.toInt64 else sp_tot (nI 2) es := by rw [ft_tot2, ft_tot2, sp_tt1]; rfl
    exact x_lret X hS (Nat.le_refl _) (Nat.le_refl _) d_F_totalWith_47 ⟨by rw [hfin], rfl⟩
  | 3, _ =>
    refine xC.of rfl (Nat.le_of_ble_eq_true rfl) ?_
    intro p_ e_ s_ m_ ar_ bl_ me_ c_ ls X hl
    have hl : lz ls 4 [some (.long (sp_tot (nI 3) es)), none, some (.ref a), some (.int (nI 3))] := hl
    have hS : va_S (fun _ => False) H0 H0 [] := va_S.rf
    refine x_iload_n X d_F_totalWith_0 rfl hl rfl ?_
    refine x_tabI X 48 d_F_totalWith_1 (by decide +kernel) (by decide +kernel) rfl (by decide +kernel) ?_
    refine x_lload_n X d_F_totalWith_48 rfl hl rfl ?_
    refine x_aload_n X d_F_totalWith_49 rfl hl rfl ?_
    refine x_getN X gI ha 2 (by decide) e_F_126 rfl d_F_totalWith_50 ?_
    refine x_i2l X d_F_totalWith_53 rfl ?_
    refine x_aload_n X d_F_totalWith_54 rfl hl rfl ?_
    refine x_getN X gI ha 1 (by decide) e_F_123 rfl d_F_totalWith_55 ?_
    refine x_i2l X d_F_totalWith_58 rfl ?_
    refine x_lsub X d_F_totalWith_59 ?_
    refine x_lconst (v := lN 1) X d_F_totalWith_60 rfl ?_
    refine x_ladd X d_F_totalWith_61 ?_
    refine x_ladd X d_F_totalWith_62 ?_
    have hfin : sp_tot (nI 3) (es ++ [(lo, hi)]) = sp_tot (nI 3) es + (hi.toInt64 - lo.toInt64 + lN 1) := by
      rw [ft_tot3, ft_tot3, sp_su1]
      show sp_su es + hi.toInt64 - lo.toInt64 + 1 = sp_su es + (hi.toInt64 - lo.toInt64 + 1)
      simp only [Int64.sub_eq_add_neg, Int64.add_assoc]
    exact x_lret X hS (Nat.le_refl _) (Nat.le_refl _) d_F_totalWith_63 ⟨by rw [hfin], rfl⟩
set_option maxRecDepth 100000 in
set_option maxHeartbeats 4000000 in
theorem C_F_isBeyond (l : Launch) (D : va_G) (A : Nat → ClassId) (H0 : Heap) (x y : Int64) (n : Nat) (hn : n ≤ 3) : xC l y_F_isBeyond c_F_isBeyond 5 (some .boolean) 1 D A H0 [.long x, .int (nI n), .long y] (fun _ => False) (q1 (.int (nI (ft_by n x y))) (fun H1 => H1 = H0)) 0 0 := by
  have hG := C_F_isGreatest l D A H0 n hn
  by_cases hg : ft_gt n
  · rw [if_pos hg] at hG
    rw [show ft_by n x y = (if y ≤ x then 1 else 0) from if_pos hg]
    by_cases hc : y ≤ x
    · rw [if_pos hc]
      refine xC.of rfl (Nat.le_of_ble_eq_true rfl) ?_
      intro p_ e_ s_ m_ ar_ bl_ me_ c_ ls X hl
      have hl : lz ls 5 [some (.long x), none, some (.int (nI n)), some (.long y), none] := hl
      have hS : va_S (fun _ => False) H0 H0 [] := va_S.rf
      refine x_iload_n X d_F_isBeyond_0 rfl hl rfl ?_
      refine x_goR (x_runS X (hG) b_F_isGreatest s_F_isGreatest e_F_173 rfl hl rfl (Nat.le_of_ble_eq_true rfl) d_F_isBeyond_1 (by dsimp only [x_rm]; omega) (by dsimp only [x_rm]; omega) ⟨(by dsimp only [x_rm]; omega), (by dsimp only [x_rm]; omega)⟩) hS (fun locs hS => ?_)
      refine n_if_eq X 21 d_F_isBeyond_4 rfl (by decide) (fun hc => absurd hc (by decide)) (fun hc_ => ?_)
      refine x_lload_n X d_F_isBeyond_7 rfl hl rfl ?_
      refine x_lload_n X d_F_isBeyond_8 rfl hl rfl ?_
      refine x_lcmp X d_F_isBeyond_9 ?_
      refine x_if_lt X 17 d_F_isBeyond_10 rfl (fun h => absurd ((lg_cmp_lt _ _).1 h) (Int64.not_lt.2 hc)) (fun _ => ?_)
      refine x_iconst (v := nI 1) X d_F_isBeyond_13 rfl ?_
      refine x_goto X 32 d_F_isBeyond_14 rfl ?_
      exact x_zret X hS (Nat.le_refl _) (Nat.le_refl _) d_F_isBeyond_32 rfl ⟨rfl, rfl⟩
    · rw [if_neg hc]
      refine xC.of rfl (Nat.le_of_ble_eq_true rfl) ?_
      intro p_ e_ s_ m_ ar_ bl_ me_ c_ ls X hl
      have hl : lz ls 5 [some (.long x), none, some (.int (nI n)), some (.long y), none] := hl
      have hS : va_S (fun _ => False) H0 H0 [] := va_S.rf
      refine x_iload_n X d_F_isBeyond_0 rfl hl rfl ?_
      refine x_goR (x_runS X (hG) b_F_isGreatest s_F_isGreatest e_F_173 rfl hl rfl (Nat.le_of_ble_eq_true rfl) d_F_isBeyond_1 (by dsimp only [x_rm]; omega) (by dsimp only [x_rm]; omega) ⟨(by dsimp only [x_rm]; omega), (by dsimp only [x_rm]; omega)⟩) hS (fun locs hS => ?_)
      refine n_if_eq X 21 d_F_isBeyond_4 rfl (by decide) (fun hc => absurd hc (by decide)) (fun hc_ => ?_)
      refine x_lload_n X d_F_isBeyond_7 rfl hl rfl ?_
      refine x_lload_n X d_F_isBeyond_8 rfl hl rfl ?_
      refine x_lcmp X d_F_isBeyond_9 ?_
      refine x_if_lt X 17 d_F_isBeyond_10 rfl (fun _ => ?_) (fun h => absurd ((lg_cmp_lt _ _).2 (Int64.not_le.1 hc)) h)
      refine x_iconst (v := nI 0) X d_F_isBeyond_17 rfl ?_
      refine x_goto X 32 d_F_isBeyond_18 rfl ?_
      exact x_zret X hS (Nat.le_refl _) (Nat.le_refl _) d_F_isBeyond_32 rfl ⟨rfl, rfl⟩
  · rw [if_neg hg] at hG
    rw [show ft_by n x y = (if y < x then 1 else 0) from if_neg hg]
    by_cases hc : y < x
    · rw [if_pos hc]
      refine xC.of rfl (Nat.le_of_ble_eq_true rfl) ?_
      intro p_ e_ s_ m_ ar_ bl_ me_ c_ ls X hl
      have hl : lz ls 5 [some (.long x), none, some (.int (nI n)), some (.long y), none] := hl
      have hS : va_S (fun _ => False) H0 H0 [] := va_S.rf
      refine x_iload_n X d_F_isBeyond_0 rfl hl rfl ?_
      refine x_goR (x_runS X (hG) b_F_isGreatest s_F_isGreatest e_F_173 rfl hl rfl (Nat.le_of_ble_eq_true rfl) d_F_isBeyond_1 (by dsimp only [x_rm]; omega) (by dsimp only [x_rm]; omega) ⟨(by dsimp only [x_rm]; omega), (by dsimp only [x_rm]; omega)⟩) hS (fun locs hS => ?_)
      refine n_if_eq X 21 d_F_isBeyond_4 rfl (by decide) (fun hc_ => ?_) (fun hc => absurd rfl hc)
      refine x_lload_n X d_F_isBeyond_21 rfl hl rfl ?_
      refine x_lload_n X d_F_isBeyond_22 rfl hl rfl ?_
      refine x_lcmp X d_F_isBeyond_23 ?_
      refine x_if_le X 31 d_F_isBeyond_24 rfl (fun h => absurd ((lg_cmp_le _ _).1 h) (Int64.not_le.2 hc)) (fun _ => ?_)
      refine x_iconst (v := nI 1) X d_F_isBeyond_27 rfl ?_
      refine x_goto X 32 d_F_isBeyond_28 rfl ?_
      exact x_zret X hS (Nat.le_refl _) (Nat.le_refl _) d_F_isBeyond_32 rfl ⟨rfl, rfl⟩
    · rw [if_neg hc]
      refine xC.of rfl (Nat.le_of_ble_eq_true rfl) ?_
      intro p_ e_ s_ m_ ar_ bl_ me_ c_ ls X hl
      have hl : lz ls 5 [some (.long x), none, some (.int (nI n)), some (.long y), none] := hl
      have hS : va_S (fun _ => False) H0 H0 [] := va_S.rf
      refine x_iload_n X d_F_isBeyond_0 rfl hl rfl ?_
      refine x_goR (x_runS X (hG) b_F_isGreatest s_F_isGreatest e_F_173 rfl hl rfl (Nat.le_of_ble_eq_true rfl) d_F_isBeyond_1 (by dsimp only [x_rm]; omega) (by dsimp only [x_rm]; omega) ⟨(by dsimp only [x_rm]; omega), (by dsimp only [x_rm]; omega)⟩) hS (fun locs hS => ?_)
      refine n_if_eq X 21 d_F_isBeyond_4 rfl (by decide) (fun hc_ => ?_) (fun hc => absurd rfl hc)
      refine x_lload_n X d_F_isBeyond_21 rfl hl rfl ?_
      refine x_lload_n X d_F_isBeyond_22 rfl hl rfl ?_
      refine x_lcmp X d_F_isBeyond_23 ?_
      refine x_if_le X 31 d_F_isBeyond_24 rfl (fun _ => ?_) (fun h => absurd ((lg_cmp_le _ _).2 (Int64.not_lt.1 hc)) h)
      refine x_iconst (v := nI 0) X d_F_isBeyond_31 rfl ?_
      exact x_zret X hS (Nat.le_refl _) (Nat.le_refl _) d_F_isBeyond_32 rfl ⟨rfl, rfl⟩
/-- the entries of a tree -/
def ft_es (E : ft_E) (sp : ft_S) (o : Option ft_I) : ft_E := (ft_lT sp o).map (fun l => E.getD l.1 (0, 0))
theorem ft_es_len (E : ft_E) (sp : ft_S) (o : Option ft_I) : (ft_es E sp o).length = ft_zT sp o := by unfold ft_es; rw [List.length_map, ft_lT_len]
theorem ft_es_at {E : ft_E} {sp : ft_S} {o : Option ft_I} {p en : Nat} {pa : List Nat} {lo hi : Int32} (h : (ft_lT sp o)[p]? = some (en, pa)) (he : E[en]? = some (lo, hi)) : (ft_es E sp o)[p]? = some (lo, hi) := by
  unfold ft_es
  rw [List.getElem?_map, h]
  show some (E.getD en (0, 0)) = _
  rw [List.getD_eq_getElem?_getD, he]
  rfl
set_option maxRecDepth 100000 in
set_option maxHeartbeats 4000000 in
theorem C_F_total (l : Launch) (D : va_G) (A : Nat → ClassId) (H0 : Heap) (S : Nat → Prop) (rh : Nat → Nat) (E : ft_E) (ne mm : Nat) (zf : Nat → Nat) (sp : ft_S) (o : Option ft_I) (t : Nat) (okt : ft_okT ne mm zf 0 sp o) (hT : cT D A S rh E sp o t H0) (hz : ft_zT sp o < 64) (n : Nat) (hn : n ≤ 3) : xC l y_F_total c_F_total 5 (some .long) 16 D A H0 [.ref t, .int (nI n)] (fun _ => False) (q1 (.long (sp_tot (nI n) (ft_es E sp o))) (fun H1 => H1 = H0)) 0 0 := by
  obtain ⟨tl, tr, tmv, trs, tO⟩ := cT_obj hT
  have h5 := ft_len5 okt hz
  have hel := ft_es_len E sp o
  refine xC.of rfl (Nat.le_of_ble_eq_true rfl) ?_
  intro p_ e_ s_ m_ ar_ bl_ me_ c_ ls X hl
  have hl : lz ls 5 [some (.ref t), some (.int (nI n)), none, none, none] := hl
  have hS : va_S (fun _ => False) H0 H0 [] := va_S.rf
  refine x_iload_n X d_F_total_0 rfl hl rfl ?_
  refine x_goR (x_runS X (C_F_totalOfNone l D A _ n hn) b_F_totalOfNone s_F_totalOfNone e_F_161 rfl hl rfl (Nat.le_of_ble_eq_true rfl) d_F_total_1 (by dsimp only [x_rm]; omega) (by dsimp only [x_rm]; omega) ⟨(by dsimp only [x_rm]; omega), (by dsimp only [x_rm]; omega)⟩) hS (fun locs hS => ?_)
  refine x_lstore_n X d_F_total_4 rfl hl (by decide) rfl (fun ls hl => ?_)
  refine x_iconst (v := nI 0) X d_F_total_5 rfl ?_
  refine x_istore X d_F_total_6 hl (by decide) rfl (fun ls hl => ?_)
  have loop : ∀ (g i : Nat) (locs : List Loc) (ls : Array Slot), ft_zT sp o - i = g → i ≤ ft_zT sp o → lz ls 5 [some (.ref t), some (.int (nI n)), some (.long (sp_tot (nI n) ((ft_es E sp o).take i))), none, some (.int (nI i))] → va_S (fun _ => False) H0 H0 locs → W p_ l e_ (x_rm 16 0 0) s_ m_ ar_ bl_ me_ c_ H0 locs 0 0 (MQ bl_ (xQ (fun _ => False) (q1 (.long (sp_tot (nI n) (ft_es E sp o))) (fun H1 => H1 = H0))) ar_ s_ 0 0 (fun _ => False)) (F0 m_ 8 ls []) := by
    clear hl hS
    intro g
    induction g with
    | zero =>
      intro i locs ls hg hi2 hl hS
      have hie : i = ft_zT sp o := by omega
      subst hie
      rw [List.take_of_length_le (by omega)] at hl
      refine x_iload X d_F_total_8 hl rfl ?_
      refine x_aload_n X d_F_total_10 rfl hl rfl ?_
      refine x_getN X gT tO.2 4 (by decide) e_F_44 rfl d_F_total_11 ?_
      refine n_icmp_ge X 35 d_F_total_14 rfl (by omega) (by omega) (fun hc_ => ?_) (fun hc => absurd hc (by omega))
      refine x_lload_n X d_F_total_35 rfl hl rfl ?_
      exact x_lret X hS (Nat.le_refl _) (Nat.le_refl _) d_F_total_36 ⟨rfl, rfl⟩
    | succ g ih =>
      intro i locs ls hg hi2 hl hS
      refine x_iload X d_F_total_8 hl rfl ?_
      refine x_aload_n X d_F_total_10 rfl hl rfl ?_
      refine x_getN X gT tO.2 4 (by decide) e_F_44 rfl d_F_total_11 ?_
      refine n_icmp_ge X 35 d_F_total_14 rfl (by omega) (by omega) (fun hc => absurd hc (by omega)) (fun hc_ => ?_)
      refine x_lload_n X d_F_total_17 rfl hl rfl ?_
      refine x_aload_n X d_F_total_18 rfl hl rfl ?_
      refine x_iload X d_F_total_19 hl rfl ?_
      refine x_goRr (x_runVN X (C_T_entryAt l D A _ S rh E ne mm zf 0 sp o t okt hT hz i (by omega)) b_T_entryAt s_T_entryAt v_T_entryAt e_F_119 tO.2 rfl rfl hl rfl (Nat.le_of_ble_eq_true rfl) d_F_total_21 (by dsimp only [x_rm]; omega) (by dsimp only [x_rm]; omega) ⟨(by dsimp only [x_rm]; omega), (by dsimp only [x_rm]; omega)⟩) hS (fun b locs hE hS => ?_)
      obtain ⟨en, pa, q1, hI⟩ := hE
      obtain ⟨b', r, lo, hi, e1, e2, e3, -⟩ := hI
      cases e1
      have hes := ft_es_at q1 e2
      refine x_iload_n X d_F_total_24 rfl hl rfl ?_
      refine x_goR (x_runS X (C_F_totalWith l D A _ ((ft_es E sp o).take i) b r _ lo hi _ e3.2 n hn) b_F_totalWith s_F_totalWith e_F_165 rfl hl rfl (Nat.le_of_ble_eq_true rfl) d_F_total_25 (by dsimp only [x_rm]; omega) (by dsimp only [x_rm]; omega) ⟨(by dsimp only [x_rm]; omega), (by dsimp only [x_rm]; omega)⟩) hS (fun locs hS => ?_)
      rw [← sp_take1 hes]
      refine x_lstore_n X d_F_total_28 rfl hl (by decide) rfl (fun ls hl => ?_)
      refine n_iinc (d := 1) X d_F_total_29 rfl hl rfl (by decide) rfl (fun ls hl => ?_)
      refine x_goto X 8 d_F_total_32 rfl ?_
      exact ih (i + 1) _ _ (by omega) (by omega) hl hS
  exact loop _ 0 _ _ rfl (Nat.zero_le _) hl hS
theorem ft_bey {x lim : Int64} {n : Nat} (hn : n ≤ 3) : ft_by n x lim = if (decide (lim < x) || (decide (x = lim) && (decide (nI n = 1) || decide (nI n = 2)))) = true then 1 else 0 := by
  have e1 : (decide (nI n = 1) || decide (nI n = 2)) = decide (ft_gt n) := by
    match n, hn with
    | 0, _ => rfl
    | 1, _ => rfl
    | 2, _ => rfl
    | 3, _ => rfl
  rw [e1]
  by_cases hg : ft_gt n
  · rw [show ft_by n x lim = (if lim ≤ x then 1 else 0) from if_pos hg]
    by_cases h1 : lim ≤ x
    · rw [if_pos h1, if_pos]
      simp only [hg, decide_true, Bool.and_true, Bool.or_eq_true, decide_eq_true_eq]
      by_cases h2 : lim < x
      · exact Or.inl h2
      · exact Or.inr (Int64.le_antisymm (Int64.not_lt.1 h2) h1)
    · rw [if_neg h1, if_neg]
      simp only [hg, decide_true, Bool.and_true, Bool.or_eq_true, decide_eq_true_eq]
      rintro (h2 | h2)
      · exact h1 (Int64.le_of_lt h2)
      · exact h1 (by rw [h2]; exact Int64.le_refl _)
  · rw [show ft_by n x lim = (if lim < x then 1 else 0) from if_neg hg]
    simp only [hg, decide_false, Bool.and_false, Bool.or_false, decide_eq_true_eq]
set_option maxRecDepth 100000 in
set_option maxHeartbeats 4000000 in
theorem C_F_firstPlace (l : Launch) (D : va_G) (A : Nat → ClassId) (H0 : Heap) (S : Nat → Prop) (rh : Nat → Nat) (E : ft_E) (ne mm : Nat) (zf : Nat → Nat) (sp : ft_S) (o : Option ft_I) (t : Nat) (okt : ft_okT ne mm zf 0 sp o) (hT : cT D A S rh E sp o t H0) (hz : ft_zT sp o < 64) (n : Nat) (hn : n ≤ 3) (lim : Int64) : xC l y_F_firstPlace c_F_firstPlace 7 (some .int) 16 D A H0 [.ref t, .int (nI n), .long lim] (fun _ => False) (q1 (.int (nI (sp_find (fun j => decide (lim < sp_tot (nI n) ((ft_es E sp o).take (j + 1))) || (decide (sp_tot (nI n) ((ft_es E sp o).take (j + 1)) = lim) && (decide (nI n = 1) || decide (nI n = 2)))) (ft_zT sp o) 0))) (fun H1 => H1 = H0)) 0 0 := by
  obtain ⟨tl, tr, tmv, trs, tO⟩ := cT_obj hT
  have h5 := ft_len5 okt hz
  have hel := ft_es_len E sp o
  refine xC.of rfl (Nat.le_of_ble_eq_true rfl) ?_
  intro p_ e_ s_ m_ ar_ bl_ me_ c_ ls X hl
  have hl : lz ls 7 [some (.ref t), some (.int (nI n)), some (.long lim), none, none, none, none] := hl
  have hS : va_S (fun _ => False) H0 H0 [] := va_S.rf
  refine x_iload_n X d_F_firstPlace_0 rfl hl rfl ?_
  refine x_goR (x_runS X (C_F_totalOfNone l D A _ n hn) b_F_totalOfNone s_F_totalOfNone e_F_161 rfl hl rfl (Nat.le_of_ble_eq_true rfl) d_F_firstPlace_1 (by dsimp only [x_rm]; omega) (by dsimp only [x_rm]; omega) ⟨(by dsimp only [x_rm]; omega), (by dsimp only [x_rm]; omega)⟩) hS (fun locs hS => ?_)
  refine x_lstore X d_F_firstPlace_4 hl (by decide) rfl (fun ls hl => ?_)
  refine x_iconst (v := nI 0) X d_F_firstPlace_6 rfl ?_
  refine x_istore X d_F_firstPlace_7 hl (by decide) rfl (fun ls hl => ?_)
  generalize hPd : (fun j => decide (lim < sp_tot (nI n) ((ft_es E sp o).take (j + 1))) || (decide (sp_tot (nI n) ((ft_es E sp o).take (j + 1)) = lim) && (decide (nI n = 1) || decide (nI n = 2)))) = P
  have loop : ∀ (g i : Nat) (locs : List Loc) (ls : Array Slot), ft_zT sp o - i = g → i ≤ ft_zT sp o → sp_find P (ft_zT sp o) 0 = sp_find P g i → lz ls 7 [some (.ref t), some (.int (nI n)), some (.long lim), none, some (.long (sp_tot (nI n) ((ft_es E sp o).take i))), none, some (.int (nI i))] → va_S (fun _ => False) H0 H0 locs → W p_ l e_ (x_rm 16 0 0) s_ m_ ar_ bl_ me_ c_ H0 locs 0 0 (MQ bl_ (xQ (fun _ => False) (q1 (.int (nI (sp_find P (ft_zT sp o) 0))) (fun H1 => H1 = H0))) ar_ s_ 0 0 (fun _ => False)) (F0 m_ 9 ls []) := by
    clear hl hS
    intro g
    induction g with
    | zero =>
      intro i locs ls hg hi2 hf hl hS
      have hie : i = ft_zT sp o := by omega
      rw [hf, show sp_find P 0 i = i from rfl, hie]
      subst hie
      refine x_iload X d_F_firstPlace_9 hl rfl ?_
      refine x_aload_n X d_F_firstPlace_11 rfl hl rfl ?_
      refine x_getN X gT tO.2 4 (by decide) e_F_44 rfl d_F_firstPlace_12 ?_
      refine n_icmp_ge X 51 d_F_firstPlace_15 rfl (by omega) (by omega) (fun hc_ => ?_) (fun hc => absurd hc (by omega))
      refine x_aload_n X d_F_firstPlace_51 rfl hl rfl ?_
      refine x_getN X gT tO.2 4 (by decide) e_F_44 rfl d_F_firstPlace_52 ?_
      exact x_iret X hS (Nat.le_refl _) (Nat.le_refl _) d_F_firstPlace_55 ⟨rfl, rfl⟩
    | succ g ih =>
      intro i locs ls hg hi2 hf hl hS
      refine x_iload X d_F_firstPlace_9 hl rfl ?_
      refine x_aload_n X d_F_firstPlace_11 rfl hl rfl ?_
      refine x_getN X gT tO.2 4 (by decide) e_F_44 rfl d_F_firstPlace_12 ?_
      refine n_icmp_ge X 51 d_F_firstPlace_15 rfl (by omega) (by omega) (fun hc => absurd hc (by omega)) (fun hc_ => ?_)
      refine x_lload X d_F_firstPlace_18 hl rfl ?_
      refine x_aload_n X d_F_firstPlace_20 rfl hl rfl ?_
      refine x_iload X d_F_firstPlace_21 hl rfl ?_
      refine x_goRr (x_runVN X (C_T_entryAt l D A _ S rh E ne mm zf 0 sp o t okt hT hz i (by omega)) b_T_entryAt s_T_entryAt v_T_entryAt e_F_119 tO.2 rfl rfl hl rfl (Nat.le_of_ble_eq_true rfl) d_F_firstPlace_23 (by dsimp only [x_rm]; omega) (by dsimp only [x_rm]; omega) ⟨(by dsimp only [x_rm]; omega), (by dsimp only [x_rm]; omega)⟩) hS (fun b locs hE hS => ?_)
      obtain ⟨en, pa, q1, hI⟩ := hE
      obtain ⟨b', r, lo, hi, e1, e2, e3, -⟩ := hI
      cases e1
      have hes := ft_es_at q1 e2
      refine x_iload_n X d_F_firstPlace_26 rfl hl rfl ?_
      refine x_goR (x_runS X (C_F_totalWith l D A _ ((ft_es E sp o).take i) b r _ lo hi _ e3.2 n hn) b_F_totalWith s_F_totalWith e_F_165 rfl hl rfl (Nat.le_of_ble_eq_true rfl) d_F_firstPlace_27 (by dsimp only [x_rm]; omega) (by dsimp only [x_rm]; omega) ⟨(by dsimp only [x_rm]; omega), (by dsimp only [x_rm]; omega)⟩) hS (fun locs hS => ?_)
      rw [← sp_take1 hes]
      refine x_lstore X d_F_firstPlace_30 hl (by decide) rfl (fun ls hl => ?_)
      refine x_lload X d_F_firstPlace_32 hl rfl ?_
      refine x_iload_n X d_F_firstPlace_34 rfl hl rfl ?_
      refine x_lload_n X d_F_firstPlace_35 rfl hl rfl ?_
      refine x_goR (x_runS X (C_F_isBeyond l D A _ (sp_tot (nI n) ((ft_es E sp o).take (i + 1))) lim n hn) b_F_isBeyond s_F_isBeyond e_F_169 rfl hl rfl (Nat.le_of_ble_eq_true rfl) d_F_firstPlace_36 (by dsimp only [x_rm]; omega) (by dsimp only [x_rm]; omega) ⟨(by dsimp only [x_rm]; omega), (by dsimp only [x_rm]; omega)⟩) hS (fun locs hS => ?_)
      rw [ft_bey hn]
      have hPi : P i = (decide (lim < sp_tot (nI n) ((ft_es E sp o).take (i + 1))) || (decide (sp_tot (nI n) ((ft_es E sp o).take (i + 1)) = lim) && (decide (nI n = 1) || decide (nI n = 2)))) := by rw [← hPd]
      rw [← hPi]
      cases hc : P i with
      | true =>
        rw [show (if true = true then 1 else 0) = 1 from rfl]
        rw [hf, show sp_find P (g + 1) i = i from by unfold sp_find; rw [hc]; rfl]
        refine n_if_eq X 45 d_F_firstPlace_39 rfl (by decide) (fun hc => absurd hc (by decide)) (fun hc_ => ?_)
        refine x_iload X d_F_firstPlace_42 hl rfl ?_
        exact x_iret X hS (Nat.le_refl _) (Nat.le_refl _) d_F_firstPlace_44 ⟨rfl, rfl⟩
      | false =>
        rw [show (if false = true then 1 else 0) = 0 from rfl]
        refine n_if_eq X 45 d_F_firstPlace_39 rfl (by decide) (fun hc_ => ?_) (fun hc => absurd rfl hc)
        refine n_iinc (d := 1) X d_F_firstPlace_45 rfl hl rfl (by decide) rfl (fun ls hl => ?_)
        refine x_goto X 9 d_F_firstPlace_48 rfl ?_
        exact ih (i + 1) _ _ (by omega) (by omega) (hf.trans (show (if P i = true then i else sp_find P g (i + 1)) = _ by rw [hc]; rfl)) hl hS
  exact loop _ 0 _ _ rfl (Nat.zero_le _) rfl hl hS
