/-! The class: another entry in a tree (replace). -/
theorem z_clI : Cond.instanceMethod ⟨"java/lang/Object", "clone", "()Ljava/lang/Object;"⟩ ∈ lw_tbl := List.mem_of_getElem? (i := 397) (by decide +kernel)
theorem z_clS : Cond.selects "[LFingerSpans$Item;" ⟨"[LFingerSpans$Item;", "clone", "()Ljava/lang/Object;"⟩ ⟨"java/lang/Object", "clone", "()Ljava/lang/Object;"⟩ ∈ lw_tbl := List.mem_of_getElem? (i := 398) (by decide +kernel)
section XCL
variable {p : Program} {l : Launch} {e : Env} {R : Room} {s : State} {m : MethodId} {args : Array Value} {below : List Frame} {meth : Method} {c : Code} {H : Heap} {locs : List Loc} {cells slots : Nat} {Q : State → Prop}
variable {cc : ByteArray} {nL : Nat} {own : String} {ret : Option FieldType} {D : va_G} {A : Nat → ClassId} {H0 : Heap} {pc : Nat} {ls : Array Slot} {rest : List Value} {S : Nat → Prop} {L : List (Option Value)}
theorem x_nmI (X : xx p s m args meth c cc nL own ret D A H0) : s.vm.findClass "[LFingerSpans$Item;" = some (A 3) := by
  obtain ⟨_, _, _, _, _, e1⟩ := (X.2.2.2.2.2.2.1.2 3 (A 3, .object R_I) rfl).2
  rw [← e1]
  congr 1
/-- a row's copy, where nothing but the rules' object u has been written yet -/
theorem x_clone {rh : Nat → Nat} {E : ft_E} (X : xx p s m args meth c cc nL R_U ret D A H0) {as : List Nat} {r u nn em md : Nat} (hr : cRw D A S as r H0) (hU : cUs D A S rh E u nn em md H0) (hS : va_S (xA (fun q => q = u) H0) H0 H0 locs) (hSb : ∀ q, S q → q < H0.size) (hl : lz ls nL L) (hframes : 1 ≤ R.frames) (hlocals : (rest.map fun v => v.category).sum + 14 ≤ R.locals) (hcells : cells + 1 ≤ R.cells) (hslots : slots + as.length ≤ R.slots) (hdg : decode cc pc = .ok (.invokevirtual 175, 3))
    (kk : ∀ (o : Nat) (H1 : Heap), H0.size ≤ o → va_at D vwCl (o, cArr A 3 as.length (fun i => as[i]?)) H1 → cUs D A (fun q => S q ∨ q = o) rh E u nn em md H1 → cTr S (fun q => S q ∨ q = o) H0 H1 → va_S (xA (fun q => q = u) H0) H0 H1 locs → (∀ q, S q ∨ q = o → q < H1.size) → W p l e R s m args below meth c H1 locs (cells + 1) (slots + as.length) Q (F0 m (pc + 3) ls (.ref o :: rest))) : W p l e R s m args below meth c H0 locs cells slots Q (F0 m pc ls (.ref r :: rest)) := by
  have hru : r ≠ u := fun h => hr.1 (by show S r; rw [h]; exact hU.2.2.2)
  have hP : va_P D vwCl [(r, cArr A 3 as.length (fun i => as[i]?)), (u, .inr (2, [.ref nn, .ref em, .int (nI md)]))] H0 := fun k x hk => by
    match k, hk with
    | 0, hk => cases hk; exact hr.2
    | 1, hk => cases hk; exact hU.1
    | k + 2, hk => simp at hk
  have hD : va_D (fun q => q = r ∨ xA (fun q => q = u) H0 q) [(r, cArr A 3 as.length (fun i => as[i]?)), (u, .inr (2, [.ref nn, .ref em, .int (nI md)]))] := by
    refine ⟨fun i j x y hx hy hxy => ?_, fun k x hk => ?_⟩
    · match i, j, hx, hy with
      | 0, 0, _, _ => rfl
      | 1, 1, _, _ => rfl
      | 0, 1, hx, hy => cases hx; cases hy; exact absurd hxy hru
      | 1, 0, hx, hy => cases hx; cases hy; exact absurd hxy.symm hru
      | i + 2, _, hx, _ => simp at hx
      | 0, j + 2, _, hy => simp at hy
      | 1, j + 2, _, hy => simp at hy
    · match k, hk with
      | 0, hk => cases hk; exact Or.inl rfl
      | 1, hk => cases hk; exact Or.inr (Or.inl rfl)
      | k + 2, hk => simp at hk
  refine va_clone (ad := "[LFingerSpans$Item;") (H0 := H0) X.1 X.2.1 (by rw [X.2.2.1]; exact hl.1.symm) X.2.2.2.1 (x_word X e_U_175 rfl) (x_word X z_sameMethod rfl) (x_word X z_native rfl) (x_word X z_clI rfl) (x_word X z_clS rfl) (va_Nw.of rfl (x_word X z_castable rfl)) X.2.2.2.2.2.2.1 hP hD ⟨hS.1, fun q h1 h2 => hS.2.1 q h1 (fun h3 => h2 (Or.inr h3)), fun q hq => Or.inr (hS.2.2 q hq)⟩ (fun q h => Or.inr (Or.inr h)) 0 3 rfl rfl (x_nmI X) ?_ hframes hlocals hcells hslots hdg (fun q H1 _ h1 h2 h3 => ?_)
  · rw [vp_cell_q]
    intro i v hv
    refine va_fit (fun j _ => ?_) i v hv
    show fits (.object R_I) (va_rf (as[j]?)) = true
    cases as[j]? <;> rfl
  · have hqr : q ≠ r := fun h => absurd (h2.1 2 0 _ _ rfl rfl h) (by decide)
    have hqu : q ≠ u := fun h => absurd (h2.1 2 1 _ _ rfl rfl h) (by decide)
    have hq0 : H0.size ≤ q := by
      rcases h2.2 2 _ rfl with h | h | h
      · exact absurd h hqr
      · exact absurd h hqu
      · exact h
    have hr1 : H1[r]? = H0[r]? := (h1 0 _ rfl).trans hr.2.symm
    have t : cTr S (fun x => S x ∨ x = q) H0 H1 := fun x h4 h5 => ⟨by
      by_cases hx : x = r
      · rw [hx]; exact hr1
      · refine h3.2.1 x h4 (fun h6 => ?_)
        rcases h6 with h6 | h6 | h6
        · exact hx h6
        · exact h5 (by rw [h6]; exact hU.2.2.2)
        · omega, fun h6 => by
      rcases h6 with h6 | h6
      · exact h5 h6
      · omega⟩
    refine kk q H1 hq0 (h1 2 _ rfl) ⟨h1 1 _ rfl, hU.2.1.tr t, hU.2.2.1.tr t (fun _ _ h => h), Or.inl hU.2.2.2⟩ t ⟨h3.1, fun x h4 h5 => ?_, hS.2.2⟩ (fun x h => ?_)
    · by_cases hx : x = r
      · rw [hx]; exact hr1
      · exact h3.2.1 x h4 (fun h6 => by
          rcases h6 with h6 | h6
          · exact hx h6
          · exact h5 h6)
    · rcases h with h | h
      · exact Nat.lt_of_lt_of_le (hSb x h) h3.1
      · rw [h]; exact c_lt (h1 2 _ rfl)
theorem x_castA (X : xx p s m args meth c cc nL R_U ret D A H0) {o n : Nat} {f : Nat → Option Nat} (ho : va_at D vwCl (o, cArr A 3 n f) H) (hdg : decode cc pc = .ok (.checkcast 176, 3)) (kk : W p l e R s m args below meth c H locs cells slots Q (F0 m (pc + 3) ls (.ref o :: rest))) : W p l e R s m args below meth c H locs cells slots Q (F0 m pc ls (.ref o :: rest)) :=
  va_castA X.1 X.2.1 X.2.2.2.1 (x_word X e_U_176 rfl) (va_P1 ho) 0 rfl (x_nmI X) hdg kk
theorem c_set (as : List Nat) (b i : Nat) (h : i < as.length) : va_up (fun x => as[x]?) i (some b) = fun x => (as.set i b)[x]? := funext fun x => by
  unfold va_up
  by_cases e : x = i
  · subst e; simp [h]
  · rw [if_neg e, List.getElem?_set_ne (fun h => e h.symm)]
end XCL
set_option maxRecDepth 100000 in
set_option maxHeartbeats 4000000 in
theorem C_U_rowWithEntry (l : Launch) (D : va_G) (A : Nat → ClassId) (H0 : Heap) (S : Nat → Prop) (rh : Nat → Nat) (E : ft_E) (ne : Nat) (c0 : ft_C) (u nn em md : Nat) (hU : cUs D A S rh E u nn em md H0) (hSb : ∀ q, S q → q < H0.size) (k : Nat) (hrh : ∀ i, 1 ≤ i → i ≤ k → rh (c0.1 + i) = md + (k + 1 - i)) (lr1 : List ft_I) (as1 : List Nat) (r1 : Nat) (ok1 : ft_okR ne c0.1 c0.2 k lr1) (hr1 : cRw D A S as1 r1 H0) (hL1 : cL D A S rh E lr1 as1 H0) (h91 : lr1.length < 64) (hz1 : ft_zR lr1 < 4096) (h4 : 1 ≤ lr1.length ∧ lr1.length ≤ 4) (hz64 : ft_zR lr1 < 64) (p : Nat) (hp : p < ft_zR lr1) (y : ft_I) (ya : Nat) (oky : ft_ok ne c0.1 c0.2 0 y) (hy : cI D A S rh E y [ya] H0) : xC l y_U_rowWithEntry c_U_rowWithEntry 7 (some (.array (.object "FingerSpans$Item"))) (k + 4) D A H0 [.ref u, .ref r1, .int (nI p), .ref ya] (xA (fun q => q = u) H0) (qr (fun q H1 => ∃ bs, cNR D A bs q H0 H1 ∧ cL D A S rh E (ft_rR k lr1 p y c0).1 bs H1 ∧ cUs D A S rh E u nn em (md + k) H1)) (2 * k + 1) (12 * k + 4) := by
  induction k generalizing H0 S c0 lr1 as1 r1 p ya with
  | zero =>
    have hlen := cL_len hL1
    have hlt := ft_ix_lt (l := lr1) p (by omega)
    have hsp := ft_ix_sp (l := lr1) (p := p) hp
    have hC := C_R_indexOf l D A H0 S rh E ne c0.1 c0.2 0 lr1 as1 r1 ok1 hr1 hL1 h91 hz1 (by omega) p (by omega)
    unfold ft_rR
    generalize ft_ix lr1 p = ix at hlt hsp hC
    obtain ⟨b, hb, okb, hbx⟩ := cL_at ok1 hL1 (i := ix) hlt
    obtain ⟨ynu, ylo, yhi, yr, ybs, y1, -⟩ := cI_has oky hy
    obtain ⟨nu, lo, hi, pr, pbs, v1, v2, v3, -⟩ := cI_has okb hbx
    refine xC.of rfl (Nat.le_of_ble_eq_true rfl) ?_
    intro p_ e_ s_ m_ ar_ bl_ me_ c_ ls X hl
    have hl : lz ls 7 [some (.ref u), some (.ref r1), some (.int (nI p)), some (.ref ya), none, none, none] := hl
    have hS : va_S (xA (fun q => q = u) H0) H0 H0 [] := va_S.rf
    have hSu : S u := hU.2.2.2
    refine x_aload_n X d_U_rowWithEntry_0 rfl hl rfl ?_
    refine x_iload_n X d_U_rowWithEntry_1 rfl hl rfl ?_
    refine x_goR (x_runSN X (hC) b_R_indexOf s_R_indexOf e_U_135 rfl hl rfl (Nat.le_of_ble_eq_true rfl) d_U_rowWithEntry_2 (by dsimp only [x_rm]; omega) (by dsimp only [x_rm]; omega) ⟨(by dsimp only [x_rm]; omega), (by dsimp only [x_rm]; omega)⟩) hS (fun locs hS => ?_)
    refine x_istore X d_U_rowWithEntry_5 hl (by decide) rfl (fun ls hl => ?_)
    refine x_aload_n X d_U_rowWithEntry_7 rfl hl rfl ?_
    have zz := hS.1
    refine x_clone X hr1 hU hS hSb hl (by dsimp only [x_rm]; omega) (by show 0 + _ ≤ _; dsimp only [x_rm]; omega) (by dsimp only [x_rm]; omega) (by dsimp only [x_rm]; omega) d_U_rowWithEntry_8 (fun cp G1 h_cp hQ hU1 t_cp hS sb_ => ?_)
    have no_cp : ¬ S cp := c_ub hSb h_cp
    have n_cp_u : ¬ cp = u := Nat.ne_of_gt (Nat.lt_of_lt_of_le (c_lt hU.1) h_cp)
    have n_u_cp : ¬ u = cp := Nat.ne_of_lt (Nat.lt_of_lt_of_le (c_lt hU.1) h_cp)
    have hr1 := hr1.tr t_cp
    have hL1 := hL1.tr t_cp (fun _ _ h => h)
    have hy := hy.tr t_cp (fun _ _ h => h)
    have y1 := y1.tr t_cp
    have v1 := v1.tr t_cp
    have v2 := v2.tr t_cp
    have v3 := v3.tr t_cp (fun _ _ h => h)
    have hbx := hbx.tr t_cp (fun _ _ h => h)
    have hU := hU1
    have hSb : ∀ q, S q ∨ q = cp → q < G1.size := sb_
    have z_cp : H0.size ≤ cp := h_cp
    refine x_castA X hQ d_U_rowWithEntry_11 ?_
    refine x_astore X d_U_rowWithEntry_14 hl (by decide) rfl (fun ls hl => ?_)
    refine x_aload X d_U_rowWithEntry_16 hl rfl ?_
    refine x_iload X d_U_rowWithEntry_18 hl rfl ?_
    refine x_aload_n X d_U_rowWithEntry_20 rfl hl rfl ?_
    refine x_aastX X hQ y1.2 (i := ix) (by omega) (by omega) d_U_rowWithEntry_21 (fun G2 hQ hF2 => ?_)
    have hS := hS.wr (i := ix) hF2 (Or.inr z_cp)
    rw [c_set as1 ya ix (by omega)] at hQ
    have t_ : cTr (fun q => S q ∨ q = cp) (fun q => S q ∨ q = cp) G1 G2 := fun q _ h => ⟨hF2.2 q ‹_› (fun e => h (Or.inr e)), h⟩
    have hr1 := hr1.tr t_
    have hL1 := hL1.tr t_ (fun _ _ h => h)
    have hy := hy.tr t_ (fun _ _ h => h)
    have y1 := y1.tr t_
    have v1 := v1.tr t_
    have v2 := v2.tr t_
    have v3 := v3.tr t_ (fun _ _ h => h)
    have hbx := hbx.tr t_ (fun _ _ h => h)
    have hU := hU.mv t_ hF2 n_u_cp (by first | exact hSu | exact Or.inl hSu | exact Or.inl (Or.inl hSu))
    have hSb := c_sb hSb hF2.1
    refine x_aload_n X d_U_rowWithEntry_22 rfl hl rfl ?_
    refine x_iload X d_U_rowWithEntry_23 hl rfl ?_
    refine x_aald X hr1 hb (by omega) d_U_rowWithEntry_25 ?_
    refine x_goR (x_runVN X (C_I_isNode l D A _ (fun q => S q ∨ q = cp) rh E ne c0.1 c0.2 0 _ b okb hbx) b_I_isNode s_I_isNode v_I_isNode e_U_180 v1.2 rfl rfl hl rfl (Nat.le_of_ble_eq_true rfl) d_U_rowWithEntry_26 (by dsimp only [x_rm]; omega) (by dsimp only [x_rm]; omega) ⟨(by dsimp only [x_rm]; omega), (by dsimp only [x_rm]; omega)⟩) hS (fun locs hS => ?_)
    rw [show (if (0 : Nat) = 0 then 0 else 1) = 0 from rfl]
    refine n_if_eq X 65 d_U_rowWithEntry_29 rfl (by decide) (fun hc => ?_) (fun hc => absurd rfl hc)
    refine x_aload X d_U_rowWithEntry_65 hl rfl ?_
    have t_ : cTr (fun q => S q ∨ q = cp) S G2 G2 := cTr.dn
    have hln : (as1.set ix ya).length = as1.length := List.length_set ..
    rw [← hln] at hQ
    exact x_aret X (Or.inr ⟨_, rfl⟩) hS (by omega) (by omega) d_U_rowWithEntry_67 ⟨_, rfl, as1.set ix ya, ⟨z_cp, hQ⟩, cL_set (hL1.tr t_ (fun _ _ h => h)) (hy.tr t_ (fun _ _ h => h)), hU.1, hU.2.1.tr t_, hU.2.2.1.tr t_ (fun _ _ h => h), hSu⟩
  | succ k ih =>
    have hlen := cL_len hL1
    have hlt := ft_ix_lt (l := lr1) p (by omega)
    have hsp := ft_ix_sp (l := lr1) (p := p) hp
    have hC := C_R_indexOf l D A H0 S rh E ne c0.1 c0.2 (k + 1) lr1 as1 r1 ok1 hr1 hL1 h91 hz1 (by omega) p (by omega)
    unfold ft_rR
    generalize ft_ix lr1 p = ix at hlt hsp hC
    obtain ⟨b, hb, okb, hbx⟩ := cL_at ok1 hL1 (i := ix) hlt
    obtain ⟨ynu, ylo, yhi, yr, ybs, y1, -⟩ := cI_has oky hy
    obtain ⟨nu, lo, hi, pr, pbs, v1, v2, v3, -⟩ := cI_has okb hbx
    refine xC.of rfl (Nat.le_of_ble_eq_true rfl) ?_
    intro p_ e_ s_ m_ ar_ bl_ me_ c_ ls X hl
    have hl : lz ls 7 [some (.ref u), some (.ref r1), some (.int (nI p)), some (.ref ya), none, none, none] := hl
    have hS : va_S (xA (fun q => q = u) H0) H0 H0 [] := va_S.rf
    have hSu : S u := hU.2.2.2
    refine x_aload_n X d_U_rowWithEntry_0 rfl hl rfl ?_
    refine x_iload_n X d_U_rowWithEntry_1 rfl hl rfl ?_
    refine x_goR (x_runSN X (hC) b_R_indexOf s_R_indexOf e_U_135 rfl hl rfl (Nat.le_of_ble_eq_true rfl) d_U_rowWithEntry_2 (by dsimp only [x_rm]; omega) (by dsimp only [x_rm]; omega) ⟨(by dsimp only [x_rm]; omega), (by dsimp only [x_rm]; omega)⟩) hS (fun locs hS => ?_)
    refine x_istore X d_U_rowWithEntry_5 hl (by decide) rfl (fun ls hl => ?_)
    refine x_aload_n X d_U_rowWithEntry_7 rfl hl rfl ?_
    have zz := hS.1
    refine x_clone X hr1 hU hS hSb hl (by dsimp only [x_rm]; omega) (by show 0 + _ ≤ _; dsimp only [x_rm]; omega) (by dsimp only [x_rm]; omega) (by dsimp only [x_rm]; omega) d_U_rowWithEntry_8 (fun cp G1 h_cp hQ hU1 t_cp hS sb_ => ?_)
    have no_cp : ¬ S cp := c_ub hSb h_cp
    have n_cp_u : ¬ cp = u := Nat.ne_of_gt (Nat.lt_of_lt_of_le (c_lt hU.1) h_cp)
    have n_u_cp : ¬ u = cp := Nat.ne_of_lt (Nat.lt_of_lt_of_le (c_lt hU.1) h_cp)
    have hr1 := hr1.tr t_cp
    have hL1 := hL1.tr t_cp (fun _ _ h => h)
    have hy := hy.tr t_cp (fun _ _ h => h)
    have y1 := y1.tr t_cp
    have v1 := v1.tr t_cp
    have v2 := v2.tr t_cp
    have v3 := v3.tr t_cp (fun _ _ h => h)
    have hbx := hbx.tr t_cp (fun _ _ h => h)
    have hU := hU1
    have hSb : ∀ q, S q ∨ q = cp → q < G1.size := sb_
    have z_cp : H0.size ≤ cp := h_cp
    refine x_castA X hQ d_U_rowWithEntry_11 ?_
    refine x_astore X d_U_rowWithEntry_14 hl (by decide) rfl (fun ls hl => ?_)
    refine x_aload X d_U_rowWithEntry_16 hl rfl ?_
    refine x_iload X d_U_rowWithEntry_18 hl rfl ?_
    refine x_aload_n X d_U_rowWithEntry_20 rfl hl rfl ?_
    refine x_aastX X hQ y1.2 (i := ix) (by omega) (by omega) d_U_rowWithEntry_21 (fun G2 hQ hF2 => ?_)
    have hS := hS.wr (i := ix) hF2 (Or.inr z_cp)
    rw [c_set as1 ya ix (by omega)] at hQ
    have t_ : cTr (fun q => S q ∨ q = cp) (fun q => S q ∨ q = cp) G1 G2 := fun q _ h => ⟨hF2.2 q ‹_› (fun e => h (Or.inr e)), h⟩
    have hr1 := hr1.tr t_
    have hL1 := hL1.tr t_ (fun _ _ h => h)
    have hy := hy.tr t_ (fun _ _ h => h)
    have y1 := y1.tr t_
    have v1 := v1.tr t_
    have v2 := v2.tr t_
    have v3 := v3.tr t_ (fun _ _ h => h)
    have hbx := hbx.tr t_ (fun _ _ h => h)
    have hU := hU.mv t_ hF2 n_u_cp (by first | exact hSu | exact Or.inl hSu | exact Or.inl (Or.inl hSu))
    have hSb := c_sb hSb hF2.1
    refine x_aload_n X d_U_rowWithEntry_22 rfl hl rfl ?_
    refine x_iload X d_U_rowWithEntry_23 hl rfl ?_
    refine x_aald X hr1 hb (by omega) d_U_rowWithEntry_25 ?_
    refine x_goR (x_runVN X (C_I_isNode l D A _ (fun q => S q ∨ q = cp) rh E ne c0.1 c0.2 (k + 1) _ b okb hbx) b_I_isNode s_I_isNode v_I_isNode e_U_180 v1.2 rfl rfl hl rfl (Nat.le_of_ble_eq_true rfl) d_U_rowWithEntry_26 (by dsimp only [x_rm]; omega) (by dsimp only [x_rm]; omega) ⟨(by dsimp only [x_rm]; omega), (by dsimp only [x_rm]; omega)⟩) hS (fun locs hS => ?_)
    rw [show (if k + 1 = 0 then 0 else 1) = 1 from rfl]
    refine n_if_eq X 65 d_U_rowWithEntry_29 rfl (by decide) (fun hc => absurd hc (by decide)) (fun hc => ?_)
    refine x_iload_n X d_U_rowWithEntry_32 rfl hl rfl ?_
    refine x_aload_n X d_U_rowWithEntry_33 rfl hl rfl ?_
    refine x_iload X d_U_rowWithEntry_34 hl rfl ?_
    obtain ⟨p1, p2, p3, p4⟩ := ft_okR_ps okb
    have htg := ft_zR_tg lr1 hlt
    have hup := ft_ex_up c0 (ft_z (lr1.getD ix ft_no))
    obtain ⟨rr, hrr⟩ : ∃ r, ft_rR k (ft_ps (lr1.getD ix ft_no)) (p - ft_zR (lr1.take ix)) y (c0.1 + 1, va_up c0.2 (c0.1 + 1) (ft_z (lr1.getD ix ft_no))) = r := ⟨_, rfl⟩
    have hrp : ft_rp (k + 1) (lr1.getD ix ft_no) (p - ft_zR (lr1.take ix)) y c0 = (ft_nd (c0.1 + 1) rr.1, rr.2) := by rw [← hrr]; rfl
    have hro := ft_rR_ok (c := (c0.1 + 1, va_up c0.2 (c0.1 + 1) (ft_z (lr1.getD ix ft_no)))) (p := p - ft_zR (lr1.take ix)) (ft_ok_ex hup oky) (ft_okR_ex hup p1) (by omega) (by omega)
    rw [hrr] at hro
    obtain ⟨w1, w2, w3, w4, w5⟩ := hro
    rw [hrp]
    refine x_goR (x_runSN X (C_R_entriesBefore l D A _ (fun q => S q ∨ q = cp) rh E ne c0.1 c0.2 (k + 1) lr1 as1 r1 ok1 hr1 hL1 h91 hz1 ix (by omega)) b_R_entriesBefore s_R_entriesBefore e_U_183 rfl hl rfl (Nat.le_of_ble_eq_true rfl) d_U_rowWithEntry_36 (by dsimp only [x_rm]; omega) (by dsimp only [x_rm]; omega) ⟨(by dsimp only [x_rm]; omega), (by dsimp only [x_rm]; omega)⟩) hS (fun locs hS => ?_)
    refine n_isub X d_U_rowWithEntry_39 (by omega) ?_
    refine x_istore X d_U_rowWithEntry_40 hl (by decide) rfl (fun ls hl => ?_)
    refine x_aload X d_U_rowWithEntry_42 hl rfl ?_
    refine x_iload X d_U_rowWithEntry_44 hl rfl ?_
    refine x_aload_n X d_U_rowWithEntry_46 rfl hl rfl ?_
    refine x_aload_n X d_U_rowWithEntry_47 rfl hl rfl ?_
    refine x_aload_n X d_U_rowWithEntry_48 rfl hl rfl ?_
    refine x_iload X d_U_rowWithEntry_49 hl rfl ?_
    refine x_aald X hr1 hb (by omega) d_U_rowWithEntry_51 ?_
    refine x_getN X gI v1.2 3 (by decide) e_U_97 rfl d_U_rowWithEntry_52 ?_
    refine x_iload X d_U_rowWithEntry_55 hl rfl ?_
    refine x_aload_n X d_U_rowWithEntry_57 rfl hl rfl ?_
    refine x_gor (x_runV X (ih (H0 := G2) (S := (fun q => S q ∨ q = cp)) (c0 := (c0.1 + 1, va_up c0.2 (c0.1 + 1) (ft_z (lr1.getD ix ft_no)))) hU hSb (fun i h1 h2 => by have := hrh (i + 1) (by omega) (by omega); dsimp only; rw [show c0.1 + 1 + i = c0.1 + (i + 1) from by omega, this]; omega) (ft_ps (lr1.getD ix ft_no)) pbs pr (ft_okR_ex hup p1) v2 v3 (by omega) (by omega) ⟨by omega, by omega⟩ (by omega) (p - ft_zR (lr1.take ix)) (by omega) ya (ft_ok_ex hup oky) hy) b_U_rowWithEntry s_U_rowWithEntry v_U_rowWithEntry e_U_167 hU.1 rfl rfl hl rfl (Nat.le_of_ble_eq_true rfl) d_U_rowWithEntry_58 (by dsimp only [x_rm]; omega) (by dsimp only [x_rm]; omega) ⟨(by dsimp only [x_rm]; omega), (by dsimp only [x_rm]; omega)⟩) hS (xA.mono (fun _ h => h) hS.1) (fun nr G3 locs hN hF3 hS => ?_)
    rw [hrr] at hN
    obtain ⟨nb, hn1, hn2, hUn⟩ := hN
    have hn1 := hn1.rw hSb
    have t_ : cTr (fun q => S q ∨ q = cp) (fun q => S q ∨ q = cp) G2 G3 := cTr.fr hF3 (fun q h => by rw [h]; exact hU.2.2.2)
    have hQ := hF3.kp hQ (xA.no (c_lt hQ) n_cp_u)
    have hr1 := hr1.tr t_
    have hL1 := hL1.tr t_ (fun _ _ h => h)
    have hy := hy.tr t_ (fun _ _ h => h)
    have y1 := y1.tr t_
    have v1 := v1.tr t_
    have v2 := v2.tr t_
    have v3 := v3.tr t_ (fun _ _ h => h)
    have hbx := hbx.tr t_ (fun _ _ h => h)
    have hU := hUn
    have hSb := c_sb hSb hF3.1
    refine x_gor (x_runV X (C_U_node l D A _ (fun q => S q ∨ q = cp) rh E ne rr.2.1 rr.2.2 u nn em (md + k) hU hSb k rr.1 nb nr w2 hn1 hn2 (by omega) (by omega) (c0.1 + 1) (by rw [hrh 1 (by omega) (by omega)]; omega)) b_U_node s_U_node v_U_node e_U_67 hU.1 rfl rfl hl rfl (Nat.le_of_ble_eq_true rfl) d_U_rowWithEntry_61 (by dsimp only [x_rm]; omega) (by dsimp only [x_rm]; omega) ⟨(by dsimp only [x_rm]; omega), (by dsimp only [x_rm]; omega)⟩) hS (xA.mono (fun _ h => h) hS.1) (fun nd G4 locs hM hF4 hS => ?_)
    have t_ : cTr (fun q => S q ∨ q = cp) (fun q => S q ∨ q = cp) G3 G4 := cTr.fr hF4 (fun q h => by rw [h]; exact hU.2.2.2)
    have hQ := hF4.kp hQ (xA.no (c_lt hQ) n_cp_u)
    have hr1 := hr1.tr t_
    have hL1 := hL1.tr t_ (fun _ _ h => h)
    have hy := hy.tr t_ (fun _ _ h => h)
    have y1 := y1.tr t_
    have v1 := v1.tr t_
    have v2 := v2.tr t_
    have v3 := v3.tr t_ (fun _ _ h => h)
    have hbx := hbx.tr t_ (fun _ _ h => h)
    have hn1 := hn1.tr t_
    have hn2 := hn2.tr t_ (fun _ _ h => h)
    have hU := hM.2.2
    have hSb := c_sb hSb hF4.1
    have hnI := hM.2.1
    have okn := (ft_rp_ok (k + 1) (lr1.getD ix ft_no) (p - ft_zR (lr1.take ix)) c0 oky okb (by omega)).2.1
    rw [hrp] at okn
    dsimp only at okn
    obtain ⟨nnu, nlo, nhi, npr, npb, n1, -⟩ := cI_has okn hnI
    refine x_aastX X hQ n1.2 (i := ix) (by omega) (by omega) d_U_rowWithEntry_64 (fun G5 hQ hF5 => ?_)
    have hS := hS.wr (i := ix) hF5 (Or.inr z_cp)
    rw [c_set (as1.set ix ya) nd ix (by rw [List.length_set]; omega)] at hQ
    have t_ : cTr (fun q => S q ∨ q = cp) (fun q => S q ∨ q = cp) G4 G5 := fun q _ h => ⟨hF5.2 q ‹_› (fun e => h (Or.inr e)), h⟩
    have hr1 := hr1.tr t_
    have hL1 := hL1.tr t_ (fun _ _ h => h)
    have hy := hy.tr t_ (fun _ _ h => h)
    have y1 := y1.tr t_
    have v1 := v1.tr t_
    have v2 := v2.tr t_
    have v3 := v3.tr t_ (fun _ _ h => h)
    have hbx := hbx.tr t_ (fun _ _ h => h)
    have hnI := hnI.tr t_ (fun _ _ h => h)
    have n1 := n1.tr t_
    have hU := hU.mv t_ hF5 n_u_cp (by first | exact hSu | exact Or.inl hSu | exact Or.inl (Or.inl hSu))
    have hSb := c_sb hSb hF5.1
    refine x_aload X d_U_rowWithEntry_65 hl rfl ?_
    have t_ : cTr (fun q => S q ∨ q = cp) S G5 G5 := cTr.dn
    have hln : ((as1.set ix ya).set ix nd).length = as1.length := by rw [List.length_set, List.length_set]
    rw [← hln] at hQ
    exact x_aret X (Or.inr ⟨_, rfl⟩) hS (by omega) (by omega) d_U_rowWithEntry_67 ⟨_, rfl, (as1.set ix ya).set ix nd, ⟨z_cp, hQ⟩, by rw [List.set_set]; exact cL_set (hL1.tr t_ (fun _ _ h => h)) (hnI.tr t_ (fun _ _ h => h)), hU.1, hU.2.1.tr t_, hU.2.2.1.tr t_ (fun _ _ h => h), hSu⟩
