/-! The class: reads of trees. -/
section XN
variable {p : Program} {l : Launch} {e : Env} {R : Room} {s : State} {m : MethodId} {args : Array Value} {below : List Frame} {meth : Method} {c : Code} {H : Heap} {locs : List Loc} {cells slots : Nat} {Q : State → Prop}
variable {cc : ByteArray} {nL : Nat} {own : String} {ret : Option FieldType} {D : va_G} {A : Nat → ClassId} {H0 : Heap} {pc : Nat} {ls : Array Slot} {rest : List Value} {L : List (Option Value)} {fr : Nat → Prop} {ws : va_W}
theorem x_ifnull (X : xx p s m args meth c cc nL own ret D A H0) {x : Nat} {off : Int} (hdg : decode cc pc = .ok (.ifnull off, 3)) (kk : W p l e R s m args below meth c H locs cells slots Q (F0 m (pc + 3) ls rest)) : W p l e R s m args below meth c H locs cells slots Q (F0 m pc ls (.ref x :: rest)) := lv_ifnull X.1 X.2.1 hdg kk
theorem x_ifnullN (X : xx p s m args meth c cc nL own ret D A H0) {off : Int} (tgt : Nat) (hdg : decode cc pc = .ok (.ifnull off, 3)) (ht : (pc : Int) + off = (tgt : Int)) (kk : W p l e R s m args below meth c H locs cells slots Q (F0 m tgt ls rest)) : W p l e R s m args below meth c H locs cells slots Q (F0 m pc ls (.null :: rest)) := lv_ifnullN X.1 X.2.1 hdg ht kk
theorem x_ifnonnull (X : xx p s m args meth c cc nL own ret D A H0) {x : Nat} {off : Int} (tgt : Nat) (hdg : decode cc pc = .ok (.ifnonnull off, 3)) (ht : (pc : Int) + off = (tgt : Int)) (kk : W p l e R s m args below meth c H locs cells slots Q (F0 m tgt ls rest)) : W p l e R s m args below meth c H locs cells slots Q (F0 m pc ls (.ref x :: rest)) := lv_ifnonnull X.1 X.2.1 hdg ht kk
theorem x_ifnonnullN (X : xx p s m args meth c cc nL own ret D A H0) {off : Int} (hdg : decode cc pc = .ok (.ifnonnull off, 3)) (kk : W p l e R s m args below meth c H locs cells slots Q (F0 m (pc + 3) ls rest)) : W p l e R s m args below meth c H locs cells slots Q (F0 m pc ls (.null :: rest)) := lv_ifnonnullN X.1 X.2.1 hdg kk
/-- a read that gives a cell: the heap stays -/
theorem x_goRr {P : Nat → Prop} {st : List Value} {a : Array Value} (hr : va_Run p l e R s m args below meth c H locs cells slots 0 0 (F0 m pc ls st) rest (xQ (fun _ => False) (qr (fun b H1 => H1 = H ∧ P b)) a) (fun _ => False)) (hS : va_S fr H0 H locs)
    (kk : ∀ (b : Nat) (locs1 : List Loc), P b → va_S fr H0 H locs1 → W p l e R s m args below meth c H locs1 cells slots Q (F0 m (pc + 3) ls (.ref b :: rest))) : W p l e R s m args below meth c H locs cells slots Q (F0 m pc ls st) :=
  x_gor hr hS (fun _ h => h.elim) (fun r H1 locs1 hp hf hS2 => by obtain ⟨rfl, hp⟩ := hp; exact kk r locs1 hp hS2)
end XN
section CT2
variable {D : va_G} {A : Nat → ClassId} {S : Nat → Prop} {rh : Nat → Nat} {E : ft_E} {H : Heap}
/-- the object of a tree -/
theorem cT_obj {sp : ft_S} {o : Option ft_I} {a : Nat} (h : cT D A S rh E sp o a H) : ∃ (l r : Nat) (mv : Value) (rs : Int32), cAt D S (a, .inr (3, [.ref l, mv, .ref r, .int rs, .int (nI (ft_zT sp o))])) H := by
  cases sp with
  | nil =>
    obtain ⟨l, r, as, h1, _⟩ := h
    exact ⟨l, r, _, _, h1⟩
  | cons d sp =>
    obtain ⟨l, m, r, as, bs, h1, _⟩ := h
    exact ⟨l, r, _, _, h1⟩
end CT2
/-- whether a tree is deep; where the middle begins; where the right row; whether a place is in the middle -/
def ft_de : ft_S → Nat
  | [] => 0
  | _ :: _ => 1
def ft_ms : ft_S → Option ft_I → Nat
  | [], o => ft_zT [] o
  | d :: _, _ => ft_zR d.1
def ft_rs : ft_S → Option ft_I → Nat
  | [], o => ft_zT [] o
  | d :: sp, o => ft_zR d.1 + ft_zT sp o
def ft_hm (sp : ft_S) (o : Option ft_I) (p : Nat) : Nat := if ft_ms sp o ≤ p ∧ p < ft_rs sp o then 1 else 0
set_option maxRecDepth 100000 in
set_option maxHeartbeats 4000000 in
theorem C_T_isEmpty (l : Launch) (D : va_G) (A : Nat → ClassId) (H0 : Heap) (S : Nat → Prop) (rh : Nat → Nat) (E : ft_E) (ne mm : Nat) (zf : Nat → Nat) (k : Nat) (sp : ft_S) (o : Option ft_I) (a : Nat) (ok : ft_okT ne mm zf k sp o) (hT : cT D A S rh E sp o a H0) (hz : ft_zT sp o < 64) : xC l y_T_isEmpty c_T_isEmpty 1 (some .boolean) 0 D A H0 [.ref a] (fun _ => False) (q1 (.int (nI (if ft_em sp o then 1 else 0))) (fun H1 => H1 = H0)) 0 0 := by
  refine xC.of rfl (Nat.le_of_ble_eq_true rfl) ?_
  intro p_ e_ s_ m_ ar_ bl_ me_ c_ ls X hl
  have hl : lz ls 1 [some (.ref a)] := hl
  have hS : va_S (fun _ => False) H0 H0 [] := va_S.rf
  refine x_aload_n X d_T_isEmpty_0 rfl hl rfl ?_
  cases sp with
  | nil =>
    obtain ⟨lc, rc, as, t1, t2, t3, t4⟩ := hT
    have hlen := cL_len t4
    refine x_get X gT t1.2 0 (by decide) e_T_7 rfl d_T_isEmpty_1 ?_
    refine x_alen X t2 d_T_isEmpty_4 ?_
    cases o with
    | none =>
      have hlen : as.length = 0 := hlen
      rw [hlen]
      refine n_if_ne X 12 d_T_isEmpty_5 rfl (by decide) (fun hc => absurd rfl hc) (fun hc => ?_)
      refine x_iconst (v := nI 1) X d_T_isEmpty_8 rfl ?_
      refine x_goto X 13 d_T_isEmpty_9 rfl ?_
      exact x_zret X hS (Nat.le_refl _) (Nat.le_refl _) d_T_isEmpty_13 rfl ⟨rfl, rfl⟩
    | some x =>
      have hlen : as.length = 1 := hlen
      rw [hlen]
      refine n_if_ne X 12 d_T_isEmpty_5 rfl (by decide) (fun hc => ?_) (fun hc => absurd hc (by decide))
      refine x_iconst (v := nI 0) X d_T_isEmpty_12 rfl ?_
      exact x_zret X hS (Nat.le_refl _) (Nat.le_refl _) d_T_isEmpty_13 rfl ⟨rfl, rfl⟩
  | cons d sp =>
    obtain ⟨lc, mc, rc, as, bs, t1, t2, t3, t4, t5, t6⟩ := hT
    obtain ⟨o1, o2, o3⟩ := ok
    have hlen := cL_len t4
    refine x_get X gT t1.2 0 (by decide) e_T_7 rfl d_T_isEmpty_1 ?_
    refine x_alen X t2 d_T_isEmpty_4 ?_
    refine n_if_ne X 12 d_T_isEmpty_5 rfl (by omega) (fun hc => ?_) (fun hc => absurd hc (by omega))
    refine x_iconst (v := nI 0) X d_T_isEmpty_12 rfl ?_
    exact x_zret X hS (Nat.le_refl _) (Nat.le_refl _) d_T_isEmpty_13 rfl ⟨rfl, rfl⟩
set_option maxRecDepth 100000 in
set_option maxHeartbeats 4000000 in
theorem C_T_isDeep (l : Launch) (D : va_G) (A : Nat → ClassId) (H0 : Heap) (S : Nat → Prop) (rh : Nat → Nat) (E : ft_E) (ne mm : Nat) (zf : Nat → Nat) (k : Nat) (sp : ft_S) (o : Option ft_I) (a : Nat) (ok : ft_okT ne mm zf k sp o) (hT : cT D A S rh E sp o a H0) (hz : ft_zT sp o < 64) : xC l y_T_isDeep c_T_isDeep 1 (some .boolean) 0 D A H0 [.ref a] (fun _ => False) (q1 (.int (nI (ft_de sp))) (fun H1 => H1 = H0)) 0 0 := by
  refine xC.of rfl (Nat.le_of_ble_eq_true rfl) ?_
  intro p_ e_ s_ m_ ar_ bl_ me_ c_ ls X hl
  have hl : lz ls 1 [some (.ref a)] := hl
  have hS : va_S (fun _ => False) H0 H0 [] := va_S.rf
  refine x_aload_n X d_T_isDeep_0 rfl hl rfl ?_
  cases sp with
  | nil =>
    obtain ⟨lc, rc, as, t1, t2, t3, t4⟩ := hT
    refine x_get X gT t1.2 1 (by decide) e_T_13 rfl d_T_isDeep_1 ?_
    refine x_ifnullN X 11 d_T_isDeep_4 rfl ?_
    refine x_iconst (v := nI 0) X d_T_isDeep_11 rfl ?_
    exact x_zret X hS (Nat.le_refl _) (Nat.le_refl _) d_T_isDeep_12 rfl ⟨rfl, rfl⟩
  | cons d sp =>
    obtain ⟨lc, mc, rc, as, bs, t1, t2, t3, t4, t5, t6⟩ := hT
    obtain ⟨o1, o2, o3⟩ := ok
    refine x_get X gT t1.2 1 (by decide) e_T_13 rfl d_T_isDeep_1 ?_
    refine x_ifnull X d_T_isDeep_4 ?_
    refine x_iconst (v := nI 1) X d_T_isDeep_7 rfl ?_
    refine x_goto X 12 d_T_isDeep_8 rfl ?_
    exact x_zret X hS (Nat.le_refl _) (Nat.le_refl _) d_T_isDeep_12 rfl ⟨rfl, rfl⟩
set_option maxRecDepth 100000 in
set_option maxHeartbeats 4000000 in
theorem C_T_middleStart (l : Launch) (D : va_G) (A : Nat → ClassId) (H0 : Heap) (S : Nat → Prop) (rh : Nat → Nat) (E : ft_E) (ne mm : Nat) (zf : Nat → Nat) (k : Nat) (sp : ft_S) (o : Option ft_I) (a : Nat) (ok : ft_okT ne mm zf k sp o) (hT : cT D A S rh E sp o a H0) (hz : ft_zT sp o < 64) : xC l y_T_middleStart c_T_middleStart 1 (some .int) 1 D A H0 [.ref a] (fun _ => False) (q1 (.int (nI (ft_ms sp o))) (fun H1 => H1 = H0)) 0 0 := by
  have ok0 := ok
  have hT0 := hT
  refine xC.of rfl (Nat.le_of_ble_eq_true rfl) ?_
  intro p_ e_ s_ m_ ar_ bl_ me_ c_ ls X hl
  have hl : lz ls 1 [some (.ref a)] := hl
  have hS : va_S (fun _ => False) H0 H0 [] := va_S.rf
  refine x_aload_n X d_T_middleStart_0 rfl hl rfl ?_
  cases sp with
  | nil =>
    obtain ⟨lc, rc, as, t1, t2, t3, t4⟩ := hT
    refine x_goR (x_runV X (C_T_isDeep l D A _ S rh E ne mm zf k [] o a ok0 hT0 hz) b_T_isDeep s_T_isDeep v_T_isDeep e_T_33 t1.2 rfl rfl hl rfl (Nat.le_of_ble_eq_true rfl) d_T_middleStart_1 (Nat.le_of_ble_eq_true rfl) (Nat.le_of_ble_eq_true rfl) ⟨Nat.le_of_ble_eq_true rfl, Nat.le_of_ble_eq_true rfl⟩) hS (fun locs hS => ?_)
    rw [show ft_de [] = 0 from rfl]
    refine n_if_eq X 22 d_T_middleStart_4 rfl (by decide) (fun hc => ?_) (fun hc => absurd rfl hc)
    refine x_aload_n X d_T_middleStart_22 rfl hl rfl ?_
    refine x_get X gT t1.2 3 (by decide) e_T_30 rfl d_T_middleStart_23 ?_
    exact x_iret X hS (Nat.le_refl _) (Nat.le_refl _) d_T_middleStart_26 ⟨rfl, rfl⟩
  | cons d sp =>
    obtain ⟨lc, mc, rc, as, bs, t1, t2, t3, t4, t5, t6⟩ := hT
    obtain ⟨o1, o2, o3⟩ := ok
    refine x_goR (x_runV X (C_T_isDeep l D A _ S rh E ne mm zf k (d :: sp) o a ok0 hT0 hz) b_T_isDeep s_T_isDeep v_T_isDeep e_T_33 t1.2 rfl rfl hl rfl (Nat.le_of_ble_eq_true rfl) d_T_middleStart_1 (Nat.le_of_ble_eq_true rfl) (Nat.le_of_ble_eq_true rfl) ⟨Nat.le_of_ble_eq_true rfl, Nat.le_of_ble_eq_true rfl⟩) hS (fun locs hS => ?_)
    rw [show ft_de (d :: sp) = 1 from rfl]
    refine n_if_eq X 22 d_T_middleStart_4 rfl (by decide) (fun hc => absurd hc (by decide)) (fun hc => ?_)
    refine x_aload_n X d_T_middleStart_7 rfl hl rfl ?_
    refine x_get X gT t1.2 3 (by decide) e_T_30 rfl d_T_middleStart_8 ?_
    refine x_aload_n X d_T_middleStart_11 rfl hl rfl ?_
    refine x_get X gT t1.2 1 (by decide) e_T_13 rfl d_T_middleStart_12 ?_
    obtain ⟨l2, r2, mv, rs, t7⟩ := cT_obj t6
    refine x_get X gT t7.2 4 (by decide) e_T_26 rfl d_T_middleStart_15 ?_
    refine n_isub X d_T_middleStart_18 (by omega) ?_
    refine x_goto X 26 d_T_middleStart_19 rfl ?_
    rw [Nat.add_sub_cancel]
    exact x_iret X hS (Nat.le_refl _) (Nat.le_refl _) d_T_middleStart_26 ⟨rfl, rfl⟩
set_option maxRecDepth 100000 in
set_option maxHeartbeats 4000000 in
theorem C_T_holdsInMiddle (l : Launch) (D : va_G) (A : Nat → ClassId) (H0 : Heap) (S : Nat → Prop) (rh : Nat → Nat) (E : ft_E) (ne mm : Nat) (zf : Nat → Nat) (k : Nat) (sp : ft_S) (o : Option ft_I) (a : Nat) (ok : ft_okT ne mm zf k sp o) (hT : cT D A S rh E sp o a H0) (hz : ft_zT sp o < 64) (p : Nat) (hp : p < 4096) : xC l y_T_holdsInMiddle c_T_holdsInMiddle 2 (some .boolean) 2 D A H0 [.ref a, .int (nI p)] (fun _ => False) (q1 (.int (nI (ft_hm sp o p))) (fun H1 => H1 = H0)) 0 0 := by
  have ok0 := ok
  have hT0 := hT
  have hms : ft_ms sp o ≤ ft_rs sp o ∧ ft_rs sp o ≤ ft_zT sp o := by
    cases sp with
    | nil => exact ⟨Nat.le_refl _, Nat.le_refl _⟩
    | cons d sp => simp only [ft_ms, ft_rs, ft_zT]; omega
  have hrs : ∃ (lc rc : Nat) (mv : Value), cAt D S (a, .inr (3, [.ref lc, mv, .ref rc, .int (nI (ft_rs sp o)), .int (nI (ft_zT sp o))])) H0 := by
    cases sp with
    | nil =>
      obtain ⟨l, r, as, h1, _⟩ := hT
      exact ⟨l, r, _, h1⟩
    | cons d sp =>
      obtain ⟨l, m, r, as, bs, h1, _⟩ := hT
      exact ⟨l, r, _, h1⟩
  obtain ⟨lc, rc, mv, t1⟩ := hrs
  refine xC.of rfl (Nat.le_of_ble_eq_true rfl) ?_
  intro p_ e_ s_ m_ ar_ bl_ me_ c_ ls X hl
  have hl : lz ls 2 [some (.ref a), some (.int (nI p))] := hl
  have hS : va_S (fun _ => False) H0 H0 [] := va_S.rf
  refine x_iload_n X d_T_holdsInMiddle_0 rfl hl rfl ?_
  refine x_aload_n X d_T_holdsInMiddle_1 rfl hl rfl ?_
  refine x_goR (x_runV X (C_T_middleStart l D A _ S rh E ne mm zf k sp o a ok0 hT0 hz) b_T_middleStart s_T_middleStart v_T_middleStart e_T_37 t1.2 rfl rfl hl rfl (Nat.le_of_ble_eq_true rfl) d_T_holdsInMiddle_2 (Nat.le_of_ble_eq_true rfl) (Nat.le_of_ble_eq_true rfl) ⟨Nat.le_of_ble_eq_true rfl, Nat.le_of_ble_eq_true rfl⟩) hS (fun locs hS => ?_)
  refine n_icmp_lt X 20 d_T_holdsInMiddle_5 rfl (by omega) (by omega) (fun hc => ?_) (fun hc => ?_)
  · skip
    refine x_iconst (v := nI 0) X d_T_holdsInMiddle_20 rfl ?_
    exact x_zret X hS (Nat.le_refl _) (Nat.le_refl _) d_T_holdsInMiddle_21 rfl ⟨by unfold ft_hm; rw [if_neg (by omega)], rfl⟩
  refine x_iload_n X d_T_holdsInMiddle_8 rfl hl rfl ?_
  refine x_aload_n X d_T_holdsInMiddle_9 rfl hl rfl ?_
  refine x_get X gT t1.2 3 (by decide) e_T_30 rfl d_T_holdsInMiddle_10 ?_
  refine n_icmp_ge X 20 d_T_holdsInMiddle_13 rfl (by omega) (by omega) (fun hc2 => ?_) (fun hc2 => ?_)
  · skip
    refine x_iconst (v := nI 0) X d_T_holdsInMiddle_20 rfl ?_
    exact x_zret X hS (Nat.le_refl _) (Nat.le_refl _) d_T_holdsInMiddle_21 rfl ⟨by unfold ft_hm; rw [if_neg (by omega)], rfl⟩
  refine x_iconst (v := nI 1) X d_T_holdsInMiddle_16 rfl ?_
  refine x_goto X 21 d_T_holdsInMiddle_17 rfl ?_
  exact x_zret X hS (Nat.le_refl _) (Nat.le_refl _) d_T_holdsInMiddle_21 rfl ⟨by unfold ft_hm; rw [if_pos (by omega)], rfl⟩
set_option maxRecDepth 100000 in
set_option maxHeartbeats 4000000 in
theorem C_T_first (l : Launch) (D : va_G) (A : Nat → ClassId) (H0 : Heap) (S : Nat → Prop) (rh : Nat → Nat) (E : ft_E) (ne mm : Nat) (zf : Nat → Nat) (k : Nat) (sp : ft_S) (o : Option ft_I) (a : Nat) (ok : ft_okT ne mm zf k sp o) (hT : cT D A S rh E sp o a H0) (hz : ft_zT sp o < 64) (he : ft_em sp o = false) : xC l y_T_first c_T_first 1 (some (.object "FingerSpans$Item")) 0 D A H0 [.ref a] (fun _ => False) (qr (fun b H1 => H1 = H0 ∧ cI D A S rh E (ft_fi sp o) [b] H0)) 0 0 := by
  refine xC.of rfl (Nat.le_of_ble_eq_true rfl) ?_
  intro p_ e_ s_ m_ ar_ bl_ me_ c_ ls X hl
  have hl : lz ls 1 [some (.ref a)] := hl
  have hS : va_S (fun _ => False) H0 H0 [] := va_S.rf
  refine x_aload_n X d_T_first_0 rfl hl rfl ?_
  cases sp with
  | nil =>
    obtain ⟨lc, rc, as, t1, t2, t3, t4⟩ := hT
    cases o with
    | none => simp [ft_em] at he
    | some x =>
      obtain ⟨b, bs, rfl, t5, t6⟩ := cL_cons.1 t4
      have t6 := cL_nil.1 t6
      subst t6
      refine x_get X gT t1.2 0 (by decide) e_T_7 rfl d_T_first_1 ?_
      refine x_iconst (v := nI 0) X d_T_first_4 rfl ?_
      refine x_aald X t2 (i := 0) rfl (by simp) d_T_first_5 ?_
      exact x_aret X (Or.inl ⟨_, rfl⟩) hS (Nat.le_refl _) (Nat.le_refl _) d_T_first_6 ⟨_, rfl, rfl, t5⟩
  | cons d sp =>
    obtain ⟨lc, mc, rc, as, bs, t1, t2, t3, t4, t5, t6⟩ := hT
    obtain ⟨o1, o2, o3⟩ := ok
    obtain ⟨dl, dr⟩ := d
    cases dl with
    | nil => exact absurd o1.1 (by simp)
    | cons x dl =>
      have hlen := cL_len t4
      obtain ⟨b, cs, rfl, t7, t8⟩ := cL_cons.1 t4
      have h4 : (x :: dl).length ≤ 4 := o1.2.1
      dsimp only at hlen
      refine x_get X gT t1.2 0 (by decide) e_T_7 rfl d_T_first_1 ?_
      refine x_iconst (v := nI 0) X d_T_first_4 rfl ?_
      refine x_aald X t2 (i := 0) rfl (by omega) d_T_first_5 ?_
      exact x_aret X (Or.inl ⟨_, rfl⟩) hS (Nat.le_refl _) (Nat.le_refl _) d_T_first_6 ⟨_, rfl, rfl, t7⟩
theorem ft_la_deep {d : List ft_I × List ft_I} {sp : ft_S} {o : Option ft_I} : ft_la (d :: sp) o = d.2.getD (d.2.length - 1) ft_no := by
  show d.2.getLastD ft_no = _
  rw [List.getLastD_eq_getLast?, List.getLast?_eq_getElem?, List.getD_eq_getElem?_getD]
set_option maxRecDepth 100000 in
set_option maxHeartbeats 4000000 in
theorem C_T_last (l : Launch) (D : va_G) (A : Nat → ClassId) (H0 : Heap) (S : Nat → Prop) (rh : Nat → Nat) (E : ft_E) (ne mm : Nat) (zf : Nat → Nat) (k : Nat) (sp : ft_S) (o : Option ft_I) (a : Nat) (ok : ft_okT ne mm zf k sp o) (hT : cT D A S rh E sp o a H0) (hz : ft_zT sp o < 64) (he : ft_em sp o = false) : xC l y_T_last c_T_last 1 (some (.object "FingerSpans$Item")) 1 D A H0 [.ref a] (fun _ => False) (qr (fun b H1 => H1 = H0 ∧ cI D A S rh E (ft_la sp o) [b] H0)) 0 0 := by
  have ok0 := ok
  have hT0 := hT
  refine xC.of rfl (Nat.le_of_ble_eq_true rfl) ?_
  intro p_ e_ s_ m_ ar_ bl_ me_ c_ ls X hl
  have hl : lz ls 1 [some (.ref a)] := hl
  have hS : va_S (fun _ => False) H0 H0 [] := va_S.rf
  refine x_aload_n X d_T_last_0 rfl hl rfl ?_
  cases sp with
  | nil =>
    obtain ⟨lc, rc, as, t1, t2, t3, t4⟩ := hT
    cases o with
    | none => simp [ft_em] at he
    | some x =>
      obtain ⟨b, bs, rfl, t5, t6⟩ := cL_cons.1 t4
      have t6 := cL_nil.1 t6
      subst t6
      refine x_goR (x_runV X (C_T_isDeep l D A _ S rh E ne mm zf k [] (some x) a ok0 hT0 hz) b_T_isDeep s_T_isDeep v_T_isDeep e_T_33 t1.2 rfl rfl hl rfl (Nat.le_of_ble_eq_true rfl) d_T_last_1 (Nat.le_of_ble_eq_true rfl) (Nat.le_of_ble_eq_true rfl) ⟨Nat.le_of_ble_eq_true rfl, Nat.le_of_ble_eq_true rfl⟩) hS (fun locs hS => ?_)
      rw [show ft_de [] = 0 from rfl]
      refine n_if_eq X 22 d_T_last_4 rfl (by decide) (fun hc => ?_) (fun hc => absurd rfl hc)
      refine x_aload_n X d_T_last_22 rfl hl rfl ?_
      refine x_get X gT t1.2 0 (by decide) e_T_7 rfl d_T_last_23 ?_
      refine x_iconst (v := nI 0) X d_T_last_26 rfl ?_
      refine x_aald X t2 (i := 0) rfl (by simp) d_T_last_27 ?_
      exact x_aret X (Or.inl ⟨_, rfl⟩) hS (Nat.le_refl _) (Nat.le_refl _) d_T_last_28 ⟨_, rfl, rfl, t5⟩
  | cons d sp =>
    obtain ⟨lc, mc, rc, as, bs, t1, t2, t3, t4, t5, t6⟩ := hT
    obtain ⟨o1, o2, o3⟩ := ok
    have hlen := cL_len t5
    obtain ⟨b, hb, okx, hx⟩ := cL_at o2.2.2 t5 (i := d.2.length - 1) (by omega)
    rw [ft_la_deep]
    refine x_goR (x_runV X (C_T_isDeep l D A _ S rh E ne mm zf k (d :: sp) o a ok0 hT0 hz) b_T_isDeep s_T_isDeep v_T_isDeep e_T_33 t1.2 rfl rfl hl rfl (Nat.le_of_ble_eq_true rfl) d_T_last_1 (Nat.le_of_ble_eq_true rfl) (Nat.le_of_ble_eq_true rfl) ⟨Nat.le_of_ble_eq_true rfl, Nat.le_of_ble_eq_true rfl⟩) hS (fun locs hS => ?_)
    rw [show ft_de (d :: sp) = 1 from rfl]
    refine n_if_eq X 22 d_T_last_4 rfl (by decide) (fun hc => absurd hc (by decide)) (fun hc => ?_)
    refine x_aload_n X d_T_last_7 rfl hl rfl ?_
    refine x_get X gT t1.2 2 (by decide) e_T_17 rfl d_T_last_8 ?_
    refine x_aload_n X d_T_last_11 rfl hl rfl ?_
    refine x_get X gT t1.2 2 (by decide) e_T_17 rfl d_T_last_12 ?_
    refine x_alen X t3 d_T_last_15 ?_
    rw [hlen]
    refine x_iconst (v := nI 1) X d_T_last_16 rfl ?_
    refine n_isub X d_T_last_17 (by omega) ?_
    refine x_aald X t3 hb (by omega) d_T_last_18 ?_
    refine x_goto X 28 d_T_last_19 rfl ?_
    exact x_aret X (Or.inl ⟨_, rfl⟩) hS (Nat.le_refl _) (Nat.le_refl _) d_T_last_28 ⟨_, rfl, rfl, hx⟩
theorem ft_lR_split {l : List ft_I} {i : Nat} (hi : i < l.length) : ft_lR l = ft_lR (l.take i) ++ (ft_lv (l.getD i ft_no) ++ ft_lR (l.drop (i + 1))) := by
  conv => lhs; rw [ft_row_split hi]
  rw [ft_lR_app, ft_lR_app]
  simp [ft_lR]
theorem ft_lR_item {l : List ft_I} {p : Nat} (hp : p < ft_zR l) (hl : 0 < l.length) : (ft_lR l)[p]? = (ft_lv (l.getD (ft_ix l p) ft_no))[p - ft_zR (l.take (ft_ix l p))]? := by
  have hlt := ft_ix_lt (l := l) p hl
  have hs := ft_ix_sp (l := l) (p := p) hp
  rw [ft_lR_split hlt, List.getElem?_append_right (by rw [ft_lR_len]; exact hs.1), ft_lR_len, List.getElem?_append_left (by rw [ft_lv_len]; omega)]
set_option maxRecDepth 100000 in
set_option maxHeartbeats 4000000 in
theorem C_R_entryAt (l : Launch) (D : va_G) (A : Nat → ClassId) (H0 : Heap) (S : Nat → Prop) (rh : Nat → Nat) (E : ft_E) (ne mm : Nat) (zf : Nat → Nat) (k : Nat) (lr : List ft_I) (as : List Nat) (r : Nat) (ok : ft_okR ne mm zf k lr) (hr : cRw D A S as r H0) (hL : cL D A S rh E lr as H0) (h9 : lr.length < 64) (hz : ft_zR lr < 4096) (hl0 : 0 < lr.length) (p : Nat) (hp : p < ft_zR lr) : xC l y_R_entryAt c_R_entryAt 4 (some (.object "FingerSpans$Item")) (k + 1) D A H0 [.ref r, .int (nI p)] (fun _ => False) (qr (fun b H1 => H1 = H0 ∧ ∃ en pa, (ft_lR lr)[p]? = some (en, pa) ∧ cI D A S rh E (.num en) [b] H0)) 0 0 := by
  induction k generalizing lr as r p with
  | zero =>
    have hlen := cL_len hL
    have hlt := ft_ix_lt (l := lr) p hl0
    have hsp := ft_ix_sp (l := lr) (p := p) hp
    have hit := ft_lR_item hp hl0
    have hC := C_R_indexOf l D A H0 S rh E ne mm zf 0 lr as r ok hr hL h9 hz hl0 p (by omega)
    generalize ft_ix lr p = ix at hlt hsp hit hC
    obtain ⟨b, hb, okx, hx⟩ := cL_at ok hL (i := ix) (by omega)
    refine xC.of rfl (Nat.le_of_ble_eq_true rfl) ?_
    intro p_ e_ s_ m_ ar_ bl_ me_ c_ ls X hl
    have hl : lz ls 4 [some (.ref r), some (.int (nI p)), none, none] := hl
    have hS : va_S (fun _ => False) H0 H0 [] := va_S.rf
    refine x_aload_n X d_R_entryAt_0 rfl hl rfl ?_
    refine x_iload_n X d_R_entryAt_1 rfl hl rfl ?_
    refine x_goR (x_runS X (hC) b_R_indexOf s_R_indexOf e_R_13 rfl hl rfl (Nat.le_of_ble_eq_true rfl) d_R_entryAt_2 (by dsimp only [x_rm]; omega) (by dsimp only [x_rm]; omega) ⟨Nat.le_of_ble_eq_true rfl, Nat.le_of_ble_eq_true rfl⟩) hS (fun locs hS => ?_)
    refine x_istore_n X d_R_entryAt_5 rfl hl (by decide) rfl (fun ls hl => ?_)
    refine x_aload_n X d_R_entryAt_6 rfl hl rfl ?_
    refine x_iload_n X d_R_entryAt_7 rfl hl rfl ?_
    refine x_aald X hr hb (by omega) d_R_entryAt_8 ?_
    refine x_astore_n X d_R_entryAt_9 rfl hl (by decide) rfl (fun ls hl => ?_)
    refine x_aload_n X d_R_entryAt_10 rfl hl rfl ?_
    obtain ⟨nu, lo, hi, r', bs, c1, c2, c3, c4, c5⟩ := cI_has okx hx
    refine x_goR (x_runVN X (C_I_isNode l D A _ S rh E ne mm zf 0 _ b okx hx) b_I_isNode s_I_isNode v_I_isNode e_R_19 c1.2 rfl rfl hl rfl (Nat.le_of_ble_eq_true rfl) d_R_entryAt_11 (by dsimp only [x_rm]; omega) (by dsimp only [x_rm]; omega) ⟨Nat.le_of_ble_eq_true rfl, Nat.le_of_ble_eq_true rfl⟩) hS (fun locs hS => ?_)
    rw [show (if (0 : Nat) = 0 then 0 else 1) = 0 from rfl]
    refine n_if_eq X 34 d_R_entryAt_14 rfl (by decide) (fun hc => ?_) (fun hc => absurd rfl hc)
    refine x_aload_n X d_R_entryAt_34 rfl hl rfl ?_
    obtain ⟨e0, he0, he1⟩ := id okx
    rw [he0] at hx hit hsp
    have hp0 : p - ft_zR (lr.take ix) = 0 := by have : ft_z (.num e0) = 1 := rfl; omega
    rw [hp0] at hit
    exact x_aret X (Or.inl ⟨_, rfl⟩) hS (Nat.le_refl _) (Nat.le_refl _) d_R_entryAt_35 ⟨_, rfl, rfl, e0, [], hit, hx⟩
  | succ k ih =>
    have hlen := cL_len hL
    have hlt := ft_ix_lt (l := lr) p hl0
    have hsp := ft_ix_sp (l := lr) (p := p) hp
    have hit := ft_lR_item hp hl0
    have hC := C_R_indexOf l D A H0 S rh E ne mm zf (k + 1) lr as r ok hr hL h9 hz hl0 p (by omega)
    generalize ft_ix lr p = ix at hlt hsp hit hC
    obtain ⟨b, hb, okx, hx⟩ := cL_at ok hL (i := ix) (by omega)
    have hB := C_R_entriesBefore l D A H0 S rh E ne mm zf (k + 1) lr as r ok hr hL h9 hz ix (by omega)
    obtain ⟨nu, lo, hi, r', bs, c1, c2, c3, c4, c5⟩ := cI_has okx hx
    obtain ⟨p1, p2, p3, p4⟩ := ft_okR_ps okx
    have htd := ft_zR_td lr (ix + 1)
    rw [ft_zR_tk hlt] at htd
    refine xC.of rfl (Nat.le_of_ble_eq_true rfl) ?_
    intro p_ e_ s_ m_ ar_ bl_ me_ c_ ls X hl
    have hl : lz ls 4 [some (.ref r), some (.int (nI p)), none, none] := hl
    have hS : va_S (fun _ => False) H0 H0 [] := va_S.rf
    refine x_aload_n X d_R_entryAt_0 rfl hl rfl ?_
    refine x_iload_n X d_R_entryAt_1 rfl hl rfl ?_
    refine x_goR (x_runS X (hC) b_R_indexOf s_R_indexOf e_R_13 rfl hl rfl (Nat.le_of_ble_eq_true rfl) d_R_entryAt_2 (by dsimp only [x_rm]; omega) (by dsimp only [x_rm]; omega) ⟨Nat.le_of_ble_eq_true rfl, Nat.le_of_ble_eq_true rfl⟩) hS (fun locs hS => ?_)
    refine x_istore_n X d_R_entryAt_5 rfl hl (by decide) rfl (fun ls hl => ?_)
    refine x_aload_n X d_R_entryAt_6 rfl hl rfl ?_
    refine x_iload_n X d_R_entryAt_7 rfl hl rfl ?_
    refine x_aald X hr hb (by omega) d_R_entryAt_8 ?_
    refine x_astore_n X d_R_entryAt_9 rfl hl (by decide) rfl (fun ls hl => ?_)
    refine x_aload_n X d_R_entryAt_10 rfl hl rfl ?_
    refine x_goR (x_runVN X (C_I_isNode l D A _ S rh E ne mm zf (k + 1) _ b okx hx) b_I_isNode s_I_isNode v_I_isNode e_R_19 c1.2 rfl rfl hl rfl (Nat.le_of_ble_eq_true rfl) d_R_entryAt_11 (by dsimp only [x_rm]; omega) (by dsimp only [x_rm]; omega) ⟨Nat.le_of_ble_eq_true rfl, Nat.le_of_ble_eq_true rfl⟩) hS (fun locs hS => ?_)
    rw [show (if k + 1 = 0 then 0 else 1) = 1 from rfl]
    refine n_if_eq X 34 d_R_entryAt_14 rfl (by decide) (fun hc => absurd hc (by decide)) (fun hc => ?_)
    refine x_aload_n X d_R_entryAt_17 rfl hl rfl ?_
    refine x_getN X gI c1.2 3 (by decide) e_R_23 rfl d_R_entryAt_18 ?_
    refine x_iload_n X d_R_entryAt_21 rfl hl rfl ?_
    refine x_aload_n X d_R_entryAt_22 rfl hl rfl ?_
    refine x_iload_n X d_R_entryAt_23 rfl hl rfl ?_
    refine x_goR (x_runS X (hB) b_R_entriesBefore s_R_entriesBefore e_R_27 rfl hl rfl (Nat.le_of_ble_eq_true rfl) d_R_entryAt_24 (by dsimp only [x_rm]; omega) (by dsimp only [x_rm]; omega) ⟨Nat.le_of_ble_eq_true rfl, Nat.le_of_ble_eq_true rfl⟩) hS (fun locs hS => ?_)
    refine n_isub X d_R_entryAt_27 (by omega) ?_
    refine x_goRr (x_runS X (ih (ft_ps (lr.getD ix ft_no)) bs r' p1 c2 c3 (by omega) (by omega) (by omega) (p - ft_zR (lr.take ix)) (by omega)) b_R_entryAt s_R_entryAt e_R_30 rfl hl rfl (Nat.le_of_ble_eq_true rfl) d_R_entryAt_28 (by dsimp only [x_rm]; omega) (by dsimp only [x_rm]; omega) ⟨Nat.le_of_ble_eq_true rfl, Nat.le_of_ble_eq_true rfl⟩) hS (fun b2 locs hp2 hS => ?_)
    refine x_goto X 35 d_R_entryAt_31 rfl ?_
    obtain ⟨en, pa, q1, q2⟩ := hp2
    obtain ⟨n, hn1, hn2, hn3, hn4⟩ := c5 k rfl
    refine x_aret X (Or.inl ⟨_, rfl⟩) hS (Nat.le_refl _) (Nat.le_refl _) d_R_entryAt_35 ⟨_, rfl, rfl, en, pa ++ [n], ?_, q2⟩
    rw [hit, hn1, ft_lv_nd, List.getElem?_map, q1]
    rfl
