/-! The class: its constructors. -/
theorem va_P3 {D : va_G} {x y z : Nat × va_E} {H : Heap} (hx : va_at D vwCl x H) (hy : va_at D vwCl y H) (hz : va_at D vwCl z H) : va_P D vwCl [x, y, z] H := fun k a hk => by
  match k, hk with
  | 0, hk => cases hk; exact hx
  | 1, hk => cases hk; exact hy
  | 2, hk => cases hk; exact hz
  | k + 3, hk => simp at hk
/-- addresses that are apart, for other things at them -/
theorem va_D.as {fr : Nat → Prop} {ws ws' : va_W} (h : va_D fr ws) (e : ws'.map (fun x => x.1) = ws.map (fun x => x.1)) : va_D fr ws' := by
  have key : ∀ (i : Nat) (x : Nat × va_E), ws'[i]? = some x → ∃ y, ws[i]? = some y ∧ y.1 = x.1 := fun i x hx => by
    have h1 : (ws'.map (fun x => x.1))[i]? = some x.1 := by rw [List.getElem?_map, hx]; rfl
    rw [e, List.getElem?_map] at h1
    cases hy : ws[i]? with
    | none => rw [hy] at h1; cases h1
    | some y => rw [hy] at h1; exact ⟨y, rfl, Option.some.inj h1⟩
  refine ⟨fun i j x y hx hy hxy => ?_, fun k x hx => ?_⟩
  · obtain ⟨x', h1, h2⟩ := key i x hx
    obtain ⟨y', h3, h4⟩ := key j y hy
    exact h.1 i j x' y' h1 h3 (by rw [h2, h4]; exact hxy)
  · obtain ⟨x', h1, h2⟩ := key k x hx
    rw [← h2]
    exact h.2 k x' h1
/-- one address more -/
theorem va_D.add {fr : Nat → Prop} {ws : va_W} {z : Nat × va_E} (h : va_D fr ws) (hz : fr z.1) (hn : ∀ (k : Nat) (x : Nat × va_E), ws[k]? = some x → x.1 ≠ z.1) : va_D fr (ws ++ [z]) := by
  have key : ∀ (i : Nat) (x : Nat × va_E), (ws ++ [z])[i]? = some x → (i < ws.length ∧ ws[i]? = some x) ∨ (i = ws.length ∧ x = z) := fun i x hx => by
    by_cases hi : i < ws.length
    · rw [List.getElem?_append_left hi] at hx
      exact Or.inl ⟨hi, hx⟩
    · rw [List.getElem?_append_right (by omega)] at hx
      have h1 := (List.getElem?_eq_some_iff.1 hx).1
      simp at h1
      rw [show i - ws.length = 0 from by omega] at hx
      cases hx
      exact Or.inr ⟨by omega, rfl⟩
  refine ⟨fun i j x y hx hy hxy => ?_, fun k x hx => ?_⟩
  · rcases key i x hx with ⟨h1, h2⟩ | ⟨h1, h2⟩ <;> rcases key j y hy with ⟨h3, h4⟩ | ⟨h3, h4⟩
    · exact h.1 i j x y h2 h4 hxy
    · rw [h4] at hxy; exact absurd hxy (hn i x h2)
    · rw [h2] at hxy; exact absurd hxy.symm (hn j y h4)
    · omega
  · rcases key k x hx with ⟨h1, h2⟩ | ⟨h1, h2⟩
    · exact h.2 k x h2
    · rw [h2]; exact hz
/-- after a call: the other cells stay -/
theorem va_P.kp {D : va_G} {ws : va_W} {H H1 : Heap} {P : Nat → Prop} (h : va_P D vwCl ws H) (hF : x_fr P H H1) (hn : ∀ (k : Nat) (x : Nat × va_E), ws[k]? = some x → ¬ P x.1) : va_P D vwCl ws H1 := fun k x hk => hF.kp (h k x hk) (hn k x hk)
theorem va_P.app2 {D : va_G} {ws ws' : va_W} {H : Heap} (h : va_P D vwCl ws H) (h' : va_P D vwCl ws' H) : va_P D vwCl (ws ++ ws') H := fun k x hk => by
  by_cases hi : k < ws.length
  · rw [List.getElem?_append_left hi] at hk; exact h k x hk
  · rw [List.getElem?_append_right (by omega)] at hk; exact h' _ x hk
theorem x_defK : ∀ j, j < 2 → defaultValue (ty_K j) = vp_V [.null, .int (nI 0)] j
  | 0, _ | 1, _ => rfl
theorem x_defU : ∀ j, j < 3 → defaultValue (ty_U j) = vp_V [.null, .null, .int (nI 0)] j
  | 0, _ | 1, _ | 2, _ => rfl
set_option maxRecDepth 100000 in
set_option maxHeartbeats 4000000 in
theorem C_K_init (l : Launch) (D : va_G) (A : Nat → ClassId) (H0 : Heap) (o : Nat) (hP : va_P D vwCl [(o, .inr (1, [.null, .int (nI 0)]))] H0) : xC l y_K_init c_K_init 1 (none : Option FieldType) 1 D A H0 [.ref o] (xA (fun q => q = o) H0) (q0 (fun H1 => ∃ ar, va_P D vwCl [(o, .inr (1, [.ref ar, .int (nI 0)])), (ar, .inl (A 0, 4642, .inl (fun _ => nI 0)))] H1 ∧ va_D (xA (fun q => q = o) H0) [(o, .inr (1, [.ref ar, .int (nI 0)])), (ar, .inl (A 0, 4642, .inl (fun _ => nI 0)))])) 1 4642 := by
  refine xC.ofI rfl (Nat.le_of_ble_eq_true rfl) ?_
  intro p_ e_ s_ m_ ar_ bl_ me_ c_ ls X hn hl
  have hl : lz ls 1 [some (.ref o)] := hl
  have hS : va_S (xA (fun q => q = o) H0) H0 H0 [] := va_S.rf
  have hD : va_D (xA (fun q => q = o) H0) [(o, .inr (1, [.null, .int (nI 0)]))] := va_D1 (Or.inl rfl)
  have hA : ∀ q, H0.size ≤ q → xA (fun q => q = o) H0 q := fun q h => Or.inr h
  refine x_aload_n X d_K_init_0 rfl hl rfl ?_
  refine x_obj X e_K_3 hl d_K_init_1 (Nat.le_of_ble_eq_true rfl) (Nat.le_of_ble_eq_true rfl) ?_
  refine x_aload_n X d_K_init_4 rfl hl rfl ?_
  refine x_sipush (v := nI 4642) X d_K_init_5 rfl ?_
  refine x_newI X hP hD hS hA (by decide) (Nat.le_of_ble_eq_true rfl) (Nat.le_of_ble_eq_true rfl) d_K_init_8 (fun ar H hP hD hS => ?_)
  refine x_putF X hn gK hP hD hS 0 rfl 0 (by decide) e_K_9 rfl rfl rfl (Nat.le_of_ble_eq_true rfl) d_K_init_10 (fun H locs hP hD hS => ?_)
  refine x_aload_n X d_K_init_13 rfl hl rfl ?_
  refine x_iconst (v := nI 0) X d_K_init_14 rfl ?_
  refine x_putG X gK hP hD hS 0 rfl 1 (by decide) e_K_15 rfl rfl rfl (Nat.le_of_ble_eq_true rfl) d_K_init_15 (fun H locs hP hD hS => ?_)
  have hP : va_P D vwCl [(o, .inr (1, [.ref ar, .int (nI 0)])), (ar, .inl (A 0, 4642, .inl (fun _ => nI 0)))] H := hP
  have hD : va_D (xA (fun q => q = o) H0) [(o, .inr (1, [.ref ar, .int (nI 0)])), (ar, .inl (A 0, 4642, .inl (fun _ => nI 0)))] := hD
  exact x_vret X hS (Nat.le_of_ble_eq_true rfl) (Nat.le_of_ble_eq_true rfl) d_K_init_18 ⟨rfl, ar, hP, hD⟩
set_option maxRecDepth 100000 in
set_option maxHeartbeats 4000000 in
theorem C_U_init (l : Launch) (D : va_G) (A : Nat → ClassId) (H0 : Heap) (o : Nat) (hP : va_P D vwCl [(o, .inr (2, [.null, .null, .int (nI 0)]))] H0) : xC l y_U_init c_U_init 1 (none : Option FieldType) 3 D A H0 [.ref o] (xA (fun q => q = o) H0) (q0 (fun H1 => ∃ nn em, va_P D vwCl [(o, .inr (2, [.ref nn, .ref em, .int (nI 0)])), (nn, cArr A 3 0 (fun _ => none)), (em, .inr (3, [.ref nn, .null, .ref nn, .int (nI 0), .int (nI 0)]))] H1 ∧ va_D (xA (fun q => q = o) H0) [(o, .inr (2, [.ref nn, .ref em, .int (nI 0)])), (nn, cArr A 3 0 (fun _ => none)), (em, .inr (3, [.ref nn, .null, .ref nn, .int (nI 0), .int (nI 0)]))])) 2 5 := by
  refine xC.ofI rfl (Nat.le_of_ble_eq_true rfl) ?_
  intro p_ e_ s_ m_ ar_ bl_ me_ c_ ls X hn hl
  have hl : lz ls 1 [some (.ref o)] := hl
  have hS : va_S (xA (fun q => q = o) H0) H0 H0 [] := va_S.rf
  have hD : va_D (xA (fun q => q = o) H0) [(o, .inr (2, [.null, .null, .int (nI 0)]))] := va_D1 (Or.inl rfl)
  have hA : ∀ q, H0.size ≤ q → xA (fun q => q = o) H0 q := fun q h => Or.inr h
  refine x_aload_n X d_U_init_0 rfl hl rfl ?_
  refine x_obj X e_U_3 hl d_U_init_1 (Nat.le_of_ble_eq_true rfl) (Nat.le_of_ble_eq_true rfl) ?_
  refine x_aload_n X d_U_init_4 rfl hl rfl ?_
  refine x_iconst (v := nI 0) X d_U_init_5 rfl ?_
  refine x_newq X e_U_9 hP hD hS hA (by decide) (Nat.le_of_ble_eq_true rfl) (Nat.le_of_ble_eq_true rfl) d_U_init_6 (fun nn H hP hD hS => ?_)
  refine x_putF X hn gU hP hD hS 0 rfl 0 (by decide) e_U_11 rfl rfl rfl (Nat.le_of_ble_eq_true rfl) d_U_init_9 (fun H locs hP hD hS => ?_)
  refine x_aload_n X d_U_init_12 rfl hl rfl ?_
  refine x_new X gT e_U_17 n_T i_T hP hD hS hA x_defT (Nat.le_of_ble_eq_true rfl) (Nat.le_of_ble_eq_true rfl) d_U_init_13 (fun em H hP hD hS => ?_)
  have hP : va_P D vwCl [(o, .inr (2, [.ref nn, .null, .int (nI 0)])), (nn, cArr A 3 0 (fun _ => none)), (em, .inr (3, [.null, .null, .null, .int (nI 0), .int (nI 0)]))] H := hP
  have hD : va_D (xA (fun q => q = o) H0) [(o, .inr (2, [.ref nn, .null, .int (nI 0)])), (nn, cArr A 3 0 (fun _ => none)), (em, .inr (3, [.null, .null, .null, .int (nI 0), .int (nI 0)]))] := hD
  have hne : nn ≠ em := fun h => absurd (hD.1 1 2 _ _ rfl rfl h) (by decide)
  have hoe : o ≠ em := fun h => absurd (hD.1 0 2 _ _ rfl rfl h) (by decide)
  have hem : H0.size ≤ em := by
    rcases hD.2 2 _ rfl with h | h
    · exact absurd h.symm hoe
    · exact h
  have hrN : cRw D A (fun x => x = em) [] nn H := ⟨hne, cArr_ext (hP 1 _ rfl) (fun i h => absurd h (Nat.not_lt_zero _))⟩
  refine x_dup X d_U_init_16 rfl ?_
  refine x_aload_n X d_U_init_17 rfl hl rfl ?_
  refine x_get X gU (hP 0 _ rfl) 0 (by decide) e_U_11 rfl d_U_init_18 ?_
  refine x_null X d_U_init_21 ?_
  refine x_aload_n X d_U_init_22 rfl hl rfl ?_
  refine x_get X gU (hP 0 _ rfl) 0 (by decide) e_U_11 rfl d_U_init_23 ?_
  refine x_go0 (x_runIN X (C_T_init_n l D A _ em (va_P1 (hP 2 _ rfl)) (fun x => x = em) (fun n => n) [] 0 0 (fun _ => 0) rfl 0 [] [] nn (fun y hy => by simp at hy) hrN (cL_nil.2 rfl) (by simp) (by simp [ft_zR]) [] [] nn (fun y hy => by simp at hy) hrN (cL_nil.2 rfl) (by simp) (by simp [ft_zR])) b_T_init rfl s_T_init e_U_19 rfl hl rfl (Nat.le_of_ble_eq_true rfl) d_U_init_26 (Nat.le_of_ble_eq_true rfl) (Nat.le_of_ble_eq_true rfl) ⟨Nat.le_of_ble_eq_true rfl, Nat.le_of_ble_eq_true rfl⟩) hS (xA.one hem hS.1) (fun H1 locs hT hF hS => ?_)
  have h0 := hF.kp (hP 0 _ rfl) (xA.no (c_lt (hP 0 _ rfl)) hoe)
  have h1 := hF.kp (hP 1 _ rfl) (xA.no (c_lt (hP 1 _ rfl)) hne)
  have hP := va_P3 h0 h1 hT
  have hD := hD.as (ws' := [(o, .inr (2, [.ref nn, .null, .int (nI 0)])), (nn, cArr A 3 0 (fun _ => none)), (em, .inr (3, [.ref nn, .null, .ref nn, .int (nI (ft_zR [])), .int (nI (ft_zR [] + ft_zR []))]))]) rfl
  refine x_putF X hn gU hP hD hS 0 rfl 1 (by decide) e_U_22 rfl rfl rfl (Nat.le_of_ble_eq_true rfl) d_U_init_29 (fun H locs hP hD hS => ?_)
  refine x_aload_n X d_U_init_32 rfl hl rfl ?_
  refine x_iconst (v := nI 0) X d_U_init_33 rfl ?_
  refine x_putG X gU hP hD hS 0 rfl 2 (by decide) e_U_26 rfl rfl rfl (Nat.le_of_ble_eq_true rfl) d_U_init_34 (fun H locs hP hD hS => ?_)
  have hP : va_P D vwCl [(o, .inr (2, [.ref nn, .ref em, .int (nI 0)])), (nn, cArr A 3 0 (fun _ => none)), (em, .inr (3, [.ref nn, .null, .ref nn, .int (nI 0), .int (nI 0)]))] H := hP
  have hD : va_D (xA (fun q => q = o) H0) [(o, .inr (2, [.ref nn, .ref em, .int (nI 0)])), (nn, cArr A 3 0 (fun _ => none)), (em, .inr (3, [.ref nn, .null, .ref nn, .int (nI 0), .int (nI 0)]))] := hD
  exact x_vret X hS (Nat.le_of_ble_eq_true rfl) (Nat.le_of_ble_eq_true rfl) d_U_init_37 ⟨rfl, nn, em, hP, hD⟩
section XQT
variable {p : Program} {l : Launch} {e : Env} {R : Room} {s : State} {m : MethodId} {args : Array Value} {below : List Frame} {meth : Method} {c : Code} {H : Heap} {locs : List Loc} {cells slots : Nat} {Q : State → Prop}
variable {cc : ByteArray} {nL : Nat} {own : String} {ret : Option FieldType} {D : va_G} {A : Nat → ClassId} {H0 : Heap} {pc : Nat} {ls : Array Slot} {rest : List Value} {fr : Nat → Prop} {ws : va_W}
theorem x_newqT (X : xx p s m args meth c cc nL own ret D A H0) {index : Nat} (hcl : Cond.classLink own index R_T ∈ lw_tbl) (hP : va_P D vwCl ws H) (hD : va_D fr ws) (hS : va_S fr H0 H locs) (hA : ∀ q, H0.size ≤ q → fr q) {n : Nat} (hn : n < 2 ^ 20) (hcells : cells + 1 ≤ R.cells) (hslots : slots + n ≤ R.slots) (hdg : decode cc pc = .ok (.anewarray index, 3))
    (kk : ∀ (q : Nat) (H1 : Heap), va_P D vwCl (ws ++ [(q, cArr A 4 n (fun _ => none))]) H1 → va_D fr (ws ++ [(q, cArr A 4 n (fun _ => none))]) → va_S fr H0 H1 locs → W p l e R s m args below meth c H1 locs (cells + 1) (slots + n) Q (F0 m (pc + 3) ls (.ref q :: rest))) : W p l e R s m args below meth c H locs cells slots Q (F0 m pc ls (.int (nI n) :: rest)) := by
  have hK := X.2.2.2.2.2.2.1
  refine va_newq (cl := vwCl) (tys := x_ty A) X.1 X.2.1 X.2.2.2.1 (x_word X hcl rfl) (X.2.2.2.2.2.2.2.1 _ z_arrayOver_Tree rfl #[]) hK hP hD hS hA (nI_pos (by omega)) (nI_clamp (by omega)) (by omega) hcells hslots hdg (fun q cA H1 hK2 h1 h2 h3 => ?_)
  obtain ⟨_, _, _, _, _, e1⟩ := (hK.2 4 (A 4, .object R_T) rfl).2
  obtain ⟨_, _, _, _, _, e2⟩ := (hK2.2 5 (cA, .object R_T) rfl).2
  have e3 : cA = A 4 := Option.some.inj (e2.symm.trans e1)
  subst e3
  exact kk q H1 h1 h2 h3
/-- a tree into an array of trees, one of the cells that are known -/
theorem x_aastT (X : xx p s m args meth c cc nL own ret D A H0) (hP : va_P D vwCl ws H) (hD : va_D fr ws) (hS : va_S fr H0 H locs) (j : Nat) {a n : Nat} {f : Nat → Option Nat} (ha : ws[j]? = some (a, cArr A 4 n f)) {v : Nat} {fs : List Value} (hv : va_at D vwCl (v, .inr (3, fs)) H) {i : Nat} (hi : i < n) (h31 : n < 2 ^ 31) (hdg : decode cc pc = .ok (.aastore, 1))
    (kk : ∀ (H1 : Heap) (locs1 : List Loc), va_P D vwCl (ws.set j (a, cArr A 4 n (va_up f i (some v)))) H1 → va_D fr (ws.set j (a, cArr A 4 n (va_up f i (some v)))) → va_S fr H0 H1 locs1 → W p l e R s m args below meth c H1 locs1 cells slots Q (F0 m (pc + 1) ls rest)) : W p l e R s m args below meth c H locs cells slots Q (F0 m pc ls (.ref v :: .int (nI i) :: .ref a :: rest)) := by
  have hK := X.2.2.2.2.2.2.1
  have hca := (hK.1 3 _ gT.1).2
  refine vb_astq (cl := vwCl) (E := R_T) (C := R_T) X.1 X.2.1 hK hP hD hS j 4 ha rfl (va_recv (q0 := 0) hK (va_P1 hv) gT.1 rfl) (fun comp c0 h1 h2 => ?_) (vp_in_nI hi h31) hdg (fun H1 locs1 h1 h2 h3 => ?_)
  · have e1 : comp = D.1 3 := Option.some.inj (h1.symm.trans hca.1)
    have e2 : c0 = D.1 3 := Option.some.inj (h2.symm.trans hca.1)
    rw [e1, e2]
    exact va_assign hca
  · rw [nI_clamp (Nat.lt_trans hi h31)] at h1 h2
    exact kk H1 locs1 h1 h2 h3
end XQT
set_option maxRecDepth 100000 in
set_option maxHeartbeats 4000000 in
theorem C_F_init (l : Launch) (D : va_G) (A : Nat → ClassId) (H0 : Heap) (o : Nat) (hP : va_P D vwCl [(o, .inr (4, [.null, .null, .null, .int (nI 0)]))] H0) : xC l y_F_init c_F_init 1 (none : Option FieldType) 5 D A H0 [.ref o] (xA (fun q => q = o) H0) (q0 (fun H1 => ∃ u ks bv ar, cDs o u ks bv ar ∧ H0.size ≤ u ∧ H0.size ≤ ks ∧ H0.size ≤ bv ∧ H0.size ≤ ar ∧ cG D A (cSt o u ks bv ar) o u ks bv ar sp_q0 0 H1)) 8 4780 := by
  refine xC.ofI rfl (Nat.le_of_ble_eq_true rfl) ?_
  intro p_ e_ s_ m_ ar_ bl_ me_ c_ ls X hn hl
  have hl : lz ls 1 [some (.ref o)] := hl
  have hS : va_S (xA (fun q => q = o) H0) H0 H0 [] := va_S.rf
  have hD : va_D (xA (fun q => q = o) H0) [(o, .inr (4, [.null, .null, .null, .int (nI 0)]))] := va_D1 (Or.inl rfl)
  have hA : ∀ q, H0.size ≤ q → xA (fun q => q = o) H0 q := fun q h => Or.inr h
  refine x_aload_n X d_F_init_0 rfl hl rfl ?_
  refine x_obj X e_F_3 hl d_F_init_1 (Nat.le_of_ble_eq_true rfl) (Nat.le_of_ble_eq_true rfl) ?_
  refine x_aload_n X d_F_init_4 rfl hl rfl ?_
  refine x_new X gU e_F_9 n_U i_U hP hD hS hA x_defU (by dsimp only [x_rm]; omega) (by dsimp only [x_rm]; omega) d_F_init_5 (fun u H hP hD hS => ?_)
  have hP : va_P D vwCl [(o, .inr (4, [.null, .null, .null, .int (nI 0)])), (u, .inr (2, [.null, .null, .int (nI 0)]))] H := hP
  have hD : va_D (xA (fun q => q = o) H0) [(o, .inr (4, [.null, .null, .null, .int (nI 0)])), (u, .inr (2, [.null, .null, .int (nI 0)]))] := hD
  have hz0 := hS.1
  refine x_dup X d_F_init_8 rfl ?_
  have z_u : H0.size ≤ u := by
    rcases hD.2 1 _ rfl with h | h
    · exact absurd (hD.1 1 0 _ _ rfl rfl h) (by decide)
    · exact h
  have l0 : o < H.size := c_lt (hP 0 _ rfl)
  have l1 : u < H.size := c_lt (hP 1 _ rfl)
  refine x_go0 (x_runIN X (C_U_init l D A _ u (va_P1 (hP 1 _ rfl))) b_U_init rfl s_U_init e_F_11 rfl hl rfl (Nat.le_of_ble_eq_true rfl) d_F_init_9 (by dsimp only [x_rm]; omega) (by dsimp only [x_rm]; omega) ⟨(by dsimp only [x_rm]; omega), (by dsimp only [x_rm]; omega)⟩) hS (xA.one z_u hS.1) (fun H1 locs hT hF hS => ?_)
  obtain ⟨nn, em, hP1, hD1⟩ := hT
  have o0 := hF.kp (hP 0 _ rfl) (xA.no (c_lt (hP 0 _ rfl)) (fun h => absurd (hD.1 0 1 _ _ rfl rfl h) (by decide)))
  have y_nn : H.size ≤ nn := by
    rcases hD1.2 1 _ rfl with h2 | h2
    · exact absurd (hD1.1 1 0 _ _ rfl rfl h2) (by decide)
    · exact h2
  have z_nn : H0.size ≤ nn := Nat.le_trans hz0 y_nn
  have y_em : H.size ≤ em := by
    rcases hD1.2 2 _ rfl with h2 | h2
    · exact absurd (hD1.1 2 0 _ _ rfl rfl h2) (by decide)
    · exact h2
  have z_em : H0.size ≤ em := Nat.le_trans hz0 y_em
  have hDo := hD.as (ws' := [(o, .inr (4, [.null, .null, .null, .int (nI 0)])), (u, .inr (2, [.ref nn, .ref em, .int (nI 0)]))]) rfl
  have hDo := hDo.add (z := (nn, cArr A 3 0 (fun _ => none))) (Or.inr z_nn) (fun k x hk => by
    match k, hk with
      | 0, hk => cases hk; exact Nat.ne_of_lt (Nat.lt_of_lt_of_le l0 y_nn)
      | 1, hk => cases hk; exact Nat.ne_of_lt (Nat.lt_of_lt_of_le l1 y_nn)
      | k + 2, hk => simp at hk)
  have hDo := hDo.add (z := (em, .inr (3, [.ref nn, .null, .ref nn, .int (nI 0), .int (nI 0)]))) (Or.inr z_em) (fun k x hk => by
    match k, hk with
      | 0, hk => cases hk; exact Nat.ne_of_lt (Nat.lt_of_lt_of_le l0 y_em)
      | 1, hk => cases hk; exact Nat.ne_of_lt (Nat.lt_of_lt_of_le l1 y_em)
      | 2, hk => cases hk; exact fun h => absurd (hD1.1 1 2 _ _ rfl rfl h) (by decide)
      | k + 3, hk => simp at hk)
  have hP : va_P D vwCl [(o, .inr (4, [.null, .null, .null, .int (nI 0)])), (u, .inr (2, [.ref nn, .ref em, .int (nI 0)])), (nn, cArr A 3 0 (fun _ => none)), (em, .inr (3, [.ref nn, .null, .ref nn, .int (nI 0), .int (nI 0)]))] H1 := fun k x hk => by
    match k, hk with
    | 0, hk => cases hk; exact o0
    | 1, hk => cases hk; exact hP1 0 _ rfl
    | 2, hk => cases hk; exact hP1 1 _ rfl
    | 3, hk => cases hk; exact hP1 2 _ rfl
    | k + 4, hk => simp at hk
  have hD : va_D (xA (fun q => q = o) H0) [(o, .inr (4, [.null, .null, .null, .int (nI 0)])), (u, .inr (2, [.ref nn, .ref em, .int (nI 0)])), (nn, cArr A 3 0 (fun _ => none)), (em, .inr (3, [.ref nn, .null, .ref nn, .int (nI 0), .int (nI 0)]))] := hDo
  refine x_putF X hn gF hP hD hS 0 rfl 0 (by decide) e_F_12 rfl rfl rfl (Nat.le_of_ble_eq_true rfl) d_F_init_12 (fun H locs hP hD hS => ?_)
  have hP : va_P D vwCl [(o, .inr (4, [.ref u, .null, .null, .int (nI 0)])), (u, .inr (2, [.ref nn, .ref em, .int (nI 0)])), (nn, cArr A 3 0 (fun _ => none)), (em, .inr (3, [.ref nn, .null, .ref nn, .int (nI 0), .int (nI 0)]))] H := hP
  have hD : va_D (xA (fun q => q = o) H0) [(o, .inr (4, [.ref u, .null, .null, .int (nI 0)])), (u, .inr (2, [.ref nn, .ref em, .int (nI 0)])), (nn, cArr A 3 0 (fun _ => none)), (em, .inr (3, [.ref nn, .null, .ref nn, .int (nI 0), .int (nI 0)]))] := hD
  refine x_aload_n X d_F_init_15 rfl hl rfl ?_
  refine x_new X gK e_F_16 n_K i_K hP hD hS hA x_defK (by dsimp only [x_rm]; omega) (by dsimp only [x_rm]; omega) d_F_init_16 (fun ks H hP hD hS => ?_)
  have hP : va_P D vwCl [(o, .inr (4, [.ref u, .null, .null, .int (nI 0)])), (u, .inr (2, [.ref nn, .ref em, .int (nI 0)])), (nn, cArr A 3 0 (fun _ => none)), (em, .inr (3, [.ref nn, .null, .ref nn, .int (nI 0), .int (nI 0)])), (ks, .inr (1, [.null, .int (nI 0)]))] H := hP
  have hD : va_D (xA (fun q => q = o) H0) [(o, .inr (4, [.ref u, .null, .null, .int (nI 0)])), (u, .inr (2, [.ref nn, .ref em, .int (nI 0)])), (nn, cArr A 3 0 (fun _ => none)), (em, .inr (3, [.ref nn, .null, .ref nn, .int (nI 0), .int (nI 0)])), (ks, .inr (1, [.null, .int (nI 0)]))] := hD
  have hz0 := hS.1
  refine x_dup X d_F_init_19 rfl ?_
  have z_ks : H0.size ≤ ks := by
    rcases hD.2 4 _ rfl with h | h
    · exact absurd (hD.1 4 0 _ _ rfl rfl h) (by decide)
    · exact h
  have l0 : o < H.size := c_lt (hP 0 _ rfl)
  have l1 : u < H.size := c_lt (hP 1 _ rfl)
  have l2 : nn < H.size := c_lt (hP 2 _ rfl)
  have l3 : em < H.size := c_lt (hP 3 _ rfl)
  have l4 : ks < H.size := c_lt (hP 4 _ rfl)
  refine x_go0 (x_runIN X (C_K_init l D A _ ks (va_P1 (hP 4 _ rfl))) b_K_init rfl s_K_init e_F_18 rfl hl rfl (Nat.le_of_ble_eq_true rfl) d_F_init_20 (by dsimp only [x_rm]; omega) (by dsimp only [x_rm]; omega) ⟨(by dsimp only [x_rm]; omega), (by dsimp only [x_rm]; omega)⟩) hS (xA.one z_ks hS.1) (fun H1 locs hT hF hS => ?_)
  obtain ⟨ar, hP1, hD1⟩ := hT
  have o0 := hF.kp (hP 0 _ rfl) (xA.no (c_lt (hP 0 _ rfl)) (fun h => absurd (hD.1 0 4 _ _ rfl rfl h) (by decide)))
  have o1 := hF.kp (hP 1 _ rfl) (xA.no (c_lt (hP 1 _ rfl)) (fun h => absurd (hD.1 1 4 _ _ rfl rfl h) (by decide)))
  have o2 := hF.kp (hP 2 _ rfl) (xA.no (c_lt (hP 2 _ rfl)) (fun h => absurd (hD.1 2 4 _ _ rfl rfl h) (by decide)))
  have o3 := hF.kp (hP 3 _ rfl) (xA.no (c_lt (hP 3 _ rfl)) (fun h => absurd (hD.1 3 4 _ _ rfl rfl h) (by decide)))
  have y_ar : H.size ≤ ar := by
    rcases hD1.2 1 _ rfl with h2 | h2
    · exact absurd (hD1.1 1 0 _ _ rfl rfl h2) (by decide)
    · exact h2
  have z_ar : H0.size ≤ ar := Nat.le_trans hz0 y_ar
  have hDo := hD.as (ws' := [(o, .inr (4, [.ref u, .null, .null, .int (nI 0)])), (u, .inr (2, [.ref nn, .ref em, .int (nI 0)])), (nn, cArr A 3 0 (fun _ => none)), (em, .inr (3, [.ref nn, .null, .ref nn, .int (nI 0), .int (nI 0)])), (ks, .inr (1, [.ref ar, .int (nI 0)]))]) rfl
  have hDo := hDo.add (z := (ar, .inl (A 0, 4642, .inl (fun _ => nI 0)))) (Or.inr z_ar) (fun k x hk => by
    match k, hk with
      | 0, hk => cases hk; exact Nat.ne_of_lt (Nat.lt_of_lt_of_le l0 y_ar)
      | 1, hk => cases hk; exact Nat.ne_of_lt (Nat.lt_of_lt_of_le l1 y_ar)
      | 2, hk => cases hk; exact Nat.ne_of_lt (Nat.lt_of_lt_of_le l2 y_ar)
      | 3, hk => cases hk; exact Nat.ne_of_lt (Nat.lt_of_lt_of_le l3 y_ar)
      | 4, hk => cases hk; exact Nat.ne_of_lt (Nat.lt_of_lt_of_le l4 y_ar)
      | k + 5, hk => simp at hk)
  have hP : va_P D vwCl [(o, .inr (4, [.ref u, .null, .null, .int (nI 0)])), (u, .inr (2, [.ref nn, .ref em, .int (nI 0)])), (nn, cArr A 3 0 (fun _ => none)), (em, .inr (3, [.ref nn, .null, .ref nn, .int (nI 0), .int (nI 0)])), (ks, .inr (1, [.ref ar, .int (nI 0)])), (ar, .inl (A 0, 4642, .inl (fun _ => nI 0)))] H1 := fun k x hk => by
    match k, hk with
    | 0, hk => cases hk; exact o0
    | 1, hk => cases hk; exact o1
    | 2, hk => cases hk; exact o2
    | 3, hk => cases hk; exact o3
    | 4, hk => cases hk; exact hP1 0 _ rfl
    | 5, hk => cases hk; exact hP1 1 _ rfl
    | k + 6, hk => simp at hk
  have hD : va_D (xA (fun q => q = o) H0) [(o, .inr (4, [.ref u, .null, .null, .int (nI 0)])), (u, .inr (2, [.ref nn, .ref em, .int (nI 0)])), (nn, cArr A 3 0 (fun _ => none)), (em, .inr (3, [.ref nn, .null, .ref nn, .int (nI 0), .int (nI 0)])), (ks, .inr (1, [.ref ar, .int (nI 0)])), (ar, .inl (A 0, 4642, .inl (fun _ => nI 0)))] := hDo
  refine x_putF X hn gF hP hD hS 0 rfl 1 (by decide) e_F_19 rfl rfl rfl (Nat.le_of_ble_eq_true rfl) d_F_init_23 (fun H locs hP hD hS => ?_)
  have hP : va_P D vwCl [(o, .inr (4, [.ref u, .ref ks, .null, .int (nI 0)])), (u, .inr (2, [.ref nn, .ref em, .int (nI 0)])), (nn, cArr A 3 0 (fun _ => none)), (em, .inr (3, [.ref nn, .null, .ref nn, .int (nI 0), .int (nI 0)])), (ks, .inr (1, [.ref ar, .int (nI 0)])), (ar, .inl (A 0, 4642, .inl (fun _ => nI 0)))] H := hP
  have hD : va_D (xA (fun q => q = o) H0) [(o, .inr (4, [.ref u, .ref ks, .null, .int (nI 0)])), (u, .inr (2, [.ref nn, .ref em, .int (nI 0)])), (nn, cArr A 3 0 (fun _ => none)), (em, .inr (3, [.ref nn, .null, .ref nn, .int (nI 0), .int (nI 0)])), (ks, .inr (1, [.ref ar, .int (nI 0)])), (ar, .inl (A 0, 4642, .inl (fun _ => nI 0)))] := hD
  refine x_aload_n X d_F_init_26 rfl hl rfl ?_
  refine x_bipush (v := nI 120) X d_F_init_27 rfl ?_
  refine x_newqT X e_F_23 hP hD hS hA (by decide) (by dsimp only [x_rm]; omega) (by dsimp only [x_rm]; omega) d_F_init_29 (fun bv H hP hD hS => ?_)
  refine x_putF X hn gF hP hD hS 0 rfl 2 (by decide) e_F_25 rfl rfl rfl (Nat.le_of_ble_eq_true rfl) d_F_init_32 (fun H locs hP hD hS => ?_)
  have hP : va_P D vwCl [(o, .inr (4, [.ref u, .ref ks, .ref bv, .int (nI 0)])), (u, .inr (2, [.ref nn, .ref em, .int (nI 0)])), (nn, cArr A 3 0 (fun _ => none)), (em, .inr (3, [.ref nn, .null, .ref nn, .int (nI 0), .int (nI 0)])), (ks, .inr (1, [.ref ar, .int (nI 0)])), (ar, .inl (A 0, 4642, .inl (fun _ => nI 0))), (bv, cArr A 4 120 (fun _ => none))] H := hP
  have hD : va_D (xA (fun q => q = o) H0) [(o, .inr (4, [.ref u, .ref ks, .ref bv, .int (nI 0)])), (u, .inr (2, [.ref nn, .ref em, .int (nI 0)])), (nn, cArr A 3 0 (fun _ => none)), (em, .inr (3, [.ref nn, .null, .ref nn, .int (nI 0), .int (nI 0)])), (ks, .inr (1, [.ref ar, .int (nI 0)])), (ar, .inl (A 0, 4642, .inl (fun _ => nI 0))), (bv, cArr A 4 120 (fun _ => none))] := hD
  refine x_aload_n X d_F_init_35 rfl hl rfl ?_
  refine x_get X gF (hP 0 _ rfl) 2 (by decide) e_F_25 rfl d_F_init_36 ?_
  refine x_iconst (v := nI 0) X d_F_init_39 rfl ?_
  refine x_aload_n X d_F_init_40 rfl hl rfl ?_
  refine x_get X gF (hP 0 _ rfl) 0 (by decide) e_F_12 rfl d_F_init_41 ?_
  refine x_getN X gU (hP 1 _ rfl) 1 (by decide) e_F_29 rfl d_F_init_44 ?_
  refine x_aastT X hP hD hS 6 rfl (hP 3 _ rfl) (by decide) (by decide) d_F_init_47 (fun H locs hP hD hS => ?_)
  refine x_aload_n X d_F_init_48 rfl hl rfl ?_
  refine x_iconst (v := nI 1) X d_F_init_49 rfl ?_
  refine x_putG X gF hP hD hS 0 rfl 3 (by decide) e_F_33 rfl rfl rfl (Nat.le_of_ble_eq_true rfl) d_F_init_50 (fun H locs hP hD hS => ?_)
  have hP : va_P D vwCl [(o, .inr (4, [.ref u, .ref ks, .ref bv, .int (nI 1)])), (u, .inr (2, [.ref nn, .ref em, .int (nI 0)])), (nn, cArr A 3 0 (fun _ => none)), (em, .inr (3, [.ref nn, .null, .ref nn, .int (nI 0), .int (nI 0)])), (ks, .inr (1, [.ref ar, .int (nI 0)])), (ar, .inl (A 0, 4642, .inl (fun _ => nI 0))), (bv, cArr A 4 120 (va_up (fun _ => none) 0 (some em)))] H := hP
  have hD : va_D (xA (fun q => q = o) H0) [(o, .inr (4, [.ref u, .ref ks, .ref bv, .int (nI 1)])), (u, .inr (2, [.ref nn, .ref em, .int (nI 0)])), (nn, cArr A 3 0 (fun _ => none)), (em, .inr (3, [.ref nn, .null, .ref nn, .int (nI 0), .int (nI 0)])), (ks, .inr (1, [.ref ar, .int (nI 0)])), (ar, .inl (A 0, 4642, .inl (fun _ => nI 0))), (bv, cArr A 4 120 (va_up (fun _ => none) 0 (some em)))] := hD
  have hds : cDs o u ks bv ar := ⟨fun h => absurd (hD.1 0 1 _ _ rfl rfl h) (by decide), fun h => absurd (hD.1 0 4 _ _ rfl rfl h) (by decide), fun h => absurd (hD.1 0 6 _ _ rfl rfl h) (by decide), fun h => absurd (hD.1 0 5 _ _ rfl rfl h) (by decide), fun h => absurd (hD.1 1 4 _ _ rfl rfl h) (by decide), fun h => absurd (hD.1 1 6 _ _ rfl rfl h) (by decide), fun h => absurd (hD.1 1 5 _ _ rfl rfl h) (by decide), fun h => absurd (hD.1 4 6 _ _ rfl rfl h) (by decide), fun h => absurd (hD.1 4 5 _ _ rfl rfl h) (by decide), fun h => absurd (hD.1 6 5 _ _ rfl rfl h) (by decide)⟩
  have zv : H0.size ≤ bv := by
    rcases hD.2 6 _ rfl with h | h
    · exact absurd (hD.1 6 0 _ _ rfl rfl h) (by decide)
    · exact h
  have hnn : ¬ cSt o u ks bv ar nn := fun h => by
    rcases h with h | h | h | h | h
    · exact absurd (hD.1 2 0 _ _ rfl rfl h) (by decide)
    · exact absurd (hD.1 2 1 _ _ rfl rfl h) (by decide)
    · exact absurd (hD.1 2 4 _ _ rfl rfl h) (by decide)
    · exact absurd (hD.1 2 6 _ _ rfl rfl h) (by decide)
    · exact absurd (hD.1 2 5 _ _ rfl rfl h) (by decide)
  have hem : ¬ cSt o u ks bv ar em := fun h => by
    rcases h with h | h | h | h | h
    · exact absurd (hD.1 3 0 _ _ rfl rfl h) (by decide)
    · exact absurd (hD.1 3 1 _ _ rfl rfl h) (by decide)
    · exact absurd (hD.1 3 4 _ _ rfl rfl h) (by decide)
    · exact absurd (hD.1 3 6 _ _ rfl rfl h) (by decide)
    · exact absurd (hD.1 3 5 _ _ rfl rfl h) (by decide)
  have hrn : cRw D A (cSt o u ks bv ar) [] nn H := ⟨hnn, cArr_ext (hP 2 _ rfl) (fun i h => absurd h (Nat.not_lt_zero _))⟩
  have hTe : cT D A (cSt o u ks bv ar) (fun n => n) [] [] none em H := ⟨nn, nn, [], ⟨hem, hP 3 _ rfl⟩, hrn, hrn, cL_nil.2 rfl⟩
  have hbv := cArr_ext (g := fun i => [em][i]?) (hP 6 _ rfl) (fun i _ => by
    unfold va_up
    cases i with
    | zero => rfl
    | succ i => simp)
  refine x_vret X hS (by omega) (by omega) d_F_init_53 ⟨rfl, u, ks, bv, ar, hds, z_u, z_ks, zv, z_ar, fun x h => h, fun x h => ?_, fun n => n, nn, em, 0, [em], fun _ => 0, cR.id 0, hP 0 _ rfl, ⟨hP 1 _ rfl, hrn, hTe, Or.inr (Or.inl rfl)⟩, hP 4 _ rfl, hbv, hP 5 _ rfl, fun _ => Nat.le_refl _, Nat.le_refl _, rfl, fun i t hi => ?_⟩
  · rcases h with h | h | h | h | h
    · rw [h]; exact c_lt (hP 0 _ rfl)
    · rw [h]; exact c_lt (hP 1 _ rfl)
    · rw [h]; exact c_lt (hP 4 _ rfl)
    · rw [h]; exact c_lt (hP 6 _ rfl)
    · rw [h]; exact c_lt (hP 5 _ rfl)
  · cases i with
    | zero =>
      have : t = ([], none) := by simpa [sp_q0] using hi.symm
      subst this
      exact ⟨em, rfl, hTe⟩
    | succ i => simp [sp_q0] at hi
