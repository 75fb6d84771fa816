/-! The class: the object of the rules; single, node. -/
/-- the rules: the row of nothing, the empty tree, the nodes made -/
def cUs (D : va_G) (A : Nat → ClassId) (S : Nat → Prop) (rh : Nat → Nat) (E : ft_E) (u nn em md : Nat) (H : Heap) : Prop := va_at D vwCl (u, .inr (2, [.ref nn, .ref em, .int (nI md)])) H ∧ cRw D A S [] nn H ∧ cT D A S rh E [] none em H ∧ S u
theorem va_S.at {D : va_G} {S : Nat → Prop} {H0 H : Heap} {locs : List Loc} {q : Nat × va_E} (h : va_S (xA S H0) H0 H locs) (ha : va_at D vwCl q H0) (hs : ¬ S q.1) : va_at D vwCl q H := c_keep ha (h.2.1 q.1 (c_lt ha) (fun h2 => by
  rcases h2 with h2 | h2
  · exact hs h2
  · have := c_lt ha; omega))
theorem x_fr.at {D : va_G} {S : Nat → Prop} {H0 H : Heap} {q : Nat × va_E} (h : x_fr (xA S H0) H0 H) (ha : va_at D vwCl q H0) (hs : ¬ S q.1) : va_at D vwCl q H := c_keep ha (h.2 q.1 (c_lt ha) (fun h2 => by
  rcases h2 with h2 | h2
  · exact hs h2
  · have := c_lt ha; omega))
/-- a new cell o: what stood, stands, and isn't o -/
theorem cTr.new {S S2 : Nat → Prop} {H0 H : Heap} {locs : List Loc} {o : Nat} (h : va_S (xA S2 H0) H0 H locs) (ho : H0.size ≤ o) (hs : ∀ q, S2 q → S q) : cTr S (fun q => S q ∨ q = o) H0 H := fun q h1 h2 => ⟨h.2.1 q h1 (fun h3 => by
  rcases h3 with h3 | h3
  · exact h2 (hs q h3)
  · omega), fun h3 => by
  rcases h3 with h3 | h3
  · exact h2 h3
  · omega⟩
/-- after a call that wrote S2 and made cells -/
theorem cTr.fr {S S2 : Nat → Prop} {H0 H : Heap} (h : x_fr (xA S2 H0) H0 H) (hs : ∀ q, S2 q → S q) : cTr S S H0 H := cTr.of h (fun q h1 h2 => by
  rcases h2 with h2 | h2
  · exact hs q h2
  · omega)
/-- the cell o is done -/
theorem cTr.done {S : Nat → Prop} {H0 H : Heap} {o : Nat} (h : x_fr (xA (fun q => q = o) H0) H0 H) : cTr (fun q => S q ∨ q = o) S H0 H := fun q h1 h2 => ⟨h.2 q h1 (fun h3 => by
  rcases h3 with h3 | h3
  · exact h2 (Or.inr h3)
  · omega), fun h3 => h2 (Or.inl h3)⟩
theorem x_nilP {D : va_G} {H : Heap} : va_P D vwCl [] H := fun k x hk => by simp at hk
theorem x_nilD {fr : Nat → Prop} : va_D fr [] := ⟨fun i j x y hx => by simp at hx, fun k x hx => by simp at hx⟩
theorem x_defT : ∀ j, j < 5 → defaultValue (ty_T j) = vp_V [.null, .null, .null, .int (nI 0), .int (nI 0)] j
  | 0, _ | 1, _ | 2, _ | 3, _ | 4, _ => rfl
theorem x_defI : ∀ j, j < 5 → defaultValue (ty_I j) = vp_V [.int (nI 0), .int (nI 0), .int (nI 0), .null, .int (nI 0)] j
  | 0, _ | 1, _ | 2, _ | 3, _ | 4, _ => rfl
set_option maxRecDepth 100000 in
set_option maxHeartbeats 4000000 in
theorem C_U_single (l : Launch) (D : va_G) (A : Nat → ClassId) (H0 : Heap) (S : Nat → Prop) (rh : Nat → Nat) (E : ft_E) (ne mm : Nat) (zf : Nat → Nat) (u nn em md : Nat) (hU : cUs D A S rh E u nn em md H0) (hSb : ∀ q, S q → q < H0.size) (k : Nat) (x : ft_I) (a : Nat) (okx : ft_ok ne mm zf k x) (hx : cI D A S rh E x [a] H0) (hzx : ft_z x < 4096) : xC l y_U_single c_U_single 2 (some (.object "FingerSpans$Tree")) 3 D A H0 [.ref u, .ref a] (xA (fun _ => False) H0) (qr (fun t H1 => H0.size ≤ t ∧ cT D A S rh E [] (some x) t H1)) 2 17 := by
  refine xC.of rfl (Nat.le_of_ble_eq_true rfl) ?_
  intro p_ e_ s_ m_ ar_ bl_ me_ c_ ls X hl
  have hl : lz ls 2 [some (.ref u), some (.ref a)] := hl
  have hS : va_S (xA (fun _ => False) H0) H0 H0 [] := va_S.rf
  have hA : ∀ q, H0.size ≤ q → (xA (fun _ => False) H0) q := fun q h => Or.inr h
  refine x_new X gT e_U_17 n_T i_T x_nilP x_nilD hS hA x_defT (Nat.le_of_ble_eq_true rfl) (Nat.le_of_ble_eq_true rfl) d_U_single_0 (fun o H hP hD hS => ?_)
  have ho : H0.size ≤ o := by
    rcases hD.2 0 _ rfl with h | h
    · exact h.elim
    · exact h
  have hoH := c_lt (hP 0 _ rfl)
  have t1 : cTr S (fun q => S q ∨ q = o) H0 H := cTr.new hS ho (fun _ h => h.elim)
  have hx1 := hx.tr t1 (fun _ _ h => h)
  have hSb1 : ∀ q, (S q ∨ q = o) → q < H.size := fun q h => by
    rcases h with h | h
    · exact Nat.lt_of_lt_of_le (hSb q h) hS.1
    · rw [h]; exact hoH
  refine x_dup X d_U_single_3 rfl ?_
  refine x_aload_n X d_U_single_4 rfl hl rfl ?_
  refine x_gor (x_runS X (C_U_rowOf l D A _ (fun q => S q ∨ q = o) rh E ne mm zf k x a okx hx1) b_U_rowOf s_U_rowOf e_U_33 rfl hl rfl (Nat.le_of_ble_eq_true rfl) d_U_single_5 (Nat.le_of_ble_eq_true rfl) (Nat.le_of_ble_eq_true rfl) ⟨Nat.le_of_ble_eq_true rfl, Nat.le_of_ble_eq_true rfl⟩) hS (xA.mono (fun _ h => h) hS.1) (fun q H2 locs hR hF hS => ?_)
  have t2 : cTr (fun q => S q ∨ q = o) (fun q => S q ∨ q = o) H H2 := cTr.fr hF (fun _ h => h.elim)
  have hr := hR.rw hSb1
  have hL := cL_one.2 (hx1.tr t2 (fun _ _ h => h))
  have hn := (hU.2.1.tr t1).tr t2
  have hPo := va_P1 (hF.at (hP 0 _ rfl) (fun h => h))
  have hu := hS.at hU.1 (fun h => h)
  refine x_null X d_U_single_8 ?_
  refine x_aload_n X d_U_single_9 rfl hl rfl ?_
  refine x_get X gU hu 0 (by decide) e_U_11 rfl d_U_single_10 ?_
  refine x_go0 (x_runIN X (C_T_init_n l D A _ o hPo (fun q => S q ∨ q = o) rh E ne mm zf (Or.inr rfl) k [x] [a] q (fun y hy => by simp at hy; rw [hy]; exact okx) hr hL (by simp) (by simp [ft_zR]; omega) [] [] nn (fun y hy => by simp at hy) hn (cL_nil.2 rfl) (by simp) (by simp [ft_zR])) b_T_init rfl s_T_init e_U_19 rfl hl rfl (Nat.le_of_ble_eq_true rfl) d_U_single_13 (Nat.le_of_ble_eq_true rfl) (Nat.le_of_ble_eq_true rfl) ⟨Nat.le_of_ble_eq_true rfl, Nat.le_of_ble_eq_true rfl⟩) hS (fun q h => ?_) (fun H3 locs hT hF3 hS => ?_)
  · rcases h with h | h
    · rw [h]; exact Or.inr ho
    · exact Or.inr (Nat.le_trans (Nat.le_trans hS.1 (Nat.le_refl _)) h)
  have t3 : cTr (fun q => S q ∨ q = o) S H2 H3 := cTr.done hF3
  exact x_aret X (Or.inl ⟨_, rfl⟩) hS (Nat.le_of_ble_eq_true rfl) (Nat.le_of_ble_eq_true rfl) d_U_single_16 ⟨o, rfl, ho, q, nn, [a], ⟨fun h => absurd (hSb o h) (by omega), hT⟩, hr.tr t3, hn.tr t3, hL.tr t3 (fun _ _ h => h)⟩
