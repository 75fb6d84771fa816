/-! The class: node. -/
set_option maxRecDepth 100000 in
set_option maxHeartbeats 4000000 in
theorem C_U_node (l : Launch) (D : va_G) (A : Nat → ClassId) (H0 : Heap) (S : Nat → Prop) (rh : Nat → Nat) (E : ft_E) (ne mm : Nat) (zf : Nat → Nat) (u nn em md : Nat) (hU : cUs D A S rh E u nn em md H0) (hSb : ∀ q, S q → q < H0.size) (k : Nat) (lr1 : List ft_I) (as1 : List Nat) (r1 : Nat) (ok1 : ft_okR ne mm zf k lr1) (hr1 : cRw D A S as1 r1 H0) (hL1 : cL D A S rh E lr1 as1 H0) (h91 : lr1.length < 64) (hz1 : ft_zR lr1 < 4096) (n : Nat) (hrn : rh n = md + 1) : xC l y_U_node c_U_node 2 (some (.object "FingerSpans$Item")) 3 D A H0 [.ref u, .ref r1] (xA (fun q => q = u) H0) (qr (fun o H1 => H0.size ≤ o ∧ cI D A S rh E (ft_nd n lr1) [o] H1 ∧ cUs D A S rh E u nn em (md + 1) H1)) 1 5 := by
  refine xC.of rfl (Nat.le_of_ble_eq_true rfl) ?_
  intro p_ e_ s_ m_ ar_ bl_ me_ c_ ls X hl
  have hl : lz ls 2 [some (.ref u), some (.ref r1)] := hl
  have hS : va_S (xA (fun q => q = u) H0) H0 H0 [] := va_S.rf
  have hA : ∀ q, H0.size ≤ q → (xA (fun q => q = u) H0) q := fun q h => Or.inr h
  have hP := va_P1 hU.1
  have hD : va_D (xA (fun q => q = u) H0) [(u, .inr (2, [.ref nn, .ref em, .int (nI md)]))] := va_D1 (Or.inl rfl)
  refine x_aload_n X d_U_node_0 rfl hl rfl ?_
  refine x_dup X d_U_node_1 rfl ?_
  refine x_get X gU (hP 0 _ rfl) 2 (by decide) e_U_26 rfl d_U_node_2 ?_
  refine x_iconst (v := nI 1) X d_U_node_5 rfl ?_
  refine n_iadd X d_U_node_6 ?_
  refine x_putG X gU hP hD hS 0 rfl 2 (by decide) e_U_26 rfl rfl rfl (Nat.le_of_ble_eq_true rfl) d_U_node_7 (fun H locs hP hD hS => ?_)
  refine x_new X gI e_U_9 n_I i_I hP hD hS hA x_defI (Nat.le_of_ble_eq_true rfl) (Nat.le_of_ble_eq_true rfl) d_U_node_10 (fun o H hP hD hS => ?_)
  have hP : va_P D vwCl [(u, .inr (2, [.ref nn, .ref em, .int (nI (md + 1))])), (o, .inr (0, [.int (nI 0), .int (nI 0), .int (nI 0), .null, .int (nI 0)]))] H := hP
  have hD : va_D (xA (fun q => q = u) H0) [(u, .inr (2, [.ref nn, .ref em, .int (nI (md + 1))])), (o, .inr (0, [.int (nI 0), .int (nI 0), .int (nI 0), .null, .int (nI 0)]))] := hD
  have ho : H0.size ≤ o := by
    rcases hD.2 1 _ rfl with h | h
    · exact absurd (hD.1 1 0 _ _ rfl rfl h) (by decide)
    · exact h
  have hoH := c_lt (hP 1 _ rfl)
  have huo : u ≠ o := fun h => absurd (hD.1 0 1 _ _ rfl rfl h) (by decide)
  have t1 : cTr S (fun q => S q ∨ q = o) H0 H := cTr.new hS ho (fun q h => by rw [h]; exact hU.2.2.2)
  refine x_dup X d_U_node_13 rfl ?_
  refine x_aload_n X d_U_node_14 rfl hl rfl ?_
  refine x_get X gU (hP 0 _ rfl) 2 (by decide) e_U_26 rfl d_U_node_15 ?_
  refine x_aload_n X d_U_node_18 rfl hl rfl ?_
  refine x_go0 (x_runIN X (C_I_init2 l D A _ o (va_P1 (hP 1 _ rfl)) (fun q => S q ∨ q = o) rh E ne mm zf (Or.inr rfl) k lr1 as1 r1 ok1 (hr1.tr t1) (hL1.tr t1 (fun _ _ h => h)) h91 hz1 (nI (md + 1))) b_I_init2 rfl s_I_init2 e_U_30 rfl hl rfl (Nat.le_of_ble_eq_true rfl) d_U_node_19 (Nat.le_of_ble_eq_true rfl) (Nat.le_of_ble_eq_true rfl) ⟨Nat.le_of_ble_eq_true rfl, Nat.le_of_ble_eq_true rfl⟩) hS (fun q h => ?_) (fun H3 locs hI hF3 hS => ?_)
  · rcases h with h | h
    · rw [h]; exact Or.inr ho
    · exact Or.inr (Nat.le_trans hS.1 h)
  have t3 : cTr (fun q => S q ∨ q = o) S H H3 := cTr.done hF3
  have hu3 := hF3.at (hP 0 _ rfl) huo
  refine x_aret X (Or.inl ⟨_, rfl⟩) hS (Nat.le_of_ble_eq_true rfl) (Nat.le_of_ble_eq_true rfl) d_U_node_22 ⟨o, rfl, ho, ⟨o, r1, as1, rfl, ⟨fun h => absurd (hSb o h) (by omega), ?_⟩, (hr1.tr t1).tr t3, (hL1.tr t1 (fun _ _ h => h)).tr t3 (fun _ _ h => h)⟩, hu3, (hU.2.1.tr t1).tr t3, (hU.2.2.1.tr t1 (fun _ _ h => h)).tr t3 (fun _ _ h => h), hU.2.2.2⟩
  rw [hrn, ft_z_mk]
  exact hI
