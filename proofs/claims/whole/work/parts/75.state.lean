/-! The class: its state between calls; the small methods that the calls share. -/
/-- the class's number of a node: a one to one map of those made -/
def cR (rh : Nat → Nat) (M : Nat) : Prop := (∀ n, M < n → rh n = n) ∧ (∀ n, 1 ≤ n → n ≤ M → 1 ≤ rh n ∧ rh n ≤ M) ∧ ∀ m n, 1 ≤ m → m ≤ M → 1 ≤ n → n ≤ M → rh m = rh n → m = n
theorem cR.up {rh : Nat → Nat} {M M1 : Nat} (h : cR rh M) (hm : M ≤ M1) : cR rh M1 := by
  have key : ∀ n, 1 ≤ n → n ≤ M1 → (n ≤ M ∧ 1 ≤ rh n ∧ rh n ≤ M) ∨ (M < n ∧ rh n = n) := fun n h1 h2 => by
    by_cases h3 : n ≤ M
    · exact Or.inl ⟨h3, h.2.1 n h1 h3⟩
    · exact Or.inr ⟨by omega, h.1 n (by omega)⟩
  refine ⟨fun n hn => h.1 n (by omega), fun n h1 h2 => ?_, fun m n h1 h2 h3 h4 e => ?_⟩
  · rcases key n h1 h2 with ⟨-, h4, h5⟩ | ⟨h4, h5⟩ <;> omega
  · rcases key m h1 h2 with ⟨a1, a2, a3⟩ | ⟨a1, a2⟩ <;> rcases key n h3 h4 with ⟨b1, b2, b3⟩ | ⟨b1, b2⟩
    · exact h.2.2 m n h1 a1 h3 b1 e
    · omega
    · omega
    · omega
theorem cR.id (M : Nat) : cR (fun n => n) M := ⟨fun _ _ => rfl, fun _ h1 h2 => ⟨h1, h2⟩, fun _ _ _ _ _ _ h => h⟩
/-- the five cells that calls write -/
def cSt (b0 u ks bv ar : Nat) : Nat → Prop := fun q => q = b0 ∨ q = u ∨ q = ks ∨ q = bv ∨ q = ar
def cDs (b0 u ks bv ar : Nat) : Prop := b0 ≠ u ∧ b0 ≠ ks ∧ b0 ≠ bv ∧ b0 ≠ ar ∧ u ≠ ks ∧ u ≠ bv ∧ u ≠ ar ∧ ks ≠ bv ∧ ks ≠ ar ∧ bv ≠ ar
/-- the class's object -/
abbrev cO (b0 u ks bv n : Nat) : Nat × va_E := (b0, .inr (4, [.ref u, .ref ks, .ref bv, .int (nI n)]))
abbrev cV (A : Nat → ClassId) (bv : Nat) (vs : List Nat) : Nat × va_E := (bv, cArr A 4 120 (fun i => vs[i]?))
abbrev cKs (ks ar lt : Nat) : Nat × va_E := (ks, .inr (1, [.ref ar, .int (nI lt)]))
abbrev cMk (A : Nat → ClassId) (ar : Nat) (mv : Nat → Nat) : Nat × va_E := (ar, .inl (A 0, 4642, .inl (fun i => nI (mv i))))
/-- the state between calls: versions, nodes, entries; w: calls so far -/
def cF (D : va_G) (A : Nat → ClassId) (S : Nat → Prop) (b0 u ks bv ar : Nat) (rh : Nat → Nat) (q : ft_Q) (w nn em lt : Nat) (vs : List Nat) (mv : Nat → Nat) (H : Heap) : Prop :=
  va_at D vwCl (cO b0 u ks bv q.1.length) H ∧ cUs D A S rh q.2.2 u nn em q.2.1.1 H ∧ va_at D vwCl (cKs ks ar lt) H ∧ va_at D vwCl (cV A bv vs) H ∧ va_at D vwCl (cMk A ar mv) H ∧ (∀ d, mv d ≤ lt) ∧ lt ≤ 2 * w ∧ vs.length = q.1.length ∧ ∀ (i : Nat) (t : ft_T), q.1[i]? = some t → ∃ a, vs[i]? = some a ∧ cT D A S rh q.2.2 t.1 t.2 a H
def cG (D : va_G) (A : Nat → ClassId) (S : Nat → Prop) (b0 u ks bv ar : Nat) (q : ft_Q) (w : Nat) (H : Heap) : Prop := (∀ x, cSt b0 u ks bv ar x → S x) ∧ (∀ x, S x → x < H.size) ∧ ∃ (rh : Nat → Nat) (nn em lt : Nat) (vs : List Nat) (mv : Nat → Nat), cR rh q.2.1.1 ∧ cF D A S b0 u ks bv ar rh q w nn em lt vs mv H
section XF
variable {p : Program} {l : Launch} {e : Env} {R : Room} {s : State} {m : MethodId} {args : Array Value} {below : List Frame} {meth : Method} {c : Code} {H : Heap} {locs : List Loc} {cells slots : Nat} {Q : State → Prop}
variable {cc : ByteArray} {nL : Nat} {own : String} {ret : Option FieldType} {D : va_G} {A : Nat → ClassId} {H0 : Heap} {pc : Nat} {ls : Array Slot} {rest : List Value} {fr : Nat → Prop}
/-- a version -/
theorem x_ver (X : xx p s m args meth c cc nL own ret D A H0) {vs : List Nat} {bv j a : Nat} (h : va_at D vwCl (cV A bv vs) H) (hv : vs[j]? = some a) (h120 : vs.length ≤ 120) (hdg : decode cc pc = .ok (.aaload, 1))
    (kk : W p l e R s m args below meth c H locs cells slots Q (F0 m (pc + 1) ls (.ref a :: rest))) : W p l e R s m args below meth c H locs cells slots Q (F0 m pc ls (.int (nI j) :: .ref bv :: rest)) := by
  have hj := (List.getElem?_eq_some_iff.1 hv).1
  refine va_aldq (cl := vwCl) (C := R_T) X.1 X.2.1 X.2.2.2.2.2.2.1 (va_P1 h) 0 4 rfl rfl (vp_in_nI (by omega) (by decide)) hdg ?_
  rw [nI_clamp (by omega)]
  show W p l e R s m args below meth c H locs cells slots Q (F0 m (pc + 1) ls (va_rf (vs[j]?) :: rest))
  rw [hv]
  exact kk
/-- a tree into the array of versions -/
theorem x_keepV (X : xx p s m args meth c cc nL own ret D A H0) {vs : List Nat} {bv v n : Nat} {fs : List Value} {x : Nat × va_E} (ha : va_at D vwCl (cV A bv vs) H) (hx : va_at D vwCl x H) (hne : x.1 ≠ bv) (hfx : fr x.1) (hfb : fr bv) (hS : va_S fr H0 H locs) (hv : va_at D vwCl (v, .inr (3, fs)) H) (hn : vs.length = n) (hi : n < 120) (hdg : decode cc pc = .ok (.aastore, 1))
    (kk : ∀ (H1 : Heap) (locs1 : List Loc), va_at D vwCl x H1 → va_at D vwCl (cV A bv (vs ++ [v])) H1 → va_S fr H0 H1 locs1 → W p l e R s m args below meth c H1 locs1 cells slots Q (F0 m (pc + 1) ls rest)) : W p l e R s m args below meth c H locs cells slots Q (F0 m pc ls (.ref v :: .int (nI n) :: .ref bv :: rest)) := by
  have hK := X.2.2.2.2.2.2.1
  have hca := (hK.1 3 _ gT.1).2
  refine vb_astq (cl := vwCl) (E := R_T) (C := R_T) X.1 X.2.1 hK (va_P2 hx ha) (va_D2 hne hfx hfb) hS 1 4 rfl rfl (va_recv (q0 := 0) hK (va_P1 hv) gT.1 rfl) (fun comp c0 h1 h2 => ?_) (vp_in_nI hi (by decide)) hdg (fun H1 locs1 h1 h2 h3 => ?_)
  · have e1 : comp = D.1 3 := Option.some.inj (h1.symm.trans hca.1)
    have e2 : c0 = D.1 3 := Option.some.inj (h2.symm.trans hca.1)
    rw [e1, e2]
    exact va_assign hca
  · rw [nI_clamp (by omega), c_apd vs v n hn] at h1
    exact kk H1 locs1 (h1 0 _ rfl) (h1 1 _ rfl) h3
end XF
set_option maxRecDepth 100000 in
set_option maxHeartbeats 4000000 in
theorem C_F_isVersion_t (l : Launch) (D : va_G) (A : Nat → ClassId) (H0 : Heap) (b0 u ks bv n : Nat) (hO : va_at D vwCl (cO b0 u ks bv n) H0) (hn : n ≤ 120) (j : Nat) (hj : j < n) : xC l y_F_isVersion c_F_isVersion 2 (some .boolean) 0 D A H0 [.ref b0, .int (nI j)] (fun _ => False) (q1 (.int (nI 1)) (fun H1 => H1 = H0)) 0 0 := by
  refine xC.of rfl (Nat.le_of_ble_eq_true rfl) ?_
  intro p_ e_ s_ m_ ar_ bl_ me_ c_ ls X hl
  have hl : lz ls 2 [some (.ref b0), some (.int (nI j))] := hl
  have hS : va_S (fun _ => False) H0 H0 [] := va_S.rf
  refine x_iload_n X d_F_isVersion_0 rfl hl rfl ?_
  refine n_if_lt X 16 d_F_isVersion_1 rfl (by omega) (fun hc => absurd hc (by omega)) (fun hc => ?_)
  refine x_iload_n X d_F_isVersion_4 rfl hl rfl ?_
  refine x_aload_n X d_F_isVersion_5 rfl hl rfl ?_
  refine x_get X gF hO 3 (by decide) e_F_33 rfl d_F_isVersion_6 ?_
  refine n_icmp_ge X 16 d_F_isVersion_9 rfl (by omega) (by omega) (fun hc => absurd hc (by omega)) (fun hc => ?_)
  refine x_iconst (v := nI 1) X d_F_isVersion_12 rfl ?_
  refine x_goto X 17 d_F_isVersion_13 rfl ?_
  exact x_zret X hS (Nat.le_refl _) (Nat.le_refl _) d_F_isVersion_17 rfl ⟨rfl, rfl⟩
set_option maxRecDepth 100000 in
set_option maxHeartbeats 4000000 in
theorem C_F_isVersion_f (l : Launch) (D : va_G) (A : Nat → ClassId) (H0 : Heap) (b0 u ks bv n : Nat) (hO : va_at D vwCl (cO b0 u ks bv n) H0) (hn : n ≤ 120) (v : Int32) (hv : v < 0 ∨ nI n ≤ v) : xC l y_F_isVersion c_F_isVersion 2 (some .boolean) 0 D A H0 [.ref b0, .int v] (fun _ => False) (q1 (.int (nI 0)) (fun H1 => H1 = H0)) 0 0 := by
  by_cases h0 : v < 0
  · skip
    refine xC.of rfl (Nat.le_of_ble_eq_true rfl) ?_
    intro p_ e_ s_ m_ ar_ bl_ me_ c_ ls X hl
    have hl : lz ls 2 [some (.ref b0), some (.int v)] := hl
    have hS : va_S (fun _ => False) H0 H0 [] := va_S.rf
    refine x_iload_n X d_F_isVersion_0 rfl hl rfl ?_
    refine x_if_lt X 16 d_F_isVersion_1 rfl (fun _ => ?_) (fun hc => absurd h0 hc)
    refine x_iconst (v := nI 0) X d_F_isVersion_16 rfl ?_
    exact x_zret X hS (Nat.le_refl _) (Nat.le_refl _) d_F_isVersion_17 rfl ⟨rfl, rfl⟩
  · have h1 : nI n ≤ v := hv.resolve_left h0
    refine xC.of rfl (Nat.le_of_ble_eq_true rfl) ?_
    intro p_ e_ s_ m_ ar_ bl_ me_ c_ ls X hl
    have hl : lz ls 2 [some (.ref b0), some (.int v)] := hl
    have hS : va_S (fun _ => False) H0 H0 [] := va_S.rf
    refine x_iload_n X d_F_isVersion_0 rfl hl rfl ?_
    refine x_if_lt X 16 d_F_isVersion_1 rfl (fun hc => absurd hc h0) (fun _ => ?_)
    refine x_iload_n X d_F_isVersion_4 rfl hl rfl ?_
    refine x_aload_n X d_F_isVersion_5 rfl hl rfl ?_
    refine x_get X gF hO 3 (by decide) e_F_33 rfl d_F_isVersion_6 ?_
    refine x_icmp_ge X 16 d_F_isVersion_9 rfl (fun _ => ?_) (fun hc => absurd h1 hc)
    refine x_iconst (v := nI 0) X d_F_isVersion_16 rfl ?_
    exact x_zret X hS (Nat.le_refl _) (Nat.le_refl _) d_F_isVersion_17 rfl ⟨rfl, rfl⟩
set_option maxRecDepth 100000 in
set_option maxHeartbeats 4000000 in
theorem C_F_isKind_t (l : Launch) (D : va_G) (A : Nat → ClassId) (H0 : Heap) (kd : Int32) (h0 : ¬ kd < 0) (h3 : ¬ nI 3 < kd) : xC l y_F_isKind c_F_isKind 1 (some .boolean) 0 D A H0 [.int kd] (fun _ => False) (q1 (.int (nI 1)) (fun H1 => H1 = H0)) 0 0 := by
  refine xC.of rfl (Nat.le_of_ble_eq_true rfl) ?_
  intro p_ e_ s_ m_ ar_ bl_ me_ c_ ls X hl
  have hl : lz ls 1 [some (.int kd)] := hl
  have hS : va_S (fun _ => False) H0 H0 [] := va_S.rf
  refine x_iload_n X d_F_isKind_0 rfl hl rfl ?_
  refine x_if_lt X 13 d_F_isKind_1 rfl (fun hc => absurd hc h0) (fun _ => ?_)
  refine x_iload_n X d_F_isKind_4 rfl hl rfl ?_
  refine x_iconst (v := nI 3) X d_F_isKind_5 rfl ?_
  refine x_icmp_gt X 13 d_F_isKind_6 rfl (fun hc => absurd hc h3) (fun _ => ?_)
  refine x_iconst (v := nI 1) X d_F_isKind_9 rfl ?_
  refine x_goto X 14 d_F_isKind_10 rfl ?_
  exact x_zret X hS (Nat.le_refl _) (Nat.le_refl _) d_F_isKind_14 rfl ⟨rfl, rfl⟩
set_option maxRecDepth 100000 in
set_option maxHeartbeats 4000000 in
theorem C_F_isKind_f (l : Launch) (D : va_G) (A : Nat → ClassId) (H0 : Heap) (kd : Int32) (hk : kd < 0 ∨ nI 3 < kd) : xC l y_F_isKind c_F_isKind 1 (some .boolean) 0 D A H0 [.int kd] (fun _ => False) (q1 (.int (nI 0)) (fun H1 => H1 = H0)) 0 0 := by
  by_cases h0 : kd < 0
  · skip
    refine xC.of rfl (Nat.le_of_ble_eq_true rfl) ?_
    intro p_ e_ s_ m_ ar_ bl_ me_ c_ ls X hl
    have hl : lz ls 1 [some (.int kd)] := hl
    have hS : va_S (fun _ => False) H0 H0 [] := va_S.rf
    refine x_iload_n X d_F_isKind_0 rfl hl rfl ?_
    refine x_if_lt X 13 d_F_isKind_1 rfl (fun _ => ?_) (fun hc => absurd h0 hc)
    refine x_iconst (v := nI 0) X d_F_isKind_13 rfl ?_
    exact x_zret X hS (Nat.le_refl _) (Nat.le_refl _) d_F_isKind_14 rfl ⟨rfl, rfl⟩
  · have h3 := hk.resolve_left h0
    refine xC.of rfl (Nat.le_of_ble_eq_true rfl) ?_
    intro p_ e_ s_ m_ ar_ bl_ me_ c_ ls X hl
    have hl : lz ls 1 [some (.int kd)] := hl
    have hS : va_S (fun _ => False) H0 H0 [] := va_S.rf
    refine x_iload_n X d_F_isKind_0 rfl hl rfl ?_
    refine x_if_lt X 13 d_F_isKind_1 rfl (fun hc => absurd hc h0) (fun _ => ?_)
    refine x_iload_n X d_F_isKind_4 rfl hl rfl ?_
    refine x_iconst (v := nI 3) X d_F_isKind_5 rfl ?_
    refine x_icmp_gt X 13 d_F_isKind_6 rfl (fun _ => ?_) (fun hc => absurd h3 hc)
    refine x_iconst (v := nI 0) X d_F_isKind_13 rfl ?_
    exact x_zret X hS (Nat.le_refl _) (Nat.le_refl _) d_F_isKind_14 rfl ⟨rfl, rfl⟩
set_option maxRecDepth 100000 in
set_option maxHeartbeats 4000000 in
theorem C_F_hasRoomFor (l : Launch) (D : va_G) (A : Nat → ClassId) (H0 : Heap) (b0 u ks bv n : Nat) (hO : va_at D vwCl (cO b0 u ks bv n) H0) (hn : n ≤ 120) (k : Nat) (hk : k ≤ 2) : xC l y_F_hasRoomFor c_F_hasRoomFor 2 (some .boolean) 0 D A H0 [.ref b0, .int (nI k)] (fun _ => False) (q1 (.int (nI (if n + k ≤ 120 then 1 else 0))) (fun H1 => H1 = H0)) 0 0 := by
  by_cases hc : n + k ≤ 120
  · rw [if_pos hc]
    refine xC.of rfl (Nat.le_of_ble_eq_true rfl) ?_
    intro p_ e_ s_ m_ ar_ bl_ me_ c_ ls X hl
    have hl : lz ls 2 [some (.ref b0), some (.int (nI k))] := hl
    have hS : va_S (fun _ => False) H0 H0 [] := va_S.rf
    refine x_aload_n X d_F_hasRoomFor_0 rfl hl rfl ?_
    refine x_get X gF hO 3 (by decide) e_F_33 rfl d_F_hasRoomFor_1 ?_
    refine x_iload_n X d_F_hasRoomFor_4 rfl hl rfl ?_
    refine n_iadd X d_F_hasRoomFor_5 ?_
    refine x_bipush (v := nI 120) X d_F_hasRoomFor_6 rfl ?_
    refine n_icmp_gt X 15 d_F_hasRoomFor_8 rfl (by omega) (by omega) (fun h => absurd hc (by omega)) (fun h => ?_)
    refine x_iconst (v := nI 1) X d_F_hasRoomFor_11 rfl ?_
    refine x_goto X 16 d_F_hasRoomFor_12 rfl ?_
    exact x_zret X hS (Nat.le_refl _) (Nat.le_refl _) d_F_hasRoomFor_16 rfl ⟨rfl, rfl⟩
  · rw [if_neg hc]
    refine xC.of rfl (Nat.le_of_ble_eq_true rfl) ?_
    intro p_ e_ s_ m_ ar_ bl_ me_ c_ ls X hl
    have hl : lz ls 2 [some (.ref b0), some (.int (nI k))] := hl
    have hS : va_S (fun _ => False) H0 H0 [] := va_S.rf
    refine x_aload_n X d_F_hasRoomFor_0 rfl hl rfl ?_
    refine x_get X gF hO 3 (by decide) e_F_33 rfl d_F_hasRoomFor_1 ?_
    refine x_iload_n X d_F_hasRoomFor_4 rfl hl rfl ?_
    refine n_iadd X d_F_hasRoomFor_5 ?_
    refine x_bipush (v := nI 120) X d_F_hasRoomFor_6 rfl ?_
    refine n_icmp_gt X 15 d_F_hasRoomFor_8 rfl (by omega) (by omega) (fun h => ?_) (fun h => absurd h (by omega))
    refine x_iconst (v := nI 0) X d_F_hasRoomFor_15 rfl ?_
    exact x_zret X hS (Nat.le_refl _) (Nat.le_refl _) d_F_hasRoomFor_16 rfl ⟨rfl, rfl⟩
set_option maxRecDepth 100000 in
set_option maxHeartbeats 4000000 in
theorem C_F_keep (l : Launch) (D : va_G) (A : Nat → ClassId) (H0 : Heap) (b0 u ks bv n : Nat) (hO : va_at D vwCl (cO b0 u ks bv n) H0) (vs : List Nat) (hV : va_at D vwCl (cV A bv vs) H0) (hob : b0 ≠ bv) (hvs : vs.length = n) (hn : n < 120) (t : Nat) (fs : List Value) (ht : va_at D vwCl (t, .inr (3, fs)) H0) : xC l y_F_keep c_F_keep 2 (some .int) 0 D A H0 [.ref b0, .ref t] (fun q => q = b0 ∨ q = bv) (q1 (.int (nI n)) (fun H1 => va_at D vwCl (cO b0 u ks bv (n + 1)) H1 ∧ va_at D vwCl (cV A bv (vs ++ [t])) H1)) 0 0 := by
  refine xC.of rfl (Nat.le_of_ble_eq_true rfl) ?_
  intro p_ e_ s_ m_ ar_ bl_ me_ c_ ls X hl
  have hl : lz ls 2 [some (.ref b0), some (.ref t)] := hl
  have hS : va_S (fun q => q = b0 ∨ q = bv) H0 H0 [] := va_S.rf
  refine x_aload_n X d_F_keep_0 rfl hl rfl ?_
  refine x_get X gF hO 2 (by decide) e_F_25 rfl d_F_keep_1 ?_
  refine x_aload_n X d_F_keep_4 rfl hl rfl ?_
  refine x_get X gF hO 3 (by decide) e_F_33 rfl d_F_keep_5 ?_
  refine x_aload_n X d_F_keep_8 rfl hl rfl ?_
  refine x_keepV X hV hO hob (Or.inl rfl) (Or.inr rfl) hS ht hvs hn d_F_keep_9 (fun H locs hO hV hS => ?_)
  refine x_aload_n X d_F_keep_10 rfl hl rfl ?_
  refine x_dup X d_F_keep_11 rfl ?_
  refine x_get X gF hO 3 (by decide) e_F_33 rfl d_F_keep_12 ?_
  refine x_iconst (v := nI 1) X d_F_keep_15 rfl ?_
  refine n_iadd X d_F_keep_16 ?_
  refine x_putG X gF (va_P2 hO hV) (va_D2 hob (Or.inl rfl) (Or.inr rfl)) hS 0 rfl 3 (by decide) e_F_33 rfl rfl rfl (Nat.le_of_ble_eq_true rfl) d_F_keep_17 (fun H locs hP _ hS => ?_)
  have hO : va_at D vwCl (cO b0 u ks bv (n + 1)) H := hP 0 _ rfl
  refine x_aload_n X d_F_keep_20 rfl hl rfl ?_
  refine x_get X gF hO 3 (by decide) e_F_33 rfl d_F_keep_21 ?_
  refine x_iconst (v := nI 1) X d_F_keep_24 rfl ?_
  refine n_isub X d_F_keep_25 (by omega) ?_
  rw [Nat.add_sub_cancel]
  exact x_iret X hS (Nat.le_refl _) (Nat.le_refl _) d_F_keep_26 ⟨rfl, hO, hP 1 _ rfl⟩
set_option maxRecDepth 100000 in
set_option maxHeartbeats 4000000 in
theorem C_F_isPlace_t (l : Launch) (D : va_G) (A : Nat → ClassId) (H0 : Heap) (b0 u ks bv n : Nat) (hO : va_at D vwCl (cO b0 u ks bv n) H0) (hn : n ≤ 120) (vs : List Nat) (hV : va_at D vwCl (cV A bv vs) H0) (hvs : vs.length = n) (j a z : Nat) (hj : j < n) (hv : vs[j]? = some a) (tl tr : Nat) (tm : Value) (rs : Int32) (hT : va_at D vwCl (a, .inr (3, [.ref tl, tm, .ref tr, .int rs, .int (nI z)])) H0) (hz : z < 64) (i : Nat) (hi : i < z) : xC l y_F_isPlace c_F_isPlace 3 (some .boolean) 1 D A H0 [.ref b0, .int (nI j), .int (nI i)] (fun _ => False) (q1 (.int (nI 1)) (fun H1 => H1 = H0)) 0 0 := by
  refine xC.of rfl (Nat.le_of_ble_eq_true rfl) ?_
  intro p_ e_ s_ m_ ar_ bl_ me_ c_ ls X hl
  have hl : lz ls 3 [some (.ref b0), some (.int (nI j)), some (.int (nI i))] := hl
  have hS : va_S (fun _ => False) H0 H0 [] := va_S.rf
  refine x_aload_n X d_F_isPlace_0 rfl hl rfl ?_
  refine x_iload_n X d_F_isPlace_1 rfl hl rfl ?_
  refine x_goR (x_runV X (C_F_isVersion_t l D A _ b0 u ks bv n hO hn j hj) b_F_isVersion s_F_isVersion v_F_isVersion e_F_37 hO rfl rfl hl rfl (Nat.le_of_ble_eq_true rfl) d_F_isPlace_2 (by dsimp only [x_rm]; omega) (by dsimp only [x_rm]; omega) ⟨(by dsimp only [x_rm]; omega), (by dsimp only [x_rm]; omega)⟩) hS (fun locs hS => ?_)
  refine n_if_eq X 29 d_F_isPlace_5 rfl (by decide) (fun hc => absurd hc (by decide)) (fun hc => ?_)
  refine x_iload_n X d_F_isPlace_8 rfl hl rfl ?_
  refine n_if_lt X 29 d_F_isPlace_9 rfl (by omega) (fun hc => absurd hc (by omega)) (fun hc => ?_)
  refine x_iload_n X d_F_isPlace_12 rfl hl rfl ?_
  refine x_aload_n X d_F_isPlace_13 rfl hl rfl ?_
  refine x_get X gF hO 2 (by decide) e_F_25 rfl d_F_isPlace_14 ?_
  refine x_iload_n X d_F_isPlace_17 rfl hl rfl ?_
  refine x_ver X hV hv (by omega) d_F_isPlace_18 ?_
  refine x_getN X gT hT 4 (by decide) e_F_44 rfl d_F_isPlace_19 ?_
  refine n_icmp_ge X 29 d_F_isPlace_22 rfl (by omega) (by omega) (fun hc => absurd hc (by omega)) (fun hc => ?_)
  refine x_iconst (v := nI 1) X d_F_isPlace_25 rfl ?_
  refine x_goto X 30 d_F_isPlace_26 rfl ?_
  exact x_zret X hS (Nat.le_refl _) (Nat.le_refl _) d_F_isPlace_30 rfl ⟨rfl, rfl⟩
set_option maxRecDepth 100000 in
set_option maxHeartbeats 4000000 in
theorem C_F_isPlace_f (l : Launch) (D : va_G) (A : Nat → ClassId) (H0 : Heap) (b0 u ks bv n : Nat) (hO : va_at D vwCl (cO b0 u ks bv n) H0) (hn : n ≤ 120) (vs : List Nat) (hV : va_at D vwCl (cV A bv vs) H0) (hvs : vs.length = n) (j a z : Nat) (hj : j < n) (hv : vs[j]? = some a) (tl tr : Nat) (tm : Value) (rs : Int32) (hT : va_at D vwCl (a, .inr (3, [.ref tl, tm, .ref tr, .int rs, .int (nI z)])) H0) (hz : z < 64) (p : Int32) (hp : p < 0 ∨ nI z ≤ p) : xC l y_F_isPlace c_F_isPlace 3 (some .boolean) 1 D A H0 [.ref b0, .int (nI j), .int p] (fun _ => False) (q1 (.int (nI 0)) (fun H1 => H1 = H0)) 0 0 := by
  by_cases h0 : p < 0
  · skip
    refine xC.of rfl (Nat.le_of_ble_eq_true rfl) ?_
    intro p_ e_ s_ m_ ar_ bl_ me_ c_ ls X hl
    have hl : lz ls 3 [some (.ref b0), some (.int (nI j)), some (.int p)] := hl
    have hS : va_S (fun _ => False) H0 H0 [] := va_S.rf
    refine x_aload_n X d_F_isPlace_0 rfl hl rfl ?_
    refine x_iload_n X d_F_isPlace_1 rfl hl rfl ?_
    refine x_goR (x_runV X (C_F_isVersion_t l D A _ b0 u ks bv n hO hn j hj) b_F_isVersion s_F_isVersion v_F_isVersion e_F_37 hO rfl rfl hl rfl (Nat.le_of_ble_eq_true rfl) d_F_isPlace_2 (by dsimp only [x_rm]; omega) (by dsimp only [x_rm]; omega) ⟨(by dsimp only [x_rm]; omega), (by dsimp only [x_rm]; omega)⟩) hS (fun locs hS => ?_)
    refine n_if_eq X 29 d_F_isPlace_5 rfl (by decide) (fun hc => absurd hc (by decide)) (fun hc => ?_)
    refine x_iload_n X d_F_isPlace_8 rfl hl rfl ?_
    refine x_if_lt X 29 d_F_isPlace_9 rfl (fun _ => ?_) (fun hc => absurd h0 hc)
    refine x_iconst (v := nI 0) X d_F_isPlace_29 rfl ?_
    exact x_zret X hS (Nat.le_refl _) (Nat.le_refl _) d_F_isPlace_30 rfl ⟨rfl, rfl⟩
  · have h1 := hp.resolve_left h0
    refine xC.of rfl (Nat.le_of_ble_eq_true rfl) ?_
    intro p_ e_ s_ m_ ar_ bl_ me_ c_ ls X hl
    have hl : lz ls 3 [some (.ref b0), some (.int (nI j)), some (.int p)] := hl
    have hS : va_S (fun _ => False) H0 H0 [] := va_S.rf
    refine x_aload_n X d_F_isPlace_0 rfl hl rfl ?_
    refine x_iload_n X d_F_isPlace_1 rfl hl rfl ?_
    refine x_goR (x_runV X (C_F_isVersion_t l D A _ b0 u ks bv n hO hn j hj) b_F_isVersion s_F_isVersion v_F_isVersion e_F_37 hO rfl rfl hl rfl (Nat.le_of_ble_eq_true rfl) d_F_isPlace_2 (by dsimp only [x_rm]; omega) (by dsimp only [x_rm]; omega) ⟨(by dsimp only [x_rm]; omega), (by dsimp only [x_rm]; omega)⟩) hS (fun locs hS => ?_)
    refine n_if_eq X 29 d_F_isPlace_5 rfl (by decide) (fun hc => absurd hc (by decide)) (fun hc => ?_)
    refine x_iload_n X d_F_isPlace_8 rfl hl rfl ?_
    refine x_if_lt X 29 d_F_isPlace_9 rfl (fun hc => absurd hc h0) (fun _ => ?_)
    refine x_iload_n X d_F_isPlace_12 rfl hl rfl ?_
    refine x_aload_n X d_F_isPlace_13 rfl hl rfl ?_
    refine x_get X gF hO 2 (by decide) e_F_25 rfl d_F_isPlace_14 ?_
    refine x_iload_n X d_F_isPlace_17 rfl hl rfl ?_
    refine x_ver X hV hv (by omega) d_F_isPlace_18 ?_
    refine x_getN X gT hT 4 (by decide) e_F_44 rfl d_F_isPlace_19 ?_
    refine x_icmp_ge X 29 d_F_isPlace_22 rfl (fun _ => ?_) (fun hc => absurd h1 hc)
    refine x_iconst (v := nI 0) X d_F_isPlace_29 rfl ?_
    exact x_zret X hS (Nat.le_refl _) (Nat.le_refl _) d_F_isPlace_30 rfl ⟨rfl, rfl⟩
set_option maxRecDepth 100000 in
set_option maxHeartbeats 4000000 in
theorem C_F_isPlace_n (l : Launch) (D : va_G) (A : Nat → ClassId) (H0 : Heap) (b0 u ks bv n : Nat) (hO : va_at D vwCl (cO b0 u ks bv n) H0) (hn : n ≤ 120) (v p : Int32) (hv : v < 0 ∨ nI n ≤ v) : xC l y_F_isPlace c_F_isPlace 3 (some .boolean) 1 D A H0 [.ref b0, .int v, .int p] (fun _ => False) (q1 (.int (nI 0)) (fun H1 => H1 = H0)) 0 0 := by
  refine xC.of rfl (Nat.le_of_ble_eq_true rfl) ?_
  intro p_ e_ s_ m_ ar_ bl_ me_ c_ ls X hl
  have hl : lz ls 3 [some (.ref b0), some (.int v), some (.int p)] := hl
  have hS : va_S (fun _ => False) H0 H0 [] := va_S.rf
  refine x_aload_n X d_F_isPlace_0 rfl hl rfl ?_
  refine x_iload_n X d_F_isPlace_1 rfl hl rfl ?_
  refine x_goR (x_runV X (C_F_isVersion_f l D A _ b0 u ks bv n hO hn v hv) b_F_isVersion s_F_isVersion v_F_isVersion e_F_37 hO rfl rfl hl rfl (Nat.le_of_ble_eq_true rfl) d_F_isPlace_2 (by dsimp only [x_rm]; omega) (by dsimp only [x_rm]; omega) ⟨(by dsimp only [x_rm]; omega), (by dsimp only [x_rm]; omega)⟩) hS (fun locs hS => ?_)
  refine n_if_eq X 29 d_F_isPlace_5 rfl (by decide) (fun hc => ?_) (fun hc => absurd rfl hc)
  refine x_iconst (v := nI 0) X d_F_isPlace_29 rfl ?_
  exact x_zret X hS (Nat.le_refl _) (Nat.le_refl _) d_F_isPlace_30 rfl ⟨rfl, rfl⟩
