/-! Making: Object's constructor, the beginning of a constructor, new arrays of numbers; the constructor of the reference. -/
theorem z_objI : Cond.instanceMethod Lib.objectInit ∈ lw_tbl := List.mem_of_getElem? (i := 75) (by decide +kernel)
theorem z_objC : Cond.code Lib.objectInit ⟨#[0xb1]⟩ 1 none ∈ lw_tbl := List.mem_of_getElem? (i := 76) (by decide +kernel)
/-- what a method that makes cells may write: S, and what is new -/
def xA (S : Nat → Prop) (H0 : Heap) : Nat → Prop := fun q => S q ∨ H0.size ≤ q
section XMk
variable {p : Program} {l : Launch} {e : Env} {R : Room} {s : State} {m : MethodId} {args : Array Value} {below : List Frame} {meth : Method} {c : Code} {H : Heap} {locs : List Loc} {cells slots : Nat} {Q : State → Prop}
variable {cc : ByteArray} {nL : Nat} {own : String} {ret : Option FieldType} {D : va_G} {A : Nat → ClassId} {H0 : Heap} {pc : Nat} {ls : Array Slot} {rest : List Value} {L : List (Option Value)} {fr : Nat → Prop} {ws : va_W}
theorem xC.ofI {y : MethodName} {d : Nat} {av : List Value} {post : Option Value → Heap → Prop} {mc ms : Nat} (hy : plainName y.cls = true) (hlen : (lg_sl av).length ≤ nL)
    (body : ∀ (p : Program) (e : Env) (s : State) (m : MethodId) (args : Array Value) (below : List Frame) (meth : Method) (c : Code) (ls : Array Slot), xx p s m args meth c cc nL y.cls ret D A H0 → meth.name = y.name → lz ls nL (x_in av ++ List.replicate (nL - (x_in av).length) none) → W p l e (x_rm d mc ms) s m args below meth c H0 [] 0 0 (MQ below (xQ fr post) args s mc ms fr) (F0 m 0 ls [])) : xC l y cc nL ret d D A H0 av fr post mc ms := by
  refine Met.ofW (cc := cc) (maxL := nL) (ret := ret) hy rfl ?_
  intro p e s m args below meth c s₁ B hml hv
  obtain ⟨rfl, hH, hK, hT⟩ := hv
  have hl := lv_entry av (n := nL) hlen
  rw [lg_entry_eq]
  generalize (lg_sl av ++ List.replicate (nL - (lg_sl av).length) Slot.unset).toArray = ls at hl ⊢
  have h := body p e s m av.toArray below meth c ls ⟨B.exec, B.bytes, hml, findClass_of_methodNamed B.named, B.returns, B.notSynchronized, hK, hT, hH⟩ (name_of_methodNamed B.named B.method).1 ⟨hl.1, hl.2.1, fun i v hi => by
    have hi2 : (x_in av)[i]? = some (some v) := by
      rw [List.getElem?_append] at hi
      split at hi
      · exact hi
      · rw [List.getElem?_replicate] at hi
        split at hi <;> simp at hi
    have := x_in_args (i := 0) hi2
    rw [Nat.zero_add] at this
    exact hl.2.2 (i, v) this⟩
  rw [← hH] at h
  exact h
theorem x_obj (X : xx p s m args meth c cc nL own ret D A H0) {index a : Nat} (hln : Cond.methodLink own index Lib.objectInit ∈ lw_tbl) (hl : lz ls nL L) (hdg : decode cc pc = .ok (.invokespecial index, 3)) (h1 : 1 ≤ R.frames) (h2 : 2 * (F0 m pc ls (.ref a :: rest)).monitorRoom + (rest.map fun v => v.category).sum + 12 ≤ R.locals)
    (kk : W p l e R s m args below meth c H locs cells slots Q (F0 m (pc + 3) ls rest)) : W p l e R s m args below meth c H locs cells slots Q (F0 m pc ls (.ref a :: rest)) :=
  W.objInit X.1 X.2.1 X.2.2.2.1 (x_word X hln rfl) (x_word X z_objI rfl) (x_word X z_objC rfl) rfl (by rw [X.2.2.1]; exact hl.1) rfl hdg h1 h2 kk
theorem x_newI (X : xx p s m args meth c cc nL own ret D A H0) (hP : va_P D vwCl ws H) (hD : va_D fr ws) (hS : va_S fr H0 H locs) (hA : ∀ q, H0.size ≤ q → fr q) {N : Nat} (hN : N < 2 ^ 20) (hcells : cells + 1 ≤ R.cells) (hslots : slots + N ≤ R.slots) (hdg : decode cc pc = .ok (.newarray .int, 2))
    (kk : ∀ (q : Nat) (H1 : Heap), va_P D vwCl (ws ++ [(q, .inl (A 0, (N, .inl (fun _ => nI 0))))]) H1 → va_D fr (ws ++ [(q, .inl (A 0, (N, .inl (fun _ => nI 0))))]) → va_S fr H0 H1 locs → W p l e R s m args below meth c H1 locs (cells + 1) (slots + N) Q (F0 m (pc + 2) ls (.ref q :: rest))) : W p l e R s m args below meth c H locs cells slots Q (F0 m pc ls (.int (nI N) :: rest)) := by
  have hK := X.2.2.2.2.2.2.1
  refine va_newa (atype := .int) (cl := vwCl) (tys := x_ty A) X.1 X.2.1 (x_word X z_arrayClass_int rfl) (ty := .int) rfl hK hP hD hS hA (a0 := (N, .inl (fun _ => nI 0))) (fun cA => rfl) (nI_pos (by omega)) (nI_clamp (by omega)) (Nat.le_trans (Nat.mul_le_mul_left N (show componentBytes .int ≤ 8 from by decide)) (by omega)) hcells hslots hdg (fun q cA H1 hK2 h1 h2 h3 => ?_)
  have e1 : s.vm.findClass ("[" ++ (FieldType.int).toString) = some (A 0) := (hK.2 0 (A 0, .int) rfl).2
  have e2 : s.vm.findClass ("[" ++ (FieldType.int).toString) = some cA := (hK2.2 5 (cA, .int) rfl).2
  have e3 : cA = A 0 := Option.some.inj (e2.symm.trans e1)
  subst e3
  exact kk q H1 h1 h2 h3
theorem x_newB (X : xx p s m args meth c cc nL own ret D A H0) (hP : va_P D vwCl ws H) (hD : va_D fr ws) (hS : va_S fr H0 H locs) (hA : ∀ q, H0.size ≤ q → fr q) {N : Nat} (hN : N < 2 ^ 20) (hcells : cells + 1 ≤ R.cells) (hslots : slots + N ≤ R.slots) (hdg : decode cc pc = .ok (.newarray .byte, 2))
    (kk : ∀ (q : Nat) (H1 : Heap), va_P D vwCl (ws ++ [(q, .inl (A 1, (N, .inl (fun _ => nI 0))))]) H1 → va_D fr (ws ++ [(q, .inl (A 1, (N, .inl (fun _ => nI 0))))]) → va_S fr H0 H1 locs → W p l e R s m args below meth c H1 locs (cells + 1) (slots + N) Q (F0 m (pc + 2) ls (.ref q :: rest))) : W p l e R s m args below meth c H locs cells slots Q (F0 m pc ls (.int (nI N) :: rest)) := by
  have hK := X.2.2.2.2.2.2.1
  refine va_newa (atype := .byte) (cl := vwCl) (tys := x_ty A) X.1 X.2.1 (x_word X z_arrayClass_byte rfl) (ty := .byte) rfl hK hP hD hS hA (a0 := (N, .inl (fun _ => nI 0))) (fun cA => rfl) (nI_pos (by omega)) (nI_clamp (by omega)) (Nat.le_trans (Nat.mul_le_mul_left N (show componentBytes .byte ≤ 8 from by decide)) (by omega)) hcells hslots hdg (fun q cA H1 hK2 h1 h2 h3 => ?_)
  have e1 : s.vm.findClass ("[" ++ (FieldType.byte).toString) = some (A 1) := (hK.2 1 (A 1, .byte) rfl).2
  have e2 : s.vm.findClass ("[" ++ (FieldType.byte).toString) = some cA := (hK2.2 5 (cA, .byte) rfl).2
  have e3 : cA = A 1 := Option.some.inj (e2.symm.trans e1)
  subst e3
  exact kk q H1 h1 h2 h3
theorem x_newL (X : xx p s m args meth c cc nL own ret D A H0) (hP : va_P D vwCl ws H) (hD : va_D fr ws) (hS : va_S fr H0 H locs) (hA : ∀ q, H0.size ≤ q → fr q) {N : Nat} (hN : N < 2 ^ 20) (hcells : cells + 1 ≤ R.cells) (hslots : slots + N ≤ R.slots) (hdg : decode cc pc = .ok (.newarray .long, 2))
    (kk : ∀ (q : Nat) (H1 : Heap), va_P D vwCl (ws ++ [(q, .inl (A 2, (N, .inr (.inl (fun _ => lN 0)))))]) H1 → va_D fr (ws ++ [(q, .inl (A 2, (N, .inr (.inl (fun _ => lN 0)))))]) → va_S fr H0 H1 locs → W p l e R s m args below meth c H1 locs (cells + 1) (slots + N) Q (F0 m (pc + 2) ls (.ref q :: rest))) : W p l e R s m args below meth c H locs cells slots Q (F0 m pc ls (.int (nI N) :: rest)) := by
  have hK := X.2.2.2.2.2.2.1
  refine va_newa (atype := .long) (cl := vwCl) (tys := x_ty A) X.1 X.2.1 (x_word X z_arrayClass_long rfl) (ty := .long) rfl hK hP hD hS hA (a0 := (N, .inr (.inl (fun _ => lN 0)))) (fun cA => rfl) (nI_pos (by omega)) (nI_clamp (by omega)) (Nat.le_trans (Nat.mul_le_mul_left N (show componentBytes .long ≤ 8 from by decide)) (by omega)) hcells hslots hdg (fun q cA H1 hK2 h1 h2 h3 => ?_)
  have e1 : s.vm.findClass ("[" ++ (FieldType.long).toString) = some (A 2) := (hK.2 2 (A 2, .long) rfl).2
  have e2 : s.vm.findClass ("[" ++ (FieldType.long).toString) = some cA := (hK2.2 5 (cA, .long) rfl).2
  have e3 : cA = A 2 := Option.some.inj (e2.symm.trans e1)
  subst e3
  exact kk q H1 h1 h2 h3
/-- a final field of the reference, in its constructor -/
theorem m_putF (X : xx p s m args meth c cc nL R_M ret D A H0) (hn : meth.name = "<init>") (hP : va_P D vwCl ws H) (hD : va_D fr ws) (hS : va_S fr H0 H locs) {o : Nat} {fs : List Value} (he : ws[0]? = some (o, .inr (7, fs))) (k : Nat) (hk : k < 11) {index : Nat} (hl : Cond.fieldLink R_M index R_M (F_M k).2.1 (F_M k).2.2.1 ∈ lw_tbl) (hfin : (F_M k).2.2.2 = true) {v : Value} (hnr : narrow (ty_M k) v = v) (hft : fits (ty_M k) v = true) (hlen : k < fs.length) (hdg : decode cc pc = .ok (.putfield index, 3))
    (kk : ∀ (H1 : Heap) (locs1 : List Loc), va_P D vwCl (ws.set 0 (o, .inr (7, fs.set k v))) H1 → va_D fr (ws.set 0 (o, .inr (7, fs.set k v))) → va_S fr H0 H1 locs1 → W p l e R s m args below meth c H1 locs1 cells slots Q (F0 m (pc + 3) ls rest)) : W p l e R s m args below meth c H locs cells slots Q (F0 m pc ls (v :: .ref o :: rest)) := by
  have hC : (F_M k).1 = R_M := by
    have : ∀ k, k < 11 → (F_M k).1 = R_M := by decide +kernel
    exact this k hk
  exact va_putF (D := D) (cl := vwCl) (ci := 7) (C := R_M) (T := F_M) (N := 11) (Ts := u_ws R_M F_M 11) X.1 X.2.1 (fun w hw => x_word X (uw_M w hw) (by
    have : ∀ w ∈ u_ws R_M F_M 11, x_us w = true := by decide +kernel
    exact this w hw)) (fun w h => h) ty_M ty_M_ok f_M_ne X.2.2.2.1 X.2.2.2.2.2.2.1 hP hD hS 0 he rfl k hk (x_word X hl rfl) (fun x h => by rw [hC] at h; exact h) hfin hn hC (ty_M_ok k hk) hnr hft hlen hdg (fun H1 locs1 h1 h2 h3 => kk H1 locs1 h1 h2 h3)
theorem m_putG (X : xx p s m args meth c cc nL R_M ret D A H0) (hP : va_P D vwCl ws H) (hD : va_D fr ws) (hS : va_S fr H0 H locs) {o : Nat} {fs : List Value} (he : ws[0]? = some (o, .inr (7, fs))) (k : Nat) (hk : k < 11) {index : Nat} (hl : Cond.fieldLink R_M index R_M (F_M k).2.1 (F_M k).2.2.1 ∈ lw_tbl) (hfin : (F_M k).2.2.2 = false) {v : Value} (hnr : narrow (ty_M k) v = v) (hft : fits (ty_M k) v = true) (hlen : k < fs.length) (hdg : decode cc pc = .ok (.putfield index, 3))
    (kk : ∀ (H1 : Heap) (locs1 : List Loc), va_P D vwCl (ws.set 0 (o, .inr (7, fs.set k v))) H1 → va_D fr (ws.set 0 (o, .inr (7, fs.set k v))) → va_S fr H0 H1 locs1 → W p l e R s m args below meth c H1 locs1 cells slots Q (F0 m (pc + 3) ls rest)) : W p l e R s m args below meth c H locs cells slots Q (F0 m pc ls (v :: .ref o :: rest)) := by
  have hC : (F_M k).1 = R_M := by
    have : ∀ k, k < 11 → (F_M k).1 = R_M := by decide +kernel
    exact this k hk
  exact va_put (D := D) (cl := vwCl) (ci := 7) (C := R_M) (T := F_M) (N := 11) (Ts := u_ws R_M F_M 11) X.1 X.2.1 (fun w hw => x_word X (uw_M w hw) (by
    have : ∀ w ∈ u_ws R_M F_M 11, x_us w = true := by decide +kernel
    exact this w hw)) (fun w h => h) ty_M ty_M_ok f_M_ne X.2.2.2.1 X.2.2.2.2.2.2.1 hP hD hS 0 he rfl k hk (x_word X hl rfl) (fun x h => by rw [hC] at h; exact h) hfin (ty_M_ok k hk) hnr hft hlen hdg (fun H1 locs1 h1 h2 h3 => kk H1 locs1 h1 h2 h3)
end XMk
/-- the beginning: one version, empty; no node, no entry -/
def sp_q0 : ft_Q := ([([], none)], (0, fun _ => 0), [])
theorem sp_q0_ok : sp_ok2 sp_q0 := by
  refine ⟨⟨?_, ?_, ?_, ?_, ?_⟩, ?_⟩ <;> simp [sp_q0, ft_okT, ft_zT]
set_option maxRecDepth 100000 in
set_option maxHeartbeats 4000000 in
theorem C_M_init (l : Launch) (D : va_G) (A : Nat → ClassId) (H0 : Heap) (o : Nat) (hP : va_P D vwCl [(o, .inr (7, [.null, .null, .int (nI 0), .null, .null, .int (nI 0), .null, .null, .int (nI 0), .null, .int (nI 0)]))] H0) : xC l y_M_init c_M_init 1 (none : Option FieldType) 1 D A H0 [.ref o] (xA (fun q => q = o) H0) (q0 (fun H1 => ∃ a, a 0 = o ∧ mDs a ∧ (∀ i, 1 ≤ i → i < 8 → H0.size ≤ a i) ∧ mI D a A sp_q0 H1)) 7 13608 := by
  refine xC.ofI rfl (Nat.le_of_ble_eq_true rfl) ?_
  intro p_ e_ s_ m_ ar_ bl_ me_ c_ ls X hn hl
  have hl : lz ls 1 [some (.ref o)] := hl
  have hS : va_S (xA (fun q => q = o) H0) H0 H0 [] := va_S.rf
  have hD : va_D (xA (fun q => q = o) H0) [(o, .inr (7, [.null, .null, .int (nI 0), .null, .null, .int (nI 0), .null, .null, .int (nI 0), .null, .int (nI 0)]))] := ⟨fun i j x y hx hy _ => by
    have h1 := (List.getElem?_eq_some_iff.1 hx).1
    have h2 := (List.getElem?_eq_some_iff.1 hy).1
    simp at h1 h2
    omega, fun k x hx => by
    have h1 := (List.getElem?_eq_some_iff.1 hx).1
    have : k = 0 := by simpa using h1
    subst this
    cases hx
    exact Or.inl rfl⟩
  have hA : ∀ q, H0.size ≤ q → xA (fun q => q = o) H0 q := fun q h => Or.inr h
  refine x_aload_n X d_M_init_0 rfl hl rfl ?_
  refine x_obj X e_M_1 hl d_M_init_1 (Nat.le_of_ble_eq_true rfl) (Nat.le_of_ble_eq_true rfl) ?_
  refine x_aload_n X d_M_init_4 rfl hl rfl ?_
  refine x_bipush (v := nI 120) X d_M_init_5 rfl ?_
  refine x_newI X hP hD hS hA (by decide) (Nat.le_of_ble_eq_true rfl) (Nat.le_of_ble_eq_true rfl) d_M_init_7 (fun a1 H hP hD hS => ?_)
  refine m_putF X hn hP hD hS rfl 0 (by decide) e_M_7 rfl rfl rfl (Nat.le_of_ble_eq_true rfl) d_M_init_9 (fun H locs hP hD hS => ?_)
  have hP : va_P D vwCl [(o, .inr (7, [.ref a1, .null, .int (nI 0), .null, .null, .int (nI 0), .null, .null, .int (nI 0), .null, .int (nI 0)])), (a1, .inl (A 0, 120, .inl (fun _ => nI 0)))] H := hP
  have hD : va_D (xA (fun q => q = o) H0) [(o, .inr (7, [.ref a1, .null, .int (nI 0), .null, .null, .int (nI 0), .null, .null, .int (nI 0), .null, .int (nI 0)])), (a1, .inl (A 0, 120, .inl (fun _ => nI 0)))] := hD
  refine x_aload_n X d_M_init_12 rfl hl rfl ?_
  refine x_bipush (v := nI 120) X d_M_init_13 rfl ?_
  refine x_newI X hP hD hS hA (by decide) (Nat.le_of_ble_eq_true rfl) (Nat.le_of_ble_eq_true rfl) d_M_init_15 (fun a2 H hP hD hS => ?_)
  refine m_putF X hn hP hD hS rfl 1 (by decide) e_M_13 rfl rfl rfl (Nat.le_of_ble_eq_true rfl) d_M_init_17 (fun H locs hP hD hS => ?_)
  have hP : va_P D vwCl [(o, .inr (7, [.ref a1, .ref a2, .int (nI 0), .null, .null, .int (nI 0), .null, .null, .int (nI 0), .null, .int (nI 0)])), (a1, .inl (A 0, 120, .inl (fun _ => nI 0))), (a2, .inl (A 0, 120, .inl (fun _ => nI 0)))] H := hP
  have hD : va_D (xA (fun q => q = o) H0) [(o, .inr (7, [.ref a1, .ref a2, .int (nI 0), .null, .null, .int (nI 0), .null, .null, .int (nI 0), .null, .int (nI 0)])), (a1, .inl (A 0, 120, .inl (fun _ => nI 0))), (a2, .inl (A 0, 120, .inl (fun _ => nI 0)))] := hD
  refine x_aload_n X d_M_init_20 rfl hl rfl ?_
  refine x_sipush (v := nI 4200) X d_M_init_21 rfl ?_
  refine x_newB X hP hD hS hA (by decide) (Nat.le_of_ble_eq_true rfl) (Nat.le_of_ble_eq_true rfl) d_M_init_24 (fun a3 H hP hD hS => ?_)
  refine m_putF X hn hP hD hS rfl 3 (by decide) e_M_16 rfl rfl rfl (Nat.le_of_ble_eq_true rfl) d_M_init_26 (fun H locs hP hD hS => ?_)
  have hP : va_P D vwCl [(o, .inr (7, [.ref a1, .ref a2, .int (nI 0), .ref a3, .null, .int (nI 0), .null, .null, .int (nI 0), .null, .int (nI 0)])), (a1, .inl (A 0, 120, .inl (fun _ => nI 0))), (a2, .inl (A 0, 120, .inl (fun _ => nI 0))), (a3, .inl (A 1, 4200, .inl (fun _ => nI 0)))] H := hP
  have hD : va_D (xA (fun q => q = o) H0) [(o, .inr (7, [.ref a1, .ref a2, .int (nI 0), .ref a3, .null, .int (nI 0), .null, .null, .int (nI 0), .null, .int (nI 0)])), (a1, .inl (A 0, 120, .inl (fun _ => nI 0))), (a2, .inl (A 0, 120, .inl (fun _ => nI 0))), (a3, .inl (A 1, 4200, .inl (fun _ => nI 0)))] := hD
  refine x_aload_n X d_M_init_29 rfl hl rfl ?_
  refine x_sipush (v := nI 4200) X d_M_init_30 rfl ?_
  refine x_newB X hP hD hS hA (by decide) (Nat.le_of_ble_eq_true rfl) (Nat.le_of_ble_eq_true rfl) d_M_init_33 (fun a4 H hP hD hS => ?_)
  refine m_putF X hn hP hD hS rfl 4 (by decide) e_M_20 rfl rfl rfl (Nat.le_of_ble_eq_true rfl) d_M_init_35 (fun H locs hP hD hS => ?_)
  have hP : va_P D vwCl [(o, .inr (7, [.ref a1, .ref a2, .int (nI 0), .ref a3, .ref a4, .int (nI 0), .null, .null, .int (nI 0), .null, .int (nI 0)])), (a1, .inl (A 0, 120, .inl (fun _ => nI 0))), (a2, .inl (A 0, 120, .inl (fun _ => nI 0))), (a3, .inl (A 1, 4200, .inl (fun _ => nI 0))), (a4, .inl (A 1, 4200, .inl (fun _ => nI 0)))] H := hP
  have hD : va_D (xA (fun q => q = o) H0) [(o, .inr (7, [.ref a1, .ref a2, .int (nI 0), .ref a3, .ref a4, .int (nI 0), .null, .null, .int (nI 0), .null, .int (nI 0)])), (a1, .inl (A 0, 120, .inl (fun _ => nI 0))), (a2, .inl (A 0, 120, .inl (fun _ => nI 0))), (a3, .inl (A 1, 4200, .inl (fun _ => nI 0))), (a4, .inl (A 1, 4200, .inl (fun _ => nI 0)))] := hD
  refine x_aload_n X d_M_init_38 rfl hl rfl ?_
  refine x_sipush (v := nI 4800) X d_M_init_39 rfl ?_
  refine x_newL X hP hD hS hA (by decide) (Nat.le_of_ble_eq_true rfl) (Nat.le_of_ble_eq_true rfl) d_M_init_42 (fun a5 H hP hD hS => ?_)
  refine m_putF X hn hP hD hS rfl 6 (by decide) e_M_23 rfl rfl rfl (Nat.le_of_ble_eq_true rfl) d_M_init_44 (fun H locs hP hD hS => ?_)
  have hP : va_P D vwCl [(o, .inr (7, [.ref a1, .ref a2, .int (nI 0), .ref a3, .ref a4, .int (nI 0), .ref a5, .null, .int (nI 0), .null, .int (nI 0)])), (a1, .inl (A 0, 120, .inl (fun _ => nI 0))), (a2, .inl (A 0, 120, .inl (fun _ => nI 0))), (a3, .inl (A 1, 4200, .inl (fun _ => nI 0))), (a4, .inl (A 1, 4200, .inl (fun _ => nI 0))), (a5, .inl (A 2, 4800, .inr (.inl (fun _ => lN 0))))] H := hP
  have hD : va_D (xA (fun q => q = o) H0) [(o, .inr (7, [.ref a1, .ref a2, .int (nI 0), .ref a3, .ref a4, .int (nI 0), .ref a5, .null, .int (nI 0), .null, .int (nI 0)])), (a1, .inl (A 0, 120, .inl (fun _ => nI 0))), (a2, .inl (A 0, 120, .inl (fun _ => nI 0))), (a3, .inl (A 1, 4200, .inl (fun _ => nI 0))), (a4, .inl (A 1, 4200, .inl (fun _ => nI 0))), (a5, .inl (A 2, 4800, .inr (.inl (fun _ => lN 0))))] := hD
  refine x_aload_n X d_M_init_47 rfl hl rfl ?_
  refine x_bipush (v := nI 120) X d_M_init_48 rfl ?_
  refine x_newB X hP hD hS hA (by decide) (Nat.le_of_ble_eq_true rfl) (Nat.le_of_ble_eq_true rfl) d_M_init_50 (fun a6 H hP hD hS => ?_)
  refine m_putF X hn hP hD hS rfl 7 (by decide) e_M_27 rfl rfl rfl (Nat.le_of_ble_eq_true rfl) d_M_init_52 (fun H locs hP hD hS => ?_)
  have hP : va_P D vwCl [(o, .inr (7, [.ref a1, .ref a2, .int (nI 0), .ref a3, .ref a4, .int (nI 0), .ref a5, .ref a6, .int (nI 0), .null, .int (nI 0)])), (a1, .inl (A 0, 120, .inl (fun _ => nI 0))), (a2, .inl (A 0, 120, .inl (fun _ => nI 0))), (a3, .inl (A 1, 4200, .inl (fun _ => nI 0))), (a4, .inl (A 1, 4200, .inl (fun _ => nI 0))), (a5, .inl (A 2, 4800, .inr (.inl (fun _ => lN 0)))), (a6, .inl (A 1, 120, .inl (fun _ => nI 0)))] H := hP
  have hD : va_D (xA (fun q => q = o) H0) [(o, .inr (7, [.ref a1, .ref a2, .int (nI 0), .ref a3, .ref a4, .int (nI 0), .ref a5, .ref a6, .int (nI 0), .null, .int (nI 0)])), (a1, .inl (A 0, 120, .inl (fun _ => nI 0))), (a2, .inl (A 0, 120, .inl (fun _ => nI 0))), (a3, .inl (A 1, 4200, .inl (fun _ => nI 0))), (a4, .inl (A 1, 4200, .inl (fun _ => nI 0))), (a5, .inl (A 2, 4800, .inr (.inl (fun _ => lN 0)))), (a6, .inl (A 1, 120, .inl (fun _ => nI 0)))] := hD
  refine x_aload_n X d_M_init_55 rfl hl rfl ?_
  refine x_iconst (v := nI 1) X d_M_init_56 rfl ?_
  refine m_putG X hP hD hS rfl 8 (by decide) e_M_30 rfl rfl rfl (Nat.le_of_ble_eq_true rfl) d_M_init_57 (fun H locs hP hD hS => ?_)
  have hP : va_P D vwCl [(o, .inr (7, [.ref a1, .ref a2, .int (nI 0), .ref a3, .ref a4, .int (nI 0), .ref a5, .ref a6, .int (nI 1), .null, .int (nI 0)])), (a1, .inl (A 0, 120, .inl (fun _ => nI 0))), (a2, .inl (A 0, 120, .inl (fun _ => nI 0))), (a3, .inl (A 1, 4200, .inl (fun _ => nI 0))), (a4, .inl (A 1, 4200, .inl (fun _ => nI 0))), (a5, .inl (A 2, 4800, .inr (.inl (fun _ => lN 0)))), (a6, .inl (A 1, 120, .inl (fun _ => nI 0)))] H := hP
  have hD : va_D (xA (fun q => q = o) H0) [(o, .inr (7, [.ref a1, .ref a2, .int (nI 0), .ref a3, .ref a4, .int (nI 0), .ref a5, .ref a6, .int (nI 1), .null, .int (nI 0)])), (a1, .inl (A 0, 120, .inl (fun _ => nI 0))), (a2, .inl (A 0, 120, .inl (fun _ => nI 0))), (a3, .inl (A 1, 4200, .inl (fun _ => nI 0))), (a4, .inl (A 1, 4200, .inl (fun _ => nI 0))), (a5, .inl (A 2, 4800, .inr (.inl (fun _ => lN 0)))), (a6, .inl (A 1, 120, .inl (fun _ => nI 0)))] := hD
  refine x_aload_n X d_M_init_60 rfl hl rfl ?_
  refine x_bipush (v := nI 48) X d_M_init_61 rfl ?_
  refine x_newL X hP hD hS hA (by decide) (Nat.le_of_ble_eq_true rfl) (Nat.le_of_ble_eq_true rfl) d_M_init_63 (fun a7 H hP hD hS => ?_)
  refine m_putF X hn hP hD hS rfl 9 (by decide) e_M_34 rfl rfl rfl (Nat.le_of_ble_eq_true rfl) d_M_init_65 (fun H locs hP hD hS => ?_)
  have hP : va_P D vwCl [(o, .inr (7, [.ref a1, .ref a2, .int (nI 0), .ref a3, .ref a4, .int (nI 0), .ref a5, .ref a6, .int (nI 1), .ref a7, .int (nI 0)])), (a1, .inl (A 0, 120, .inl (fun _ => nI 0))), (a2, .inl (A 0, 120, .inl (fun _ => nI 0))), (a3, .inl (A 1, 4200, .inl (fun _ => nI 0))), (a4, .inl (A 1, 4200, .inl (fun _ => nI 0))), (a5, .inl (A 2, 4800, .inr (.inl (fun _ => lN 0)))), (a6, .inl (A 1, 120, .inl (fun _ => nI 0))), (a7, .inl (A 2, 48, .inr (.inl (fun _ => lN 0))))] H := hP
  have hD : va_D (xA (fun q => q = o) H0) [(o, .inr (7, [.ref a1, .ref a2, .int (nI 0), .ref a3, .ref a4, .int (nI 0), .ref a5, .ref a6, .int (nI 1), .ref a7, .int (nI 0)])), (a1, .inl (A 0, 120, .inl (fun _ => nI 0))), (a2, .inl (A 0, 120, .inl (fun _ => nI 0))), (a3, .inl (A 1, 4200, .inl (fun _ => nI 0))), (a4, .inl (A 1, 4200, .inl (fun _ => nI 0))), (a5, .inl (A 2, 4800, .inr (.inl (fun _ => lN 0)))), (a6, .inl (A 1, 120, .inl (fun _ => nI 0))), (a7, .inl (A 2, 48, .inr (.inl (fun _ => lN 0))))] := hD
  generalize hae : (fun i => [o, a1, a2, a3, a4, a5, a6, a7].getD i 0 : Nat → Nat) = a
  have hPm : mH D a A (fun _ => nI 0) (fun _ => nI 0) 0 (fun _ => 0) (fun _ => 0) 0 (fun _ => 0) (fun _ => 0) 1 (fun _ => 0) 0 H := by rw [← hae]; exact hP
  have hds : mDs a := by
    have hk : ∀ i, i < 8 → ∃ e, ([(o, .inr (7, [.ref a1, .ref a2, .int (nI 0), .ref a3, .ref a4, .int (nI 0), .ref a5, .ref a6, .int (nI 1), .ref a7, .int (nI 0)])), (a1, .inl (A 0, 120, .inl (fun _ => nI 0))), (a2, .inl (A 0, 120, .inl (fun _ => nI 0))), (a3, .inl (A 1, 4200, .inl (fun _ => nI 0))), (a4, .inl (A 1, 4200, .inl (fun _ => nI 0))), (a5, .inl (A 2, 4800, .inr (.inl (fun _ => lN 0)))), (a6, .inl (A 1, 120, .inl (fun _ => nI 0))), (a7, .inl (A 2, 48, .inr (.inl (fun _ => lN 0))))] : va_W)[i]? = some (a i, e) := by
      intro i hi
      rw [← hae]
      match i, hi with
      | 0, _ | 1, _ | 2, _ | 3, _ | 4, _ | 5, _ | 6, _ | 7, _ => exact ⟨_, rfl⟩
    intro i j hi hj e
    obtain ⟨x, hx⟩ := hk i hi
    obtain ⟨y, hy⟩ := hk j hj
    exact hD.1 i j _ _ hx hy e
  have hfresh : ∀ i, 1 ≤ i → i < 8 → H0.size ≤ a i := by
    have hk : ∀ i, i < 8 → ∃ e, ([(o, .inr (7, [.ref a1, .ref a2, .int (nI 0), .ref a3, .ref a4, .int (nI 0), .ref a5, .ref a6, .int (nI 1), .ref a7, .int (nI 0)])), (a1, .inl (A 0, 120, .inl (fun _ => nI 0))), (a2, .inl (A 0, 120, .inl (fun _ => nI 0))), (a3, .inl (A 1, 4200, .inl (fun _ => nI 0))), (a4, .inl (A 1, 4200, .inl (fun _ => nI 0))), (a5, .inl (A 2, 4800, .inr (.inl (fun _ => lN 0)))), (a6, .inl (A 1, 120, .inl (fun _ => nI 0))), (a7, .inl (A 2, 48, .inr (.inl (fun _ => lN 0))))] : va_W)[i]? = some (a i, e) := by
      intro i hi
      rw [← hae]
      match i, hi with
      | 0, _ | 1, _ | 2, _ | 3, _ | 4, _ | 5, _ | 6, _ | 7, _ => exact ⟨_, rfl⟩
    intro i h1 h8
    obtain ⟨x, hx⟩ := hk i h8
    rcases hD.2 i _ hx with h | h
    · have h0 : a 0 = o := by rw [← hae]; rfl
      exact absurd (hds i 0 h8 (by decide) (h.trans h0.symm)) (by omega)
    · exact h
  refine x_vret X hS (Nat.le_of_ble_eq_true rfl) (Nat.le_of_ble_eq_true rfl) d_M_init_68 ⟨rfl, a, by rw [← hae]; rfl, hds, hfresh, _, _, _, _, _, _, _, _, _, _, _, ?_, hPm⟩
  refine ⟨⟨rfl, rfl, rfl, rfl⟩, fun i e h => ?_, fun v t h => ?_, fun _ => rfl, fun _ => (by decide : 0 < 2251799813685248), fun _ => (by decide : 0 < 2251799813685248), by decide⟩
  · simp [sp_q0] at h
  · cases v with
    | zero =>
      have : t = ([], none) := by simpa [sp_q0] using h.symm
      subst this
      exact ⟨rfl, ft_hd_nil _ _⟩
    | succ v => simp [sp_q0] at h
