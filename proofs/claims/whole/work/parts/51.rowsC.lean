/-! Rows for the class's objects and its arrays of references. -/
/-- what is known of a class of the tables -/
def xCl (ci : Nat) (C : String) (T : u_T) (N : Nat) (ty : Nat → FieldType) : Prop := vwCl[ci]? = some (C, T, N) ∧ (∀ w ∈ u_ws C T N, w ∈ lw_tbl) ∧ (∀ w ∈ u_ws C T N, x_us w = true) ∧ (∀ k, k < N → (T k).1 = C) ∧ (∀ k, k < N → parseFieldDescriptor (T k).2.2.1 = some (ty k)) ∧ (∀ a, a < N → ∀ b, b < N → a ≠ b → (T a).2.1 ≠ (T b).2.1)
theorem gI : xCl 0 R_I F_I 5 ty_I := ⟨rfl, uw_I, by decide +kernel, by decide +kernel, ty_I_ok, f_I_ne⟩
theorem gK : xCl 1 R_K F_K 2 ty_K := ⟨rfl, uw_K, by decide +kernel, by decide +kernel, ty_K_ok, f_K_ne⟩
theorem gU : xCl 2 R_U F_U 3 ty_U := ⟨rfl, uw_U, by decide +kernel, by decide +kernel, ty_U_ok, f_U_ne⟩
theorem gT : xCl 3 R_T F_T 5 ty_T := ⟨rfl, uw_T, by decide +kernel, by decide +kernel, ty_T_ok, f_T_ne⟩
theorem gF : xCl 4 R_F F_F 4 ty_F := ⟨rfl, uw_F, by decide +kernel, by decide +kernel, ty_F_ok, f_F_ne⟩
theorem gH : xCl 5 R_H F_H 2 ty_H := ⟨rfl, uw_H, by decide +kernel, by decide +kernel, ty_H_ok, f_H_ne⟩
theorem gC : xCl 6 R_C F_C 3 ty_C := ⟨rfl, uw_C, by decide +kernel, by decide +kernel, ty_C_ok, f_C_ne⟩
theorem va_P1 {D : va_G} {q : Nat × va_E} {H : Heap} (h : va_at D vwCl q H) : va_P D vwCl [q] H := fun k x hk => by
  cases k with
  | zero => cases hk; exact h
  | succ k => simp at hk
/-- an array's picture counts only below its length -/
theorem cArr_ext {D : va_G} {A : Nat → ClassId} {k n a : Nat} {f g : Nat → Option Nat} {H : Heap} (h : va_at D vwCl (a, cArr A k n f) H) (e : ∀ i, i < n → f i = g i) : va_at D vwCl (a, cArr A k n g) H := by
  show H[a]? = _
  have h : H[a]? = some (vp_cell (A k) (n, .inr (.inr (.inr (.inr f))))) := h
  rw [h]
  congr 1
  rw [vp_cell_q, vp_cell_q]
  unfold arrV
  congr 1
  apply congrArg
  funext j
  show va_rf (f j.1) = va_rf (g j.1)
  rw [e j.1 j.2]
section XRC
variable {p : Program} {l : Launch} {e : Env} {R : Room} {s : State} {m : MethodId} {args : Array Value} {below : List Frame} {meth : Method} {c : Code} {H : Heap} {locs : List Loc} {cells slots : Nat} {Q : State → Prop}
variable {cc : ByteArray} {nL : Nat} {own : String} {ret : Option FieldType} {D : va_G} {A : Nat → ClassId} {H0 : Heap} {pc : Nat} {ls : Array Slot} {rest : List Value} {L : List (Option Value)} {fr : Nat → Prop} {ws : va_W}
variable {ci N : Nat} {C : String} {T : u_T} {ty : Nat → FieldType}
theorem x_uws (X : xx p s m args meth c cc nL own ret D A H0) (G : xCl ci C T N ty) : ∀ w ∈ u_ws C T N, w.before args s = true := fun w hw => x_word X (G.2.1 w hw) (G.2.2.1 w hw)
theorem x_get (X : xx p s m args meth c cc nL own ret D A H0) (G : xCl ci C T N ty) {a : Nat} {fs : List Value} (ho : va_at D vwCl (a, .inr (ci, fs)) H) (k : Nat) (hk : k < N) {index : Nat} (hl : Cond.fieldLink own index C (T k).2.1 (T k).2.2.1 ∈ lw_tbl) {v : Value} (hv : fs[k]? = some v) (hdg : decode cc pc = .ok (.getfield index, 3))
    (kk : W p l e R s m args below meth c H locs cells slots Q (F0 m (pc + 3) ls (v :: rest))) : W p l e R s m args below meth c H locs cells slots Q (F0 m pc ls (.ref a :: rest)) :=
  va_get (D := D) (cl := vwCl) (ci := ci) (C := C) (T := T) (N := N) (Ts := u_ws C T N) X.1 X.2.1 (x_uws X G) (fun w h => h) X.2.2.2.1 X.2.2.2.2.2.2.1 (va_P1 ho) 0 rfl G.1 k hk (x_word X hl rfl) (fun x h => by rw [G.2.2.2.1 k hk] at h; exact h) hv hdg kk
theorem x_getN (X : xx p s m args meth c cc nL own ret D A H0) (G : xCl ci C T N ty) {a : Nat} {fs : List Value} (ho : va_at D vwCl (a, .inr (ci, fs)) H) (k : Nat) (hk : k < N) {index : Nat} {host : String} (hl : Cond.fieldLinkNest own index C (T k).2.1 (T k).2.2.1 host ∈ lw_tbl) {v : Value} (hv : fs[k]? = some v) (hdg : decode cc pc = .ok (.getfield index, 3))
    (kk : W p l e R s m args below meth c H locs cells slots Q (F0 m (pc + 3) ls (v :: rest))) : W p l e R s m args below meth c H locs cells slots Q (F0 m pc ls (.ref a :: rest)) :=
  va_getN (D := D) (cl := vwCl) (ci := ci) (C := C) (T := T) (N := N) (Ts := u_ws C T N) X.1 X.2.1 (x_uws X G) (fun w h => h) X.2.2.2.1 X.2.2.2.2.2.2.1 (va_P1 ho) 0 rfl G.1 k hk (x_word X hl rfl) (fun x h => by rw [G.2.2.2.1 k hk] at h; exact h) hv hdg kk
/-- a final field in a constructor -/
theorem x_putF (X : xx p s m args meth c cc nL C ret D A H0) (hn : meth.name = "<init>") (G : xCl ci C T N ty) (hP : va_P D vwCl ws H) (hD : va_D fr ws) (hS : va_S fr H0 H locs) (j : Nat) {o : Nat} {fs : List Value} (he : ws[j]? = some (o, .inr (ci, fs))) (k : Nat) (hk : k < N) {index : Nat} (hl : Cond.fieldLink C index C (T k).2.1 (T k).2.2.1 ∈ lw_tbl) (hfin : (T k).2.2.2 = true) {v : Value} (hnr : narrow (ty k) v = v) (hft : fits (ty k) v = true) (hlen : k < fs.length) (hdg : decode cc pc = .ok (.putfield index, 3))
    (kk : ∀ (H1 : Heap) (locs1 : List Loc), va_P D vwCl (ws.set j (o, .inr (ci, fs.set k v))) H1 → va_D fr (ws.set j (o, .inr (ci, fs.set k v))) → va_S fr H0 H1 locs1 → W p l e R s m args below meth c H1 locs1 cells slots Q (F0 m (pc + 3) ls rest)) : W p l e R s m args below meth c H locs cells slots Q (F0 m pc ls (v :: .ref o :: rest)) :=
  va_putF (D := D) (cl := vwCl) (ci := ci) (C := C) (T := T) (N := N) (Ts := u_ws C T N) X.1 X.2.1 (x_uws X G) (fun w h => h) ty G.2.2.2.2.1 G.2.2.2.2.2 X.2.2.2.1 X.2.2.2.2.2.2.1 hP hD hS j he G.1 k hk (x_word X hl rfl) (fun x h => by rw [G.2.2.2.1 k hk] at h; exact h) hfin hn (G.2.2.2.1 k hk) (G.2.2.2.2.1 k hk) hnr hft hlen hdg kk
theorem x_putG (X : xx p s m args meth c cc nL own ret D A H0) (G : xCl ci C T N ty) (hP : va_P D vwCl ws H) (hD : va_D fr ws) (hS : va_S fr H0 H locs) (j : Nat) {o : Nat} {fs : List Value} (he : ws[j]? = some (o, .inr (ci, fs))) (k : Nat) (hk : k < N) {index : Nat} (hl : Cond.fieldLink own index C (T k).2.1 (T k).2.2.1 ∈ lw_tbl) (hfin : (T k).2.2.2 = false) {v : Value} (hnr : narrow (ty k) v = v) (hft : fits (ty k) v = true) (hlen : k < fs.length) (hdg : decode cc pc = .ok (.putfield index, 3))
    (kk : ∀ (H1 : Heap) (locs1 : List Loc), va_P D vwCl (ws.set j (o, .inr (ci, fs.set k v))) H1 → va_D fr (ws.set j (o, .inr (ci, fs.set k v))) → va_S fr H0 H1 locs1 → W p l e R s m args below meth c H1 locs1 cells slots Q (F0 m (pc + 3) ls rest)) : W p l e R s m args below meth c H locs cells slots Q (F0 m pc ls (v :: .ref o :: rest)) :=
  va_put (D := D) (cl := vwCl) (ci := ci) (C := C) (T := T) (N := N) (Ts := u_ws C T N) X.1 X.2.1 (x_uws X G) (fun w h => h) ty G.2.2.2.2.1 G.2.2.2.2.2 X.2.2.2.1 X.2.2.2.2.2.2.1 hP hD hS j he G.1 k hk (x_word X hl rfl) (fun x h => by rw [G.2.2.2.1 k hk] at h; exact h) hfin (G.2.2.2.2.1 k hk) hnr hft hlen hdg kk
/-- a new object, its fields as they begin -/
theorem x_new (X : xx p s m args meth c cc nL own ret D A H0) (G : xCl ci C T N ty) {index : Nat} (hcl : Cond.classLink own index C ∈ lw_tbl) (hinst : Cond.instantiable C N ∈ lw_tbl) (hini : Cond.initialized C ∈ lw_tbl) (hP : va_P D vwCl ws H) (hD : va_D fr ws) (hS : va_S fr H0 H locs) (hA : ∀ q, H0.size ≤ q → fr q) {fs : List Value} (hfs : ∀ j, j < N → defaultValue (ty j) = vp_V fs j) (hcells : cells + 1 ≤ R.cells) (hslots : slots + N ≤ R.slots) (hdg : decode cc pc = .ok (.new index, 3))
    (kk : ∀ (q : Nat) (H1 : Heap), va_P D vwCl (ws ++ [(q, .inr (ci, fs))]) H1 → va_D fr (ws ++ [(q, .inr (ci, fs))]) → va_S fr H0 H1 locs → W p l e R s m args below meth c H1 locs (cells + 1) (slots + N) Q (F0 m (pc + 3) ls (.ref q :: rest))) : W p l e R s m args below meth c H locs cells slots Q (F0 m pc ls rest) :=
  va_new (D := D) (cl := vwCl) (ci := ci) (C := C) (T := T) (N := N) (Ts := u_ws C T N) X.1 X.2.1 (x_uws X G) (fun w h => h) ty G.2.2.2.2.1 X.2.2.2.1 (x_word X hcl rfl) (x_word X hinst rfl) (x_word X hini rfl) X.2.2.2.2.2.2.1 hP hD hS hA G.1 hfs hcells hslots hdg kk
/-- an item of a row -/
theorem x_aald (X : xx p s m args meth c cc nL own ret D A H0) {S : Nat → Prop} {as : List Nat} {r i b : Nat} (h : cRw D A S as r H) (hb : as[i]? = some b) (h31 : as.length < 2 ^ 31) (hdg : decode cc pc = .ok (.aaload, 1))
    (kk : W p l e R s m args below meth c H locs cells slots Q (F0 m (pc + 1) ls (.ref b :: rest))) : W p l e R s m args below meth c H locs cells slots Q (F0 m pc ls (.int (nI i) :: .ref r :: rest)) := by
  have hi := (List.getElem?_eq_some_iff.1 hb).1
  refine va_aldq (cl := vwCl) (C := R_I) X.1 X.2.1 X.2.2.2.2.2.2.1 (va_P1 h.2) 0 3 rfl rfl (vp_in_nI hi h31) hdg ?_
  rw [nI_clamp (Nat.lt_trans hi h31)]
  show W p l e R s m args below meth c H locs cells slots Q (F0 m (pc + 1) ls (va_rf (as[i]?) :: rest))
  rw [hb]
  exact kk
theorem x_alen (X : xx p s m args meth c cc nL own ret D A H0) {S : Nat → Prop} {as : List Nat} {r : Nat} (h : cRw D A S as r H) (hdg : decode cc pc = .ok (.arraylength, 1))
    (kk : W p l e R s m args below meth c H locs cells slots Q (F0 m (pc + 1) ls (.int (nI as.length) :: rest))) : W p l e R s m args below meth c H locs cells slots Q (F0 m pc ls (.ref r :: rest)) :=
  va_alen (cl := vwCl) (ty := .object R_I) X.1 X.2.1 X.2.2.2.2.2.2.1 (va_P1 h.2) 0 3 rfl rfl rfl hdg kk
/-- the length of an array that is being filled -/
theorem x_alenW (X : xx p s m args meth c cc nL own ret D A H0) (hP : va_P D vwCl ws H) (j k n : Nat) {C' : String} {r : Nat} {f : Nat → Option Nat} (he : ws[j]? = some (r, cArr A k n f)) (hk : (x_ty A)[k]? = some (A k, .object C')) (hdg : decode cc pc = .ok (.arraylength, 1))
    (kk : W p l e R s m args below meth c H locs cells slots Q (F0 m (pc + 1) ls (.int (nI n) :: rest))) : W p l e R s m args below meth c H locs cells slots Q (F0 m pc ls (.ref r :: rest)) :=
  va_alen (cl := vwCl) (ty := .object C') X.1 X.2.1 X.2.2.2.2.2.2.1 hP j k he hk rfl hdg kk
/-- a new array of items -/
theorem x_newq (X : xx p s m args meth c cc nL own ret D A H0) {index : Nat} (hcl : Cond.classLink own index R_I ∈ lw_tbl) (hP : va_P D vwCl ws H) (hD : va_D fr ws) (hS : va_S fr H0 H locs) (hA : ∀ q, H0.size ≤ q → fr q) {n : Nat} (hn : n < 2 ^ 20) (hcells : cells + 1 ≤ R.cells) (hslots : slots + n ≤ R.slots) (hdg : decode cc pc = .ok (.anewarray index, 3))
    (kk : ∀ (q : Nat) (H1 : Heap), va_P D vwCl (ws ++ [(q, cArr A 3 n (fun _ => none))]) H1 → va_D fr (ws ++ [(q, cArr A 3 n (fun _ => none))]) → va_S fr H0 H1 locs → W p l e R s m args below meth c H1 locs (cells + 1) (slots + n) Q (F0 m (pc + 3) ls (.ref q :: rest))) : W p l e R s m args below meth c H locs cells slots Q (F0 m pc ls (.int (nI n) :: rest)) := by
  have hK := X.2.2.2.2.2.2.1
  refine va_newq (cl := vwCl) (tys := x_ty A) X.1 X.2.1 X.2.2.2.1 (x_word X hcl rfl) (X.2.2.2.2.2.2.2.1 _ z_arrayOver_Item rfl #[]) hK hP hD hS hA (nI_pos (by omega)) (nI_clamp (by omega)) (by omega) hcells hslots hdg (fun q cA H1 hK2 h1 h2 h3 => ?_)
  obtain ⟨_, _, _, _, _, e1⟩ := (hK.2 3 (A 3, .object R_I) rfl).2
  obtain ⟨_, _, _, _, _, e2⟩ := (hK2.2 5 (cA, .object R_I) rfl).2
  have e3 : cA = A 3 := Option.some.inj (e2.symm.trans e1)
  subst e3
  exact kk q H1 h1 h2 h3
/-- an item into an array that is being filled -/
theorem x_aast (X : xx p s m args meth c cc nL own ret D A H0) (hP : va_P D vwCl ws H) (hD : va_D fr ws) (hS : va_S fr H0 H locs) (j : Nat) {a n : Nat} {f : Nat → Option Nat} (ha : ws[j]? = some (a, cArr A 3 n f)) {v : Nat} {fs : List Value} (hv : va_at D vwCl (v, .inr (0, fs)) H) {i : Nat} (hi : i < n) (h31 : n < 2 ^ 31) (hdg : decode cc pc = .ok (.aastore, 1))
    (kk : ∀ (H1 : Heap) (locs1 : List Loc), va_P D vwCl (ws.set j (a, cArr A 3 n (va_up f i (some v)))) H1 → va_D fr (ws.set j (a, cArr A 3 n (va_up f i (some v)))) → va_S fr H0 H1 locs1 → W p l e R s m args below meth c H1 locs1 cells slots Q (F0 m (pc + 1) ls rest)) : W p l e R s m args below meth c H locs cells slots Q (F0 m pc ls (.ref v :: .int (nI i) :: .ref a :: rest)) := by
  have hK := X.2.2.2.2.2.2.1
  have hca := (hK.1 0 _ gI.1).2
  refine vb_astq (cl := vwCl) (E := R_I) (C := R_I) X.1 X.2.1 hK hP hD hS j 3 ha rfl (va_recv (q0 := 0) hK (va_P1 hv) gI.1 rfl) (fun comp c0 h1 h2 => ?_) (vp_in_nI hi h31) hdg (fun H1 locs1 h1 h2 h3 => ?_)
  · have e1 : comp = D.1 0 := Option.some.inj (h1.symm.trans hca.1)
    have e2 : c0 = D.1 0 := Option.some.inj (h2.symm.trans hca.1)
    rw [e1, e2]
    exact va_assign hca
  · rw [nI_clamp (Nat.lt_trans hi h31)] at h1 h2
    exact kk H1 locs1 h1 h2 h3
end XRC
