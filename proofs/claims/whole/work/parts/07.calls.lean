/-! A contract's beginning, its ends, and calls. -/
section XC
variable {p : Program} {l : Launch} {e : Env} {R : Room} {s : State} {m : MethodId} {args : Array Value} {below : List Frame} {meth : Method} {c : Code} {H : Heap} {locs : List Loc} {cells slots : Nat} {Q : State → Prop}
variable {cc : ByteArray} {nL : Nat} {own : String} {ret : Option FieldType} {D : va_G} {A : Nat → ClassId} {H0 : Heap} {pc : Nat} {ls : Array Slot} {rest : List Value} {L : List (Option Value)}
theorem x_blind {av : List Value} : FrameBlind (xP D A H0 av) := fun a U g mk h => ⟨h.1, h.2.1, va_K.moved (u := U) (U := U.calling g mk a) (Vm.Alike.refl U.vm) h.2.2.1, xT.mv (s := U) (U := U.calling g mk a) h.2.2.2 (State.WarmedH.refl U)⟩
theorem xC.of {y : MethodName} {d : Nat} {av : List Value} {fr : Nat → Prop} {post : Option Value → Heap → Prop} {mc ms : Nat} (hy : plainName y.cls = true) (hlen : (lg_sl av).length ≤ nL)
    (body : ∀ (p : Program) (e : Env) (s : State) (m : MethodId) (args : Array Value) (below : List Frame) (meth : Method) (c : Code) (ls : Array Slot), xx p s m args meth c cc nL y.cls ret D A H0 → lz ls nL (x_in av ++ List.replicate (nL - (x_in av).length) none) → W p l e (x_rm d mc ms) s m args below meth c H0 [] 0 0 (MQ below (xQ fr post) args s mc ms fr) (F0 m 0 ls [])) : xC l y cc nL ret d D A H0 av fr post mc ms := by
  refine Met.ofW (cc := cc) (maxL := nL) (ret := ret) hy rfl ?_
  intro p e s m args below meth c s₁ B hml hv
  obtain ⟨rfl, hH, hK, hT⟩ := hv
  have hl := lv_entry av (n := nL) hlen
  rw [lg_entry_eq]
  generalize (lg_sl av ++ List.replicate (nL - (lg_sl av).length) Slot.unset).toArray = ls at hl ⊢
  have h := body p e s m av.toArray below meth c ls ⟨B.exec, B.bytes, hml, findClass_of_methodNamed B.named, B.returns, B.notSynchronized, hK, hT, hH⟩ ⟨hl.1, hl.2.1, fun i v hi => by
    have hi2 : (x_in av)[i]? = some (some v) := by
      rw [List.getElem?_append] at hi
      split at hi
      · exact hi
      · rw [List.getElem?_replicate] at hi
        split at hi <;> simp at hi
    have := x_in_args (i := 0) hi2
    rw [Nat.zero_add] at this
    exact hl.2.2 (i, v) this⟩
  rw [← hH] at h
  exact h
theorem x_iret {fr : Nat → Prop} {post : Option Value → Heap → Prop} {mc ms : Nat} {v : Int32} (X : xx p s m args meth c cc nL own (some .int) D A H0) (hS : va_S fr H0 H locs) (hc : cells ≤ mc) (hs : slots ≤ ms) (hdg : decode cc pc = .ok (.ireturn, 1)) (hp : post (some (.int v)) H) : W p l e R s m args below meth c H locs cells slots (MQ below (xQ fr post) args s mc ms fr) (F0 m pc ls [.int v]) := by
  obtain ⟨h1, h2, h3, h4, h5, h6, h7, h8, rfl⟩ := X
  exact W.widen hc hs (W.iret h1 h2 h5 (fun t ht _ => ⟨⟨_, rfl, by rw [ht]; exact hp⟩, hS.F ht⟩) hS.2.2 hdg h6)
theorem x_zret {fr : Nat → Prop} {post : Option Value → Heap → Prop} {mc ms : Nat} {v : Int32} (X : xx p s m args meth c cc nL own (some .boolean) D A H0) (hS : va_S fr H0 H locs) (hc : cells ≤ mc) (hs : slots ≤ ms) (hdg : decode cc pc = .ok (.ireturn, 1)) (hn : narrow .boolean (.int v) = .int v) (hp : post (some (.int v)) H) : W p l e R s m args below meth c H locs cells slots (MQ below (xQ fr post) args s mc ms fr) (F0 m pc ls [.int v]) := by
  obtain ⟨h1, h2, h3, h4, h5, h6, h7, h8, rfl⟩ := X
  exact W.widen hc hs (W.zret h1 h2 h5 hn (fun t ht _ => ⟨⟨_, rfl, by rw [ht]; exact hp⟩, hS.F ht⟩) hS.2.2 hdg h6)
theorem x_lret {fr : Nat → Prop} {post : Option Value → Heap → Prop} {mc ms : Nat} {v : Int64} (X : xx p s m args meth c cc nL own (some .long) D A H0) (hS : va_S fr H0 H locs) (hc : cells ≤ mc) (hs : slots ≤ ms) (hdg : decode cc pc = .ok (.lreturn, 1)) (hp : post (some (.long v)) H) : W p l e R s m args below meth c H locs cells slots (MQ below (xQ fr post) args s mc ms fr) (F0 m pc ls [.long v]) := by
  obtain ⟨h1, h2, h3, h4, h5, h6, h7, h8, rfl⟩ := X
  exact W.widen hc hs (W.lret h1 h2 h5 (fun t ht _ => ⟨⟨_, rfl, by rw [ht]; exact hp⟩, hS.F ht⟩) hS.2.2 hdg h6)
theorem x_vret {fr : Nat → Prop} {post : Option Value → Heap → Prop} {mc ms : Nat} (X : xx p s m args meth c cc nL own none D A H0) (hS : va_S fr H0 H locs) (hc : cells ≤ mc) (hs : slots ≤ ms) (hdg : decode cc pc = .ok (.return_, 1)) (hp : post none H) : W p l e R s m args below meth c H locs cells slots (MQ below (xQ fr post) args s mc ms fr) (F0 m pc ls []) := by
  obtain ⟨h1, h2, h3, h4, h5, h6, h7, h8, rfl⟩ := X
  exact W.widen hc hs (W.vret h1 h2 h5 (fun t ht _ => ⟨⟨_, rfl, by rw [ht]; exact hp⟩, hS.F ht⟩) hS.2.2 hdg h6)
theorem x_aret {fr : Nat → Prop} {post : Option Value → Heap → Prop} {mc ms : Nat} {a : Nat} {rt : FieldType} (X : xx p s m args meth c cc nL own (some rt) D A H0) (hrt : (∃ n, rt = .object n) ∨ ∃ t, rt = .array t) (hS : va_S fr H0 H locs) (hc : cells ≤ mc) (hs : slots ≤ ms) (hdg : decode cc pc = .ok (.areturn, 1)) (hp : post (some (.ref a)) H) : W p l e R s m args below meth c H locs cells slots (MQ below (xQ fr post) args s mc ms fr) (F0 m pc ls [.ref a]) := by
  obtain ⟨h1, h2, h3, h4, h5, h6, h7, h8, rfl⟩ := X
  exact W.widen hc hs (W.aret h1 h2 h5 hrt (Or.inr ⟨a, rfl⟩) (fun t ht _ => ⟨⟨_, rfl, by rw [ht]; exact hp⟩, hS.F ht⟩) hS.2.2 hdg h6)
/-- what a call leaves as it was -/
def x_fr (fr : Nat → Prop) (H H1 : Heap) : Prop := H.size ≤ H1.size ∧ ∀ q : Nat, q < H.size → ¬ fr q → H1[q]? = H[q]?
theorem x_go {fr fr' : Nat → Prop} {post : Option Value → Heap → Prop} {mc ms : Nat} {st : List Value} {a : Array Value} (hr : va_Run p l e R s m args below meth c H locs cells slots mc ms (F0 m pc ls st) rest (xQ fr' post a) fr') (hS : va_S fr H0 H locs) (hA : ∀ q, fr' q → fr q)
    (kk : ∀ (v : Option Value) (H1 : Heap) (locs1 : List Loc), post v H1 → x_fr fr' H H1 → va_S fr H0 H1 locs1 → W p l e R s m args below meth c H1 locs1 (cells + mc) (slots + ms) Q (F0 m (pc + 3) ls (v.toList ++ rest))) : W p l e R s m args below meth c H locs cells slots Q (F0 m pc ls st) := by
  intro T hT X
  obtain ⟨v, st₀, t, T', L, h0, X', hL, e1, e2, ⟨⟨v2, hv, hp⟩, hz, hk⟩, st⟩ := hr T hT X
  cases hv
  rw [h0] at hz hk
  obtain ⟨t2, a1, b1⟩ := kk v T'.heap (locs ++ L) (by rw [e1]; exact hp) ⟨by rw [e1]; exact hz, fun q h1 h2 => by rw [e1]; exact hk q h1 h2⟩
    ⟨Nat.le_trans hS.1 (by rw [e1]; exact hz), fun q h1 h2 => by rw [e1, hk q (Nat.lt_of_lt_of_le h1 hS.1) (fun z => h2 (hA q z))]; exact hS.2.1 q h1 h2, fun q hq => by
      rcases List.mem_append.mp hq with h | h
      · exact hS.2.2 q h
      · exact hA _ (hL q h)⟩ T' rfl X'
  exact ⟨t2, st t2 a1, b1⟩
theorem x_go1 {fr fr' : Nat → Prop} {x : Value} {P : Heap → Prop} {mc ms : Nat} {st : List Value} {a : Array Value} (hr : va_Run p l e R s m args below meth c H locs cells slots mc ms (F0 m pc ls st) rest (xQ fr' (q1 x P) a) fr') (hS : va_S fr H0 H locs) (hA : ∀ q, fr' q → fr q)
    (kk : ∀ (H1 : Heap) (locs1 : List Loc), P H1 → x_fr fr' H H1 → va_S fr H0 H1 locs1 → W p l e R s m args below meth c H1 locs1 (cells + mc) (slots + ms) Q (F0 m (pc + 3) ls (x :: rest))) : W p l e R s m args below meth c H locs cells slots Q (F0 m pc ls st) :=
  x_go hr hS hA (fun v H1 locs1 hp hf hS => by obtain ⟨rfl, hp⟩ := hp; exact kk H1 locs1 hp hf hS)
theorem x_go0 {fr fr' : Nat → Prop} {P : Heap → Prop} {mc ms : Nat} {st : List Value} {a : Array Value} (hr : va_Run p l e R s m args below meth c H locs cells slots mc ms (F0 m pc ls st) rest (xQ fr' (q0 P) a) fr') (hS : va_S fr H0 H locs) (hA : ∀ q, fr' q → fr q)
    (kk : ∀ (H1 : Heap) (locs1 : List Loc), P H1 → x_fr fr' H H1 → va_S fr H0 H1 locs1 → W p l e R s m args below meth c H1 locs1 (cells + mc) (slots + ms) Q (F0 m (pc + 3) ls rest)) : W p l e R s m args below meth c H locs cells slots Q (F0 m pc ls st) :=
  x_go hr hS hA (fun v H1 locs1 hp hf hS => by obtain ⟨rfl, hp⟩ := hp; exact kk H1 locs1 hp hf hS)
theorem x_gor {fr fr' : Nat → Prop} {P : Nat → Heap → Prop} {mc ms : Nat} {st : List Value} {a : Array Value} (hr : va_Run p l e R s m args below meth c H locs cells slots mc ms (F0 m pc ls st) rest (xQ fr' (qr P) a) fr') (hS : va_S fr H0 H locs) (hA : ∀ q, fr' q → fr q)
    (kk : ∀ (r : Nat) (H1 : Heap) (locs1 : List Loc), P r H1 → x_fr fr' H H1 → va_S fr H0 H1 locs1 → W p l e R s m args below meth c H1 locs1 (cells + mc) (slots + ms) Q (F0 m (pc + 3) ls (.ref r :: rest))) : W p l e R s m args below meth c H locs cells slots Q (F0 m pc ls st) :=
  x_go hr hS hA (fun v H1 locs1 hp hf hS => by obtain ⟨r, rfl, hp⟩ := hp; exact kk r H1 locs1 hp hf hS)
/-- a read: the heap stays -/
theorem x_goR {fr : Nat → Prop} {x : Value} {st : List Value} {a : Array Value} (hr : va_Run p l e R s m args below meth c H locs cells slots 0 0 (F0 m pc ls st) rest (xQ (fun _ => False) (q1 x (fun H1 => H1 = H)) a) (fun _ => False)) (hS : va_S fr H0 H locs)
    (kk : ∀ (locs1 : List Loc), va_S fr H0 H locs1 → W p l e R s m args below meth c H locs1 cells slots Q (F0 m (pc + 3) ls (x :: rest))) : W p l e R s m args below meth c H locs cells slots Q (F0 m pc ls st) :=
  x_go1 hr hS (fun _ h => h.elim) (fun H1 locs1 hp hf hS2 => by subst hp; exact kk locs1 hS2)
theorem x_word (X : xx p s m args meth c cc nL own ret D A H0) {w : Cond} (hw : w ∈ lw_tbl) (hu : x_us w = true) : w.before args s = true := X.2.2.2.2.2.2.2.1 w hw hu args
theorem x_code (X : xx p s m args meth c cc nL own ret D A H0) {y : MethodName} {cc' : ByteArray} {nL' n : Nat} {ret' : Option FieldType} (hb : x_ce y cc' nL' ret' n) : (∀ w ∈ [Cond.code y cc' nL' ret'], w.before args s = true) ∧ GoodIn [Cond.code y cc' nL' ret'] [Cond.code y cc' nL' ret'] :=
  ⟨fun w hw => by rw [List.mem_singleton.1 hw]; exact x_word X hb.1 rfl, fun w hw => ⟨hw, by rw [List.mem_singleton.1 hw]; exact Or.inl rfl⟩⟩
theorem x_preS (X : xx p s m args meth c cc nL own ret D A H0) {av : List Value} : PreS s H (xP D A H av) av := ⟨x_blind, fun U hU hW => ⟨rfl, hU, va_K.moved hW.alike X.2.2.2.2.2.2.1, X.2.2.2.2.2.2.2.1.mv hW⟩⟩
section Runs
variable {y : MethodName} {cc' : ByteArray} {nL' n d' mc ms index b ci : Nat} {ret' : Option FieldType} {fr' : Nat → Prop} {post : Option Value → Heap → Prop} {As st : List Value} {fs : List Value} {C host : String} {T : u_T} {N : Nat}
/-- a virtual method of the own class, or a public one -/
theorem x_runV (X : xx p s m args meth c cc nL own ret D A H0) (hM : xC l y cc' nL' ret' d' D A H (.ref b :: As) fr' post mc ms) (hb : x_ce y cc' nL' ret' n) (hs : Cond.instanceMethod y ∈ lw_tbl) (hv : Cond.selects C y y ∈ lw_tbl) (hl : Cond.methodLink own index y ∈ lw_tbl)
    (ho : va_at D vwCl (b, .inr (ci, fs)) H) (hc : vwCl[ci]? = some (C, T, N)) (hn : As.length = n) (hz : lz ls nL L) (hst : st = As.reverse ++ .ref b :: rest) (hw : (rest.map fun v => v.category).sum ≤ 8) (hdg : decode cc pc = .ok (.invokevirtual index, 3)) (h1 : d' + 1 ≤ R.frames) (h2 : 8 + (nL' + 11) + 64 * d' ≤ R.locals) (hf : cells + mc ≤ R.cells ∧ slots + ms ≤ R.slots) :
    va_Run p l e R s m args below meth c H locs cells slots mc ms (F0 m pc ls st) rest (xQ fr' post (Value.ref b :: As).toArray) fr' := by
  have hcd := x_code X hb
  have hP : va_P D vwCl [(b, .inr (ci, fs))] H := fun k q hk => by
    cases k with
    | zero => cases hk; exact ho
    | succ k => simp at hk
  exact va_runV (Ts := [Cond.code y cc' nL' ret']) (rm := x_rm d' mc ms) ⟨X.1, X.2.1, X.2.2.1, X.2.2.2.1, hcd.1⟩ hM ⟨callB_of n hcd.1 hcd.2 rfl rfl rfl (x_word X hb.2.1 rfl) (x_word X hl rfl) hb.2.2 ⟨h1, h2⟩, x_word X hs rfl, x_word X hv rfl⟩ ⟨x_blind, va_recv (q0 := 0) X.2.2.2.2.2.2.1 hP hc rfl, (x_preS X).2⟩ rfl hn hz.1 hst (lv_room hw) hdg hf
theorem x_runS (X : xx p s m args meth c cc nL own ret D A H0) (hM : xC l y cc' nL' ret' d' D A H As fr' post mc ms) (hb : x_ce y cc' nL' ret' n) (hs : Cond.static y ∈ lw_tbl) (hl : Cond.methodLink own index y ∈ lw_tbl)
    (hn : As.length = n) (hz : lz ls nL L) (hst : st = As.reverse ++ rest) (hw : (rest.map fun v => v.category).sum ≤ 8) (hdg : decode cc pc = .ok (.invokestatic index, 3)) (h1 : d' + 1 ≤ R.frames) (h2 : 8 + (nL' + 11) + 64 * d' ≤ R.locals) (hf : cells + mc ≤ R.cells ∧ slots + ms ≤ R.slots) :
    va_Run p l e R s m args below meth c H locs cells slots mc ms (F0 m pc ls st) rest (xQ fr' post As.toArray) fr' := by
  have hcd := x_code X hb
  exact va_runS (Ts := [Cond.code y cc' nL' ret']) (rm := x_rm d' mc ms) ⟨X.1, X.2.1, X.2.2.1, X.2.2.2.1, hcd.1⟩ hM ⟨callB_of n hcd.1 hcd.2 rfl rfl rfl (x_word X hb.2.1 rfl) (x_word X hl rfl) hb.2.2 ⟨h1, h2⟩, x_word X hs rfl⟩ (x_preS X) rfl hn hz.1 hst (lv_room hw) hdg hf
theorem x_runI (X : xx p s m args meth c cc nL own ret D A H0) (hM : xC l y cc' nL' none d' D A H (.ref b :: As) fr' post mc ms) (hb : x_ce y cc' nL' none n) (hy : y.name = "<init>") (hs : Cond.instanceMethod y ∈ lw_tbl) (hl : Cond.methodLink own index y ∈ lw_tbl)
    (hn : As.length = n) (hz : lz ls nL L) (hst : st = As.reverse ++ .ref b :: rest) (hw : (rest.map fun v => v.category).sum ≤ 8) (hdg : decode cc pc = .ok (.invokespecial index, 3)) (h1 : d' + 1 ≤ R.frames) (h2 : 8 + (nL' + 11) + 64 * d' ≤ R.locals) (hf : cells + mc ≤ R.cells ∧ slots + ms ≤ R.slots) :
    va_Run p l e R s m args below meth c H locs cells slots mc ms (F0 m pc ls st) rest (xQ fr' post (Value.ref b :: As).toArray) fr' := by
  have hcd := x_code X hb
  exact va_runI (Ts := [Cond.code y cc' nL' none]) (rm := x_rm d' mc ms) ⟨X.1, X.2.1, X.2.2.1, X.2.2.2.1, hcd.1⟩ hM ⟨callB_of n hcd.1 hcd.2 rfl rfl rfl (x_word X hb.2.1 rfl) (x_word X hl rfl) hb.2.2 ⟨h1, h2⟩, hy, x_word X hs rfl⟩ (x_preS X) rfl hn hz.1 hst (lv_room hw) hdg hf
/-- a nest mate's -/
theorem x_runVN (X : xx p s m args meth c cc nL own ret D A H0) (hM : xC l y cc' nL' ret' d' D A H (.ref b :: As) fr' post mc ms) (hb : x_ce y cc' nL' ret' n) (hs : Cond.instanceMethod y ∈ lw_tbl) (hv : Cond.selects C y y ∈ lw_tbl) (hl : Cond.methodLinkNest own index y host ∈ lw_tbl)
    (ho : va_at D vwCl (b, .inr (ci, fs)) H) (hc : vwCl[ci]? = some (C, T, N)) (hn : As.length = n) (hz : lz ls nL L) (hst : st = As.reverse ++ .ref b :: rest) (hw : (rest.map fun v => v.category).sum ≤ 8) (hdg : decode cc pc = .ok (.invokevirtual index, 3)) (h1 : d' + 1 ≤ R.frames) (h2 : 8 + (nL' + 11) + 64 * d' ≤ R.locals) (hf : cells + mc ≤ R.cells ∧ slots + ms ≤ R.slots) :
    va_Run p l e R s m args below meth c H locs cells slots mc ms (F0 m pc ls st) rest (xQ fr' post (Value.ref b :: As).toArray) fr' := by
  have hcd := x_code X hb
  have hP : va_P D vwCl [(b, .inr (ci, fs))] H := fun k q hk => by
    cases k with
    | zero => cases hk; exact ho
    | succ k => simp at hk
  exact va_runVN (Ts := [Cond.code y cc' nL' ret']) (rm := x_rm d' mc ms) ⟨X.1, X.2.1, X.2.2.1, X.2.2.2.1, hcd.1⟩ hM ⟨va_cnB n hcd.1 hcd.2 rfl rfl rfl (va_Nw.of rfl (x_word X hl rfl)) (x_word X hb.2.1 rfl) hb.2.2 ⟨h1, h2⟩, x_word X hs rfl, x_word X hv rfl⟩ ⟨x_blind, va_recv (q0 := 0) X.2.2.2.2.2.2.1 hP hc rfl, (x_preS X).2⟩ rfl hn hz.1 hst (lv_room hw) hdg hf
theorem x_runSN (X : xx p s m args meth c cc nL own ret D A H0) (hM : xC l y cc' nL' ret' d' D A H As fr' post mc ms) (hb : x_ce y cc' nL' ret' n) (hs : Cond.static y ∈ lw_tbl) (hl : Cond.methodLinkNest own index y host ∈ lw_tbl)
    (hn : As.length = n) (hz : lz ls nL L) (hst : st = As.reverse ++ rest) (hw : (rest.map fun v => v.category).sum ≤ 8) (hdg : decode cc pc = .ok (.invokestatic index, 3)) (h1 : d' + 1 ≤ R.frames) (h2 : 8 + (nL' + 11) + 64 * d' ≤ R.locals) (hf : cells + mc ≤ R.cells ∧ slots + ms ≤ R.slots) :
    va_Run p l e R s m args below meth c H locs cells slots mc ms (F0 m pc ls st) rest (xQ fr' post As.toArray) fr' := by
  have hcd := x_code X hb
  exact va_runSN (Ts := [Cond.code y cc' nL' ret']) (rm := x_rm d' mc ms) ⟨X.1, X.2.1, X.2.2.1, X.2.2.2.1, hcd.1⟩ hM ⟨va_cnB n hcd.1 hcd.2 rfl rfl rfl (va_Nw.of rfl (x_word X hl rfl)) (x_word X hb.2.1 rfl) hb.2.2 ⟨h1, h2⟩, x_word X hs rfl, trivial⟩ (x_preS X) rfl hn hz.1 hst (lv_room hw) hdg hf
theorem x_runIN (X : xx p s m args meth c cc nL own ret D A H0) (hM : xC l y cc' nL' none d' D A H (.ref b :: As) fr' post mc ms) (hb : x_ce y cc' nL' none n) (hy : y.name = "<init>") (hs : Cond.instanceMethod y ∈ lw_tbl) (hl : Cond.methodLinkNest own index y host ∈ lw_tbl)
    (hn : As.length = n) (hz : lz ls nL L) (hst : st = As.reverse ++ .ref b :: rest) (hw : (rest.map fun v => v.category).sum ≤ 8) (hdg : decode cc pc = .ok (.invokespecial index, 3)) (h1 : d' + 1 ≤ R.frames) (h2 : 8 + (nL' + 11) + 64 * d' ≤ R.locals) (hf : cells + mc ≤ R.cells ∧ slots + ms ≤ R.slots) :
    va_Run p l e R s m args below meth c H locs cells slots mc ms (F0 m pc ls st) rest (xQ fr' post (Value.ref b :: As).toArray) fr' := by
  have hcd := x_code X hb
  exact va_runIN (Ts := [Cond.code y cc' nL' none]) (rm := x_rm d' mc ms) ⟨X.1, X.2.1, X.2.2.1, X.2.2.2.1, hcd.1⟩ hM ⟨va_cnB n hcd.1 hcd.2 rfl rfl rfl (va_Nw.of rfl (x_word X hl rfl)) (x_word X hb.2.1 rfl) hb.2.2 ⟨h1, h2⟩, hy, x_word X hs rfl⟩ (x_preS X) rfl hn hz.1 hst (lv_room hw) hdg hf
end Runs
end XC
