/-! The law's start, and the claim: all but whole_start as the kit's skeleton has it. -/
/-- the law's own end, with 1 on the stack, nothing written that was there before, its room as the claim has it -/
theorem lw_ret {p : Program} {l : Launch} {e : Env} {s : State} {m : MethodId} {below : List Frame} {meth : Method} {c : Code} {b : Nat} (hx : p.tables.exec = Jvm.exec) (hb : c.code = code) (hr : meth.sig.returnType = ret) (hlocks : meth.locks = false) {pc : Nat} {H : Heap} {ls : Array Slot} (hdg : decode code pc = .ok (.ireturn, 1)) : W p l e room_1 s m #[Value.ref b] below meth c H [] 600000 7302250 (lw_Z below #[Value.ref b] s) (F0 m pc ls [.int 1]) := by
  intro T hT X
  obtain ⟨fs, hret, hrun, hended, hW, hframe⟩ := X.leave (v := some (.int 1)) (hlocks := hlocks) (fun h => by rw [hr] at h; cases h)
  have hmeth' : T.vm.method? m = some meth := X.method'
  refine ⟨T.setFrames fs, ?_, .returned (some (.int 1)), hrun, hended, rfl, ⟨_, rfl⟩, hW, hframe⟩
  jvm_step X.here [X.here.top, hx, hb, hdg, hmeth', hr, ret, narrow_b1]
  (try refine ⟨rfl, ?_⟩); (try refine ⟨rfl, ?_⟩)
  first | (intro acts; rw [hret _ acts rfl rfl rfl]) | rw [hret _ _ rfl rfl rfl]
  exact Steps.refl _
/-- what holds at the law's entry: the machine, the code, the tables' words (any of lw_tbl by 'hts w (by decide +kernel)'), the script of L ints xs at the cell b, what the Statement gives of the start (any of its parts by flat_of_before) -/
def lw_At (p : Program) (s : State) (m : MethodId) (meth : Method) (c : Code) (b L : Nat) (xs : Nat → Int32) : Prop :=
  p.tables.exec = Jvm.exec ∧ c.code = code ∧ meth.sig.returnType = ret ∧ c.maxLocals = 4 ∧ s.vm.findClass R_law = some m.cls ∧ (∀ w ∈ lw_tbl, w.before #[Value.ref b] s = true) ∧ va_X b L xs s s.heap ∧ b < s.heap.size ∧ meth.locks = false ∧ (Jvm.Cond.and given_1 narrow_1).before #[Value.ref b] s = true
theorem xA_z {o z : Nat} {H : Heap} (h1 : z ≤ o) (h2 : z ≤ H.size) : ∀ q, xA (fun q => q = o) H q → z ≤ q := fun q h => by
  rcases h with h | h
  · have h : q = o := h
    omega
  · exact Nat.le_trans h2 h
set_option maxRecDepth 100000 in
set_option maxHeartbeats 4000000 in
theorem whole_start {p : Program} {e : Env} {s : State} {m : MethodId} {below : List Frame} {meth : Method} {c : Code} (l : Launch) {b L : Nat} {xs : Nat → Int32} (hL : L ≤ 2560) (C0 : lw_At p s m meth c b L xs) : W p l e room_1 s m #[Value.ref b] below meth c s.heap [] 0 0 (lw_Z below #[Value.ref b] s) (entryFrame m ([Value.ref b] : List Value).toArray 4) := by
  obtain ⟨hexec, hcode, hret, hml, hown, hts, hX, hbl, hlocks, -⟩ := C0
  obtain ⟨D, A, hK⟩ := lw_K hts
  have X : xx p s m #[.ref b] meth c code 4 R_law ret D A s.heap := ⟨hexec, hcode, hml, hown, hret, hlocks, hK, lw_T hts, rfl⟩
  have hl := lv_entry [.ref b] (n := 4) (Nat.le_of_ble_eq_true rfl)
  rw [lg_entry_eq]
  generalize (lg_sl [Value.ref b] ++ List.replicate (4 - (lg_sl [Value.ref b]).length) Slot.unset).toArray = ls at hl ⊢
  have hl : lz ls 4 [some (.ref b), none, none, none] := ⟨hl.1, hl.2.1, fun i v hi => by
    match i, hi with
    | 0, hi => cases hi; exact hl.2.2 (0, .ref b) (by simp [lv_args])
    | 1, hi => cases hi
    | 2, hi => cases hi
    | 3, hi => cases hi
    | i + 4, hi => simp at hi⟩
  have hS : va_S (fun x => s.heap.size ≤ x) s.heap s.heap [] := va_S.rf
  refine x_newX X gF e_L_7 n_F i_F x_defF (by decide) (by decide) d_L_law_0 (fun H1 hO1 hF1 => ?_)
  have hS := hS.new hF1
  have z1 := hS.1
  refine x_dup X d_L_law_3 rfl ?_
  refine x_go0 (x_runI X (C_F_init l D A _ s.heap.size (va_P1 hO1)) b_F_init rfl s_F_init e_L_9 rfl hl rfl (Nat.le_of_ble_eq_true rfl) d_L_law_4 (Nat.le_of_ble_eq_true rfl) (Nat.le_of_ble_eq_true rfl) ⟨by decide, by decide⟩) hS (xA_z (Nat.le_refl _) z1) (fun H2 locs hT hF2 hS => ?_)
  obtain ⟨u, ks, bv, ar, hd, zu, zk, zv, za, hG⟩ := hT
  have z2 := hS.1
  refine x_astore_n X d_L_law_7 rfl hl (by decide) rfl (fun ls hl => ?_)
  refine x_newX X gM e_L_10 n_M i_M x_defM (by decide) (by decide) d_L_law_8 (fun H3 hO3 hF3 => ?_)
  have hS := hS.new hF3
  have z3 := hS.1
  refine x_dup X d_L_law_11 rfl ?_
  refine x_go0 (x_runI X (C_M_init l D A _ H2.size (va_P1 hO3)) b_M_init rfl s_M_init e_L_12 rfl hl rfl (Nat.le_of_ble_eq_true rfl) d_L_law_12 (Nat.le_of_ble_eq_true rfl) (Nat.le_of_ble_eq_true rfl) ⟨by decide, by decide⟩) hS (xA_z z2 z3) (fun H4 locs hT hF4 hS => ?_)
  obtain ⟨a, ha0, hm, hfr, hI⟩ := hT
  have h23 : H2.size ≤ H3.size := hF3.1
  have h34 : H3.size ≤ H4.size := hF4.1
  have hai : ∀ x, mFr a x → H2.size ≤ x := fun x h => by
    obtain ⟨i, h8, rfl⟩ := h
    by_cases h0 : i = 0
    · rw [h0, ha0]; exact Nat.le_refl _
    · exact Nat.le_trans h23 (hfr i (by omega) h8)
  have hF : x_fr (xA (fun q => q = H2.size) H2) H2 H4 := ⟨Nat.le_trans h23 h34, fun x hx hn => by
    rw [hF4.2 x (by omega) (fun h => hn (by
      rcases h with h | h
      · exact Or.inl h
      · exact Or.inr (Nat.le_trans h23 h)))]
    exact hF3.2 x hx (fun h => h)⟩
  have hdis : ∀ x, cSt s.heap.size u ks bv ar x → ¬ mFr a x := fun x h1 h2 => by
    have h3 := hG.2.1 x h1
    have h4 := hai x h2
    omega
  have hlt4 : ∀ x, mFr a x → x < H4.size := fun x h => by
    obtain ⟨i, h8, rfl⟩ := h
    obtain ⟨lo, hi, en, zf, mk, md, pl, ct, vs, w, n, hR, hP⟩ := hI
    match i, h8 with
    | 0, _ => exact c_lt (hP 0 _ rfl)
    | 1, _ => exact c_lt (hP 1 _ rfl)
    | 2, _ => exact c_lt (hP 2 _ rfl)
    | 3, _ => exact c_lt (hP 3 _ rfl)
    | 4, _ => exact c_lt (hP 4 _ rfl)
    | 5, _ => exact c_lt (hP 5 _ rfl)
    | 6, _ => exact c_lt (hP 6 _ rfl)
    | 7, _ => exact c_lt (hP 7 _ rfl)
  have hG : cG D A (fun x => cSt s.heap.size u ks bv ar x ∨ mFr a x) s.heap.size u ks bv ar sp_q0 0 H4 := hG.mv (fun x h1 h2 => ⟨hF.2 x h1 (xA.no h1 (fun h => by omega)), fun h => h.elim h2 (fun h => by have := hai x h; omega)⟩) (fun x h => Or.inl h) (fun x h => h.elim (fun h => Nat.lt_of_lt_of_le (hG.2.1 x h) (Nat.le_trans h23 h34)) (hlt4 x)) hF (fun x h => xA.no (hG.2.1 x h) (fun h2 => by have := hG.2.1 x h; omega))
  have FF : lw_F (fun x => cSt s.heap.size u ks bv ar x ∨ mFr a x) s.heap.size u ks bv ar a s.heap.size := ⟨hd, hm, fun x h => Or.inr h, hdis, fun x h => by
    rcases h with h | h
    · rcases h with h | h | h | h | h
      · omega
      · rw [h]; exact Nat.le_trans z1 zu
      · rw [h]; exact Nat.le_trans z1 zk
      · rw [h]; exact Nat.le_trans z1 zv
      · rw [h]; exact Nat.le_trans z1 za
    · exact Nat.le_trans z2 (hai x h)⟩
  refine x_astore_n X d_L_law_15 rfl hl (by decide) rfl (fun ls hl => ?_)
  refine x_iconst (v := nI 0) X d_L_law_16 rfl ?_
  refine x_istore_n X d_L_law_17 rfl hl (by decide) rfl (fun ls hl => ?_)
  rw [← ha0] at hl
  refine W.widen ?_ ?_ (lw_loop X hX hbl hL FF (fun H locs ls cells slots hS hc hs => ?_) L 0 0 sp_q0 H4 _ _ (Nat.le_refl _) (Nat.zero_le _) (Nat.le_refl _) sp_q0_ok hG hI hl hS)
  · decide
  · decide
  · refine va_forget (fun x hx => hS.2.2 x hx) (W.widen hc hs ?_)
    exact lw_ret hexec hcode hret hlocks d_L_law_862
-- ===== YOUR PART ENDS =====
set_option maxHeartbeats 4000000 in
theorem lw_walk (l : Launch) (b : Addr) (xs : List Int32) : MetFree l x (headSpec (Jvm.Cond.code x code maxLocals ret :: tables_1) room_1) (lw_P b xs) (fun _ _ _ _ _ => True) lw_Q := by
  refine MetFree.of_bodyS (code := code) (maxLocals := maxLocals) (ret := ret) (by decide) ?_ ?_
  · intro args s m h hn
    obtain ⟨meth, c, h1, h2, h3, h4, h5, h6, -, -⟩ := Cond.code_spec hn (atoms_spec (ws := Jvm.Cond.code x code maxLocals ret :: tables_1) h _ List.mem_cons_self)
    exact ⟨meth, c, h1, h2, h3, h4, h5, h6⟩
  · intro p e s m args below meth c s₁ B hml0 hP _
    obtain ⟨rfl, hx, hbd, hgv⟩ := hP
    obtain ⟨scr, harrAt, hlist, hof, hsmall⟩ := hx
    obtain ⟨hcb, hkn, -, -⟩ := State.arrayAt?_spec harrAt
    have hown : s.vm.findClass R_law = some m.cls := findClass_of_methodNamed B.named
    have hts0 : ∀ c ∈ (Jvm.Cond.code x code maxLocals ret :: tables_1), c.before #[Value.ref b] s = true := atoms_spec (ws := Jvm.Cond.code x code maxLocals ret :: tables_1) B.pre
    have hts : ∀ w ∈ lw_tbl, w.before #[Value.ref b] s = true := k2_hts_sels lw_privs (fun w hw => hts0 w (List.mem_cons_of_mem _ hw)) lw_privs_ok
    have hml : c.maxLocals = 4 := B.maxLocals_eq (hts0 _ List.mem_cons_self)
    have X₀ : Stand p l e room_1 s m #[Value.ref b] below meth c s₁ [] 0 0 := Stand.of_body B
    have hh0 : s₁.heap = s.heap := by rw [B.state]; rfl
    have hsz : scr.slots.size = xs.length := by rw [← Array.length_toList, hlist, List.length_map]
    have hval : ∀ j : Nat, j < xs.length → scr.slots[j]? = some (.int (xs.getD j 0)) := fun j hj => by
      rw [← Array.getElem?_toList, hlist]
      simp [hj]
    have hbl : b < s.heap.size := (Array.getElem?_eq_some_iff.mp hcb).1
    have hX : va_X b xs.length (fun j => xs.getD j 0) s s.heap := ⟨scr, hcb, hof, hkn, hsz, hval⟩
    have K : W p l e room_1 s m #[Value.ref b] below meth c s₁.heap [] 0 0 (lw_Z below #[Value.ref b] s) (entryFrame m ([Value.ref b] : List Value).toArray 4) := by
      rw [hh0]
      exact whole_start l hbd ⟨B.exec, B.bytes, B.returns, hml, hown, hts, hX, hbl, B.notSynchronized, hgv⟩
    obtain ⟨t, a1, o, b1, b2, b3⟩ := K s₁ rfl X₀
    exact ⟨t, o, a1, b1, b2, b3⟩
theorem lw_pre_spec {args : Array Value} {s : State} (h : (Jvm.Cond.and given_1 narrow_1).before args s = true) (hr : rest_1_c.before args s = true) : ∃ (b : Addr) (xs : List Int32), lw_P b xs args s := by
  have hs := flat_of_before _ h
  have hq := flat_of_before _ hr
  have hc : (Cond.count 1).before args s = true := hs _ (by decide +kernel)
  have harr : (Cond.arrayOf (.arg 0) .int).before args s = true := hs _ (by decide +kernel)
  have hle : (Cond.le (.length (.arg 0)) (.int 2560)).before args s = true := hs _ (by decide +kernel)
  have hlen : (Cond.isInt (.length (.arg 0))).before args s = true := hq _ (by decide +kernel)
  have hall : (Cond.all (.arg 0) (.isInt (.elem (.arg 0) (.index 0)))).before args s = true := hq _ (by decide +kernel)
  obtain ⟨b, xs, hb, hx⟩ := State.ints_of_pre rfl harr hlen hall
  have hsm : xs.length < 2 ^ 31 := hx.choose_spec.2.2.2
  have hev : (Term.length (.arg 0)).eval args s none [] s = some (.int xs.length.toInt32) := hx.length_eval hb
  have hv := Cond.le_ints hev (show (Term.int 2560).eval args s none [] s = some (.int 2560) from rfl)
  have hd : xs.length.toInt32 ≤ 2560 := by
    simpa [Cond.before, Cond.holds, hv] using hle
  have hN : xs.length ≤ 2560 := (Int32.ofNat_le_ofNat hsm (by decide)).mp (show Int32.ofNat xs.length ≤ Int32.ofNat 2560 from hd)
  exact ⟨b, xs, Cond.one_arg hc (show args[0]? = some (.ref b) from hb), hx, hN, h⟩
theorem lw_comes (l : Launch) : Comes l x (Jvm.Cond.code x code maxLocals ret :: tables_1) room_1 (fun tb e args s => Calls_1 tb e args s ∧ rest_1 tb e args s ∧ Pre_1 tb e args s)
    (fun _ _ args s o t => lw_Q args s o t) := by
  intro p e ha hc hk s m args below hf hfit hheap happ hpre
  obtain ⟨b, xs, hP⟩ := lw_pre_spec hpre.2.2 hpre.2.1
  obtain ⟨k, o, h1, h2, h3, hQ⟩ := lw_walk l b xs p e ha hc hk s m args below hf ((Spec.applies_iff_loose hf).mp happ).1 hP trivial
  exact ⟨k, o, h1, h2, h3, hQ⟩
theorem lw_frame {s t : State} {o : Outcome} {args : Array Value} (h : Framed s o t [] 600000 7302250) :
    Framed s o t (fieldLocs frame_1_writes args s ++ arrayLocs frame_1_arrays args s ++ staticLocs frame_1_statics s) 600000 7302250 := h
theorem lw_limb (L : Cond) (hL : ∀ (args : Array Value) (s t : State), L.after args s (.returned (some (.int 1))) t = true) :
    ArmFor flags0 classFile x code maxLocals ret World_1 tables_1 room_1 Calls_1 rest_1 Pre_1
      (fun tb e a s o t => postC L tb e a s o t ∧ Framed s o t (fieldLocs frame_1_writes a s ++ arrayLocs frame_1_arrays a s ++ staticLocs frame_1_statics s) 600000 7302250) := by
  intro l _ _ _ p e ha hc hk s m args below hf hfit hheap happ hpre
  obtain ⟨k, o, h1, h2, h3, rfl, hF⟩ := lw_comes l p e ha hc hk s m args below hf hfit hheap happ hpre
  exact ⟨k, _, h1, h2, h3, hL args s _, lw_frame hF⟩
theorem i_vc : Claimed_1_1 ∧ Claimed_1_2 := ⟨lw_limb limb_1_1 (fun args s t => by simp [limb_1_1, Cond.after, Cond.holds, Cond.value]), lw_limb limb_1_2 (fun args s t => Cond.after_iff.mpr (by
  first | (rw [show limb_1_2 = Cond.eq .result (.int 1) from rfl, Cond.eq_ints (x := 1) (y := 1) rfl rfl]; simp; done) | (simp [limb_1_2, Cond.value, Term.eval]; done)))⟩
