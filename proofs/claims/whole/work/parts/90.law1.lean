/-! The law: what each side keeps while the other works; the classes; the script. The words R_law, lw_Q, lw_Z, lw_At, lw_ret begin as the kit's skeleton has them. -/
def R_law : String := "FingerSpansLaw"
def lw_P (b : Addr) (xs : List Int32) (args : Array Value) (s : State) : Prop := args = #[.ref b] ∧ s.IntsAt b xs ∧ xs.length ≤ 2560 ∧ (Jvm.Cond.and given_1 narrow_1).before args s = true
def lw_Q (_ : Array Value) (s : State) (o : Outcome) (t : State) : Prop := o = .returned (some (.int 1)) ∧ Framed s o t [] 600000 7302250
def lw_Z (below : List Frame) (a : Array Value) (s : State) : State → Prop := fun t => ∃ o, t.status = .running ∧ Ended t below o ∧ lw_Q a s o t
/-- the reference stays -/
theorem mI.kp {D : va_G} {A : Nat → ClassId} {a : Nat → Nat} {q : ft_Q} {H H1 : Heap} {P : Nat → Prop} (h : mI D a A q H) (hF : x_fr P H H1) (hn : ∀ i, i < 8 → ¬ P (a i)) : mI D a A q H1 := by
  obtain ⟨lo, hi, en, zf, mk, md, pl, ct, vs, w, n, hR, hP⟩ := h
  refine ⟨lo, hi, en, zf, mk, md, pl, ct, vs, w, n, hR, fun k x hk => hF.kp (hP k x hk) ?_⟩
  have hk2 : k < 8 ∧ x.1 = a k := by
    match k with
    | 0 | 1 | 2 | 3 | 4 | 5 | 6 | 7 => cases hk; exact ⟨by decide, rfl⟩
    | k + 8 => simp at hk
  rw [hk2.2]
  exact hn k hk2.1
theorem mI.obj {D : va_G} {A : Nat → ClassId} {a : Nat → Nat} {q : ft_Q} {H : Heap} (h : mI D a A q H) : ∃ fs, va_at D vwCl (a 0, .inr (7, fs)) H := by
  obtain ⟨lo, hi, en, zf, mk, md, pl, ct, vs, w, n, hR, hP⟩ := h
  exact ⟨_, hP 0 _ rfl⟩
/-- the class stays -/
theorem cG.mv {D : va_G} {A : Nat → ClassId} {S S1 : Nat → Prop} {b0 u ks bv ar : Nat} {q : ft_Q} {w : Nat} {H H1 : Heap} {P : Nat → Prop} (h : cG D A S b0 u ks bv ar q w H) (t : cTr S S1 H H1) (hS1 : ∀ x, cSt b0 u ks bv ar x → S1 x) (hSb1 : ∀ x, S1 x → x < H1.size) (hF : x_fr P H H1) (hn : ∀ x, cSt b0 u ks bv ar x → ¬ P x) : cG D A S1 b0 u ks bv ar q w H1 := by
  obtain ⟨hSS, hSb, rh, nn, em, lt, vs, mv, hR, hO, hU, hKs, hV, hMk, hmv, hlt, hvs, hver⟩ := h
  refine ⟨hS1, hSb1, rh, nn, em, lt, vs, mv, hR, hF.kp hO (hn _ (Or.inl rfl)), hU.mv t hF (hn _ (Or.inr (Or.inl rfl))) (hS1 _ (Or.inr (Or.inl rfl))), hF.kp hKs (hn _ (Or.inr (Or.inr (Or.inl rfl)))), hF.kp hV (hn _ (Or.inr (Or.inr (Or.inr (Or.inl rfl))))), hF.kp hMk (hn _ (Or.inr (Or.inr (Or.inr (Or.inr rfl))))), hmv, hlt, hvs, fun i x hi => ?_⟩
  obtain ⟨a, h1, h2⟩ := hver i x hi
  exact ⟨a, h1, h2.tr t (fun _ _ h => h)⟩
theorem cG.up {D : va_G} {A : Nat → ClassId} {S : Nat → Prop} {b0 u ks bv ar : Nat} {q : ft_Q} {w : Nat} {H : Heap} (h : cG D A S b0 u ks bv ar q w H) : cG D A S b0 u ks bv ar q (w + 1) H := by
  obtain ⟨hSS, hSb, rh, nn, em, lt, vs, mv, hR, hO, hU, hKs, hV, hMk, hmv, hlt, hvs, hver⟩ := h
  exact ⟨hSS, hSb, rh, nn, em, lt, vs, mv, hR, hO, hU, hKs, hV, hMk, hmv, by omega, hvs, hver⟩
theorem cG.obj {D : va_G} {A : Nat → ClassId} {S : Nat → Prop} {b0 u ks bv ar : Nat} {q : ft_Q} {w : Nat} {H : Heap} (h : cG D A S b0 u ks bv ar q w H) : ∃ fs, va_at D vwCl (b0, .inr (4, fs)) H := by
  obtain ⟨hSS, hSb, rh, nn, em, lt, vs, mv, hR, hO, -⟩ := h
  exact ⟨_, hO⟩
/-- what doesn't change in the law's loop: whose cells are whose -/
def lw_F (S : Nat → Prop) (b0 u ks bv ar : Nat) (a : Nat → Nat) (z : Nat) : Prop := cDs b0 u ks bv ar ∧ mDs a ∧ (∀ x, mFr a x → S x) ∧ (∀ x, cSt b0 u ks bv ar x → ¬ mFr a x) ∧ ∀ x, S x → z ≤ x
/-- cells and slots that a run with q's versions has used at most -/
abbrev lw_ce (q : ft_Q) : Nat := 17 + 5000 * (q.1.length - 1)
abbrev lw_sl (q : ft_Q) : Nat := 19000 + 50000 * (q.1.length - 1)
theorem cG.kp {D : va_G} {A : Nat → ClassId} {S : Nat → Prop} {b0 u ks bv ar : Nat} {a : Nat → Nat} {z : Nat} {q : ft_Q} {w : Nat} {H H1 : Heap} (h : cG D A S b0 u ks bv ar q w H) (F : lw_F S b0 u ks bv ar a z) (hF : x_fr (mFr a) H H1) : cG D A S b0 u ks bv ar q w H1 := h.mv (cTr.of hF (fun x _ hx => F.2.2.1 x hx)) h.1 (c_sb h.2.1 hF.1) hF F.2.2.2.1
theorem mI.kc {D : va_G} {A : Nat → ClassId} {S : Nat → Prop} {b0 u ks bv ar : Nat} {a : Nat → Nat} {z : Nat} {q : ft_Q} {w : Nat} {H H1 : Heap} (h : mI D a A q H) (F : lw_F S b0 u ks bv ar a z) (hG : cG D A S b0 u ks bv ar q w H) (hF : x_fr (xA (cSt b0 u ks bv ar) H) H H1) : mI D a A q H1 := h.kp hF (fun i hi hx => by
  have hm : mFr a (a i) := ⟨i, hi, rfl⟩
  rcases hx with hx | hx
  · exact F.2.2.2.1 _ hx hm
  · have := hG.2.1 _ (F.2.2.1 _ hm); omega)
theorem mI.ks {D : va_G} {A : Nat → ClassId} {S : Nat → Prop} {b0 u ks bv ar : Nat} {a : Nat → Nat} {z : Nat} {q : ft_Q} {H H1 : Heap} (h : mI D a A q H) (F : lw_F S b0 u ks bv ar a z) (hF : x_fr (fun x => x = ks ∨ x = ar) H H1) : mI D a A q H1 := h.kp hF (fun i hi hx => by
  have hm : mFr a (a i) := ⟨i, hi, rfl⟩
  rcases hx with hx | hx
  · exact F.2.2.2.1 _ (Or.inr (Or.inr (Or.inl hx))) hm
  · exact F.2.2.2.1 _ (Or.inr (Or.inr (Or.inr (Or.inr hx)))) hm)
theorem lg_cmp_self (x : Int64) : lg_cmp x x = 0 := by
  unfold lg_cmp
  rw [if_neg (fun h => Int64.lt_irrefl h), if_pos rfl]
theorem gM : xCl 7 R_M F_M 11 ty_M := ⟨rfl, uw_M, by decide +kernel, by decide +kernel, ty_M_ok, f_M_ne⟩
theorem x_defM : ∀ j, j < 11 → defaultValue (ty_M j) = vp_V [.null, .null, .int (nI 0), .null, .null, .int (nI 0), .null, .null, .int (nI 0), .null, .int (nI 0)] j
  | 0, _ | 1, _ | 2, _ | 3, _ | 4, _ | 5, _ | 6, _ | 7, _ | 8, _ | 9, _ | 10, _ => rfl
theorem x_defF : ∀ j, j < 4 → defaultValue (ty_F j) = vp_V [.null, .null, .null, .int (nI 0)] j
  | 0, _ | 1, _ | 2, _ | 3, _ => rfl
/-- the classes as the tables have them -/
theorem lw_K {s : State} {args : Array Value} (hts : ∀ w ∈ lw_tbl, w.before args s = true) : ∃ (D : va_G) (A : Nat → ClassId), va_K D vwCl (x_ty A) s := by
  obtain ⟨c0, i0, k0⟩ := u_known hts uw_I (hts _ n_I)
  obtain ⟨c1, i1, k1⟩ := u_known hts uw_K (hts _ n_K)
  obtain ⟨c2, i2, k2⟩ := u_known hts uw_U (hts _ n_U)
  obtain ⟨c3, i3, k3⟩ := u_known hts uw_T (hts _ n_T)
  obtain ⟨c4, i4, k4⟩ := u_known hts uw_F (hts _ n_F)
  obtain ⟨c5, i5, k5⟩ := u_known hts uw_H (hts _ n_H)
  obtain ⟨c6, i6, k6⟩ := u_known hts uw_C (hts _ n_C)
  obtain ⟨c7, i7, k7⟩ := u_known hts uw_M (hts _ n_M)
  obtain ⟨a0, ka0, m0, p0, q0, r0⟩ := Cond.arrayClass_spec (hts _ z_arrayClass_int)
  obtain ⟨a1, ka1, m1, p1, q1, r1⟩ := Cond.arrayClass_spec (hts _ z_arrayClass_byte)
  obtain ⟨a2, ka2, m2, p2, q2, r2⟩ := Cond.arrayClass_spec (hts _ z_arrayClass_long)
  obtain ⟨m3, a3, ka3, f3, -, g3, h3, e3⟩ := Cond.arrayOver_spec (hts _ z_arrayOver_Item)
  obtain ⟨m4, a4, ka4, f4, -, g4, h4, e4⟩ := Cond.arrayOver_spec (hts _ z_arrayOver_Tree)
  refine ⟨(fun i => match i with | 0 => c0 | 1 => c1 | 2 => c2 | 3 => c3 | 4 => c4 | 5 => c5 | 6 => c6 | _ => c7, fun i => match i with | 0 => i0 | 1 => i1 | 2 => i2 | 3 => i3 | 4 => i4 | 5 => i5 | 6 => i6 | _ => i7), fun i => match i with | 0 => a0 | 1 => a1 | 2 => a2 | 3 => a3 | _ => a4, fun j x hx => ?_, fun j x hx => ?_⟩
  · match j, hx with
    | 0, hx => cases hx; exact k0
    | 1, hx => cases hx; exact k1
    | 2, hx => cases hx; exact k2
    | 3, hx => cases hx; exact k3
    | 4, hx => cases hx; exact k4
    | 5, hx => cases hx; exact k5
    | 6, hx => cases hx; exact k6
    | 7, hx => cases hx; exact k7
    | j + 8, hx => simp at hx
  · match j, hx with
    | 0, hx => cases hx; exact ⟨fun n z => ⟨fun k h => (by cases h), ka0, q0, m0, r0⟩, p0⟩
    | 1, hx => cases hx; exact ⟨fun n z => ⟨fun k h => (by cases h), ka1, q1, m1, r1⟩, p1⟩
    | 2, hx => cases hx; exact ⟨fun n z => ⟨fun k h => (by cases h), ka2, q2, m2, r2⟩, p2⟩
    | 3, hx => cases hx; exact ⟨fun n z => ⟨fun k h => (by cases h), ka3, g3, m3, h3⟩, ka3, m3, g3, h3, f3, e3⟩
    | 4, hx => cases hx; exact ⟨fun n z => ⟨fun k h => (by cases h), ka4, g4, m4, h4⟩, ka4, m4, g4, h4, f4, e4⟩
    | j + 5, hx => simp at hx
def lw_ar (w : Cond) : Bool := match w with
  | .arrayClass _ => true
  | .arrayOver (.object _) => true
  | _ => false
theorem lw_ont : ∀ w ∈ lw_tbl, x_us w = true → (w.onTables || lw_ar w) = true := by decide +kernel
theorem lw_T {s : State} {args : Array Value} (hts : ∀ w ∈ lw_tbl, w.before args s = true) : xT s := fun w hw hu B => by
  have h := hts w hw
  have ho := lw_ont w hw hu
  rw [Bool.or_eq_true] at ho
  rcases ho with ho | ho
  · exact va_any ho h
  · unfold lw_ar at ho
    split at ho
    · exact h
    · exact h
    · cases ho
section XLW
variable {p : Program} {l : Launch} {e : Env} {R : Room} {s : State} {m : MethodId} {args : Array Value} {below : List Frame} {meth : Method} {c : Code} {H : Heap} {locs : List Loc} {cells slots : Nat} {Q : State → Prop}
variable {cc : ByteArray} {nL : Nat} {own : String} {ret : Option FieldType} {D : va_G} {A : Nat → ClassId} {pc : Nat} {ls : Array Slot} {rest : List Value}
theorem x_sld {b L : Nat} {xs : Nat → Int32} (X : xx p s m args meth c cc nL own ret D A s.heap) (hX : va_X b L xs s s.heap) (hbl : b < s.heap.size) (hS : va_S (fun x => s.heap.size ≤ x) s.heap H locs) {j : Nat} (hj : j < L) (h31 : L < 2 ^ 31) (hdg : decode cc pc = .ok (.iaload, 1)) (kk : W p l e R s m args below meth c H locs cells slots Q (F0 m (pc + 1) ls (.int (xs j) :: rest))) : W p l e R s m args below meth c H locs cells slots Q (F0 m pc ls (.int (nI j) :: .ref b :: rest)) := by
  refine va_sld X.1 X.2.1 hX hbl (fun h => absurd hbl (Nat.not_lt.2 h)) hS (vp_in_nI hj h31) hdg ?_
  rw [nI_clamp (Nat.lt_trans hj h31)]
  exact kk
theorem x_slen {b L : Nat} {xs : Nat → Int32} (X : xx p s m args meth c cc nL own ret D A s.heap) (hX : va_X b L xs s s.heap) (hbl : b < s.heap.size) (hS : va_S (fun x => s.heap.size ≤ x) s.heap H locs) (hdg : decode cc pc = .ok (.arraylength, 1)) (kk : W p l e R s m args below meth c H locs cells slots Q (F0 m (pc + 1) ls (.int (nI L) :: rest))) : W p l e R s m args below meth c H locs cells slots Q (F0 m pc ls (.ref b :: rest)) :=
  va_slen X.1 X.2.1 hX hbl (fun h => absurd hbl (Nat.not_lt.2 h)) hS hdg kk
end XLW
