/-! Rows and words for the methods of the rules: a new object and a new array join the cells that are written; what stays. -/
section XR4
variable {p : Program} {l : Launch} {e : Env} {R : Room} {s : State} {m : MethodId} {args : Array Value} {below : List Frame} {meth : Method} {c : Code} {H H1 : Heap} {locs : List Loc} {cells slots : Nat} {Q : State → Prop}
variable {cc : ByteArray} {nL : Nat} {own : String} {ret : Option FieldType} {D : va_G} {A : Nat → ClassId} {H0 : Heap} {pc : Nat} {ls : Array Slot} {rest : List Value} {fr : Nat → Prop}
variable {ci N : Nat} {C : String} {T : u_T} {ty : Nat → FieldType} {S S1 P : Nat → Prop} {rh : Nat → Nat} {E : ft_E}
theorem xA.no {q : Nat} (h1 : q < H.size) (h2 : ¬ S q) : ¬ xA S H q := fun h => by
  rcases h with h | h
  · exact h2 h
  · omega
theorem xA.one {o : Nat} (h1 : H0.size ≤ o) (h2 : H0.size ≤ H.size) : ∀ q, xA (fun q => q = o) H q → xA S1 H0 q := fun q h => by
  rcases h with h | h
  · rw [h]; exact Or.inr h1
  · exact Or.inr (Nat.le_trans h2 h)
theorem x_fr.kp {q : Nat × va_E} (h : x_fr P H H1) (ha : va_at D vwCl q H) (hp : ¬ P q.1) : va_at D vwCl q H1 := c_keep ha (h.2 _ (c_lt ha) hp)
theorem c_ub {q : Nat} (hSb : ∀ q, S q → q < H.size) (h : H.size ≤ q) : ¬ S q := fun h2 => absurd (hSb q h2) (Nat.not_lt.2 h)
theorem c_sb (hSb : ∀ q, S q → q < H.size) (h : H.size ≤ H1.size) : ∀ q, S q → q < H1.size := fun q h2 => Nat.lt_of_lt_of_le (hSb q h2) h
theorem c_sbo {o : Nat} (hSb : ∀ q, S q ∨ q = o → q < H.size) (h : H.size ≤ H1.size) : ∀ q, S q → q < H1.size := fun q h2 => Nat.lt_of_lt_of_le (hSb q (Or.inl h2)) h
/-- the rules' object is as it was -/
theorem cUs.mv {u nn em md : Nat} (h : cUs D A S rh E u nn em md H) (t : cTr S S1 H H1) (hf : x_fr P H H1) (hp : ¬ P u) (hs : S1 u) : cUs D A S1 rh E u nn em md H1 := ⟨hf.kp h.1 hp, h.2.1.tr t, h.2.2.1.tr t (fun _ _ h => h), hs⟩
theorem cT.mk {d1 d2 : List ft_I} {sp : ft_S} {o : Option ft_I} {a lc mt rc : Nat} {as bs : List Nat} (hO : va_at D vwCl (a, .inr (3, [.ref lc, .ref mt, .ref rc, .int (nI (ft_zR d1 + ft_zT sp o)), .int (nI (ft_zR d1 + ft_zT sp o + ft_zR d2))])) H) (hn : ¬ S a) (h1 : cRw D A S as lc H) (h2 : cRw D A S bs rc H) (h3 : cL D A S rh E d1 as H) (h4 : cL D A S rh E d2 bs H) (h5 : cT D A S rh E sp o mt H) : cT D A S rh E ((d1, d2) :: sp) o a H := ⟨lc, mt, rc, as, bs, ⟨hn, hO⟩, h1, h2, h3, h4, h5⟩
/-- a new object -/
theorem x_newO (X : xx p s m args meth c cc nL own ret D A H0) (G : xCl ci C T N ty) {index : Nat} (hcl : Cond.classLink own index C ∈ lw_tbl) (hinst : Cond.instantiable C N ∈ lw_tbl) (hini : Cond.initialized C ∈ lw_tbl) {fs : List Value} (hfs : ∀ j, j < N → defaultValue (ty j) = vp_V fs j) (hS : va_S fr H0 H locs) (hSb : ∀ q, S q → q < H.size) (hcells : cells + 1 ≤ R.cells) (hslots : slots + N ≤ R.slots) (hdg : decode cc pc = .ok (.new index, 3))
    (kk : ∀ (o : Nat) (H1 : Heap), H.size ≤ o → va_at D vwCl (o, .inr (ci, fs)) H1 → x_fr (fun _ => False) H H1 → cTr S (fun q => S q ∨ q = o) H H1 → va_S fr H0 H1 locs → (∀ q, S q ∨ q = o → q < H1.size) → W p l e R s m args below meth c H1 locs (cells + 1) (slots + N) Q (F0 m (pc + 3) ls (.ref o :: rest))) : W p l e R s m args below meth c H locs cells slots Q (F0 m pc ls rest) := by
  refine x_newX X G hcl hinst hini hfs hcells hslots hdg (fun H1 h1 h2 => ?_)
  refine kk H.size H1 (Nat.le_refl _) h1 h2 (fun q h3 h4 => ⟨h2.2 q h3 (fun h => h), fun h => ?_⟩) (hS.new h2) (fun q h => ?_)
  · rcases h with h | h
    · exact h4 h
    · omega
  · rcases h with h | h
    · exact Nat.lt_of_lt_of_le (hSb q h) h2.1
    · rw [h]; exact c_lt h1
/-- a new array of items -/
theorem x_newQ (X : xx p s m args meth c cc nL own ret D A H0) {index : Nat} (hcl : Cond.classLink own index R_I ∈ lw_tbl) {n : Nat} (hn : n < 2 ^ 20) (hS : va_S fr H0 H locs) (hSb : ∀ q, S q → q < H.size) (hcells : cells + 1 ≤ R.cells) (hslots : slots + n ≤ R.slots) (hdg : decode cc pc = .ok (.anewarray index, 3))
    (kk : ∀ (o : Nat) (H1 : Heap), H.size ≤ o → va_at D vwCl (o, cArr A 3 n (fun i => ([] : List Nat)[i]?)) H1 → x_fr (fun _ => False) H H1 → cTr S (fun q => S q ∨ q = o) H H1 → va_S fr H0 H1 locs → (∀ q, S q ∨ q = o → q < H1.size) → W p l e R s m args below meth c H1 locs (cells + 1) (slots + n) Q (F0 m (pc + 3) ls (.ref o :: rest))) : W p l e R s m args below meth c H locs cells slots Q (F0 m pc ls (.int (nI n) :: rest)) := by
  refine x_newqX X hcl hn hcells hslots hdg (fun H1 h1 h2 => ?_)
  refine kk H.size H1 (Nat.le_refl _) (cArr_ext h1 (fun i _ => by simp)) h2 (fun q h3 h4 => ⟨h2.2 q h3 (fun h => h), fun h => ?_⟩) (hS.new h2) (fun q h => ?_)
  · rcases h with h | h
    · exact h4 h
    · omega
  · rcases h with h | h
    · exact Nat.lt_of_lt_of_le (hSb q h) h2.1
    · rw [h]; exact c_lt h1
theorem c_apd (bs : List Nat) (b i : Nat) (h : bs.length = i) : va_up (fun x => bs[x]?) i (some b) = fun x => (bs ++ [b])[x]? := funext fun x => by
  unfold va_up
  by_cases e : x = i
  · subst e; subst h; simp
  · rw [if_neg e]
    show bs[x]? = (bs ++ [b])[x]?
    by_cases e2 : x < i
    · rw [List.getElem?_append_left (by omega)]
    · have e3 : (bs ++ [b]).length = bs.length + 1 := by simp
      rw [List.getElem?_eq_none (show bs.length ≤ x by omega), List.getElem?_eq_none (show (bs ++ [b]).length ≤ x by omega)]
/-- an item behind those that an array holds -/
theorem x_aastO (X : xx p s m args meth c cc nL own ret D A H0) {a n : Nat} {bs : List Nat} (ha : va_at D vwCl (a, cArr A 3 n (fun i => bs[i]?)) H) {ne mm k : Nat} {zf : Nat → Nat} {x : ft_I} {v : Nat} (ok : ft_ok ne mm zf k x) (hv : cI D A S rh E x [v] H) {i : Nat} (hb : bs.length = i) (hi : i < n) (h31 : n < 2 ^ 31) (hS : va_S fr H0 H locs) (hfa : fr a) (hSa : S a) (hdg : decode cc pc = .ok (.aastore, 1))
    (kk : ∀ (H1 : Heap) (locs1 : List Loc), va_at D vwCl (a, cArr A 3 n (fun i => (bs ++ [v])[i]?)) H1 → x_fr (fun q => q = a) H H1 → cTr S S H H1 → va_S fr H0 H1 locs1 → W p l e R s m args below meth c H1 locs1 cells slots Q (F0 m (pc + 1) ls rest)) : W p l e R s m args below meth c H locs cells slots Q (F0 m pc ls (.ref v :: .int (nI i) :: .ref a :: rest)) := by
  obtain ⟨nu, lo, hi2, r, cs, c1, -⟩ := cI_has ok hv
  refine x_aastX X ha c1.2 hi h31 hdg (fun H1 h1 h2 => ?_)
  rw [c_apd bs v i hb] at h1
  exact kk H1 _ h1 h2 (fun q h3 h4 => ⟨h2.2 q h3 (fun h => h4 (by rw [h]; exact hSa)), h4⟩) (hS.wr h2 hfa)
/-- the array is done -/
theorem cTr.dn {o : Nat} : cTr (fun q => S q ∨ q = o) S H H := fun q _ h => ⟨rfl, fun h2 => h (Or.inl h2)⟩
theorem x_iincR {L : List (Option Value)} (X : xx p s m args meth c cc nL own ret D A H0) {i a : Nat} (hdg : decode cc pc = .ok (.iinc i (-1), 3)) (hl : lz ls nL L) (hL : L[i]? = some (some (.int (nI a)))) (hn : i < nL) (hc : lz_c L i = true) (kk : ∀ ls : Array Slot, lz ls nL (L.set i (some (.int (nI a - nI 1)))) → W p l e R s m args below meth c H locs cells slots Q (F0 m (pc + 3) ls rest)) : W p l e R s m args below meth c H locs cells slots Q (F0 m pc ls rest) := by
  obtain ⟨k, hk⟩ := List.getElem?_of_mem ((lz_l_mem (i := 0) (j := i) (v := .int (nI a))).2 ⟨Nat.zero_le _, hL⟩)
  exact lv_iinc X.1 X.2.1 hdg (lz_has hl) hk (v := nI a - nI 1) (by show nI a + Int32.ofInt (-1) = nI a - nI 1; rw [show Int32.ofInt (-1) = -(nI 1) from by decide, Int32.sub_eq_add_neg]) hn rfl (fun ls h => kk ls (lz_store hc h))
end XR4
theorem ft_okT_len {ne mm : Nat} {zf : Nat → Nat} {o : Option ft_I} : ∀ {sp : ft_S} {k : Nat}, ft_okT ne mm zf k sp o → 2 ^ (k + 1) * (2 ^ sp.length - 1) ≤ ft_zT sp o := by
  intro sp
  induction sp with
  | nil => intro k _; simp
  | cons d sp ih =>
    intro k h
    have h1 := ft_okT_zd h
    have h2 := ih h.2.2
    have h3 : ft_zT (d :: sp) o = ft_zR d.1 + ft_zT sp o + ft_zR d.2 := rfl
    rw [h3, List.length_cons]
    have e1 : 2 ^ (k + 1) = 2 ^ k * 2 := Nat.pow_succ ..
    have e2 : 2 ^ (k + 1 + 1) = 2 ^ k * 2 * 2 := by rw [Nat.pow_succ, Nat.pow_succ]
    have e3 : 2 ^ (sp.length + 1) = 2 ^ sp.length * 2 := Nat.pow_succ ..
    have hp : 0 < 2 ^ sp.length := Nat.two_pow_pos _
    rw [e2] at h2
    rw [e1, e3]
    obtain ⟨m, hm⟩ : ∃ m, 2 ^ sp.length = m + 1 := ⟨2 ^ sp.length - 1, by omega⟩
    rw [hm] at h2 ⊢
    rw [show (m + 1) * 2 - 1 = 2 * m + 1 from by omega]
    rw [show m + 1 - 1 = m from by omega] at h2
    have e4 : 2 ^ k * 2 * (2 * m + 1) = 2 ^ k * 2 * 2 * m + 2 ^ k * 2 := by rw [Nat.mul_add, Nat.mul_one, Nat.mul_assoc (2 ^ k * 2) 2 m]
    rw [e4]
    omega
/-- no spine is longer than five -/
theorem ft_len5 {ne mm : Nat} {zf : Nat → Nat} {o : Option ft_I} {sp : ft_S} {k : Nat} (h : ft_okT ne mm zf k sp o) (hz : ft_zT sp o < 64) : sp.length ≤ 5 := by
  have h1 := ft_okT_len h
  have h2 : 1 ≤ 2 ^ k := Nat.one_le_two_pow
  have e1 : 2 ^ (k + 1) = 2 ^ k * 2 := Nat.pow_succ ..
  apply Nat.le_of_not_lt
  intro h6
  have h7 : 2 ^ 6 ≤ 2 ^ sp.length := Nat.pow_le_pow_right (by decide) h6
  rw [e1] at h1
  have h8 : 1 * 2 * 63 ≤ 2 ^ k * 2 * (2 ^ sp.length - 1) := Nat.mul_le_mul (Nat.mul_le_mul_right 2 h2) (by omega)
  omega
theorem ft_gD {l : List ft_I} {i : Nat} (h : i < l.length) : l.getD i ft_no = l[i] := by
  rw [List.getD_eq_getElem?_getD, List.getElem?_eq_getElem h]
  rfl
