/-! Rows for making cells that tell all of the heap: every cell that stood is as it was. -/
section XR3
variable {p : Program} {l : Launch} {e : Env} {R : Room} {s : State} {m : MethodId} {args : Array Value} {below : List Frame} {meth : Method} {c : Code} {H : Heap} {locs : List Loc} {cells slots : Nat} {Q : State → Prop}
variable {cc : ByteArray} {nL : Nat} {own : String} {ret : Option FieldType} {D : va_G} {A : Nat → ClassId} {H0 : Heap} {pc : Nat} {ls : Array Slot} {rest : List Value} {fr : Nat → Prop}
variable {ci N : Nat} {C : String} {T : u_T} {ty : Nat → FieldType}
theorem x_newX (X : xx p s m args meth c cc nL own ret D A H0) (G : xCl ci C T N ty) {index : Nat} (hcl : Cond.classLink own index C ∈ lw_tbl) (hinst : Cond.instantiable C N ∈ lw_tbl) (hini : Cond.initialized C ∈ lw_tbl) {fs : List Value} (hfs : ∀ j, j < N → defaultValue (ty j) = vp_V fs j) (hcells : cells + 1 ≤ R.cells) (hslots : slots + N ≤ R.slots) (hdg : decode cc pc = .ok (.new index, 3))
    (kk : ∀ (H1 : Heap), va_at D vwCl (H.size, .inr (ci, fs)) H1 → x_fr (fun _ => False) H H1 → W p l e R s m args below meth c H1 locs (cells + 1) (slots + N) Q (F0 m (pc + 3) ls (.ref H.size :: rest))) : W p l e R s m args below meth c H locs cells slots Q (F0 m pc ls rest) := by
  have hKn := X.2.2.2.2.2.2.1.1 ci _ G.1
  refine W.newcK X.1 X.2.1 X.2.2.2.1 (x_word X hcl rfl) (x_word X hinst rfl) (x_word X hini rfl) rfl hdg hcells hslots hKn.2.1 rfl (fun H1 kC hkC e1 z1 o1 => ?_)
  exact kk H1 ⟨_, G.1, (u_born ty (x_uws X G) (fun w h => h) hKn hkC e1 G.2.2.2.2.1).to hfs⟩ ⟨by omega, fun q h1 _ => o1 q h1⟩
theorem x_newqX (X : xx p s m args meth c cc nL own ret D A H0) {index : Nat} (hcl : Cond.classLink own index R_I ∈ lw_tbl) {n : Nat} (hn : n < 2 ^ 20) (hcells : cells + 1 ≤ R.cells) (hslots : slots + n ≤ R.slots) (hdg : decode cc pc = .ok (.anewarray index, 3))
    (kk : ∀ (H1 : Heap), va_at D vwCl (H.size, cArr A 3 n (fun _ => none)) H1 → x_fr (fun _ => False) H H1 → W p l e R s m args below meth c H1 locs (cells + 1) (slots + n) Q (F0 m (pc + 3) ls (.ref H.size :: rest))) : W p l e R s m args below meth c H locs cells slots Q (F0 m pc ls (.int (nI n) :: rest)) := by
  have hK := X.2.2.2.2.2.2.1
  have hc := nI_clamp (n := n) (by omega)
  refine W.anew X.1 X.2.1 X.2.2.2.1 (x_word X hcl rfl) (x_word X z_arrayOver_Item rfl) rfl hdg rfl (nI_pos (by omega)) (by rw [hc]; omega) hcells (by rw [hc]; exact hslots) (fun cA kA comp f1 f2 f3 f4 => ?_)
  obtain ⟨_, _, _, _, _, e1⟩ := (hK.2 3 (A 3, .object R_I) rfl).2
  have e3 : cA = A 3 := Option.some.inj (f1.symm.trans e1)
  subst e3
  rw [hc]
  refine kk _ ?_ ⟨by simp, fun q h1 _ => by rw [Array.getElem?_push, if_neg (Nat.ne_of_lt h1)]⟩
  show (H.push _)[H.size]? = some (vp_cell (A 3) (n, .inr (.inr (.inr (.inr (fun _ => none))))))
  rw [Array.getElem?_push, if_pos rfl, vp_cell_q]
  congr 1
  exact arrV_new _ _ _
theorem x_aastX (X : xx p s m args meth c cc nL own ret D A H0) {a n : Nat} {f : Nat → Option Nat} (ha : va_at D vwCl (a, cArr A 3 n f) H) {v : Nat} {fs : List Value} (hv : va_at D vwCl (v, .inr (0, fs)) H) {i : Nat} (hi : i < n) (h31 : n < 2 ^ 31) (hdg : decode cc pc = .ok (.aastore, 1))
    (kk : ∀ (H1 : Heap), va_at D vwCl (a, cArr A 3 n (va_up f i (some v))) H1 → x_fr (fun q => q = a) H H1 → W p l e R s m args below meth c H1 (locs ++ [⟨a, i⟩]) cells slots Q (F0 m (pc + 1) ls rest)) : W p l e R s m args below meth c H locs cells slots Q (F0 m pc ls (.ref v :: .int (nI i) :: .ref a :: rest)) := by
  have hK := X.2.2.2.2.2.2.1
  have hca := (hK.1 0 _ gI.1).2
  have hc := nI_clamp (n := i) (by omega)
  obtain ⟨kA, comp, k1, k2, k3, -⟩ := (hK.2 3 (A 3, .object R_I) rfl).2
  have e1 : comp = D.1 0 := Option.some.inj (k3.symm.trans hca.1)
  subst e1
  obtain ⟨kC, hkC, -⟩ := id hca.2
  obtain ⟨cv, g1, g2, g3⟩ := va_recv (q0 := 0) hK (va_P1 hv) gI.1 rfl
  have g4 : cv.cls = D.1 0 := Option.some.inj (g3.symm.trans hca.1)
  refine W.aast X.1 X.2.1 (cell := vp_cell (A 3) (n, .inr (.inr (.inr (.inr f))))) ha (fun q h => by cases h) (fun h => by cases h) k1 k2 rfl hkC ⟨nI_pos (by omega), by rw [hc, vp_cell_q, arrV_size]; exact hi⟩ g1 (fun q h => by rw [h] at g2; cases g2) (by rw [g4]; exact hkC) (by rw [g4]; exact va_assign hca) rfl rfl hdg (fun H1 e2 z oq => ?_)
  rw [hc] at e2 ⊢
  refine kk H1 ?_ ⟨by omega, fun q _ h2 => oq q h2⟩
  show H1[a]? = some (vp_cell (A 3) (n, .inr (.inr (.inr (.inr (va_up f i (some v)))))))
  rw [e2, vp_cell_q, vp_cell_q, arrV_store]
  congr 2
  funext q
  by_cases hq : q = i
  · subst hq; simp [updV, va_up, va_rf]
  · simp [updV, va_up, hq]
/-- what a method may write, after a cell was made -/
theorem va_S.new {H1 : Heap} (h : va_S fr H0 H locs) (hf : x_fr (fun _ => False) H H1) : va_S fr H0 H1 locs := ⟨Nat.le_trans h.1 hf.1, fun q h1 h2 => (hf.2 q (Nat.lt_of_lt_of_le h1 h.1) (fun h => h)).trans (h.2.1 q h1 h2), h.2.2⟩
end XR3
