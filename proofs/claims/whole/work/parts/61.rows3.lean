/-! Rows for making cells that tell all of the heap: every cell that stood is as it was. -/
section XR3
variable {p : Program} {l : Launch} {e : Env} {R : Room} {s : State} {m : MethodId} {args : Array Value} {below : List Frame} {meth : Method} {c : Code} {H : Heap} {locs : List Loc} {cells slots : Nat} {Q : State → Prop}
variable {cc : ByteArray} {nL : Nat} {own : String} {ret : Option FieldType} {D : va_G} {A : Nat → ClassId} {H0 : Heap} {pc : Nat} {ls : Array Slot} {rest : List Value} {fr : Nat → Prop}
variable {ci N : Nat} {C : String} {T : u_T} {ty : Nat → FieldType}
theorem x_newX (X : xx p s m args meth c cc nL own ret D A H0) (G : xCl ci C T N ty) {index : Nat} (hcl : Cond.classLink own index C ∈ lw_tbl) (hinst : Cond.instantiable C N ∈ lw_tbl) (hini : Cond.initialized C ∈ lw_tbl) {fs : List Value} (hfs : ∀ j, j < N → defaultValue (ty j) = vp_V fs j) (hcells : cells + 1 ≤ R.cells) (hslots : slots + N ≤ R.slots) (hdg : decode cc pc = .ok (.new index, 3))
    (kk : ∀ (H1 : Heap), va_at D vwCl (H.size, .inr (ci, fs)) H1 → x_fr (fun _ => False) H H1 → W p l e R s m args below meth c H1 locs (cells + 1) (slots + N) Q (F0 m (pc + 3) ls (.ref H.size :: rest))) : W p l e R s m args below meth c H locs cells slots Q (F0 m pc ls rest) := by
  have hKn := X.2.2.2.2.2.2.1.1 ci _ G.1
  refine W.newcK X.1 X.2.1 X.2.2.2.1 (x_word X hcl rfl) (x_word X hinst rfl) (x_word X hini rfl) rfl hdg hcells hslots hKn.2.1 rfl (fun H1 kC hkC e1 z1 o1 => ?_)
  exact kk H1 ⟨_, G.1, (u_born ty (x_uws X G) (fun w h => h) hKn hkC e1 G.2.2.2.2.1).to hfs⟩ ⟨by omega, fun q h1 _ => o1 q h1⟩
/-- what a method may write, after a cell was made -/
theorem va_S.new {H1 : Heap} (h : va_S fr H0 H locs) (hf : x_fr (fun _ => False) H H1) : va_S fr H0 H1 locs := ⟨Nat.le_trans h.1 hf.1, fun q h1 h2 => (hf.2 q (Nat.lt_of_lt_of_le h1 h.1) (fun h => h)).trans (h.2.1 q h1 h2), h.2.2⟩
end XR3
