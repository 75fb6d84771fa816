/-! The reference's cells: the object and its eight arrays; a 0 is the object, a 1 .. a 8 the arrays lows, highs, size, mark, place, count, w. Numbers stand as Nat. -/
abbrev mF (a : Nat → Nat) (en md vs n : Nat) : List Value := [.ref (a 1), .ref (a 2), .int (nI en), .ref (a 3), .ref (a 4), .int (nI md), .ref (a 5), .ref (a 6), .int (nI vs), .ref (a 7), .int (nI n)]
abbrev mW (a : Nat → Nat) (A : Nat → ClassId) (lo hi : Nat → Int32) (en : Nat) (zf mk : Nat → Nat) (md : Nat) (pl ct : Nat → Nat) (vs : Nat) (w : Nat → Nat) (n : Nat) : va_W :=
  [(a 0, .inr (7, mF a en md vs n)), (a 1, .inl (A 0, 120, .inl lo)), (a 2, .inl (A 0, 120, .inl hi)), (a 3, .inl (A 1, 4200, .inl (fun i => nI (zf i)))), (a 4, .inl (A 1, 4200, .inl (fun i => nI (mk i)))), (a 5, .inl (A 2, 4800, .inr (.inl (fun i => lN (pl i))))), (a 6, .inl (A 1, 120, .inl (fun i => nI (ct i)))), (a 7, .inl (A 2, 48, .inr (.inl (fun i => lN (w i)))))]
/-- the heap holds the reference in this state -/
def mH (D : va_G) (a : Nat → Nat) (A : Nat → ClassId) (lo hi : Nat → Int32) (en : Nat) (zf mk : Nat → Nat) (md : Nat) (pl ct : Nat → Nat) (vs : Nat) (w : Nat → Nat) (n : Nat) (H : Heap) : Prop := va_P D vwCl (mW a A lo hi en zf mk md pl ct vs w n) H
/-- its cells are eight different ones -/
def mDs (a : Nat → Nat) : Prop := ∀ i j, i < 8 → j < 8 → a i = a j → i = j
def mFr (a : Nat → Nat) : Nat → Prop := fun q => ∃ i, i < 8 ∧ q = a i
theorem mD {a : Nat → Nat} (h : mDs a) {A : Nat → ClassId} {lo hi : Nat → Int32} {en : Nat} {zf mk : Nat → Nat} {md : Nat} {pl ct : Nat → Nat} {vs : Nat} {w : Nat → Nat} {n : Nat} : va_D (mFr a) (mW a A lo hi en zf mk md pl ct vs w n) := by
  have hk : ∀ (k : Nat) (q : Nat × va_E), (mW a A lo hi en zf mk md pl ct vs w n)[k]? = some q → k < 8 ∧ q.1 = a k := by
    intro k q hq
    match k with
    | 0 | 1 | 2 | 3 | 4 | 5 | 6 | 7 => cases hq; exact ⟨by decide, rfl⟩
    | k + 8 => simp at hq
  refine ⟨fun i j p q hp hq e => ?_, fun k q hq => ?_⟩
  · obtain ⟨h1, e1⟩ := hk i p hp
    obtain ⟨h2, e2⟩ := hk j q hq
    exact h i j h1 h2 (by rw [← e1, ← e2, e])
  · obtain ⟨h1, e1⟩ := hk k q hq
    exact ⟨k, h1, e1⟩
theorem m_byte : ∀ x, x < 128 → vp_nar .byte (nI x) = nI x := by decide +kernel
theorem m_byte2 : ∀ x, x < 128 → (nI x).toInt8.toInt32 = nI x := by decide +kernel
section XM
variable {p : Program} {l : Launch} {e : Env} {R : Room} {s : State} {m : MethodId} {args : Array Value} {below : List Frame} {meth : Method} {c : Code} {H : Heap} {locs : List Loc} {cells slots : Nat} {Q : State → Prop}
variable {cc : ByteArray} {nL : Nat} {ret : Option FieldType} {D : va_G} {A : Nat → ClassId} {H0 : Heap} {pc : Nat} {ls : Array Slot} {rest : List Value}
variable {a : Nat → Nat} {lo hi : Nat → Int32} {en md vs n : Nat} {zf mk pl ct w : Nat → Nat}
theorem m_at (hP : mH D a A lo hi en zf mk md pl ct vs w n H) : va_at D vwCl (a 0, .inr (7, mF a en md vs n)) H := hP 0 _ rfl
/-- this.f -/
theorem m_get (X : xx p s m args meth c cc nL R_M ret D A H0) (hP : mH D a A lo hi en zf mk md pl ct vs w n H) (k : Nat) (hk : k < 11) {index : Nat} (hl : Cond.fieldLink R_M index R_M (F_M k).2.1 (F_M k).2.2.1 ∈ lw_tbl) {v : Value} (hv : (mF a en md vs n)[k]? = some v) (hdg : decode cc pc = .ok (.getfield index, 3))
    (kk : W p l e R s m args below meth c H locs cells slots Q (F0 m (pc + 3) ls (v :: rest))) : W p l e R s m args below meth c H locs cells slots Q (F0 m pc ls (.ref (a 0) :: rest)) :=
  va_get (D := D) (cl := vwCl) (ci := 7) (C := R_M) (T := F_M) (N := 11) (Ts := u_ws R_M F_M 11) X.1 X.2.1 (fun w hw => x_word X (uw_M w hw) (by
    have : ∀ w ∈ u_ws R_M F_M 11, x_us w = true := by decide +kernel
    exact this w hw)) (fun w h => h) X.2.2.2.1 X.2.2.2.2.2.2.1 hP 0 rfl rfl k hk (x_word X hl rfl) (fun x h => by
    have : (F_M k).1 = R_M := by
      have : ∀ k, k < 11 → (F_M k).1 = R_M := by decide +kernel
      exact this k hk
    rw [this] at h; exact h) hv hdg kk
theorem m_put (X : xx p s m args meth c cc nL R_M ret D A H0) (hP : mH D a A lo hi en zf mk md pl ct vs w n H) (hd : mDs a) (hS : va_S (mFr a) H0 H locs) (k : Nat) (hk : k < 11) {index : Nat} (hl : Cond.fieldLink R_M index R_M (F_M k).2.1 (F_M k).2.2.1 ∈ lw_tbl) (hfin : (F_M k).2.2.2 = false) (hi' : parseFieldDescriptor (F_M k).2.2.1 = some .int) {v : Int32} (hdg : decode cc pc = .ok (.putfield index, 3))
    (kk : ∀ (H1 : Heap) (locs1 : List Loc), va_P D vwCl ((mW a A lo hi en zf mk md pl ct vs w n).set 0 (a 0, .inr (7, (mF a en md vs n).set k (.int v)))) H1 → va_S (mFr a) H0 H1 locs1 → W p l e R s m args below meth c H1 locs1 cells slots Q (F0 m (pc + 3) ls rest)) : W p l e R s m args below meth c H locs cells slots Q (F0 m pc ls (.int v :: .ref (a 0) :: rest)) :=
  va_put (D := D) (cl := vwCl) (ci := 7) (C := R_M) (T := F_M) (N := 11) (Ts := u_ws R_M F_M 11) X.1 X.2.1 (fun w hw => x_word X (uw_M w hw) (by
    have : ∀ w ∈ u_ws R_M F_M 11, x_us w = true := by decide +kernel
    exact this w hw)) (fun w h => h) ty_M ty_M_ok f_M_ne X.2.2.2.1 X.2.2.2.2.2.2.1 hP (mD hd) hS 0 rfl rfl k hk (x_word X hl rfl) (fun x h => by
    have : (F_M k).1 = R_M := by
      have : ∀ k, k < 11 → (F_M k).1 = R_M := by decide +kernel
      exact this k hk
    rw [this] at h; exact h) hfin hi' rfl rfl hk hdg (fun H1 locs1 h1 _ h3 => kk H1 locs1 h1 h3)
theorem m_put_made (X : xx p s m args meth c cc nL R_M ret D A H0) (hP : mH D a A lo hi en zf mk md pl ct vs w n H) (hd : mDs a) (hS : va_S (mFr a) H0 H locs) {md' : Nat} (hdg : decode cc pc = .ok (.putfield 53, 3))
    (kk : ∀ (H1 : Heap) (locs1 : List Loc), mH D a A lo hi en zf mk md' pl ct vs w n H1 → va_S (mFr a) H0 H1 locs1 → W p l e R s m args below meth c H1 locs1 cells slots Q (F0 m (pc + 3) ls rest)) : W p l e R s m args below meth c H locs cells slots Q (F0 m pc ls (.int (nI md') :: .ref (a 0) :: rest)) :=
  m_put X hP hd hS 5 (by decide) e_M_53 rfl (by decide +kernel) hdg kk
theorem m_put_n (X : xx p s m args meth c cc nL R_M ret D A H0) (hP : mH D a A lo hi en zf mk md pl ct vs w n H) (hd : mDs a) (hS : va_S (mFr a) H0 H locs) {n' : Nat} (hdg : decode cc pc = .ok (.putfield 37, 3))
    (kk : ∀ (H1 : Heap) (locs1 : List Loc), mH D a A lo hi en zf mk md pl ct vs w n' H1 → va_S (mFr a) H0 H1 locs1 → W p l e R s m args below meth c H1 locs1 cells slots Q (F0 m (pc + 3) ls rest)) : W p l e R s m args below meth c H locs cells slots Q (F0 m pc ls (.int (nI n') :: .ref (a 0) :: rest)) :=
  m_put X hP hd hS 10 (by decide) e_M_37 rfl (by decide +kernel) hdg kk
theorem m_put_vs (X : xx p s m args meth c cc nL R_M ret D A H0) (hP : mH D a A lo hi en zf mk md pl ct vs w n H) (hd : mDs a) (hS : va_S (mFr a) H0 H locs) {vs' : Nat} (hdg : decode cc pc = .ok (.putfield 30, 3))
    (kk : ∀ (H1 : Heap) (locs1 : List Loc), mH D a A lo hi en zf mk md pl ct vs' w n H1 → va_S (mFr a) H0 H1 locs1 → W p l e R s m args below meth c H1 locs1 cells slots Q (F0 m (pc + 3) ls rest)) : W p l e R s m args below meth c H locs cells slots Q (F0 m pc ls (.int (nI vs') :: .ref (a 0) :: rest)) :=
  m_put X hP hd hS 8 (by decide) e_M_30 rfl (by decide +kernel) hdg kk
theorem m_put_en (X : xx p s m args meth c cc nL R_M ret D A H0) (hP : mH D a A lo hi en zf mk md pl ct vs w n H) (hd : mDs a) (hS : va_S (mFr a) H0 H locs) {en' : Nat} (hdg : decode cc pc = .ok (.putfield 104, 3))
    (kk : ∀ (H1 : Heap) (locs1 : List Loc), mH D a A lo hi en' zf mk md pl ct vs w n H1 → va_S (mFr a) H0 H1 locs1 → W p l e R s m args below meth c H1 locs1 cells slots Q (F0 m (pc + 3) ls rest)) : W p l e R s m args below meth c H locs cells slots Q (F0 m pc ls (.int (nI en') :: .ref (a 0) :: rest)) :=
  m_put X hP hd hS 2 (by decide) e_M_104 rfl (by decide +kernel) hdg kk
theorem m_ld_lo (X : xx p s m args meth c cc nL R_M ret D A H0) (hP : mH D a A lo hi en zf mk md pl ct vs w n H) {j : Nat} (hj : j < 120) (hdg : decode cc pc = .ok (.iaload, 1)) (kk : W p l e R s m args below meth c H locs cells slots Q (F0 m (pc + 1) ls (.int (lo j) :: rest))) : W p l e R s m args below meth c H locs cells slots Q (F0 m pc ls (.int (nI j) :: .ref (a 1) :: rest)) := by
  refine va_iald (cl := vwCl) X.1 X.2.1 X.2.2.2.2.2.2.1 hP 1 0 rfl rfl (vp_in_nI hj (by decide)) hdg ?_
  rw [nI_clamp (Nat.lt_trans hj (by decide))]
  exact kk
theorem m_st_lo (X : xx p s m args meth c cc nL R_M ret D A H0) (hP : mH D a A lo hi en zf mk md pl ct vs w n H) (hd : mDs a) (hS : va_S (mFr a) H0 H locs) {j : Nat} {x : Int32} (hj : j < 120) (hdg : decode cc pc = .ok (.iastore, 1)) (kk : ∀ (H1 : Heap) (locs1 : List Loc), mH D a A (upd lo j x) hi en zf mk md pl ct vs w n H1 → va_S (mFr a) H0 H1 locs1 → W p l e R s m args below meth c H1 locs1 cells slots Q (F0 m (pc + 1) ls rest)) : W p l e R s m args below meth c H locs cells slots Q (F0 m pc ls (.int x :: .int (nI j) :: .ref (a 1) :: rest)) := by
  refine va_iast (cl := vwCl) X.1 X.2.1 X.2.2.2.2.2.2.1 hP (mD hd) hS 1 0 rfl rfl (vp_in_nI hj (by decide)) hdg (fun H1 locs1 h1 _ h3 => kk H1 locs1 ?_ h3)
  rw [nI_clamp (Nat.lt_trans hj (by decide))] at h1
  exact h1
theorem m_ld_hi (X : xx p s m args meth c cc nL R_M ret D A H0) (hP : mH D a A lo hi en zf mk md pl ct vs w n H) {j : Nat} (hj : j < 120) (hdg : decode cc pc = .ok (.iaload, 1)) (kk : W p l e R s m args below meth c H locs cells slots Q (F0 m (pc + 1) ls (.int (hi j) :: rest))) : W p l e R s m args below meth c H locs cells slots Q (F0 m pc ls (.int (nI j) :: .ref (a 2) :: rest)) := by
  refine va_iald (cl := vwCl) X.1 X.2.1 X.2.2.2.2.2.2.1 hP 2 0 rfl rfl (vp_in_nI hj (by decide)) hdg ?_
  rw [nI_clamp (Nat.lt_trans hj (by decide))]
  exact kk
theorem m_st_hi (X : xx p s m args meth c cc nL R_M ret D A H0) (hP : mH D a A lo hi en zf mk md pl ct vs w n H) (hd : mDs a) (hS : va_S (mFr a) H0 H locs) {j : Nat} {x : Int32} (hj : j < 120) (hdg : decode cc pc = .ok (.iastore, 1)) (kk : ∀ (H1 : Heap) (locs1 : List Loc), mH D a A lo (upd hi j x) en zf mk md pl ct vs w n H1 → va_S (mFr a) H0 H1 locs1 → W p l e R s m args below meth c H1 locs1 cells slots Q (F0 m (pc + 1) ls rest)) : W p l e R s m args below meth c H locs cells slots Q (F0 m pc ls (.int x :: .int (nI j) :: .ref (a 2) :: rest)) := by
  refine va_iast (cl := vwCl) X.1 X.2.1 X.2.2.2.2.2.2.1 hP (mD hd) hS 2 0 rfl rfl (vp_in_nI hj (by decide)) hdg (fun H1 locs1 h1 _ h3 => kk H1 locs1 ?_ h3)
  rw [nI_clamp (Nat.lt_trans hj (by decide))] at h1
  exact h1
theorem m_ld_zf (X : xx p s m args meth c cc nL R_M ret D A H0) (hP : mH D a A lo hi en zf mk md pl ct vs w n H) {j : Nat} (hj : j < 4200) (hdg : decode cc pc = .ok (.baload, 1)) (kk : W p l e R s m args below meth c H locs cells slots Q (F0 m (pc + 1) ls (.int (nI (zf j)) :: rest))) : W p l e R s m args below meth c H locs cells slots Q (F0 m pc ls (.int (nI j) :: .ref (a 3) :: rest)) := by
  refine va_bald (cl := vwCl) X.1 X.2.1 X.2.2.2.2.2.2.1 hP 3 1 rfl rfl (vp_in_nI hj (by decide)) hdg ?_
  rw [nI_clamp (Nat.lt_trans hj (by decide))]
  exact kk
theorem m_st_zf (X : xx p s m args meth c cc nL R_M ret D A H0) (hP : mH D a A lo hi en zf mk md pl ct vs w n H) (hd : mDs a) (hS : va_S (mFr a) H0 H locs) {j x : Nat} (hj : j < 4200) (hx : x < 128) (hdg : decode cc pc = .ok (.bastore, 1)) (kk : ∀ (H1 : Heap) (locs1 : List Loc), mH D a A lo hi en (va_up zf j x) mk md pl ct vs w n H1 → va_S (mFr a) H0 H1 locs1 → W p l e R s m args below meth c H1 locs1 cells slots Q (F0 m (pc + 1) ls rest)) : W p l e R s m args below meth c H locs cells slots Q (F0 m pc ls (.int (nI x) :: .int (nI j) :: .ref (a 3) :: rest)) := by
  refine va_bast (cl := vwCl) X.1 X.2.1 X.2.2.2.2.2.2.1 hP (mD hd) hS 3 1 rfl rfl (vp_in_nI hj (by decide)) hdg (fun H1 locs1 h1 _ h3 => kk H1 locs1 ?_ h3)
  have hb : vp_nar .byte (nI x) = nI x := m_byte x hx
  rw [nI_clamp (Nat.lt_trans hj (by decide)), hb, show upd (fun i => nI (zf i)) j (nI x) = (fun i => nI (va_up zf j x i)) from funext fun i => by unfold upd va_up; split <;> rfl] at h1
  exact h1
theorem m_ld_mk (X : xx p s m args meth c cc nL R_M ret D A H0) (hP : mH D a A lo hi en zf mk md pl ct vs w n H) {j : Nat} (hj : j < 4200) (hdg : decode cc pc = .ok (.baload, 1)) (kk : W p l e R s m args below meth c H locs cells slots Q (F0 m (pc + 1) ls (.int (nI (mk j)) :: rest))) : W p l e R s m args below meth c H locs cells slots Q (F0 m pc ls (.int (nI j) :: .ref (a 4) :: rest)) := by
  refine va_bald (cl := vwCl) X.1 X.2.1 X.2.2.2.2.2.2.1 hP 4 1 rfl rfl (vp_in_nI hj (by decide)) hdg ?_
  rw [nI_clamp (Nat.lt_trans hj (by decide))]
  exact kk
theorem m_st_mk (X : xx p s m args meth c cc nL R_M ret D A H0) (hP : mH D a A lo hi en zf mk md pl ct vs w n H) (hd : mDs a) (hS : va_S (mFr a) H0 H locs) {j x : Nat} (hj : j < 4200) (hx : x < 128) (hdg : decode cc pc = .ok (.bastore, 1)) (kk : ∀ (H1 : Heap) (locs1 : List Loc), mH D a A lo hi en zf (va_up mk j x) md pl ct vs w n H1 → va_S (mFr a) H0 H1 locs1 → W p l e R s m args below meth c H1 locs1 cells slots Q (F0 m (pc + 1) ls rest)) : W p l e R s m args below meth c H locs cells slots Q (F0 m pc ls (.int (nI x) :: .int (nI j) :: .ref (a 4) :: rest)) := by
  refine va_bast (cl := vwCl) X.1 X.2.1 X.2.2.2.2.2.2.1 hP (mD hd) hS 4 1 rfl rfl (vp_in_nI hj (by decide)) hdg (fun H1 locs1 h1 _ h3 => kk H1 locs1 ?_ h3)
  have hb : vp_nar .byte (nI x) = nI x := m_byte x hx
  rw [nI_clamp (Nat.lt_trans hj (by decide)), hb, show upd (fun i => nI (mk i)) j (nI x) = (fun i => nI (va_up mk j x i)) from funext fun i => by unfold upd va_up; split <;> rfl] at h1
  exact h1
theorem m_ld_pl (X : xx p s m args meth c cc nL R_M ret D A H0) (hP : mH D a A lo hi en zf mk md pl ct vs w n H) {j : Nat} (hj : j < 4800) (hdg : decode cc pc = .ok (.laload, 1)) (kk : W p l e R s m args below meth c H locs cells slots Q (F0 m (pc + 1) ls (.long (lN (pl j)) :: rest))) : W p l e R s m args below meth c H locs cells slots Q (F0 m pc ls (.int (nI j) :: .ref (a 5) :: rest)) := by
  refine va_lald (cl := vwCl) X.1 X.2.1 X.2.2.2.2.2.2.1 hP 5 2 rfl rfl (vp_in_nI hj (by decide)) hdg ?_
  rw [nI_clamp (Nat.lt_trans hj (by decide))]
  exact kk
theorem m_st_pl (X : xx p s m args meth c cc nL R_M ret D A H0) (hP : mH D a A lo hi en zf mk md pl ct vs w n H) (hd : mDs a) (hS : va_S (mFr a) H0 H locs) {j x : Nat} (hj : j < 4800) (hdg : decode cc pc = .ok (.lastore, 1)) (kk : ∀ (H1 : Heap) (locs1 : List Loc), mH D a A lo hi en zf mk md (va_up pl j x) ct vs w n H1 → va_S (mFr a) H0 H1 locs1 → W p l e R s m args below meth c H1 locs1 cells slots Q (F0 m (pc + 1) ls rest)) : W p l e R s m args below meth c H locs cells slots Q (F0 m pc ls (.long (lN x) :: .int (nI j) :: .ref (a 5) :: rest)) := by
  refine va_last (cl := vwCl) X.1 X.2.1 X.2.2.2.2.2.2.1 hP (mD hd) hS 5 2 rfl rfl (vp_in_nI hj (by decide)) hdg (fun H1 locs1 h1 _ h3 => kk H1 locs1 ?_ h3)
  rw [nI_clamp (Nat.lt_trans hj (by decide)), show vp_updL (fun i => lN (pl i)) j (lN x) = (fun i => lN (va_up pl j x i)) from funext fun i => by unfold vp_updL va_up; split <;> rfl] at h1
  exact h1
theorem m_ld_ct (X : xx p s m args meth c cc nL R_M ret D A H0) (hP : mH D a A lo hi en zf mk md pl ct vs w n H) {j : Nat} (hj : j < 120) (hdg : decode cc pc = .ok (.baload, 1)) (kk : W p l e R s m args below meth c H locs cells slots Q (F0 m (pc + 1) ls (.int (nI (ct j)) :: rest))) : W p l e R s m args below meth c H locs cells slots Q (F0 m pc ls (.int (nI j) :: .ref (a 6) :: rest)) := by
  refine va_bald (cl := vwCl) X.1 X.2.1 X.2.2.2.2.2.2.1 hP 6 1 rfl rfl (vp_in_nI hj (by decide)) hdg ?_
  rw [nI_clamp (Nat.lt_trans hj (by decide))]
  exact kk
theorem m_st_ct (X : xx p s m args meth c cc nL R_M ret D A H0) (hP : mH D a A lo hi en zf mk md pl ct vs w n H) (hd : mDs a) (hS : va_S (mFr a) H0 H locs) {j x : Nat} (hj : j < 120) (hx : x < 128) (hdg : decode cc pc = .ok (.bastore, 1)) (kk : ∀ (H1 : Heap) (locs1 : List Loc), mH D a A lo hi en zf mk md pl (va_up ct j x) vs w n H1 → va_S (mFr a) H0 H1 locs1 → W p l e R s m args below meth c H1 locs1 cells slots Q (F0 m (pc + 1) ls rest)) : W p l e R s m args below meth c H locs cells slots Q (F0 m pc ls (.int (nI x) :: .int (nI j) :: .ref (a 6) :: rest)) := by
  refine va_bast (cl := vwCl) X.1 X.2.1 X.2.2.2.2.2.2.1 hP (mD hd) hS 6 1 rfl rfl (vp_in_nI hj (by decide)) hdg (fun H1 locs1 h1 _ h3 => kk H1 locs1 ?_ h3)
  have hb : vp_nar .byte (nI x) = nI x := m_byte x hx
  rw [nI_clamp (Nat.lt_trans hj (by decide)), hb, show upd (fun i => nI (ct i)) j (nI x) = (fun i => nI (va_up ct j x i)) from funext fun i => by unfold upd va_up; split <;> rfl] at h1
  exact h1
theorem m_ld_w (X : xx p s m args meth c cc nL R_M ret D A H0) (hP : mH D a A lo hi en zf mk md pl ct vs w n H) {j : Nat} (hj : j < 48) (hdg : decode cc pc = .ok (.laload, 1)) (kk : W p l e R s m args below meth c H locs cells slots Q (F0 m (pc + 1) ls (.long (lN (w j)) :: rest))) : W p l e R s m args below meth c H locs cells slots Q (F0 m pc ls (.int (nI j) :: .ref (a 7) :: rest)) := by
  refine va_lald (cl := vwCl) X.1 X.2.1 X.2.2.2.2.2.2.1 hP 7 2 rfl rfl (vp_in_nI hj (by decide)) hdg ?_
  rw [nI_clamp (Nat.lt_trans hj (by decide))]
  exact kk
theorem m_st_w (X : xx p s m args meth c cc nL R_M ret D A H0) (hP : mH D a A lo hi en zf mk md pl ct vs w n H) (hd : mDs a) (hS : va_S (mFr a) H0 H locs) {j x : Nat} (hj : j < 48) (hdg : decode cc pc = .ok (.lastore, 1)) (kk : ∀ (H1 : Heap) (locs1 : List Loc), mH D a A lo hi en zf mk md pl ct vs (va_up w j x) n H1 → va_S (mFr a) H0 H1 locs1 → W p l e R s m args below meth c H1 locs1 cells slots Q (F0 m (pc + 1) ls rest)) : W p l e R s m args below meth c H locs cells slots Q (F0 m pc ls (.long (lN x) :: .int (nI j) :: .ref (a 7) :: rest)) := by
  refine va_last (cl := vwCl) X.1 X.2.1 X.2.2.2.2.2.2.1 hP (mD hd) hS 7 2 rfl rfl (vp_in_nI hj (by decide)) hdg (fun H1 locs1 h1 _ h3 => kk H1 locs1 ?_ h3)
  rw [nI_clamp (Nat.lt_trans hj (by decide)), show vp_updL (fun i => lN (w i)) j (lN x) = (fun i => lN (va_up w j x i)) from funext fun i => by unfold vp_updL va_up; split <;> rfl] at h1
  exact h1
end XM
