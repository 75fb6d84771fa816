/-! What well-formed items and trees say of their words. -/
theorem ft_lR_mem {l : List ft_I} {q : Nat × List Nat} : q ∈ ft_lR l ↔ ∃ y ∈ l, q ∈ ft_lv y := by
  induction l with
  | nil => simp [ft_lR]
  | cons x l ih => simp [ft_lR, ih]
theorem ft_ok_mono {ne mm : Nat} {zf : Nat → Nat} {ne' mm' : Nat} {zf' : Nat → Nat} (h1 : ne ≤ ne') (h2 : mm ≤ mm') (h3 : ∀ n, 1 ≤ n → n ≤ mm → zf' n = zf n) : ∀ {k : Nat} {x : ft_I}, ft_ok ne mm zf k x → ft_ok ne' mm' zf' k x
  | 0, x, h => by
    obtain ⟨e, he, hlt⟩ := h
    exact ⟨e, he, Nat.lt_of_lt_of_le hlt h1⟩
  | k + 1, x, h => by
    obtain ⟨n, l, hx, hl, hn1, hn2, hz, hy⟩ := h
    exact ⟨n, l, hx, hl, hn1, Nat.le_trans hn2 h2, by rw [h3 n hn1 hn2, hz], fun y hm => ft_ok_mono h1 h2 h3 (hy y hm)⟩
theorem ft_okR_mono {ne mm : Nat} {zf : Nat → Nat} {ne' mm' : Nat} {zf' : Nat → Nat} (h1 : ne ≤ ne') (h2 : mm ≤ mm') (h3 : ∀ n, 1 ≤ n → n ≤ mm → zf' n = zf n) {k : Nat} {l : List ft_I} (h : ft_okR ne mm zf k l) : ft_okR ne' mm' zf' k l := fun y hy => ft_ok_mono h1 h2 h3 (h y hy)
theorem ft_okT_mono {ne mm : Nat} {zf : Nat → Nat} {ne' mm' : Nat} {zf' : Nat → Nat} (h1 : ne ≤ ne') (h2 : mm ≤ mm') (h3 : ∀ n, 1 ≤ n → n ≤ mm → zf' n = zf n) {o : Option ft_I} : ∀ {sp : ft_S} {k : Nat}, ft_okT ne mm zf k sp o → ft_okT ne' mm' zf' k sp o := by
  intro sp
  induction sp with
  | nil => intro k h; cases o with
    | none => trivial
    | some x => exact ft_ok_mono h1 h2 h3 h
  | cons d sp ih => intro k h; exact ⟨⟨h.1.1, h.1.2.1, ft_okR_mono h1 h2 h3 h.1.2.2⟩, ⟨h.2.1.1, h.2.1.2.1, ft_okR_mono h1 h2 h3 h.2.1.2.2⟩, ih h.2.2⟩
theorem ft_zR_pos {ne mm : Nat} {zf : Nat → Nat} {k : Nat} {b : Nat} {l : List ft_I} (h : ∀ y ∈ l, b ≤ ft_z y) : l.length * b ≤ ft_zR l := by
  induction l with
  | nil => simp [ft_zR]
  | cons x l ih =>
    have h1 := h x (by simp)
    have h2 := ih (fun y hy => h y (by simp [hy]))
    simp only [List.length_cons, ft_zR, Nat.add_mul]
    omega
theorem ft_ok_z {ne mm : Nat} {zf : Nat → Nat} : ∀ {k : Nat} {x : ft_I}, ft_ok ne mm zf k x → 2 ^ k ≤ ft_z x
  | 0, x, h => by
    obtain ⟨e, rfl, _⟩ := h
    simp [ft_z]
  | k + 1, x, h => by
    obtain ⟨n, l, rfl, hl, _, _, _, hy⟩ := h
    have h1 := ft_zR_pos (ne := ne) (mm := mm) (zf := zf) (k := k) (b := 2 ^ k) (l := l) (fun y hm => ft_ok_z (hy y hm))
    rw [ft_z_nd, Nat.pow_succ]
    have h2 : 2 * 2 ^ k ≤ l.length * 2 ^ k := Nat.mul_le_mul_right _ (by omega)
    omega
theorem ft_ok_z0 {ne mm : Nat} {zf : Nat → Nat} {x : ft_I} (h : ft_ok ne mm zf 0 x) : ft_z x = 1 := by
  obtain ⟨e, rfl, _⟩ := h
  rfl
theorem ft_ok_zpos {ne mm : Nat} {zf : Nat → Nat} {k : Nat} {x : ft_I} (h : ft_ok ne mm zf k x) : 1 ≤ ft_z x := Nat.le_trans (Nat.one_le_two_pow) (ft_ok_z h)
theorem ft_okR_z {ne mm : Nat} {zf : Nat → Nat} {k : Nat} {l : List ft_I} (h : ft_okR ne mm zf k l) : l.length * 2 ^ k ≤ ft_zR l := ft_zR_pos (ne := ne) (mm := mm) (zf := zf) (k := k) (fun y hy => ft_ok_z (h y hy))
theorem ft_ok_leaf {ne mm : Nat} {zf : Nat → Nat} : ∀ {k : Nat} {x : ft_I}, ft_ok ne mm zf k x → ∀ q ∈ ft_lv x, q.1 < ne ∧ q.2.length = k ∧ ∀ d ∈ q.2, 1 ≤ d ∧ d ≤ mm
  | 0, x, h, q, hq => by
    obtain ⟨e, rfl, he⟩ := h
    simp only [ft_lv, List.mem_singleton] at hq
    subst hq
    exact ⟨he, rfl, fun d hd => by cases hd⟩
  | k + 1, x, h, q, hq => by
    obtain ⟨n, l, rfl, hl, h1, h2, hz, hy⟩ := h
    rw [ft_lv_nd, List.mem_map] at hq
    obtain ⟨r, hr, rfl⟩ := hq
    obtain ⟨y, hyl, hry⟩ := ft_lR_mem.1 hr
    obtain ⟨a1, a2, a3⟩ := ft_ok_leaf (hy y hyl) r hry
    refine ⟨a1, by simp [a2], fun d hd => ?_⟩
    simp only [List.mem_append, List.mem_singleton] at hd
    rcases hd with hd | rfl
    · exact a3 d hd
    · exact ⟨h1, h2⟩
theorem ft_ok_fit {ne mm : Nat} {zf : Nat → Nat} {k : Nat} {x : ft_I} (h : ft_ok ne mm zf k x) (hne : ne ≤ 128) (hmm : mm < 8192) (hk : k ≤ 3) : ∀ q ∈ ft_lv x, ft_fit q ∧ q.2.length = k := fun q hq => by
  obtain ⟨a1, a2, a3⟩ := ft_ok_leaf h q hq
  exact ⟨⟨by omega, by omega, fun d hd => by have := a3 d hd; omega⟩, a2⟩
theorem ft_okR_fit {ne mm : Nat} {zf : Nat → Nat} {k : Nat} {l : List ft_I} (h : ft_okR ne mm zf k l) (hne : ne ≤ 128) (hmm : mm < 8192) (hk : k ≤ 3) : ∀ q ∈ ft_lR l, ft_fit q ∧ q.2.length = k := fun q hq => by
  obtain ⟨y, hy, hq⟩ := ft_lR_mem.1 hq
  exact ft_ok_fit (h y hy) hne hmm hk q hq
theorem ft_ok_num {ne mm : Nat} {zf : Nat → Nat} {k : Nat} {x : ft_I} (h : ft_ok ne mm zf (k + 1) x) : ∀ q ∈ ft_lv x, zf (q.2.getD k 0) = ft_z x := fun q hq => by
  obtain ⟨n, l, rfl, hl, h1, h2, hz, hy⟩ := h
  rw [ft_lv_nd, List.mem_map] at hq
  obtain ⟨r, hr, rfl⟩ := hq
  obtain ⟨y, hyl, hry⟩ := ft_lR_mem.1 hr
  obtain ⟨a1, a2, a3⟩ := ft_ok_leaf (hy y hyl) r hry
  rw [ft_z_nd, ← hz]
  congr 1
  simp [List.getD, a2]
/-- where the item that begins at q, of rank k, ends -/
def ft_end (zf w : Nat → Nat) (q k : Nat) : Nat := if k = 0 then q + 1 else q + zf (w q / (4096 * 8192 ^ (k - 1)) % 8192)
def ft_beg (zf w : Nat → Nat) (q k : Nat) : Nat := if k = 0 then q - 1 else q - zf (w (q - 1) / (4096 * 8192 ^ (k - 1)) % 8192)
theorem ft_hd_at {w : Nat → Nat} {s i : Nat} {P : List (Nat × List Nat)} {f : Nat × List Nat → Nat} (h : ft_hd w s (P.map f)) (hi : i < P.length) : ∃ q ∈ P, w (s + i) = f q := by
  refine ⟨P[i], List.getElem_mem hi, h i _ ?_⟩
  rw [List.getElem?_map, List.getElem?_eq_getElem hi]
  rfl
theorem ft_end_of {ne mm : Nat} {zf : Nat → Nat} {w : Nat → Nat} {s k sd : Nat} {x : ft_I} (h : ft_ok ne mm zf k x) (hw : ft_hd w s (ft_wI sd x)) (hne : ne ≤ 128) (hmm : mm < 8192) (hk : k ≤ 3) (hs : sd < 4) : ft_end zf w s k = s + ft_z x := by
  unfold ft_end
  cases k with
  | zero => rw [if_pos rfl, ft_ok_z0 h]
  | succ k =>
    rw [if_neg (by omega)]
    have hp := ft_ok_zpos h
    obtain ⟨q, hq, e⟩ := ft_hd_at (i := 0) hw (by rw [ft_lv_len]; omega)
    rw [Nat.add_zero] at e
    rw [e, Nat.add_sub_cancel, ft_wd_node (ft_ok_fit h hne hmm hk q hq).1 hs, ft_ok_num h q hq]
theorem ft_beg_of {ne mm : Nat} {zf : Nat → Nat} {w : Nat → Nat} {s k sd : Nat} {x : ft_I} (h : ft_ok ne mm zf k x) (hw : ft_hd w s (ft_wI sd x)) (hne : ne ≤ 128) (hmm : mm < 8192) (hk : k ≤ 3) (hs : sd < 4) : ft_beg zf w (s + ft_z x) k = s := by
  unfold ft_beg
  cases k with
  | zero => rw [if_pos rfl, ft_ok_z0 h]; omega
  | succ k =>
    rw [if_neg (by omega)]
    have hp := ft_ok_zpos h
    obtain ⟨q, hq, e⟩ := ft_hd_at (i := ft_z x - 1) hw (by rw [ft_lv_len]; omega)
    rw [show s + (ft_z x - 1) = s + ft_z x - 1 from by omega] at e
    rw [e, Nat.add_sub_cancel, ft_wd_node (ft_ok_fit h hne hmm hk q hq).1 hs, ft_ok_num h q hq]
    omega
/-- side and level of a word -/
abbrev ft_sd (v : Nat) : Nat := v / 128 % 4
abbrev ft_le8 (v : Nat) : Nat := v / 512 % 8
theorem ft_wI_at {ne mm : Nat} {zf : Nat → Nat} {w : Nat → Nat} {s k sd i : Nat} {x : ft_I} (h : ft_ok ne mm zf k x) (hw : ft_hd w s (ft_wI sd x)) (hne : ne ≤ 128) (hmm : mm < 8192) (hk : k ≤ 3) (hs : sd < 4) (hi : i < ft_z x) : ft_sd (w (s + i)) = sd ∧ ft_le8 (w (s + i)) = k ∧ w (s + i) < 2251799813685248 := by
  obtain ⟨q, hq, e⟩ := ft_hd_at (i := i) hw (by rw [ft_lv_len]; omega)
  have hf := ft_ok_fit h hne hmm hk q hq
  rw [e]
  exact ⟨ft_wd_side hf.1 hs, (ft_wd_level hf.1 hs).trans hf.2, ft_wd_lt hf.1 hs⟩
theorem ft_wR_at {ne mm : Nat} {zf : Nat → Nat} {w : Nat → Nat} {s k sd i : Nat} {l : List ft_I} (h : ft_okR ne mm zf k l) (hw : ft_hd w s (ft_wR sd l)) (hne : ne ≤ 128) (hmm : mm < 8192) (hk : k ≤ 3) (hs : sd < 4) (hi : i < ft_zR l) : ft_sd (w (s + i)) = sd ∧ ft_le8 (w (s + i)) = k ∧ w (s + i) < 2251799813685248 := by
  obtain ⟨q, hq, e⟩ := ft_hd_at (i := i) hw (by rw [ft_lR_len]; omega)
  have hf := ft_okR_fit h hne hmm hk q hq
  rw [e]
  exact ⟨ft_wd_side hf.1 hs, (ft_wd_level hf.1 hs).trans hf.2, ft_wd_lt hf.1 hs⟩
