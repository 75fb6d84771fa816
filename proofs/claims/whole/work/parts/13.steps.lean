/-! settle and wrap on items and rows. -/
theorem ft_take_self {q : Nat × List Nat} {k : Nat} (h : q.2.length = k) : (q.1, q.2.take k) = q := by
  rw [List.take_of_length_le (by omega)]
theorem ft_sw_P {w : Nat → Nat} {a b k s sd z : Nat} {P : List (Nat × List Nat)} (h : ft_hd w z (P.map (ft_wd sd))) (hs : sd < 4) (hf : ∀ q ∈ P, ft_fit q ∧ q.2.length = k) (ha : a ≤ z) (hb : z + P.length ≤ b) : ft_hd (ft_sw w a b k s) z (P.map (ft_wd s)) := by
  have h1 := ft_sw_in (s := s) h hs (k := k) (fun q hq => ⟨(hf q hq).1, Nat.le_of_eq (hf q hq).2.symm⟩) ha hb
  rw [show P.map (ft_wd s) = P.map (fun q => ft_wd s (q.1, q.2.take k)) from List.map_congr_left (fun q hq => by rw [ft_take_self (hf q hq).2])]
  exact h1
theorem ft_sw_I {ne mm : Nat} {zf : Nat → Nat} {w : Nat → Nat} {a b k s sd z : Nat} {x : ft_I} (ok : ft_ok ne mm zf k x) (h : ft_hd w z (ft_wI sd x)) (hne : ne ≤ 128) (hmm : mm < 8192) (hk : k ≤ 3) (hs : sd < 4) (ha : a ≤ z) (hb : z + ft_z x ≤ b) : ft_hd (ft_sw w a b k s) z (ft_wI s x) :=
  ft_sw_P h hs (ft_ok_fit ok hne hmm hk) ha (by rw [ft_lv_len]; exact hb)
theorem ft_sw_R {ne mm : Nat} {zf : Nat → Nat} {w : Nat → Nat} {a b k s sd z : Nat} {l : List ft_I} (ok : ft_okR ne mm zf k l) (h : ft_hd w z (ft_wR sd l)) (hne : ne ≤ 128) (hmm : mm < 8192) (hk : k ≤ 3) (hs : sd < 4) (ha : a ≤ z) (hb : z + ft_zR l ≤ b) : ft_hd (ft_sw w a b k s) z (ft_wR s l) :=
  ft_sw_P h hs (ft_okR_fit ok hne hmm hk) ha (by rw [ft_lR_len]; exact hb)
/-- an item of rank k + 1 is opened: its parts, of rank k -/
theorem ft_sw_U {ne mm : Nat} {zf : Nat → Nat} {w : Nat → Nat} {a b k s sd z : Nat} {x : ft_I} (ok : ft_ok ne mm zf (k + 1) x) (h : ft_hd w z (ft_wI sd x)) (hne : ne ≤ 128) (hmm : mm < 8192) (hk : k + 1 ≤ 3) (hs : sd < 4) (ha : a ≤ z) (hb : z + ft_z x ≤ b) : ft_hd (ft_sw w a b k s) z (ft_wR s (ft_ps x)) := by
  have h1 := ft_sw_in (s := s) h hs (k := k) (fun q hq => ⟨(ft_ok_fit ok hne hmm hk q hq).1, by have := (ft_ok_fit ok hne hmm hk q hq).2; omega⟩) ha (by rw [ft_lv_len]; exact hb)
  obtain ⟨n, l, rfl, hl, _, _, _, hy⟩ := ok
  rw [ft_lv_nd, List.map_map] at h1
  rw [ft_ps_nd]
  unfold ft_wR
  rw [show (ft_lR l).map (ft_wd s) = (ft_lR l).map ((fun q => ft_wd s (q.1, q.2.take k)) ∘ fun q => (q.1, q.2 ++ [n])) from List.map_congr_left (fun q hq => by
    have hq2 : q.2.length = k := by
      obtain ⟨y, hyl, hq⟩ := ft_lR_mem.1 hq
      exact (ft_ok_leaf (hy y hyl) q hq).2.1
    simp only [Function.comp]
    rw [List.take_append_of_le_length (by omega), List.take_of_length_le (by omega)])]
  exact h1
theorem ft_okR_ps {ne mm : Nat} {zf : Nat → Nat} {k : Nat} {x : ft_I} (ok : ft_ok ne mm zf (k + 1) x) : ft_okR ne mm zf k (ft_ps x) ∧ ft_zR (ft_ps x) = ft_z x ∧ 2 ≤ (ft_ps x).length ∧ (ft_ps x).length ≤ 3 := by
  obtain ⟨n, l, rfl, hl, _, _, _, hy⟩ := ok
  rw [ft_ps_nd, ft_z_nd]
  exact ⟨hy, rfl, by omega, by omega⟩
/-- items of rank k become a node -/
theorem ft_ww_R {ne mm : Nat} {zf : Nat → Nat} {w : Nat → Nat} {a b k s sd z m : Nat} {l : List ft_I} (ok : ft_okR ne mm zf k l) (h : ft_hd w z (ft_wR sd l)) (hne : ne ≤ 128) (hmm : mm < 8192) (hm : m < 8192) (hk : k ≤ 3) (hs : sd < 4) (ha : a ≤ z) (hb : z + ft_zR l ≤ b) : ft_hd (ft_sw (ft_ww w a b k m) a b (k + 1) s) z (ft_wI s (ft_nd m l)) := by
  have h1 := ft_wr_in (s := s) h hs (j := k) (m := m) (ft_okR_fit ok hne hmm hk) hm ha (by rw [ft_lR_len]; exact hb)
  unfold ft_wI
  rw [ft_lv_nd, List.map_map]
  exact h1
theorem ft_ok_nd {ne m m' : Nat} {zf zf' : Nat → Nat} {k : Nat} {l : List ft_I} (ok : ft_okR ne m zf k l) (hl : l.length = 2 ∨ l.length = 3) (hm : m < m') (hz : zf' m' = ft_zR l) (hold : ∀ n, 1 ≤ n → n ≤ m → zf' n = zf n) : ft_ok ne m' zf' (k + 1) (ft_nd m' l) :=
  ⟨m', l, rfl, hl, by omega, Nat.le_refl _, hz, fun y hy => ft_ok_mono (Nat.le_refl _) (Nat.le_of_lt hm) hold (ok y hy)⟩
theorem ft_k3 {k : Nat} (h : 3 * 2 ^ k ≤ 42) : k ≤ 3 := by
  rcases Nat.lt_or_ge 3 k with h1 | h1
  · have : 2 ^ 4 ≤ 2 ^ k := Nat.pow_le_pow_right (by decide) h1
    omega
  · exact h1
theorem ft_okT_z {ne mm : Nat} {zf : Nat → Nat} {o : Option ft_I} : ∀ {sp : ft_S} {k : Nat}, ft_okT ne mm zf k sp o → ft_em sp o = false → 2 ^ k ≤ ft_zT sp o := by
  intro sp k h he
  cases sp with
  | nil => cases o with
    | none => simp [ft_em] at he
    | some x => exact ft_ok_z h
  | cons d sp =>
    have h1 := ft_okR_z h.1.2.2
    have h2 : 1 * 2 ^ k ≤ d.1.length * 2 ^ k := Nat.mul_le_mul_right _ h.1.1
    simp only [ft_zT]
    omega
theorem ft_okT_zd {ne mm : Nat} {zf : Nat → Nat} {o : Option ft_I} {sp : ft_S} {d : List ft_I × List ft_I} {k : Nat} (h : ft_okT ne mm zf k (d :: sp) o) : 2 ^ k ≤ ft_zR d.1 ∧ 2 ^ k ≤ ft_zR d.2 := by
  have h1 := ft_okR_z h.1.2.2
  have h2 : 1 * 2 ^ k ≤ d.1.length * 2 ^ k := Nat.mul_le_mul_right _ h.1.1
  have h3 := ft_okR_z h.2.1.2.2
  have h4 : 1 * 2 ^ k ≤ d.2.length * 2 ^ k := Nat.mul_le_mul_right _ h.2.1.1
  omega
theorem ft_em_z {ne mm : Nat} {zf : Nat → Nat} {o : Option ft_I} {sp : ft_S} {k : Nat} (h : ft_okT ne mm zf k sp o) : ft_em sp o = true ↔ ft_zT sp o = 0 := by
  constructor
  · intro he
    cases sp with
    | nil => cases o with
      | none => rfl
      | some x => simp [ft_em] at he
    | cons d sp => simp [ft_em] at he
  · intro hz
    cases he : ft_em sp o with
    | true => rfl
    | false =>
      have := ft_okT_z h he
      have := Nat.one_le_two_pow (n := k)
      omega
/-- the first word and the last word of a tree -/
theorem ft_wT_first {ne mm : Nat} {zf : Nat → Nat} {o : Option ft_I} {sp : ft_S} {k : Nat} {w : Nat → Nat} {s : Nat} (h : ft_okT ne mm zf k sp o) (he : ft_em sp o = false) (hw : ft_hd w s (ft_wT sp o)) (hne : ne ≤ 128) (hmm : mm < 8192) (hk : k ≤ 3) : ft_le8 (w s) = k ∧ ft_sd (w s) = (if sp.isEmpty then 2 else 0) ∧ w s < 2251799813685248 := by
  cases sp with
  | nil => cases o with
    | none => simp [ft_em] at he
    | some x =>
      have := ft_wI_at (i := 0) h hw hne hmm hk (by decide) (ft_ok_zpos h)
      exact ⟨this.2.1, by simpa using this.1, this.2.2⟩
  | cons d sp =>
    have hz := (ft_okT_zd h).1
    have := Nat.one_le_two_pow (n := k)
    simp only [ft_wT, List.append_assoc] at hw
    have := ft_wR_at (i := 0) h.1.2.2 (ft_hd_app.1 hw).1 hne hmm hk (by decide) (by omega)
    exact ⟨this.2.1, by simpa using this.1, this.2.2⟩
theorem ft_wT_last {ne mm : Nat} {zf : Nat → Nat} {o : Option ft_I} {sp : ft_S} {k : Nat} {w : Nat → Nat} {s : Nat} (h : ft_okT ne mm zf k sp o) (he : ft_em sp o = false) (hw : ft_hd w s (ft_wT sp o)) (hne : ne ≤ 128) (hmm : mm < 8192) (hk : k ≤ 3) : ft_le8 (w (s + ft_zT sp o - 1)) = k ∧ ft_sd (w (s + ft_zT sp o - 1)) = (if sp.isEmpty then 2 else 1) ∧ w (s + ft_zT sp o - 1) < 2251799813685248 := by
  cases sp with
  | nil => cases o with
    | none => simp [ft_em] at he
    | some x =>
      have hz := ft_ok_zpos h
      have := ft_wI_at (i := ft_z x - 1) h hw hne hmm hk (by decide) (by omega)
      rw [show s + (ft_z x - 1) = s + ft_zT [] (some x) - 1 from by simp only [ft_zT]; omega] at this
      exact ⟨this.2.1, by simpa using this.1, this.2.2⟩
  | cons d sp =>
    have hz := (ft_okT_zd h).2
    have := Nat.one_le_two_pow (n := k)
    simp only [ft_wT] at hw
    have h2 := (ft_hd_app.1 hw).2
    have := ft_wR_at (i := ft_zR d.2 - 1) h.2.1.2.2 h2 hne hmm hk (by decide) (by omega)
    rw [List.length_append, ft_wR_len, ft_wT_len, show s + (ft_zR d.1 + ft_zT sp o) + (ft_zR d.2 - 1) = s + ft_zT (d :: sp) o - 1 from by simp only [ft_zT]; omega] at this
    exact ⟨this.2.1, by simpa using this.1, this.2.2⟩
