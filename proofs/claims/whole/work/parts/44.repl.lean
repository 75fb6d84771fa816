/-! The change of an entry in the words of the reference: one number of all the words of a stretch; the row that holds a place. -/
theorem ft_pt_ap (p r : List Nat) : ft_pt (p ++ r) = ft_pt p + 8192 ^ p.length * ft_pt r := by
  induction p with
  | nil => simp [ft_pt]
  | cons a p ih =>
    simp only [List.cons_append, ft_pt, ih, List.length_cons, Nat.pow_succ, Nat.mul_add]
    rw [show 8192 ^ p.length * 8192 * ft_pt r = 8192 * (8192 ^ p.length * ft_pt r) from by rw [Nat.mul_comm (8192 ^ p.length), Nat.mul_assoc]]
    omega
/-- the number m for the number of level j + 1 -/
def ft_rn (j m v : Nat) : Nat := v % 2 ^ (12 + 13 * j) + (m + 8192 * (v / 2 ^ (12 + 13 * j) / 8192)) * 2 ^ (12 + 13 * j)
theorem bt_rnM : ∀ j, j < 3 → (2 ^ 64 - 1 - 8191 * 2 ^ (12 + 13 * j)) % 2 ^ (12 + 13 * j) = 2 ^ (12 + 13 * j) - 1 ∧ (2 ^ 64 - 1 - 8191 * 2 ^ (12 + 13 * j)) / 2 ^ (12 + 13 * j) % 2 ^ 13 = 0 ∧ (2 ^ 64 - 1 - 8191 * 2 ^ (12 + 13 * j)) / 2 ^ (12 + 13 * j) / 2 ^ 13 = 2 ^ (39 - 13 * j) - 1 := by decide +kernel
theorem bt_rnX : ∀ j, j < 3 → (lN (8191 * 2 ^ (12 + 13 * j)) ^^^ (-1)) = lN (2 ^ 64 - 1 - 8191 * 2 ^ (12 + 13 * j)) := by decide +kernel
theorem bt_rn {j m v : Nat} (hj : j < 3) (hm : m < 8192) (hv : v < 2251799813685248) : (v &&& (2 ^ 64 - 1 - 8191 * 2 ^ (12 + 13 * j))) ||| (m * 2 ^ (12 + 13 * j)) = ft_rn j m v := by
  obtain ⟨k1, k2, k3⟩ := bt_rnM j hj
  generalize hM : 2 ^ 64 - 1 - 8191 * 2 ^ (12 + 13 * j) = M at k1 k2 k3 ⊢
  have h1 : ((v &&& M) ||| (m * 2 ^ (12 + 13 * j))) % 2 ^ (12 + 13 * j) = v % 2 ^ (12 + 13 * j) := by
    rw [Nat.or_mod_two_pow, Nat.and_mod_two_pow, k1, Nat.and_two_pow_sub_one_eq_mod, Nat.mul_mod_left, Nat.or_zero, Nat.mod_mod]
  have h2 : ((v &&& M) ||| (m * 2 ^ (12 + 13 * j))) / 2 ^ (12 + 13 * j) = (v / 2 ^ (12 + 13 * j) &&& M / 2 ^ (12 + 13 * j)) ||| m := by
    rw [Nat.or_div_two_pow, Nat.and_div_two_pow, Nat.mul_div_cancel _ (Nat.two_pow_pos _)]
  have h3 : ((v / 2 ^ (12 + 13 * j) &&& M / 2 ^ (12 + 13 * j)) ||| m) % 2 ^ 13 = m := by
    rw [Nat.or_mod_two_pow, Nat.and_mod_two_pow, k2, Nat.and_zero, Nat.zero_or, Nat.mod_eq_of_lt hm]
  have hv2 : v / 2 ^ (12 + 13 * j) / 2 ^ 13 < 2 ^ (39 - 13 * j) := by
    rw [Nat.div_div_eq_div_mul, ← Nat.pow_add]
    apply Nat.div_lt_of_lt_mul
    rw [← Nat.pow_add, show 12 + 13 * j + 13 + (39 - 13 * j) = 64 from by omega]
    omega
  have h4 : ((v / 2 ^ (12 + 13 * j) &&& M / 2 ^ (12 + 13 * j)) ||| m) / 2 ^ 13 = v / 2 ^ (12 + 13 * j) / 2 ^ 13 := by
    rw [Nat.or_div_two_pow, Nat.and_div_two_pow, k3, Nat.and_two_pow_sub_one_eq_mod, Nat.mod_eq_of_lt hv2, Nat.div_eq_of_lt hm, Nat.or_zero]
  have h5 := Nat.div_add_mod ((v &&& M) ||| (m * 2 ^ (12 + 13 * j))) (2 ^ (12 + 13 * j))
  have h6 := Nat.div_add_mod ((v / 2 ^ (12 + 13 * j) &&& M / 2 ^ (12 + 13 * j)) ||| m) (2 ^ 13)
  rw [h1, h2] at h5
  rw [h3, h4] at h6
  unfold ft_rn
  rw [← h5, ← h6, Nat.mul_comm, Nat.add_comm]
  congr 2
  omega
theorem ft_rn_lt {j m v : Nat} (hj : j < 3) (hm : m < 8192) (hv : v < 2251799813685248) : ft_rn j m v < 2251799813685248 := by
  unfold ft_rn
  match j, hj with
  | 0, _ => simp only [Nat.mul_zero, Nat.add_zero]; omega
  | 1, _ => omega
  | 2, _ => omega
theorem ft_rn_wd {sd e n m : Nat} {p out : List Nat} (he : e < 128) (hs : sd < 4) (hl : p.length + 1 + out.length ≤ 3) (hp : ∀ d ∈ p, d < 8192) (hn : n < 8192) : ft_rn p.length m (ft_wd sd (e, p ++ n :: out)) = ft_wd sd (e, p ++ m :: out) := by
  have h0 := ft_pt_lt hp
  have hP := bt_pow2 p.length
  have key : ∀ x, ft_wd sd (e, p ++ x :: out) = (e + 128 * sd + 512 * (p.length + 1 + out.length) + 4096 * ft_pt p) + (x + 8192 * ft_pt out) * 2 ^ (12 + 13 * p.length) := fun x => by
    simp only [ft_wd, ft_pt_ap, ft_pt, List.length_append, List.length_cons, ← hP]
    generalize x + 8192 * ft_pt out = z
    have : 4096 * (ft_pt p + 8192 ^ p.length * z) = 4096 * ft_pt p + z * (4096 * 8192 ^ p.length) := by rw [Nat.mul_add, ← Nat.mul_assoc, Nat.mul_comm (4096 * 8192 ^ p.length)]
    omega
  have hlt : e + 128 * sd + 512 * (p.length + 1 + out.length) + 4096 * ft_pt p < 2 ^ (12 + 13 * p.length) := by
    rw [← hP]
    have : 4096 * (ft_pt p + 1) ≤ 4096 * 8192 ^ p.length := Nat.mul_le_mul_left _ h0
    omega
  rw [key n, key m]
  unfold ft_rn
  rw [Nat.add_mul_mod_self_right, Nat.mod_eq_of_lt hlt, Nat.add_mul_div_right _ _ (Nat.two_pow_pos _), Nat.div_eq_of_lt hlt, Nat.zero_add, Nat.add_mul_div_left _ _ (by decide : 0 < 8192), Nat.div_eq_of_lt hn, Nat.zero_add]
/-- a change of all words of a stretch -/
def ft_wm (f : Nat → Nat) (w : Nat → Nat) (a b : Nat) : Nat → Nat := fun q => if a ≤ q ∧ q < b then f (w q) else w q
theorem ft_wm_nil (f w : Nat → Nat) (a : Nat) : ft_wm f w a a = w := funext fun x => by
  unfold ft_wm
  rw [if_neg (by omega)]
theorem ft_wm_self (f w : Nat → Nat) (a q : Nat) : ft_wm f w a q q = w q := by
  unfold ft_wm
  rw [if_neg (by omega)]
theorem ft_wm_step {f w : Nat → Nat} {a q : Nat} (h : a ≤ q) : va_up (ft_wm f w a q) q (f (w q)) = ft_wm f w a (q + 1) := funext fun x => by
  simp only [ft_wm, va_up]
  by_cases e : x = q
  · subst e; rw [if_pos rfl, if_pos ⟨h, by omega⟩]
  · rw [if_neg e]
    by_cases e2 : a ≤ x ∧ x < q
    · rw [if_pos e2, if_pos ⟨e2.1, by omega⟩]
    · rw [if_neg e2, if_neg (by omega)]
theorem ft_eo_wm (f w : Nat → Nat) (a b : Nat) : ft_eo w (ft_wm f w a b) a b := fun q hq => by unfold ft_wm; rw [if_neg (by omega)]
theorem ft_bw_wm {w : Nat → Nat} {a b j m : Nat} (h : ft_bw w) (hj : j < 3) (hm : m < 8192) : ft_bw (ft_wm (ft_rn j m) w a b) := fun q => by
  unfold ft_wm
  split
  · exact ft_rn_lt hj hm (h q)
  · exact h q
/-- the words of a row that lies in nodes with the numbers out -/
def ft_wO (sd : Nat) (out : List Nat) (l : List ft_I) : List Nat := (ft_lR l).map (fun q => ft_wd sd (q.1, q.2 ++ out))
theorem ft_wO_nil (sd : Nat) (l : List ft_I) : ft_wO sd [] l = ft_wR sd l := by simp [ft_wO, ft_wR]
theorem ft_wO_len (sd : Nat) (out : List Nat) (l : List ft_I) : (ft_wO sd out l).length = ft_zR l := by simp [ft_wO, ft_lR_len]
theorem ft_wO_app (sd : Nat) (out : List Nat) (a b : List ft_I) : ft_wO sd out (a ++ b) = ft_wO sd out a ++ ft_wO sd out b := by simp [ft_wO, ft_lR_app]
theorem ft_wO_nd (sd n : Nat) (out : List Nat) (l : List ft_I) : ft_wO sd out [ft_nd n l] = ft_wO sd (n :: out) l := by
  simp [ft_wO, ft_lR, ft_lv_nd, Function.comp_def]
theorem ft_row_split {l : List ft_I} {i : Nat} (hi : i < l.length) : l = l.take i ++ ([l.getD i ft_no] ++ l.drop (i + 1)) := by
  rw [List.getD_eq_getElem?_getD, List.getElem?_eq_getElem hi, Option.getD_some, List.singleton_append, ← List.drop_eq_getElem_cons hi, List.take_append_drop]
theorem ft_row_set {l : List ft_I} {i : Nat} (hi : i < l.length) (z : ft_I) : l.set i z = l.take i ++ ([z] ++ l.drop (i + 1)) := by
  rw [List.set_eq_take_append_cons_drop, if_pos hi, List.singleton_append]
theorem ft_nd_ltO {ne mm : Nat} {zf w : Nat → Nat} {k s sd : Nat} {out : List Nat} {x : ft_I} (h : ft_ok ne mm zf k x) (hw : ft_hd w s (ft_wO sd out [x])) (hne : ne ≤ 128) (hmm : mm < 4200) (hk : k + out.length ≤ 3) (ho : ∀ d ∈ out, d < 8192) (hs : sd < 4) : ∀ j, k = j + 1 → w s / (4096 * 8192 ^ j) % 8192 < 4200 ∧ zf (w s / (4096 * 8192 ^ j) % 8192) = ft_z x := by
  intro j hj
  subst hj
  have hz := ft_ok_zpos h
  obtain ⟨q, hq, e⟩ := ft_hd_at (i := 0) hw (by rw [ft_lR_len]; simp only [ft_zR]; omega)
  have hq : q ∈ ft_lv x := by simpa [ft_lR] using hq
  have hf := ft_ok_fit h hne (by omega) (by omega) q hq
  have hl := (ft_ok_leaf h q hq)
  have hf2 : ft_fit (q.1, q.2 ++ out) := ⟨hf.1.1, by simp only [List.length_append]; omega, fun d hd => by
    rcases List.mem_append.1 hd with hd | hd
    · exact hf.1.2.2 d hd
    · exact ho d hd⟩
  have hg : (q.2 ++ out).getD j 0 = q.2.getD j 0 := by
    rw [List.getD_eq_getElem?_getD, List.getD_eq_getElem?_getD, List.getElem?_append_left (by omega)]
  rw [Nat.add_zero] at e
  rw [e, ft_wd_node hf2 hs, hg, ft_ok_num h q hq]
  refine ⟨?_, rfl⟩
  have hm : q.2.getD j 0 ∈ q.2 := by
    rw [List.getD_eq_getElem?_getD, List.getElem?_eq_getElem (by rw [hl.2.1]; omega)]
    exact List.getElem_mem _
  have := (hl.2.2 _ hm).2
  omega
theorem ft_end_ofO {ne mm : Nat} {zf w : Nat → Nat} {k s sd : Nat} {out : List Nat} {x : ft_I} (h : ft_ok ne mm zf k x) (hw : ft_hd w s (ft_wO sd out [x])) (hne : ne ≤ 128) (hmm : mm < 4200) (hk : k + out.length ≤ 3) (ho : ∀ d ∈ out, d < 8192) (hs : sd < 4) : ft_end zf w s k = s + ft_z x := by
  unfold ft_end
  cases k with
  | zero => rw [if_pos rfl, ft_ok_z0 h]
  | succ j => rw [if_neg (by omega), Nat.add_sub_cancel, (ft_nd_ltO h hw hne hmm hk ho hs j rfl).2]
/-- the words of a node after its number has changed: a row of its items below the new number -/
theorem ft_wm_hd {ne mm : Nat} {zf w : Nat → Nat} {j s sd m : Nat} {out : List Nat} {x : ft_I} (h : ft_ok ne mm zf (j + 1) x) (hw : ft_hd w s (ft_wO sd out [x])) (hne : ne ≤ 128) (hmm : mm < 8192) (hk : j + 1 + out.length ≤ 3) (hs : sd < 4) : ft_hd (ft_wm (ft_rn j m) w s (s + ft_z x)) s (ft_wO sd (m :: out) (ft_ps x)) := by
  obtain ⟨n, l, rfl, h1, h2, h3, h4, h5⟩ := h
  rw [ft_wO_nd] at hw
  rw [ft_ps_nd]
  refine ft_hd_map hw (fun i q hq hv => ?_)
  have hi := (List.getElem?_eq_some_iff.1 hq).1
  rw [ft_lR_len] at hi
  have hf := ft_okR_fit (k := j) h5 hne hmm (by omega) q (List.mem_of_getElem? hq)
  unfold ft_wm
  rw [if_pos ⟨by omega, by rw [ft_z_nd]; omega⟩, hv, ← hf.2, ft_rn_wd hf.1.1 hs (by omega) hf.1.2.2 (by omega)]
theorem bt_ent {v e : Nat} (hv : v < 2251799813685248) (he : e < 128) : (lN v &&& (-128)) ||| lN e = lN (v / 128 * 128 + e) := by
  rw [show (-128 : Int64) = lN (2 ^ 64 - 128) from by decide, wb_and (by omega) (by omega), wb_or (Nat.lt_of_le_of_lt Nat.and_le_left (by omega)) (by omega)]
  congr 1
  have h1 : ((v &&& (2 ^ 64 - 128)) ||| e) % 2 ^ 7 = e := by
    rw [Nat.or_mod_two_pow, Nat.and_mod_two_pow, show (2 ^ 64 - 128) % 2 ^ 7 = 0 from by decide, Nat.and_zero, Nat.zero_or, Nat.mod_eq_of_lt he]
  have h2 : ((v &&& (2 ^ 64 - 128)) ||| e) / 2 ^ 7 = v / 2 ^ 7 := by
    rw [Nat.or_div_two_pow, Nat.and_div_two_pow, show (2 ^ 64 - 128) / 2 ^ 7 = 2 ^ 57 - 1 from by decide, Nat.and_two_pow_sub_one_eq_mod, Nat.div_eq_of_lt he, Nat.or_zero, Nat.mod_eq_of_lt (by omega)]
  omega
theorem ft_ent_wd {sd e e' : Nat} {p : List Nat} (he : e < 128) : ft_wd sd (e, p) / 128 * 128 + e' = ft_wd sd (e', p) := by
  simp only [ft_wd]
  omega
/-- the row that holds a place -/
theorem ft_loc {ne : Nat} {o : Option ft_I} {w : Nat → Nat} {y : ft_I} {c : ft_C} (hne : ne ≤ 128) (hmm : c.1 < 8192) (hy : ft_ok ne c.1 c.2 0 y) : ∀ (sp : ft_S) (k b0 p : Nat), ft_okT ne c.1 c.2 k sp o → 2 * 2 ^ k + ft_zT sp o ≤ 42 → ft_hd w b0 (ft_wT sp o) → (1 ≤ b0 → ft_le8 (w (b0 - 1)) < k) → p < ft_zT sp o →
    ∃ (K : Nat) (l : List ft_I) (sd b : Nat), (K ≤ 3 ∧ sd < 3 ∧ ft_okR ne c.1 c.2 K l ∧ b0 ≤ b ∧ b ≤ b0 + p ∧ b0 + p < b + ft_zR l ∧ b + ft_zR l ≤ b0 + ft_zT sp o) ∧ ft_hd w b (ft_wR sd l) ∧ (1 ≤ b → ¬ (ft_le8 (w (b - 1)) = K ∧ ft_sd (w (b - 1)) = sd)) ∧ (ft_rT k sp o p y c).2 = (ft_rR K l (b0 + p - b) y c).2 ∧
      ∀ W' : Nat → Nat, ft_hd W' b (ft_wR sd (ft_rR K l (b0 + p - b) y c).1) → ft_eo w W' b (b + ft_zR l) → ft_hd W' b0 (ft_wT (ft_rT k sp o p y c).1.1 (ft_rT k sp o p y c).1.2) := by
  intro sp
  induction sp with
  | nil =>
    intro k b0 p h hz hw hb hp
    cases o with
    | none => simp [ft_zT] at hp
    | some x =>
      have hx : ft_ok ne c.1 c.2 k x := h
      have h2 := ft_ok_z hx
      have hk : k ≤ 3 := ft_k3 (by simp only [ft_zT] at hz; omega)
      simp only [ft_zT] at hp
      refine ⟨k, [x], 2, b0, ⟨hk, by decide, fun y hy => by simp at hy; rw [hy]; exact hx, Nat.le_refl _, by omega, by simp only [ft_zR]; omega, by simp only [ft_zR, ft_zT]; omega⟩, ?_, ?_, ?_, ?_⟩
      · rw [ft_wR_one]; exact hw
      · intro h1 h3; have := hb h1; omega
      · rw [Nat.add_sub_cancel_left]; rfl
      · intro W' h1 h3
        rw [Nat.add_sub_cancel_left] at h1
        have h1 : ft_hd W' b0 (ft_wR 2 [(ft_rp k x p y c).1]) := h1
        rw [ft_wR_one] at h1
        exact h1
  | cons d sp ih =>
    intro k b0 p h hz hw hb hp
    have hzd := ft_okT_zd h
    have hpw := Nat.one_le_two_pow (n := k)
    obtain ⟨a1, a2, a3⟩ := h
    simp only [ft_zT] at hp hz
    have hk : k ≤ 3 := ft_k3 (by omega)
    simp only [ft_wT] at hw
    obtain ⟨hw12, hw3⟩ := ft_hd_app.1 hw
    obtain ⟨hw1, hw2⟩ := ft_hd_app.1 hw12
    rw [List.length_append, ft_wR_len, ft_wT_len, ← Nat.add_assoc] at hw3
    rw [ft_wR_len] at hw2
    unfold ft_rT
    split
    · rename_i h1
      refine ⟨k, d.2, 1, b0 + ft_zR d.1 + ft_zT sp o, ⟨hk, by decide, a2.2.2, by omega, by omega, by omega, by simp only [ft_zT]; omega⟩, hw3, ?_, by rw [show b0 + p - (b0 + ft_zR d.1 + ft_zT sp o) = p - (ft_zR d.1 + ft_zT sp o) from by omega], ?_⟩
      · intro _ h3
        cases he : ft_em sp o with
        | true =>
          have e0 := (ft_em_z a3).1 he
          have := (ft_wR_at (i := ft_zR d.1 - 1) a1.2.2 hw1 hne hmm hk (by decide) (by omega)).1
          rw [e0, show b0 + ft_zR d.1 + 0 - 1 = b0 + (ft_zR d.1 - 1) from by omega, this] at h3
          exact absurd h3.2 (by decide)
        | false =>
          have e0 := ft_okT_z a3 he
          have hk2 : k + 1 ≤ 3 := ft_k3 (by rw [Nat.pow_succ] at e0 ⊢; omega)
          have := (ft_wT_last a3 he hw2 hne hmm hk2).1
          rw [this] at h3
          omega
      · intro W' h2 h3
        rw [show b0 + p - (b0 + ft_zR d.1 + ft_zT sp o) = p - (ft_zR d.1 + ft_zT sp o) from by omega] at h2
        show ft_hd W' b0 (ft_wR 0 d.1 ++ ft_wT sp o ++ ft_wR 1 (ft_rR k d.2 (p - (ft_zR d.1 + ft_zT sp o)) y c).1)
        have hlen : (ft_wR 0 d.1 ++ ft_wT sp o).length = ft_zR d.1 + ft_zT sp o := by rw [List.length_append, ft_wR_len, ft_wT_len]
        refine ft_hd_app.2 ⟨ft_eo_hd h3 hw12 (Or.inl (by omega)), ?_⟩
        rw [List.length_append, ft_wR_len, ft_wT_len, ← Nat.add_assoc]
        exact h2
    · split
      · rename_i h0 h1
        have hr := ft_rR_ok (p := p) hy a1.2.2 h1 (by omega)
        refine ⟨k, d.1, 0, b0, ⟨hk, by decide, a1.2.2, Nat.le_refl _, by omega, by omega, by simp only [ft_zT]; omega⟩, hw1, fun e h3 => ?_, by rw [Nat.add_sub_cancel_left], ?_⟩
        · have := hb e; omega
        · intro W' h2 h3
          rw [Nat.add_sub_cancel_left] at h2
          show ft_hd W' b0 (ft_wR 0 (ft_rR k d.1 p y c).1 ++ ft_wT sp o ++ ft_wR 1 d.2)
          refine ft_hd_app.2 ⟨ft_hd_app.2 ⟨h2, ?_⟩, ?_⟩
          · rw [ft_wR_len, hr.2.2.1]; exact ft_eo_hd h3 hw2 (Or.inr (Nat.le_refl _))
          · rw [List.length_append, ft_wR_len, ft_wT_len, hr.2.2.1, ← Nat.add_assoc]; exact ft_eo_hd h3 hw3 (Or.inr (by omega))
      · rename_i h0 h1
        obtain ⟨K, l, sd, b, g1, g2, g3, g4, g5⟩ := ih (k + 1) (b0 + ft_zR d.1) (p - ft_zR d.1) a3 (by rw [Nat.pow_succ]; omega) hw2 (fun _ => by
          have := (ft_wR_at (i := ft_zR d.1 - 1) a1.2.2 hw1 hne hmm hk (by decide) (by omega)).2.1
          rw [show b0 + ft_zR d.1 - 1 = b0 + (ft_zR d.1 - 1) from by omega, this]
          omega) (by omega)
        have e : b0 + ft_zR d.1 + (p - ft_zR d.1) = b0 + p := by omega
        rw [e] at g1 g4 g5
        refine ⟨K, l, sd, b, ⟨g1.1, g1.2.1, g1.2.2.1, by omega, by omega, by omega, by simp only [ft_zT]; omega⟩, g2, g3, g4, ?_⟩
        intro W' h2 h3
        show ft_hd W' b0 (ft_wR 0 d.1 ++ ft_wT (ft_rT (k + 1) sp o (p - ft_zR d.1) y c).1.1 (ft_rT (k + 1) sp o (p - ft_zR d.1) y c).1.2 ++ ft_wR 1 d.2)
        have hr := (ft_rT_ok (y := y) sp (k + 1) (p - ft_zR d.1) hy a3 (by omega)).2.2
        refine ft_hd_app.2 ⟨ft_hd_app.2 ⟨ft_eo_hd h3 hw1 (Or.inl (by rw [ft_wR_len]; omega)), ?_⟩, ?_⟩
        · rw [ft_wR_len]; exact g5 W' h2 h3
        · rw [List.length_append, ft_wR_len, ft_wT_len, hr, ← Nat.add_assoc]; exact ft_eo_hd h3 hw3 (Or.inr (by omega))
