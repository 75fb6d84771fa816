/-! Words of the reference: a place of a version is a number: the entry (7 bits), the side (2), the level (3), the numbers of the nodes that hold it (13 bits each, the innermost lowest). -/
def ft_pt : List Nat → Nat
  | [] => 0
  | n :: p => n + 8192 * ft_pt p
def ft_wd (sd : Nat) (q : Nat × List Nat) : Nat := q.1 + 128 * sd + 512 * q.2.length + 4096 * ft_pt q.2
def ft_fit (q : Nat × List Nat) : Prop := q.1 < 128 ∧ q.2.length ≤ 3 ∧ ∀ d ∈ q.2, d < 8192
def ft_stl (k s v : Nat) : Nat := v % 128 + 128 * s + 512 * k + 4096 * ((v / 4096) % 8192 ^ k)
theorem ft_pt_lt {p : List Nat} (h : ∀ d ∈ p, d < 8192) : ft_pt p < 8192 ^ p.length := by
  induction p with
  | nil => simp [ft_pt]
  | cons n p ih =>
    have h1 := h n (by simp)
    have h2 := ih (fun d hd => h d (by simp [hd]))
    simp only [ft_pt, List.length_cons, Nat.pow_succ]
    omega
theorem ft_pt_app (p : List Nat) (n : Nat) : ft_pt (p ++ [n]) = ft_pt p + n * 8192 ^ p.length := by
  induction p with
  | nil => simp [ft_pt]
  | cons a p ih =>
    simp only [List.cons_append, ft_pt, ih, List.length_cons, Nat.pow_succ, Nat.mul_add]
    rw [show n * (8192 ^ p.length * 8192) = 8192 * (n * 8192 ^ p.length) from by rw [Nat.mul_comm 8192, Nat.mul_assoc]]
    omega
theorem ft_pt_take {p : List Nat} (h : ∀ d ∈ p, d < 8192) (k : Nat) : ft_pt p % 8192 ^ k = ft_pt (p.take k) := by
  induction p generalizing k with
  | nil => simp [ft_pt]
  | cons n p ih =>
    cases k with
    | zero => simp [ft_pt, Nat.mod_one]
    | succ k =>
      have h1 := h n (by simp)
      have h2 := ih (fun d hd => h d (by simp [hd])) k
      simp only [List.take_succ_cons, ft_pt, Nat.pow_succ]
      rw [← h2, Nat.mul_comm (8192 ^ k) 8192, Nat.mod_mul, Nat.add_mul_mod_self_left, Nat.mod_eq_of_lt h1, Nat.add_mul_div_left _ _ (by decide : 0 < 8192), Nat.div_eq_of_lt h1, Nat.zero_add]
theorem ft_pt_get {p : List Nat} (h : ∀ d ∈ p, d < 8192) (j : Nat) : ft_pt p / 8192 ^ j % 8192 = p.getD j 0 := by
  induction p generalizing j with
  | nil => simp [ft_pt]
  | cons n p ih =>
    have h1 := h n (by simp)
    cases j with
    | zero => simp [ft_pt, Nat.mod_eq_of_lt h1]
    | succ j =>
      have h2 := ih (fun d hd => h d (by simp [hd])) j
      simp only [ft_pt, Nat.pow_succ, List.getD_cons_succ]
      rw [← h2, Nat.mul_comm (8192 ^ j) 8192, ← Nat.div_div_eq_div_mul, Nat.add_mul_div_left _ _ (by decide : 0 < 8192), Nat.div_eq_of_lt h1, Nat.zero_add]
theorem ft_wd_lt {sd : Nat} {q : Nat × List Nat} (h : ft_fit q) (hs : sd < 4) : ft_wd sd q < 2251799813685248 := by
  have h1 := ft_pt_lt h.2.2
  have h2 : 8192 ^ q.2.length ≤ 8192 ^ 3 := Nat.pow_le_pow_right (by decide) h.2.1
  have h3 := h.1
  have h4 := h.2.1
  unfold ft_wd
  omega
theorem ft_wd_entry {sd : Nat} {q : Nat × List Nat} (h : ft_fit q) : ft_wd sd q % 128 = q.1 := by
  have h3 := h.1
  unfold ft_wd
  omega
theorem ft_wd_side {sd : Nat} {q : Nat × List Nat} (h : ft_fit q) (hs : sd < 4) : ft_wd sd q / 128 % 4 = sd := by
  have h3 := h.1
  unfold ft_wd
  omega
theorem ft_wd_level {sd : Nat} {q : Nat × List Nat} (h : ft_fit q) (hs : sd < 4) : ft_wd sd q / 512 % 8 = q.2.length := by
  have h3 := h.1
  have h4 := h.2.1
  unfold ft_wd
  omega
theorem ft_wd_hi {sd : Nat} {q : Nat × List Nat} (h : ft_fit q) (hs : sd < 4) : ft_wd sd q / 4096 = ft_pt q.2 := by
  have h3 := h.1
  have h4 := h.2.1
  unfold ft_wd
  omega
theorem ft_wd_node {sd : Nat} {q : Nat × List Nat} (h : ft_fit q) (hs : sd < 4) (j : Nat) : ft_wd sd q / (4096 * 8192 ^ j) % 8192 = q.2.getD j 0 := by
  rw [← Nat.div_div_eq_div_mul, ft_wd_hi h hs, ft_pt_get h.2.2]
theorem ft_stl_wd {sd : Nat} {q : Nat × List Nat} (h : ft_fit q) (hs : sd < 4) (k s : Nat) (hk : k ≤ q.2.length) : ft_stl k s (ft_wd sd q) = ft_wd s (q.1, q.2.take k) := by
  unfold ft_stl
  rw [ft_wd_entry h, ft_wd_hi h hs, ft_pt_take h.2.2]
  simp only [ft_wd, List.length_take, Nat.min_eq_left hk]
/-- the node's number m is set above a word of level j, and the word is settled at level j + 1 -/
theorem ft_stl_wrap {sd : Nat} {q : Nat × List Nat} (h : ft_fit q) (hs : sd < 4) {j m : Nat} (s : Nat) (hj : q.2.length = j) (hm : m < 8192) : ft_stl (j + 1) s (ft_wd sd q % (4096 * 8192 ^ j) + m * (4096 * 8192 ^ j)) = ft_wd s (q.1, q.2 ++ [m]) := by
  have h0 := ft_pt_lt h.2.2
  rw [hj] at h0
  have hlo : ft_wd sd q % (4096 * 8192 ^ j) = ft_wd sd q := by
    apply Nat.mod_eq_of_lt
    have h3 := h.1
    have h4 := h.2.1
    have : ft_wd sd q < 4096 * (ft_pt q.2 + 1) := by unfold ft_wd; omega
    exact Nat.lt_of_lt_of_le this (Nat.mul_le_mul_left _ h0)
  rw [hlo, show m * (4096 * 8192 ^ j) = 4096 * (m * 8192 ^ j) from by rw [← Nat.mul_assoc, Nat.mul_comm m 4096, Nat.mul_assoc]]
  have e1 : (ft_wd sd q + 4096 * (m * 8192 ^ j)) % 128 = q.1 := by
    have := ft_wd_entry (sd := sd) h
    omega
  have e2 : (ft_wd sd q + 4096 * (m * 8192 ^ j)) / 4096 = ft_pt (q.2 ++ [m]) := by
    rw [Nat.add_mul_div_left _ _ (by decide : 0 < 4096), ft_wd_hi h hs, ft_pt_app, hj]
  have hall : ∀ d ∈ q.2 ++ [m], d < 8192 := by
    intro d hd
    simp only [List.mem_append, List.mem_singleton] at hd
    rcases hd with hd | rfl
    · exact h.2.2 d hd
    · exact hm
  have e3 : (q.2 ++ [m]).take (j + 1) = q.2 ++ [m] := List.take_of_length_le (by simp [hj])
  unfold ft_stl
  rw [e1, e2, ft_pt_take hall, e3]
  simp only [ft_wd, List.length_append, List.length_singleton, hj]
/-- an array holds a list from a place on -/
def ft_hd (w : Nat → Nat) (s : Nat) (L : List Nat) : Prop := ∀ (i x : Nat), L[i]? = some x → w (s + i) = x
theorem ft_hd_nil (w : Nat → Nat) (s : Nat) : ft_hd w s [] := fun i x h => by simp at h
theorem ft_hd_app {w : Nat → Nat} {s : Nat} {A B : List Nat} : ft_hd w s (A ++ B) ↔ ft_hd w s A ∧ ft_hd w (s + A.length) B := by
  constructor
  · intro h
    refine ⟨fun i x hi => h i x ?_, fun i x hi => ?_⟩
    · rw [List.getElem?_append_left (List.getElem?_eq_some_iff.1 hi).1]; exact hi
    · have := h (A.length + i) x (by rw [List.getElem?_append_right (Nat.le_add_right _ _), Nat.add_sub_cancel_left]; exact hi)
      rw [Nat.add_assoc]; exact this
  · intro ⟨h1, h2⟩ i x hi
    by_cases hlt : i < A.length
    · rw [List.getElem?_append_left hlt] at hi; exact h1 i x hi
    · rw [List.getElem?_append_right (Nat.le_of_not_lt hlt)] at hi
      have := h2 (i - A.length) x hi
      rw [show s + A.length + (i - A.length) = s + i from by omega] at this
      exact this
theorem ft_hd_congr {w w' : Nat → Nat} {s : Nat} {L : List Nat} (h : ft_hd w s L) (he : ∀ q, s ≤ q → q < s + L.length → w' q = w q) : ft_hd w' s L := fun i x hi => by
  rw [he (s + i) (Nat.le_add_right _ _) (Nat.add_lt_add_left (List.getElem?_eq_some_iff.1 hi).1 _)]
  exact h i x hi
theorem ft_hd_map {w w' : Nat → Nat} {s : Nat} {P : List (Nat × List Nat)} {f g : Nat × List Nat → Nat} (h : ft_hd w s (P.map f)) (he : ∀ i q, P[i]? = some q → w (s + i) = f q → w' (s + i) = g q) : ft_hd w' s (P.map g) := fun i x hi => by
  rw [List.getElem?_map] at hi
  cases hq : P[i]? with
  | none => rw [hq] at hi; cases hi
  | some q =>
    rw [hq] at hi
    cases hi
    exact he i q hq (h i _ (by rw [List.getElem?_map, hq]; rfl))
/-- what settle does to the array -/
def ft_sw (w : Nat → Nat) (a b k s : Nat) : Nat → Nat := fun q => if a ≤ q ∧ q < b then ft_stl k s (w q) else w q
/-- what wrap does to the array (ahead of its settle) -/
def ft_ww (w : Nat → Nat) (a b j m : Nat) : Nat → Nat := fun q => if a ≤ q ∧ q < b then w q % (4096 * 8192 ^ j) + m * (4096 * 8192 ^ j) else w q
theorem ft_sw_in {w : Nat → Nat} {a b k s sd z : Nat} {P : List (Nat × List Nat)} (h : ft_hd w z (P.map (ft_wd sd))) (hs : sd < 4) (hf : ∀ q ∈ P, ft_fit q ∧ k ≤ q.2.length) (ha : a ≤ z) (hb : z + P.length ≤ b) : ft_hd (ft_sw w a b k s) z (P.map (fun q => ft_wd s (q.1, q.2.take k))) :=
  ft_hd_map h (fun i q hq hw => by
    have hi := (List.getElem?_eq_some_iff.1 hq).1
    have hm := hf q (List.mem_of_getElem? hq)
    unfold ft_sw
    rw [if_pos ⟨by omega, by omega⟩, hw, ft_stl_wd hm.1 hs k s hm.2])
theorem ft_sw_out {w : Nat → Nat} {a b k s z : Nat} {L : List Nat} (h : ft_hd w z L) (hd : z + L.length ≤ a ∨ b ≤ z) : ft_hd (ft_sw w a b k s) z L :=
  ft_hd_congr h (fun q h1 h2 => by unfold ft_sw; rw [if_neg (by omega)])
theorem ft_wr_in {w : Nat → Nat} {a b j m s sd z : Nat} {P : List (Nat × List Nat)} (h : ft_hd w z (P.map (ft_wd sd))) (hs : sd < 4) (hf : ∀ q ∈ P, ft_fit q ∧ q.2.length = j) (hm : m < 8192) (ha : a ≤ z) (hb : z + P.length ≤ b) : ft_hd (ft_sw (ft_ww w a b j m) a b (j + 1) s) z (P.map (fun q => ft_wd s (q.1, q.2 ++ [m]))) :=
  ft_hd_map h (fun i q hq hw => by
    have hi := (List.getElem?_eq_some_iff.1 hq).1
    have hq := hf q (List.mem_of_getElem? hq)
    unfold ft_sw ft_ww
    rw [if_pos ⟨by omega, by omega⟩, if_pos ⟨by omega, by omega⟩, hw, ft_stl_wrap hq.1 hs s hq.2 hm])
theorem ft_ww_out {w : Nat → Nat} {a b j m z : Nat} {L : List Nat} (h : ft_hd w z L) (hd : z + L.length ≤ a ∨ b ≤ z) : ft_hd (ft_ww w a b j m) z L :=
  ft_hd_congr h (fun q h1 h2 => by unfold ft_ww; rw [if_neg (by omega)])
/-- the words of an item, a row, a tree -/
def ft_wI (sd : Nat) (x : ft_I) : List Nat := (ft_lv x).map (ft_wd sd)
def ft_wR (sd : Nat) (l : List ft_I) : List Nat := (ft_lR l).map (ft_wd sd)
def ft_wT : ft_S → Option ft_I → List Nat
  | [], none => []
  | [], some x => ft_wI 2 x
  | d :: sp, o => ft_wR 0 d.1 ++ ft_wT sp o ++ ft_wR 1 d.2
theorem ft_wI_len (sd : Nat) (x : ft_I) : (ft_wI sd x).length = ft_z x := by simp [ft_wI, ft_lv_len]
theorem ft_wR_len (sd : Nat) (l : List ft_I) : (ft_wR sd l).length = ft_zR l := by simp [ft_wR, ft_lR_len]
theorem ft_wT_len (sp : ft_S) (o : Option ft_I) : (ft_wT sp o).length = ft_zT sp o := by
  induction sp with
  | nil => cases o with
    | none => rfl
    | some x => simp [ft_wT, ft_zT, ft_wI_len]
  | cons d sp ih => simp only [ft_wT, ft_zT, List.length_append, ft_wR_len, ih]
theorem ft_wR_app (sd : Nat) (a b : List ft_I) : ft_wR sd (a ++ b) = ft_wR sd a ++ ft_wR sd b := by simp [ft_wR, ft_lR_app]
theorem ft_wR_cons (sd : Nat) (x : ft_I) (l : List ft_I) : ft_wR sd (x :: l) = ft_wI sd x ++ ft_wR sd l := by simp [ft_wR, ft_wI, ft_lR]
theorem ft_wR_nil (sd : Nat) : ft_wR sd [] = [] := rfl
theorem ft_wR_one (sd : Nat) (x : ft_I) : ft_wR sd [x] = ft_wI sd x := by simp [ft_wR, ft_wI, ft_lR]
