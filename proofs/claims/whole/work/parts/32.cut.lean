/-! Contract of the reference: cut. -/
/-- the words of an item inside of larger nodes: ex are their numbers, the innermost first -/
def ft_wX (sd : Nat) (ex : List Nat) (x : ft_I) : List Nat := (ft_lv x).map (fun q => ft_wd sd (q.1, q.2 ++ ex))
def ft_wY (sd : Nat) (ex : List Nat) (l : List ft_I) : List Nat := (ft_lR l).map (fun q => ft_wd sd (q.1, q.2 ++ ex))
theorem ft_wX_nil (sd : Nat) (x : ft_I) : ft_wX sd [] x = ft_wI sd x := by
  unfold ft_wX ft_wI
  exact List.map_congr_left (fun q _ => by rw [List.append_nil])
theorem ft_wX_nd (sd n : Nat) (ex : List Nat) (l : List ft_I) : ft_wX sd ex (ft_nd n l) = ft_wY sd (n :: ex) l := by
  unfold ft_wX ft_wY
  rw [ft_lv_nd, List.map_map]
  exact List.map_congr_left (fun q _ => by simp [Function.comp])
theorem ft_wX_len (sd : Nat) (ex : List Nat) (x : ft_I) : (ft_wX sd ex x).length = ft_z x := by simp [ft_wX, ft_lv_len]
theorem ft_wY_len (sd : Nat) (ex : List Nat) (l : List ft_I) : (ft_wY sd ex l).length = ft_zR l := by simp [ft_wY, ft_lR_len]
theorem ft_wY_app (sd : Nat) (ex : List Nat) (a b : List ft_I) : ft_wY sd ex (a ++ b) = ft_wY sd ex a ++ ft_wY sd ex b := by simp [ft_wY, ft_lR_app]
theorem ft_wY_one (sd : Nat) (ex : List Nat) (x : ft_I) : ft_wY sd ex [x] = ft_wX sd ex x := by simp [ft_wY, ft_wX, ft_lR]
theorem ft_split3 {l : List ft_I} {i : Nat} (hi : i < l.length) : l = l.take i ++ ([l.getD i ft_no] ++ l.drop (i + 1)) := by
  rw [List.getD_eq_getElem?_getD, List.getElem?_eq_getElem hi, Option.getD_some, List.singleton_append, List.getElem_cons_drop, List.take_append_drop]
theorem ft_hdY3 {w : Nat → Nat} {s sd i : Nat} {ex : List Nat} {l : List ft_I} (hi : i < l.length) (h : ft_hd w s (ft_wY sd ex l)) : ft_hd w s (ft_wY sd ex (l.take i)) ∧ ft_hd w (s + ft_zR (l.take i)) (ft_wX sd ex (l.getD i ft_no)) ∧ ft_hd w (s + ft_zR (l.take i) + ft_z (l.getD i ft_no)) (ft_wY sd ex (l.drop (i + 1))) := by
  rw [ft_split3 hi, ft_wY_app, ft_wY_app, ft_hd_app, ft_hd_app, ft_wY_one, ft_wY_len, ft_wX_len] at h
  exact h
theorem ft_hdR3 {w : Nat → Nat} {s sd i : Nat} {l : List ft_I} (hi : i < l.length) (h : ft_hd w s (ft_wR sd l)) : ft_hd w s (ft_wR sd (l.take i)) ∧ ft_hd w (s + ft_zR (l.take i)) (ft_wI sd (l.getD i ft_no)) ∧ ft_hd w (s + ft_zR (l.take i) + ft_z (l.getD i ft_no)) (ft_wR sd (l.drop (i + 1))) := by
  rw [ft_split3 hi, ft_wR_app, ft_wR_app, ft_hd_app, ft_hd_app, ft_wR_one, ft_wR_len, ft_wI_len] at h
  exact h
theorem ft_fit_ex {ne mm : Nat} {zf : Nat → Nat} {k : Nat} {x : ft_I} {ex : List Nat} (h : ft_ok ne mm zf k x) (hne : ne ≤ 128) (hmm : mm < 8192) (hk : k + ex.length ≤ 3) (hex : ∀ d ∈ ex, d < 8192) : ∀ q ∈ ft_lv x, ft_fit (q.1, q.2 ++ ex) ∧ q.2.length = k := fun q hq => by
  obtain ⟨a1, a2, a3⟩ := ft_ok_leaf h q hq
  refine ⟨⟨by simp only []; omega, by simp only [List.length_append]; omega, fun d hd => ?_⟩, a2⟩
  rcases List.mem_append.1 hd with hd | hd
  · have := a3 d hd; omega
  · exact hex d hd
theorem ft_hdX_at {ne mm : Nat} {zf w : Nat → Nat} {k s sd : Nat} {x : ft_I} {ex : List Nat} (h : ft_ok ne mm zf k x) (hw : ft_hd w s (ft_wX sd ex x)) (hne : ne ≤ 128) (hmm : mm < 4200) (hk : k + ex.length ≤ 3) (hex : ∀ d ∈ ex, d < 8192) (hs : sd < 4) : ∀ j, k = j + 1 → w s / (4096 * 8192 ^ j) % 8192 < 4200 ∧ zf (w s / (4096 * 8192 ^ j) % 8192) = ft_z x := by
  intro j hj
  subst hj
  have hp := ft_ok_zpos h
  obtain ⟨q, hq, e⟩ := ft_hd_at (i := 0) hw (by rw [ft_lv_len]; omega)
  rw [Nat.add_zero] at e
  have hf := ft_fit_ex h hne (by omega) hk hex q hq
  have hl := ft_ok_leaf h q hq
  rw [e, ft_wd_node hf.1 hs]
  have hg : (q.2 ++ ex).getD j 0 = q.2.getD j 0 := by
    rw [List.getD_eq_getElem?_getD, List.getD_eq_getElem?_getD, List.getElem?_append_left (by rw [hl.2.1]; omega)]
  simp only [hg]
  refine ⟨?_, ft_ok_num h q hq⟩
  have hm : q.2.getD j 0 ∈ q.2 := by
    rw [List.getD_eq_getElem?_getD, List.getElem?_eq_getElem (by rw [hl.2.1]; omega)]
    exact List.getElem_mem _
  have := (hl.2.2 _ hm).2
  omega
theorem ft_sw_Y {ne mm : Nat} {zf : Nat → Nat} {w : Nat → Nat} {a b k s sd z : Nat} {l : List ft_I} {ex : List Nat} (ok : ft_okR ne mm zf k l) (h : ft_hd w z (ft_wY sd ex l)) (hne : ne ≤ 128) (hmm : mm < 8192) (hk : k + ex.length ≤ 3) (hex : ∀ d ∈ ex, d < 8192) (hs : sd < 4) (ha : a ≤ z) (hb : z + ft_zR l ≤ b) : ft_hd (ft_sw w a b k s) z (ft_wR s l) := by
  refine ft_hd_map h (fun i q hq hw => ?_)
  have hi := (List.getElem?_eq_some_iff.1 hq).1
  rw [ft_lR_len] at hi
  obtain ⟨y, hy, hqy⟩ := ft_lR_mem.1 (List.mem_of_getElem? hq)
  have hf := ft_fit_ex (ok y hy) hne hmm hk hex q hqy
  unfold ft_sw
  rw [if_pos ⟨by omega, by omega⟩, hw, ft_stl_wd hf.1 hs k s (by simp only [List.length_append]; omega)]
  congr 1
  simp only []
  rw [List.take_append_of_le_length (by omega), List.take_of_length_le (by omega)]
/-- the outer digits of a cut, the innermost first -/
def ft_hf (en md : Nat) (zf : Nat → Nat) (n : Nat) (w : Nat → Nat) : Nat → Nat → ft_S → Prop
  | f, E, [] => f = 0 ∧ E = n
  | f, E, d :: rs => ∃ g, f = g + ft_zR d.1 ∧ ft_hd w g (ft_wR 0 d.1) ∧ ft_hd w E (ft_wR 1 d.2) ∧ (1 ≤ d.1.length ∧ d.1.length ≤ 4 ∧ ft_okR en md zf rs.length d.1) ∧ (1 ≤ d.2.length ∧ d.2.length ≤ 4 ∧ ft_okR en md zf rs.length d.2) ∧ ft_hf en md zf n w g (E + ft_zR d.2) rs
theorem ft_hf_eo {en md : Nat} {zf : Nat → Nat} {n : Nat} {w w' : Nat → Nat} : ∀ {rs : ft_S} {f E f' E' : Nat}, ft_eo w w' f' E' → f ≤ f' → E' ≤ E → ft_hf en md zf n w f E rs → ft_hf en md zf n w' f E rs := by
  intro rs
  induction rs with
  | nil => intro f E f' E' _ _ _ h; exact h
  | cons d rs ih =>
    intro f E f' E' he h1 h2 h
    obtain ⟨g, e1, a1, a2, a3, a4, a5⟩ := h
    exact ⟨g, e1, ft_eo_hd he a1 (Or.inl (by rw [ft_wR_len]; omega)), ft_eo_hd he a2 (Or.inr h2), a3, a4, ih he (by omega) (by omega) a5⟩
theorem ft_hf_b {en md : Nat} {zf : Nat → Nat} {n : Nat} {w : Nat → Nat} : ∀ {rs : ft_S} {f E : Nat}, ft_hf en md zf n w f E rs → 2 ^ rs.length ≤ f + 1 ∧ E + 2 ^ rs.length ≤ n + 1 := by
  intro rs
  induction rs with
  | nil => intro f E h; obtain ⟨rfl, rfl⟩ := h; simp
  | cons d rs ih =>
    intro f E h
    obtain ⟨g, e1, a1, a2, a3, a4, a5⟩ := h
    have h1 := ih a5
    have h2 := ft_okR_z a3.2.2
    have h3 := ft_okR_z a4.2.2
    have h4 : 1 * 2 ^ rs.length ≤ d.1.length * 2 ^ rs.length := Nat.mul_le_mul_right _ a3.1
    have h5 : 1 * 2 ^ rs.length ≤ d.2.length * 2 ^ rs.length := Nat.mul_le_mul_right _ a4.1
    rw [List.length_cons, Nat.pow_succ]
    omega
theorem ft_hf_beg {en md : Nat} {zf : Nat → Nat} {n : Nat} {w : Nat → Nat} {rs : ft_S} {f E : Nat} (h : ft_hf en md zf n w f E rs) (he : en ≤ 128) (hm : md < 8192) (hr : rs.length ≤ 4) : 0 < f → ft_le8 (w (f - 1)) < rs.length := by
  cases rs with
  | nil => obtain ⟨rfl, rfl⟩ := h; intro h; omega
  | cons d rs =>
    obtain ⟨g, e1, a1, a2, a3, a4, a5⟩ := h
    intro _
    have h2 := ft_okR_z a3.2.2
    have h4 : 1 * 2 ^ rs.length ≤ d.1.length * 2 ^ rs.length := Nat.mul_le_mul_right _ a3.1
    have := Nat.one_le_two_pow (n := rs.length)
    simp only [List.length_cons] at hr ⊢
    have := ft_wR_at (i := ft_zR d.1 - 1) a3.2.2 a1 he hm (by omega) (by decide) (by omega)
    rw [show g + (ft_zR d.1 - 1) = f - 1 from by omega] at this
    omega
theorem ft_hf_end {en md : Nat} {zf : Nat → Nat} {n : Nat} {w : Nat → Nat} {rs : ft_S} {f E : Nat} (h : ft_hf en md zf n w f E rs) (he : en ≤ 128) (hm : md < 8192) (hr : rs.length ≤ 4) : E < n → ft_le8 (w E) < rs.length := by
  cases rs with
  | nil => obtain ⟨rfl, rfl⟩ := h; intro h; omega
  | cons d rs =>
    obtain ⟨g, e1, a1, a2, a3, a4, a5⟩ := h
    intro _
    have h2 := ft_okR_z a4.2.2
    have h4 : 1 * 2 ^ rs.length ≤ d.2.length * 2 ^ rs.length := Nat.mul_le_mul_right _ a4.1
    have := Nat.one_le_two_pow (n := rs.length)
    simp only [List.length_cons] at hr ⊢
    have := ft_wR_at (i := 0) a4.2.2 a2 he hm (by omega) (by decide) (by omega)
    rw [Nat.add_zero] at this
    omega
/-- a cut of the innermost tree becomes one of the outermost -/
def ft_uw : ft_S → ft_T × ft_I × ft_T → Nat → ft_T × ft_I × ft_T
  | [], c, _ => c
  | d :: rs, c, q => ft_uw rs (ft_cs d c q) (q + ft_zR d.1)
theorem ft_ix_le {l : List ft_I} {q j : Nat} (hq : q < ft_zR l) (hj : j < ft_ix l q) : ft_zR (l.take (j + 1)) ≤ q := by
  have h1 := (ft_ix_sp hq).1
  have h2 : l.take (j + 1) = (l.take (ft_ix l q)).take (j + 1) := by rw [List.take_take, Nat.min_eq_left (by omega)]
  have h3 := ft_zR_td (l.take (ft_ix l q)) (j + 1)
  rw [h2]
  omega
theorem ft_zR_tk1 {l : List ft_I} {j : Nat} (hj : j < l.length) : ft_zR (l.take (j + 1)) = ft_zR (l.take j) + ft_z (l.getD j ft_no) := by
  have h1 := ft_zR_tg l hj
  have h2 := ft_zR_td l (j + 1)
  omega
theorem C_M_endX (l : Launch) (D : va_G) (A : Nat → ClassId) (H : Heap) (a : Nat → Nat) (lo hi : Nat → Int32) (en md vs n : Nat) (zf mk pl ct w : Nat → Nat) (hP : mH D a A lo hi en zf mk md pl ct vs w n H) (hw : ft_bw w) (hz : ∀ i, zf i < 128) (ne mm k s sd : Nat) (ex : List Nat) (x : ft_I) (ok : ft_ok ne mm zf k x) (hx : ft_hd w s (ft_wX sd ex x)) (hne : ne ≤ 128) (hmm : mm < 4200) (hk : k + ex.length ≤ 3) (hex : ∀ d ∈ ex, d < 8192) (hsd : sd < 4) (hs : s < 48) : xC l y_M_end c_M_end 3 (some .int) 1 D A H [.ref (a 0), .int (nI s), .int (nI k)] (fun _ => False) (q1 (.int (nI (s + ft_z x))) (fun H1 => H1 = H)) 0 0 := by
  have h1 := ft_hdX_at ok hx hne hmm hk hex hsd
  have h := C_M_end l D A H a lo hi en md vs n zf mk pl ct w hP hw hz s k hs (by omega) (fun j hj => (h1 j hj).1)
  have e : ft_end zf w s k = s + ft_z x := by
    unfold ft_end
    cases k with
    | zero => rw [if_pos rfl, ft_ok_z0 ok]
    | succ k => rw [if_neg (by omega), Nat.add_sub_cancel, (h1 k rfl).2]
  rw [e] at h
  exact h
set_option maxRecDepth 100000 in
set_option maxHeartbeats 4000000 in
theorem C_M_cut (l : Launch) (D : va_G) (A : Nat → ClassId) (H0 : Heap) (a : Nat → Nat) (lo hi : Nat → Int32) (en md vs n : Nat) (zf mk pl ct w : Nat → Nat) (hP : mH D a A lo hi en zf mk md pl ct vs w n H0) (hd : mDs a) (hw : ft_bw w) (hz : ∀ i, zf i < 128) (he : en ≤ 128) (hm : md < 4200) (sp : ft_S) (o : Option ft_I) (p : Nat) (okt : ft_okT en md zf 0 sp o) (ht : ft_hd w 0 (ft_wT sp o)) (hn40 : n ≤ 40) (hnn : n = ft_zT sp o) (hp : p < n) : xC l y_M_cut c_M_cut 9 (none : Option FieldType) 4 D A H0 [.ref (a 0), .int (nI p)] (mFr a) (q0 (fun H1 => ∃ w', mH D a A lo hi en zf mk md pl ct vs w' n H1 ∧ ft_bw w' ∧ ft_hd w' 0 (ft_wT (ft_cu sp o p).1.1 (ft_cu sp o p).1.2) ∧ ft_hd w' (ft_zT (ft_cu sp o p).1.1 (ft_cu sp o p).1.2) (ft_wI 3 (ft_cu sp o p).2.1) ∧ ft_hd w' (ft_zT (ft_cu sp o p).1.1 (ft_cu sp o p).1.2 + ft_z (ft_cu sp o p).2.1) (ft_wT (ft_cu sp o p).2.2.1 (ft_cu sp o p).2.2.2))) 0 0 := by
  refine xC.of rfl (Nat.le_of_ble_eq_true rfl) ?_
  intro p_ e_ s_ m_ ar_ bl_ me_ c_ ls X hl
  have hl : lz ls 9 [some (.ref (a 0)), some (.int (nI p)), none, none, none, none, none, none, none] := hl
  have hS : va_S (mFr a) H0 H0 [] := va_S.rf
  generalize hPost : (fun H1 => ∃ w', mH D a A lo hi en zf mk md pl ct vs w' n H1 ∧ ft_bw w' ∧ ft_hd w' 0 (ft_wT (ft_cu sp o p).1.1 (ft_cu sp o p).1.2) ∧ ft_hd w' (ft_zT (ft_cu sp o p).1.1 (ft_cu sp o p).1.2) (ft_wI 3 (ft_cu sp o p).2.1) ∧ ft_hd w' (ft_zT (ft_cu sp o p).1.1 (ft_cu sp o p).1.2 + ft_z (ft_cu sp o p).2.1) (ft_wT (ft_cu sp o p).2.2.1 (ft_cu sp o p).2.2.2)) = Post
  have ph2 : ∀ (rs : ft_S) (c : ft_T × ft_I × ft_T) (f q sd : Nat) (ex : List Nat) (w : Nat → Nat) (s3 s4 : Int32) (v7 v8 : Option Value) (H1 : Heap) (locs : List Loc) (ls : Array Slot), lz ls 9 [some (.ref (a 0)), some (.int (nI p)), some (.int (nI rs.length)), some (.int s3), some (.int s4), some (.int (nI (f + ft_zT c.1.1 c.1.2))), some (.int (nI (f + ft_zT c.1.1 c.1.2 + ft_z c.2.1))), v7, v8] → mH D a A lo hi en zf mk md pl ct vs w n H1 → ft_bw w → ft_okT en md zf rs.length c.1.1 c.1.2 → ft_ok en md zf rs.length c.2.1 → ft_okT en md zf rs.length c.2.2.1 c.2.2.2 → ft_hd w f (ft_wT c.1.1 c.1.2) → ft_hd w (f + ft_zT c.1.1 c.1.2) (ft_wX sd ex c.2.1) → ft_hd w (f + ft_zT c.1.1 c.1.2 + ft_z c.2.1) (ft_wT c.2.2.1 c.2.2.2) → sd < 4 → rs.length + ex.length ≤ 3 → (∀ d ∈ ex, d < 8192) → p = f + q → ft_zT c.1.1 c.1.2 ≤ q → q < ft_zT c.1.1 c.1.2 + ft_z c.2.1 → ft_hf en md zf n w f (f + ft_zT c.1.1 c.1.2 + ft_z c.2.1 + ft_zT c.2.2.1 c.2.2.2) rs →
      (∀ (w' : Nat → Nat) (H1 : Heap), mH D a A lo hi en zf mk md pl ct vs w' n H1 → ft_bw w' → ft_hd w' 0 (ft_wT (ft_uw rs c q).1.1 (ft_uw rs c q).1.2) → ft_hd w' (ft_zT (ft_uw rs c q).1.1 (ft_uw rs c q).1.2) (ft_wI 3 (ft_uw rs c q).2.1) → ft_hd w' (ft_zT (ft_uw rs c q).1.1 (ft_uw rs c q).1.2 + ft_z (ft_uw rs c q).2.1) (ft_wT (ft_uw rs c q).2.2.1 (ft_uw rs c q).2.2.2) → Post H1) → va_S (mFr a) H0 H1 locs → W p_ l e_ (x_rm 4 0 0) s_ m_ ar_ bl_ me_ c_ H1 locs 0 0 (MQ bl_ (xQ (mFr a) (q0 Post)) ar_ s_ 0 0 (mFr a)) (F0 m_ 169 ls []) := by
    clear hPost hP hw okt ht hl hS hnn
    intro rs
    induction rs with
    | nil =>
      intro c f q sd ex w s3 s4 v7 v8 H1 locs ls hl hP hw okb okx oka hb hx ha hsd hk hex hpq hq1 hq2 hhf hQ hS
      obtain ⟨rfl, hEn⟩ := hhf
      have hzx := ft_ok_z0 okx
      simp only [List.length_nil, Nat.zero_add] at hl hb hx ha hpq hEn okx
      have hpe : p = ft_zT c.1.1 c.1.2 := by omega
      simp only [ft_uw] at hQ
      refine x_iload_n X d_M_cut_169 rfl hl rfl ?_
      refine n_if_le X 257 d_M_cut_170 rfl (by decide) (fun hc => ?_) (fun hc => absurd hc (by decide))
      refine x_aload_n X d_M_cut_257 rfl hl rfl ?_
      refine x_iload_n X d_M_cut_258 rfl hl rfl ?_
      refine x_iload_n X d_M_cut_259 rfl hl rfl ?_
      refine x_iconst (v := nI 1) X d_M_cut_260 rfl ?_
      refine n_iadd X d_M_cut_261 ?_
      refine x_iconst (v := nI 0) X d_M_cut_262 rfl ?_
      refine x_iconst (v := nI 3) X d_M_cut_263 rfl ?_
      refine x_go0 (x_runV X (C_M_settle l D A _ a lo hi en md vs n zf mk pl ct w hP hd hw p (p + 1) 0 3 (by omega) (by omega) (by omega) (by decide)) b_M_settle s_M_settle v_M_settle e_M_56 (m_at hP) rfl rfl hl rfl (Nat.le_of_ble_eq_true rfl) d_M_cut_264 (Nat.le_of_ble_eq_true rfl) (Nat.le_of_ble_eq_true rfl) ⟨Nat.le_of_ble_eq_true rfl, Nat.le_of_ble_eq_true rfl⟩) hS (fun _ h => h) (fun H locs hP hF hS => ?_)
      have okr1 : ft_okR en md zf 0 [c.2.1] := ft_okR_one okx
      have hy1 : ft_hd w (ft_zT c.1.1 c.1.2) (ft_wY sd ex [c.2.1]) := by rw [ft_wY_one]; exact hx
      have hs1 := ft_sw_Y (a := p) (b := p + 1) (s := 3) okr1 hy1 he (by omega) (by simpa using hk) hex hsd (by omega) (by simp [ft_zR]; omega)
      rw [ft_wR_one] at hs1
      exact x_vret X hS (Nat.le_refl _) (Nat.le_refl _) d_M_cut_267 ⟨rfl, hQ _ _ hP (ft_bw_sw hw (by decide) (by decide)) (ft_sw_out hb (Or.inl (by rw [ft_wT_len]; omega))) hs1 (ft_sw_out ha (Or.inr (by omega)))⟩
    | cons d rs ih =>
      intro c f q sd ex w s3 s4 v7 v8 H1 locs ls hl hP hw okb okx oka hb hx ha hsd hk hex hpq hq1 hq2 hhf hQ hS
      have hbb := ft_hf_b hhf
      obtain ⟨g, hg, a1, a2, a3, a4, a5⟩ := hhf
      have hbb2 := ft_hf_b a5
      simp only [List.length_cons] at hl hk okb okx oka hbb
      have hk' : rs.length + (ex.length + 1) ≤ 3 := by omega
      have hzx2 := ft_ok_z okx
      rw [Nat.pow_succ] at hzx2 hbb
      obtain ⟨nn, lst, hxn, hlen, hn1, hn2, hzn, okl⟩ := id okx
      have okl : ft_okR en md zf rs.length lst := okl
      have hps : ft_ps c.2.1 = lst := by rw [hxn, ft_ps_nd]
      have hzc : ft_z c.2.1 = ft_zR lst := by rw [hxn, ft_z_nd]
      rw [hxn, ft_wX_nd] at hx
      have hex' : ∀ d ∈ nn :: ex, d < 8192 := fun d hd => by
        rcases List.mem_cons.1 hd with rfl | hd
        · omega
        · exact hex d hd
      have hexl : (nn :: ex).length = ex.length + 1 := rfl
      have hqi : q - ft_zT c.1.1 c.1.2 < ft_zR lst := by omega
      have hilt := ft_ix_lt (l := lst) (q - ft_zT c.1.1 c.1.2) (by omega)
      have hisp := ft_ix_sp hqi
      have hile : ∀ j, j < ft_ix lst (q - ft_zT c.1.1 c.1.2) → ft_zR (lst.take (j + 1)) ≤ q - ft_zT c.1.1 c.1.2 := fun j hj => ft_ix_le hqi hj
      have hcs : ft_cs d c q = (ft_op d.1 c.1.1 c.1.2 (lst.take (ft_ix lst (q - ft_zT c.1.1 c.1.2))), lst.getD (ft_ix lst (q - ft_zT c.1.1 c.1.2)) ft_no, ft_op (lst.drop (ft_ix lst (q - ft_zT c.1.1 c.1.2) + 1)) c.2.2.1 c.2.2.2 d.2) := by
        unfold ft_cs; rw [hps]
      simp only [ft_uw, hcs] at hQ
      rw [hzc] at ha hl a2 a5
      generalize ft_ix lst (q - ft_zT c.1.1 c.1.2) = i at hilt hisp hile hQ
      clear hcs
      have htg := ft_zR_tg lst hilt
      have okyi : ft_ok en md zf rs.length (lst.getD i ft_no) := okl _ (ft_getD_mem hilt)
      have hzy := ft_ok_z okyi
      have hzyp := ft_ok_zpos okyi
      have h2k := Nat.one_le_two_pow (n := rs.length)
      refine x_iload_n X d_M_cut_169 rfl hl rfl ?_
      refine n_if_le X 257 d_M_cut_170 rfl (by omega) (fun hc => absurd hc (by omega)) (fun hc => ?_)
      refine n_idec X d_M_cut_173 (by omega) hl rfl (by decide) rfl (fun ls hl => ?_)
      refine x_iload X d_M_cut_176 hl rfl ?_
      refine x_istore X d_M_cut_178 hl (by decide) rfl (fun ls hl => ?_)
      rw [Nat.add_sub_cancel] at hl
      have srch : ∀ (g j : Nat) (locs : List Loc) (ls : Array Slot), i - j = g → j ≤ i → lz ls 9 [some (.ref (a 0)), some (.int (nI p)), some (.int (nI rs.length)), some (.int s3), some (.int s4), some (.int (nI (f + ft_zT c.1.1 c.1.2))), some (.int (nI (f + ft_zT c.1.1 c.1.2 + ft_zR lst))), some (.int (nI (f + ft_zT c.1.1 c.1.2 + ft_zR (lst.take j)))), v8] → va_S (mFr a) H0 H1 locs →
          (∀ (locs : List Loc) (ls : Array Slot), lz ls 9 [some (.ref (a 0)), some (.int (nI p)), some (.int (nI rs.length)), some (.int s3), some (.int s4), some (.int (nI (f + ft_zT c.1.1 c.1.2))), some (.int (nI (f + ft_zT c.1.1 c.1.2 + ft_zR lst))), some (.int (nI (f + ft_zT c.1.1 c.1.2 + ft_zR (lst.take i)))), v8] → va_S (mFr a) H0 H1 locs → W p_ l e_ (x_rm 4 0 0) s_ m_ ar_ bl_ me_ c_ H1 locs 0 0 (MQ bl_ (xQ (mFr a) (q0 Post)) ar_ s_ 0 0 (mFr a)) (F0 m_ 203 ls [])) → W p_ l e_ (x_rm 4 0 0) s_ m_ ar_ bl_ me_ c_ H1 locs 0 0 (MQ bl_ (xQ (mFr a) (q0 Post)) ar_ s_ 0 0 (mFr a)) (F0 m_ 180 ls []) := by
        intro g
        induction g with
        | zero =>
          intro j locs ls hg hj hl hS kk
          have hje : j = i := by omega
          subst hje
          have hyj := (ft_hdY3 hilt hx).2.1
          refine x_aload_n X d_M_cut_180 rfl hl rfl ?_
          refine x_iload X d_M_cut_181 hl rfl ?_
          refine x_iload_n X d_M_cut_183 rfl hl rfl ?_
          refine x_goR (x_runV X (C_M_endX l D A _ a lo hi en md vs n zf mk pl ct w hP hw hz en md rs.length _ sd (nn :: ex) (lst.getD j ft_no) (okl _ (ft_getD_mem (by omega))) hyj he hm (by rw [hexl]; omega) hex' hsd (by omega)) b_M_end s_M_end v_M_end e_M_60 (m_at hP) rfl rfl hl rfl (Nat.le_of_ble_eq_true rfl) d_M_cut_184 (Nat.le_of_ble_eq_true rfl) (Nat.le_of_ble_eq_true rfl) ⟨Nat.le_of_ble_eq_true rfl, Nat.le_of_ble_eq_true rfl⟩) hS (fun locs hS => ?_)
          refine x_iload_n X d_M_cut_187 rfl hl rfl ?_
          refine n_icmp_gt X 203 d_M_cut_188 rfl (by omega) (by omega) (fun hc => ?_) (fun hc => absurd hc (by omega))
          exact kk _ _ hl hS
        | succ g ih2 =>
          intro j locs ls hg hj hl hS kk
          have hjl : j < lst.length := by omega
          have hyj := (ft_hdY3 hjl hx).2.1
          have hzj := hile j (by omega)
          have htk := ft_zR_tk1 hjl
          have hzle := ft_zR_td lst (j + 1)
          refine x_aload_n X d_M_cut_180 rfl hl rfl ?_
          refine x_iload X d_M_cut_181 hl rfl ?_
          refine x_iload_n X d_M_cut_183 rfl hl rfl ?_
          refine x_goR (x_runV X (C_M_endX l D A _ a lo hi en md vs n zf mk pl ct w hP hw hz en md rs.length _ sd (nn :: ex) (lst.getD j ft_no) (okl _ (ft_getD_mem (by omega))) hyj he hm (by rw [hexl]; omega) hex' hsd (by omega)) b_M_end s_M_end v_M_end e_M_60 (m_at hP) rfl rfl hl rfl (Nat.le_of_ble_eq_true rfl) d_M_cut_184 (Nat.le_of_ble_eq_true rfl) (Nat.le_of_ble_eq_true rfl) ⟨Nat.le_of_ble_eq_true rfl, Nat.le_of_ble_eq_true rfl⟩) hS (fun locs hS => ?_)
          refine x_iload_n X d_M_cut_187 rfl hl rfl ?_
          refine n_icmp_gt X 203 d_M_cut_188 rfl (by omega) (by omega) (fun hc => absurd hc (by omega)) (fun hc => ?_)
          refine x_aload_n X d_M_cut_191 rfl hl rfl ?_
          refine x_iload X d_M_cut_192 hl rfl ?_
          refine x_iload_n X d_M_cut_194 rfl hl rfl ?_
          refine x_goR (x_runV X (C_M_endX l D A _ a lo hi en md vs n zf mk pl ct w hP hw hz en md rs.length _ sd (nn :: ex) (lst.getD j ft_no) (okl _ (ft_getD_mem (by omega))) hyj he hm (by rw [hexl]; omega) hex' hsd (by omega)) b_M_end s_M_end v_M_end e_M_60 (m_at hP) rfl rfl hl rfl (Nat.le_of_ble_eq_true rfl) d_M_cut_195 (Nat.le_of_ble_eq_true rfl) (Nat.le_of_ble_eq_true rfl) ⟨Nat.le_of_ble_eq_true rfl, Nat.le_of_ble_eq_true rfl⟩) hS (fun locs hS => ?_)
          refine x_istore X d_M_cut_198 hl (by decide) rfl (fun ls hl => ?_)
          refine x_goto X 180 d_M_cut_200 rfl ?_
          rw [Nat.add_assoc (f + ft_zT c.1.1 c.1.2), ← htk] at hl
          exact ih2 (j + 1) _ _ (by omega) (by omega) hl hS kk
      refine srch i 0 _ _ rfl (Nat.zero_le _) (by simp only [List.take_zero, ft_zR, Nat.add_zero]; exact hl) hS (fun locs ls hl hS => ?_)
      clear srch
      obtain ⟨x1, x2, x3⟩ := ft_hdY3 hilt hx
      refine x_aload_n X d_M_cut_203 rfl hl rfl ?_
      refine x_iload X d_M_cut_204 hl rfl ?_
      refine x_iload_n X d_M_cut_206 rfl hl rfl ?_
      refine x_goR (x_runV X (C_M_endX l D A _ a lo hi en md vs n zf mk pl ct w hP hw hz en md rs.length _ sd (nn :: ex) (lst.getD i ft_no) (okl _ (ft_getD_mem (by omega))) x2 he hm (by rw [hexl]; omega) hex' hsd (by omega)) b_M_end s_M_end v_M_end e_M_60 (m_at hP) rfl rfl hl rfl (Nat.le_of_ble_eq_true rfl) d_M_cut_207 (Nat.le_of_ble_eq_true rfl) (Nat.le_of_ble_eq_true rfl) ⟨Nat.le_of_ble_eq_true rfl, Nat.le_of_ble_eq_true rfl⟩) hS (fun locs hS => ?_)
      refine x_istore X d_M_cut_210 hl (by decide) rfl (fun ls hl => ?_)
      refine x_aload_n X d_M_cut_212 rfl hl rfl ?_
      refine x_iload X d_M_cut_213 hl rfl ?_
      refine x_iload X d_M_cut_215 hl rfl ?_
      refine x_iload_n X d_M_cut_217 rfl hl rfl ?_
      refine x_iconst (v := nI 1) X d_M_cut_218 rfl ?_
      refine x_go0 (x_runV X (C_M_settle l D A _ a lo hi en md vs n zf mk pl ct w hP hd hw (f + ft_zT c.1.1 c.1.2) (f + ft_zT c.1.1 c.1.2 + ft_zR (lst.take i)) rs.length 1 (by omega) (by omega) (by omega) (by decide)) b_M_settle s_M_settle v_M_settle e_M_56 (m_at hP) rfl rfl hl rfl (Nat.le_of_ble_eq_true rfl) d_M_cut_219 (Nat.le_of_ble_eq_true rfl) (Nat.le_of_ble_eq_true rfl) ⟨Nat.le_of_ble_eq_true rfl, Nat.le_of_ble_eq_true rfl⟩) hS (fun _ h => h) (fun H locs hP hF hS => ?_)
      have p1 := ft_sw_Y (s := 1) (ft_okR_take okl i) x1 he (by omega) (by rw [hexl]; omega) hex' hsd (Nat.le_refl (f + ft_zT c.1.1 c.1.2)) (Nat.le_refl _)
      have p2 := ft_sw_out (a := (f + ft_zT c.1.1 c.1.2)) (b := (f + ft_zT c.1.1 c.1.2 + ft_zR (lst.take i))) (k := rs.length) (s := 1) x2 (Or.inr (Nat.le_refl _))
      have p3 := ft_sw_out (a := (f + ft_zT c.1.1 c.1.2)) (b := (f + ft_zT c.1.1 c.1.2 + ft_zR (lst.take i))) (k := rs.length) (s := 1) x3 (Or.inr (by omega))
      have pw := ft_bw_sw (a := (f + ft_zT c.1.1 c.1.2)) (b := (f + ft_zT c.1.1 c.1.2 + ft_zR (lst.take i))) (k := rs.length) (s := 1) hw (by omega) (by decide)
      have pe := ft_eo_sw w (f + ft_zT c.1.1 c.1.2) (f + ft_zT c.1.1 c.1.2 + ft_zR (lst.take i)) rs.length 1
      generalize ft_sw w (f + ft_zT c.1.1 c.1.2) (f + ft_zT c.1.1 c.1.2 + ft_zR (lst.take i)) rs.length 1 = w1 at hP p1 p2 p3 pw pe
      refine x_aload_n X d_M_cut_222 rfl hl rfl ?_
      refine x_iload X d_M_cut_223 hl rfl ?_
      refine x_iload X d_M_cut_225 hl rfl ?_
      refine x_iload_n X d_M_cut_227 rfl hl rfl ?_
      refine x_iconst (v := nI 0) X d_M_cut_228 rfl ?_
      refine x_go0 (x_runV X (C_M_settle l D A _ a lo hi en md vs n zf mk pl ct w1 hP hd pw (f + ft_zT c.1.1 c.1.2 + ft_zR (lst.take i) + ft_z (lst.getD i ft_no)) (f + ft_zT c.1.1 c.1.2 + ft_zR lst) rs.length 0 (by omega) (by omega) (by omega) (by decide)) b_M_settle s_M_settle v_M_settle e_M_56 (m_at hP) rfl rfl hl rfl (Nat.le_of_ble_eq_true rfl) d_M_cut_229 (Nat.le_of_ble_eq_true rfl) (Nat.le_of_ble_eq_true rfl) ⟨Nat.le_of_ble_eq_true rfl, Nat.le_of_ble_eq_true rfl⟩) hS (fun _ h => h) (fun H locs hP hF hS => ?_)
      have r1 := ft_sw_out (a := (f + ft_zT c.1.1 c.1.2 + ft_zR (lst.take i) + ft_z (lst.getD i ft_no))) (b := (f + ft_zT c.1.1 c.1.2 + ft_zR lst)) (k := rs.length) (s := 0) p1 (Or.inl (by rw [ft_wR_len]; omega))
      have r2 := ft_sw_out (a := (f + ft_zT c.1.1 c.1.2 + ft_zR (lst.take i) + ft_z (lst.getD i ft_no))) (b := (f + ft_zT c.1.1 c.1.2 + ft_zR lst)) (k := rs.length) (s := 0) p2 (Or.inl (by rw [ft_wX_len]; omega))
      have r3 := ft_sw_Y (b := (f + ft_zT c.1.1 c.1.2 + ft_zR lst)) (s := 0) (ft_okR_drop okl (i + 1)) p3 he (by omega) (by rw [hexl]; omega) hex' hsd (Nat.le_refl (f + ft_zT c.1.1 c.1.2 + ft_zR (lst.take i) + ft_z (lst.getD i ft_no))) (by omega)
      have rw2 := ft_bw_sw (a := (f + ft_zT c.1.1 c.1.2 + ft_zR (lst.take i) + ft_z (lst.getD i ft_no))) (b := (f + ft_zT c.1.1 c.1.2 + ft_zR lst)) (k := rs.length) (s := 0) pw (by omega) (by decide)
      have re : ft_eo w (ft_sw w1 (f + ft_zT c.1.1 c.1.2 + ft_zR (lst.take i) + ft_z (lst.getD i ft_no)) (f + ft_zT c.1.1 c.1.2 + ft_zR lst) rs.length 0) (f + ft_zT c.1.1 c.1.2) (f + ft_zT c.1.1 c.1.2 + ft_zR lst) := ft_eo_tr (ft_eo_wd pe (Nat.le_refl _) (by omega)) (ft_eo_wd (ft_eo_sw _ _ _ _ _) (by omega) (Nat.le_refl _))
      generalize ft_sw w1 (f + ft_zT c.1.1 c.1.2 + ft_zR (lst.take i) + ft_z (lst.getD i ft_no)) (f + ft_zT c.1.1 c.1.2 + ft_zR lst) rs.length 0 = w2 at hP r1 r2 r3 rw2 re
      have bb := ft_eo_hd re hb (Or.inl (by rw [ft_wT_len]; exact Nat.le_refl _))
      have aa := ft_eo_hd re ha (Or.inr (Nat.le_refl _))
      have dd1 := ft_eo_hd re a1 (Or.inl (by rw [ft_wR_len]; omega))
      have dd2 := ft_eo_hd re a2 (Or.inr (by omega))
      have hff := ft_hf_eo re (by omega) (by omega) a5
      rw [hg] at bb r1
      have hye : (f + ft_zT c.1.1 c.1.2 + ft_zR (lst.take i)) = g + (ft_zR d.1 + ft_zT c.1.1 c.1.2 + ft_zR (lst.take i)) := by omega
      have okt1 := ft_okR_take okl i
      have okt2 := ft_okR_drop okl (i + 1)
      have lt1 : (lst.take i).length ≤ 3 := by rw [List.length_take]; omega
      have lt2 : (lst.drop (i + 1)).length ≤ 3 := by rw [List.length_drop]; omega
      refine x_aload_n X d_M_cut_232 rfl hl rfl ?_
      refine x_iload X d_M_cut_233 hl rfl ?_
      refine x_iload_n X d_M_cut_235 rfl hl rfl ?_
      rw [hye]
      refine x_go0 (x_runV X (C_M_closeRight l D A _ a lo hi en md vs n zf mk pl ct w2 hP hd rw2 hz he hm (by omega) rs.length g d.1 (lst.take i) c.1.1 c.1.2 a3.2.2 okt1 okb dd1 bb r1 a3.1 a3.2.1 (by omega) (by omega) (by omega) (ft_hf_beg hff he (by omega) (by omega))) b_M_closeRight s_M_closeRight v_M_closeRight e_M_82 (m_at hP) rfl rfl hl rfl (Nat.le_of_ble_eq_true rfl) d_M_cut_236 (Nat.le_of_ble_eq_true rfl) (Nat.le_of_ble_eq_true rfl) ⟨Nat.le_of_ble_eq_true rfl, Nat.le_of_ble_eq_true rfl⟩) hS (fun _ h => h) (fun H locs hP hF hS => ?_)
      obtain ⟨w3, hP, hw3, hh3, heo3⟩ := hP
      rw [← hye] at heo3
      have y3 := ft_eo_hd heo3 r2 (Or.inr (Nat.le_refl _))
      have z3 := ft_eo_hd heo3 r3 (Or.inr (by omega))
      have aa3 := ft_eo_hd heo3 aa (Or.inr (by omega))
      have dd3 := ft_eo_hd heo3 dd2 (Or.inr (by omega))
      have hff3 := ft_hf_eo heo3 (Nat.le_refl _) (by omega) hff
      have hxe : (f + ft_zT c.1.1 c.1.2 + ft_zR lst) = (f + ft_zT c.1.1 c.1.2 + ft_zR (lst.take i) + ft_z (lst.getD i ft_no)) + ft_zR (lst.drop (i + 1)) := by omega
      rw [hxe] at aa3 dd3 hff3
      have hse : (f + ft_zT c.1.1 c.1.2 + ft_zR (lst.take i) + ft_z (lst.getD i ft_no)) + (ft_zR (lst.drop (i + 1)) + ft_zT c.2.2.1 c.2.2.2 + ft_zR d.2) = (f + ft_zT c.1.1 c.1.2 + ft_zR (lst.take i) + ft_z (lst.getD i ft_no)) + ft_zR (lst.drop (i + 1)) + ft_zT c.2.2.1 c.2.2.2 + ft_zR d.2 := by omega
      refine x_aload_n X d_M_cut_239 rfl hl rfl ?_
      refine x_iload X d_M_cut_240 hl rfl ?_
      refine x_iload_n X d_M_cut_242 rfl hl rfl ?_
      refine x_go0 (x_runV X (C_M_closeLeft l D A _ a lo hi en md vs n zf mk pl ct w3 hP hd hw3 hz he hm (by omega) rs.length (f + ft_zT c.1.1 c.1.2 + ft_zR (lst.take i) + ft_z (lst.getD i ft_no)) (lst.drop (i + 1)) d.2 c.2.2.1 c.2.2.2 okt2 a4.2.2 oka z3 aa3 dd3 (by omega) a4.1 a4.2.1 (by omega) (by omega) (by rw [hse]; exact ft_hf_end hff3 he (by omega) (by omega))) b_M_closeLeft s_M_closeLeft v_M_closeLeft e_M_78 (m_at hP) rfl rfl hl rfl (Nat.le_of_ble_eq_true rfl) d_M_cut_243 (Nat.le_of_ble_eq_true rfl) (Nat.le_of_ble_eq_true rfl) ⟨Nat.le_of_ble_eq_true rfl, Nat.le_of_ble_eq_true rfl⟩) hS (fun _ h => h) (fun H locs hP hF hS => ?_)
      obtain ⟨w4, hP, hw4, hh4, heo4⟩ := hP
      rw [hse] at heo4
      have o1 := ft_op_ok okb a3.2.2 okt1 a3.2.1 (by omega) (Or.inl a3.1)
      have o2 := ft_op_ok oka okt2 a4.2.2 (by omega) a4.2.1 (Or.inr a4.1)
      have hys : (f + ft_zT c.1.1 c.1.2 + ft_zR (lst.take i)) = g + ft_zT (ft_op d.1 c.1.1 c.1.2 (lst.take i)).1 (ft_op d.1 c.1.1 c.1.2 (lst.take i)).2 := by rw [o1.2]; omega
      refine x_iload X d_M_cut_246 hl rfl ?_
      refine x_istore X d_M_cut_248 hl (by decide) rfl (fun ls hl => ?_)
      refine x_iload X d_M_cut_250 hl rfl ?_
      refine x_istore X d_M_cut_252 hl (by decide) rfl (fun ls hl => ?_)
      refine x_goto X 169 d_M_cut_254 rfl ?_
      rw [hys] at hl y3 hh4 heo4 hff3
      refine ih (ft_op d.1 c.1.1 c.1.2 (lst.take i), lst.getD i ft_no, ft_op (lst.drop (i + 1)) c.2.2.1 c.2.2.2 d.2) g (q + ft_zR d.1) sd (nn :: ex) w4 s3 s4 _ _ _ _ _ hl hP hw4 o1.1 okyi o2.1 (ft_eo_hd heo4 hh3 (Or.inl (by rw [ft_wT_len]; dsimp only; omega))) (ft_eo_hd heo4 y3 (Or.inl (by rw [ft_wX_len]; exact Nat.le_refl _))) hh4 hsd (by rw [hexl]; omega) hex' (by omega) (by dsimp only; rw [o1.2]; omega) (by dsimp only; rw [o1.2]; omega) ?_ hQ hS
      simp only [o2.2]
      rw [← Nat.add_assoc, ← Nat.add_assoc]
      exact ft_hf_eo heo4 (by omega) (Nat.le_refl _) hff3
  have dn : ∀ (base s k m : Nat) (locs : List Loc) (ls : Array Slot), s < 2 → k ≤ 3 → (∀ j, j < m → ft_le8 (w (base + j)) = k ∧ ft_sd (w (base + j)) = s) → ft_isb n w base k s = 0 → base + m ≤ n → lz ls 9 [some (.ref (a 0)), some (.int (nI p)), some (.int (nI k)), some (.int (nI s)), some (.int (nI (base + m))), none, none, none, none] → va_S (mFr a) H0 H0 locs →
      (∀ (locs : List Loc) (ls : Array Slot), lz ls 9 [some (.ref (a 0)), some (.int (nI p)), some (.int (nI k)), some (.int (nI s)), some (.int (nI base)), none, none, none, none] → va_S (mFr a) H0 H0 locs → W p_ l e_ (x_rm 4 0 0) s_ m_ ar_ bl_ me_ c_ H0 locs 0 0 (MQ bl_ (xQ (mFr a) (q0 Post)) ar_ s_ 0 0 (mFr a)) (F0 m_ 47 ls [])) → W p_ l e_ (x_rm 4 0 0) s_ m_ ar_ bl_ me_ c_ H0 locs 0 0 (MQ bl_ (xQ (mFr a) (q0 Post)) ar_ s_ 0 0 (mFr a)) (F0 m_ 23 ls []) := by
    clear ph2 hl hS
    intro base s k m
    induction m with
    | zero =>
      intro locs ls hs2 hk hj h0 hbn hl hS kk
      rw [Nat.add_zero] at hl
      refine x_iload_n X d_M_cut_23 rfl hl rfl ?_
      refine x_iconst (v := nI 2) X d_M_cut_24 rfl ?_
      refine n_icmp_ge X 47 d_M_cut_25 rfl (by omega) (by omega) (fun hc => absurd hc (by omega)) (fun hc => ?_)
      refine x_aload_n X d_M_cut_28 rfl hl rfl ?_
      refine x_iload X d_M_cut_29 hl rfl ?_
      refine x_iconst (v := nI 1) X d_M_cut_31 rfl ?_
      refine x_isub X d_M_cut_32 ?_
      refine x_iload_n X d_M_cut_33 rfl hl rfl ?_
      refine x_iload_n X d_M_cut_34 rfl hl rfl ?_
      refine x_goR (x_runV X (C_M_isb l D A _ a lo hi en md vs n zf mk pl ct w hP hw (by omega) base k s (by omega) (by omega) (by omega)) b_M_is s_M_is v_M_is e_M_64 (m_at hP) rfl rfl hl rfl (Nat.le_of_ble_eq_true rfl) d_M_cut_35 (Nat.le_of_ble_eq_true rfl) (Nat.le_of_ble_eq_true rfl) ⟨Nat.le_of_ble_eq_true rfl, Nat.le_of_ble_eq_true rfl⟩) hS (fun locs hS => ?_)
      rw [h0]
      refine n_if_eq X 47 d_M_cut_38 rfl (by omega) (fun hc => ?_) (fun hc => absurd rfl hc)
      exact kk _ _ hl hS
    | succ m ih =>
      intro locs ls hs2 hk hj h0 hbn hl hS kk
      have hm1 := hj m (Nat.lt_succ_self m)
      refine x_iload_n X d_M_cut_23 rfl hl rfl ?_
      refine x_iconst (v := nI 2) X d_M_cut_24 rfl ?_
      refine n_icmp_ge X 47 d_M_cut_25 rfl (by omega) (by omega) (fun hc => absurd hc (by omega)) (fun hc => ?_)
      refine x_aload_n X d_M_cut_28 rfl hl rfl ?_
      refine x_iload X d_M_cut_29 hl rfl ?_
      refine x_iconst (v := nI 1) X d_M_cut_31 rfl ?_
      refine x_isub X d_M_cut_32 ?_
      refine x_iload_n X d_M_cut_33 rfl hl rfl ?_
      refine x_iload_n X d_M_cut_34 rfl hl rfl ?_
      refine x_goR (x_runV X (C_M_isb l D A _ a lo hi en md vs n zf mk pl ct w hP hw (by omega) (base + (m + 1)) k s (by omega) (by omega) (by omega)) b_M_is s_M_is v_M_is e_M_64 (m_at hP) rfl rfl hl rfl (Nat.le_of_ble_eq_true rfl) d_M_cut_35 (Nat.le_of_ble_eq_true rfl) (Nat.le_of_ble_eq_true rfl) ⟨Nat.le_of_ble_eq_true rfl, Nat.le_of_ble_eq_true rfl⟩) hS (fun locs hS => ?_)
      rw [ft_isb1 (by omega) (by omega) hm1]
      refine n_if_eq X 47 d_M_cut_38 rfl (by omega) (fun hc => absurd hc (by decide)) (fun hc => ?_)
      refine n_idec X d_M_cut_41 (by omega) hl rfl (by decide) rfl (fun ls hl => ?_)
      refine x_goto X 23 d_M_cut_44 rfl ?_
      exact ih _ _ hs2 hk (fun j h => hj j (by omega)) h0 (by omega) hl hS kk
  have srch : ∀ (row : List ft_I) (base sd k i : Nat) (s3 s4 : Int32) (g j : Nat) (locs : List Loc) (ls : Array Slot), ft_okR en md zf k row → ft_hd w base (ft_wR sd row) → sd < 4 → k ≤ 3 → i < row.length → ft_zR (row.take i) ≤ p - base → p - base < ft_zR (row.take i) + ft_z (row.getD i ft_no) → base ≤ p → base + ft_zR row ≤ 48 → (∀ j, j < i → ft_zR (row.take (j + 1)) ≤ p - base) → i - j = g → j ≤ i → lz ls 9 [some (.ref (a 0)), some (.int (nI p)), some (.int (nI k)), some (.int s3), some (.int s4), some (.int (nI (base + ft_zR (row.take j)))), none, none, none] → va_S (mFr a) H0 H0 locs →
      (∀ (locs : List Loc) (ls : Array Slot), lz ls 9 [some (.ref (a 0)), some (.int (nI p)), some (.int (nI k)), some (.int s3), some (.int s4), some (.int (nI (base + ft_zR (row.take i)))), some (.int (nI (base + ft_zR (row.take i) + ft_z (row.getD i ft_no)))), none, none] → va_S (mFr a) H0 H0 locs → W p_ l e_ (x_rm 4 0 0) s_ m_ ar_ bl_ me_ c_ H0 locs 0 0 (MQ bl_ (xQ (mFr a) (q0 Post)) ar_ s_ 0 0 (mFr a)) (F0 m_ 107 ls [])) → W p_ l e_ (x_rm 4 0 0) s_ m_ ar_ bl_ me_ c_ H0 locs 0 0 (MQ bl_ (xQ (mFr a) (q0 Post)) ar_ s_ 0 0 (mFr a)) (F0 m_ 75 ls []) := by
    clear ph2 dn hl hS
    intro row base sd k i s3 s4 g
    induction g with
    | zero =>
      intro j locs ls okr hr hsd hk hi1 h1 h2 hbp h48 hle hg hj hl hS kk
      have hje : j = i := by omega
      subst hje
      have hyj := (ft_hdR3 hi1 hr).2.1
      have htg := ft_zR_tg row hi1
      refine x_aload_n X d_M_cut_75 rfl hl rfl ?_
      refine x_iload X d_M_cut_76 hl rfl ?_
      refine x_iload_n X d_M_cut_78 rfl hl rfl ?_
      refine x_goR (x_runV X (C_M_endI l D A _ a lo hi en md vs n zf mk pl ct w hP hw hz en md k _ sd (row.getD j ft_no) (okr _ (ft_getD_mem (by omega))) hyj he hm hk hsd (by omega)) b_M_end s_M_end v_M_end e_M_60 (m_at hP) rfl rfl hl rfl (Nat.le_of_ble_eq_true rfl) d_M_cut_79 (Nat.le_of_ble_eq_true rfl) (Nat.le_of_ble_eq_true rfl) ⟨Nat.le_of_ble_eq_true rfl, Nat.le_of_ble_eq_true rfl⟩) hS (fun locs hS => ?_)
      refine x_iload_n X d_M_cut_82 rfl hl rfl ?_
      refine n_icmp_gt X 98 d_M_cut_83 rfl (by omega) (by omega) (fun hc => ?_) (fun hc => absurd hc (by omega))
      refine x_aload_n X d_M_cut_98 rfl hl rfl ?_
      refine x_iload X d_M_cut_99 hl rfl ?_
      refine x_iload_n X d_M_cut_101 rfl hl rfl ?_
      refine x_goR (x_runV X (C_M_endI l D A _ a lo hi en md vs n zf mk pl ct w hP hw hz en md k _ sd (row.getD j ft_no) (okr _ (ft_getD_mem (by omega))) hyj he hm hk hsd (by omega)) b_M_end s_M_end v_M_end e_M_60 (m_at hP) rfl rfl hl rfl (Nat.le_of_ble_eq_true rfl) d_M_cut_102 (Nat.le_of_ble_eq_true rfl) (Nat.le_of_ble_eq_true rfl) ⟨Nat.le_of_ble_eq_true rfl, Nat.le_of_ble_eq_true rfl⟩) hS (fun locs hS => ?_)
      refine x_istore X d_M_cut_105 hl (by decide) rfl (fun ls hl => ?_)
      exact kk _ _ hl hS
    | succ g ih =>
      intro j locs ls okr hr hsd hk hi1 h1 h2 hbp h48 hle hg hj hl hS kk
      have hjl : j < row.length := by omega
      have hyj := (ft_hdR3 hjl hr).2.1
      have htg := ft_zR_tg row hjl
      have hzj := hle j (by omega)
      have htk := ft_zR_tk1 hjl
      refine x_aload_n X d_M_cut_75 rfl hl rfl ?_
      refine x_iload X d_M_cut_76 hl rfl ?_
      refine x_iload_n X d_M_cut_78 rfl hl rfl ?_
      refine x_goR (x_runV X (C_M_endI l D A _ a lo hi en md vs n zf mk pl ct w hP hw hz en md k _ sd (row.getD j ft_no) (okr _ (ft_getD_mem (by omega))) hyj he hm hk hsd (by omega)) b_M_end s_M_end v_M_end e_M_60 (m_at hP) rfl rfl hl rfl (Nat.le_of_ble_eq_true rfl) d_M_cut_79 (Nat.le_of_ble_eq_true rfl) (Nat.le_of_ble_eq_true rfl) ⟨Nat.le_of_ble_eq_true rfl, Nat.le_of_ble_eq_true rfl⟩) hS (fun locs hS => ?_)
      refine x_iload_n X d_M_cut_82 rfl hl rfl ?_
      refine n_icmp_gt X 98 d_M_cut_83 rfl (by omega) (by omega) (fun hc => absurd hc (by omega)) (fun hc => ?_)
      refine x_aload_n X d_M_cut_86 rfl hl rfl ?_
      refine x_iload X d_M_cut_87 hl rfl ?_
      refine x_iload_n X d_M_cut_89 rfl hl rfl ?_
      refine x_goR (x_runV X (C_M_endI l D A _ a lo hi en md vs n zf mk pl ct w hP hw hz en md k _ sd (row.getD j ft_no) (okr _ (ft_getD_mem (by omega))) hyj he hm hk hsd (by omega)) b_M_end s_M_end v_M_end e_M_60 (m_at hP) rfl rfl hl rfl (Nat.le_of_ble_eq_true rfl) d_M_cut_90 (Nat.le_of_ble_eq_true rfl) (Nat.le_of_ble_eq_true rfl) ⟨Nat.le_of_ble_eq_true rfl, Nat.le_of_ble_eq_true rfl⟩) hS (fun locs hS => ?_)
      refine x_istore X d_M_cut_93 hl (by decide) rfl (fun ls hl => ?_)
      refine x_goto X 75 d_M_cut_95 rfl ?_
      rw [Nat.add_assoc, ← htk] at hl
      exact ih (j + 1) _ _ okr hr hsd hk hi1 h1 h2 hbp h48 hle (by omega) (by omega) hl hS kk
  have ph1 : ∀ (sq rs : ft_S) (f q : Nat), ft_okT en md zf rs.length sq o → ft_hd w f (ft_wT sq o) → q < ft_zT sq o → p = f + q → ft_hf en md zf n w f (f + ft_zT sq o) rs → ft_uw rs (ft_cu sq o q) q = ft_cu sp o p → W p_ l e_ (x_rm 4 0 0) s_ m_ ar_ bl_ me_ c_ H0 [] 0 0 (MQ bl_ (xQ (mFr a) (q0 Post)) ar_ s_ 0 0 (mFr a)) (F0 m_ 0 ls []) := by
    intro sq
    induction sq with
    | nil =>
      intro rs f q okq hq hqz hpq hhf hun
      cases hoo : o with
      | none => rw [hoo] at hqz; simp [ft_zT] at hqz
      | some y =>
        rw [hoo] at okq hq hqz hhf hun
        have oky : ft_ok en md zf rs.length y := okq
        have hy : ft_hd w f (ft_wI 2 y) := hq
        simp only [ft_zT] at hqz hhf
        have hbb := ft_hf_b hhf
        have hzy := ft_ok_z oky
        have h2k := Nat.one_le_two_pow (n := rs.length)
        have hk3 : rs.length ≤ 3 := ft_k3 (by omega)
        have hat := ft_wI_at (i := q) oky hy he (by omega) hk3 (by decide) hqz
        rw [← hpq] at hat
        have hl1 := hat.2.1
        have hs1 := hat.1
        dsimp only [ft_le8, ft_sd] at hl1 hs1
        have hwp := hw p
        have hbeg := ft_hf_beg hhf he (by omega) (by omega)
        refine x_aload_n X d_M_cut_0 rfl hl rfl ?_
        refine m_get X hP 9 (by decide) e_M_34 rfl d_M_cut_1 ?_
        refine x_iload_n X d_M_cut_4 rfl hl rfl ?_
        refine m_ld_w X hP (by omega) d_M_cut_5 ?_
        refine x_goR (x_runS X (C_M_level l D A _ (w p) (by omega)) b_M_level s_M_level e_M_40 rfl hl rfl (Nat.le_of_ble_eq_true rfl) d_M_cut_6 (Nat.le_of_ble_eq_true rfl) (Nat.le_of_ble_eq_true rfl) ⟨Nat.le_of_ble_eq_true rfl, Nat.le_of_ble_eq_true rfl⟩) hS (fun locs hS => ?_)
        rw [hl1]
        refine x_istore_n X d_M_cut_9 rfl hl (by decide) rfl (fun ls hl => ?_)
        refine x_aload_n X d_M_cut_10 rfl hl rfl ?_
        refine m_get X hP 9 (by decide) e_M_34 rfl d_M_cut_11 ?_
        refine x_iload_n X d_M_cut_14 rfl hl rfl ?_
        refine m_ld_w X hP (by omega) d_M_cut_15 ?_
        refine x_goR (x_runS X (C_M_side l D A _ (w p) (by omega)) b_M_side s_M_side e_M_44 rfl hl rfl (Nat.le_of_ble_eq_true rfl) d_M_cut_16 (Nat.le_of_ble_eq_true rfl) (Nat.le_of_ble_eq_true rfl) ⟨Nat.le_of_ble_eq_true rfl, Nat.le_of_ble_eq_true rfl⟩) hS (fun locs hS => ?_)
        rw [hs1]
        refine x_istore_n X d_M_cut_19 rfl hl (by decide) rfl (fun ls hl => ?_)
        refine x_iload_n X d_M_cut_20 rfl hl rfl ?_
        refine x_istore X d_M_cut_21 hl (by decide) rfl (fun ls hl => ?_)
        refine x_iload_n X d_M_cut_23 rfl hl rfl ?_
        refine x_iconst (v := nI 2) X d_M_cut_24 rfl ?_
        refine n_icmp_ge X 47 d_M_cut_25 rfl (by decide) (by decide) (fun hc => ?_) (fun hc => absurd hc (by decide))
        refine x_iload X d_M_cut_47 hl rfl ?_
        refine x_istore X d_M_cut_49 hl (by decide) rfl (fun ls hl => ?_)
        refine x_iload_n X d_M_cut_51 rfl hl rfl ?_
        refine x_iconst (v := nI 2) X d_M_cut_52 rfl ?_
        refine n_icmp_ne X 75 d_M_cut_53 rfl (by decide) (by decide) (fun hc => absurd rfl hc) (fun hc => ?_)
        have dn2 : ∀ (m : Nat) (locs : List Loc) (ls : Array Slot), m ≤ q → lz ls 9 [some (.ref (a 0)), some (.int (nI p)), some (.int (nI rs.length)), some (.int (nI 2)), some (.int (nI p)), some (.int (nI (f + m))), none, none, none] → va_S (mFr a) H0 H0 locs →
            (∀ (locs : List Loc) (ls : Array Slot), lz ls 9 [some (.ref (a 0)), some (.int (nI p)), some (.int (nI rs.length)), some (.int (nI 2)), some (.int (nI p)), some (.int (nI f)), none, none, none] → va_S (mFr a) H0 H0 locs → W p_ l e_ (x_rm 4 0 0) s_ m_ ar_ bl_ me_ c_ H0 locs 0 0 (MQ bl_ (xQ (mFr a) (q0 Post)) ar_ s_ 0 0 (mFr a)) (F0 m_ 75 ls [])) → W p_ l e_ (x_rm 4 0 0) s_ m_ ar_ bl_ me_ c_ H0 locs 0 0 (MQ bl_ (xQ (mFr a) (q0 Post)) ar_ s_ 0 0 (mFr a)) (F0 m_ 56 ls []) := by
          clear hl hS
          intro m
          induction m with
          | zero =>
            intro locs ls hmq hl hS kk
            rw [Nat.add_zero] at hl
            refine x_aload_n X d_M_cut_56 rfl hl rfl ?_
            refine x_iload X d_M_cut_57 hl rfl ?_
            refine x_iconst (v := nI 1) X d_M_cut_59 rfl ?_
            refine x_isub X d_M_cut_60 ?_
            refine x_iload_n X d_M_cut_61 rfl hl rfl ?_
            refine x_iconst (v := nI 2) X d_M_cut_62 rfl ?_
            refine x_goR (x_runV X (C_M_isb l D A _ a lo hi en md vs n zf mk pl ct w hP hw (by omega) f rs.length 2 (by omega) (by omega) (by decide)) b_M_is s_M_is v_M_is e_M_64 (m_at hP) rfl rfl hl rfl (Nat.le_of_ble_eq_true rfl) d_M_cut_63 (Nat.le_of_ble_eq_true rfl) (Nat.le_of_ble_eq_true rfl) ⟨Nat.le_of_ble_eq_true rfl, Nat.le_of_ble_eq_true rfl⟩) hS (fun locs hS => ?_)
            rw [ft_isb0 (fun h5 h6 => by have := hbeg h5; omega)]
            refine n_if_eq X 75 d_M_cut_66 rfl (by omega) (fun hc => ?_) (fun hc => absurd rfl hc)
            exact kk _ _ hl hS
          | succ m ih2 =>
            intro locs ls hmq hl hS kk
            have hati := ft_wI_at (i := m) oky hy he (by omega) hk3 (by decide) (by omega)
            refine x_aload_n X d_M_cut_56 rfl hl rfl ?_
            refine x_iload X d_M_cut_57 hl rfl ?_
            refine x_iconst (v := nI 1) X d_M_cut_59 rfl ?_
            refine x_isub X d_M_cut_60 ?_
            refine x_iload_n X d_M_cut_61 rfl hl rfl ?_
            refine x_iconst (v := nI 2) X d_M_cut_62 rfl ?_
            refine x_goR (x_runV X (C_M_isb l D A _ a lo hi en md vs n zf mk pl ct w hP hw (by omega) (f + (m + 1)) rs.length 2 (by omega) (by omega) (by decide)) b_M_is s_M_is v_M_is e_M_64 (m_at hP) rfl rfl hl rfl (Nat.le_of_ble_eq_true rfl) d_M_cut_63 (Nat.le_of_ble_eq_true rfl) (Nat.le_of_ble_eq_true rfl) ⟨Nat.le_of_ble_eq_true rfl, Nat.le_of_ble_eq_true rfl⟩) hS (fun locs hS => ?_)
            rw [ft_isb1 (by omega) (by omega) ⟨hati.2.1, hati.1⟩]
            refine n_if_eq X 75 d_M_cut_66 rfl (by omega) (fun hc => absurd hc (by decide)) (fun hc => ?_)
            refine n_idec X d_M_cut_69 (by omega) hl rfl (by decide) rfl (fun ls hl => ?_)
            refine x_goto X 56 d_M_cut_72 rfl ?_
            exact ih2 _ _ (by omega) hl hS kk
        refine dn2 q _ _ (Nat.le_refl _) (by rw [← hpq]; exact hl) hS (fun locs ls hl hS => ?_)
        clear dn2
        refine srch [y] f 2 rs.length 0 (nI 2) (nI p) 0 0 _ _ (ft_okR_one oky) (by rw [ft_wR_one]; exact hy) (by decide) hk3 (by simp) (by simp [ft_zR]) (by simp [ft_zR]; omega) (by omega) (by simp [ft_zR]; omega) (fun j hj => absurd hj (by omega)) rfl (Nat.le_refl _) (by simp only [List.take_zero, ft_zR, Nat.add_zero]; exact hl) hS (fun locs ls hl hS => ?_)
        simp only [List.take_zero, ft_zR, Nat.add_zero, List.getD_cons_zero] at hl
        refine x_iload_n X d_M_cut_107 rfl hl rfl ?_
        refine n_if_ne X 127 d_M_cut_108 rfl (by decide) (fun hc => ?_) (fun hc => absurd hc (by decide))
        refine x_iload_n X d_M_cut_127 rfl hl rfl ?_
        refine x_iconst (v := nI 1) X d_M_cut_128 rfl ?_
        refine n_icmp_ne X 169 d_M_cut_129 rfl (by decide) (by decide) (fun hc => ?_) (fun hc => absurd hc (by decide))
        refine ph2 rs (([], none), y, ([], none)) f q 2 [] w (nI 2) (nI p) none none H0 _ _ (by simp only [ft_zT, Nat.add_zero]; exact hl) hP hw trivial oky trivial (ft_hd_nil _ _) (by simp only [ft_zT, Nat.add_zero]; rw [ft_wX_nil]; exact hy) (ft_hd_nil _ _) (by decide) (by simpa using hk3) (fun d hd => by simp at hd) hpq (Nat.zero_le _) (by simp only [ft_zT]; omega) (by simp only [ft_zT, Nat.add_zero]; exact hhf) ?_ hS
        intro w' H1 b1 b2 b3 b4 b5
        have hun : ft_uw rs (([], none), y, ([], none)) q = ft_cu sp (some y) p := hun
        rw [hun, ← hoo] at b3 b4 b5
        rw [← hPost]
        exact ⟨w', b1, b2, b3, b4, b5⟩
    | cons d sq ih =>
      intro rs f q okq hq hqz hpq hhf hun
      obtain ⟨h1, h2, h3⟩ := ft_hd3 hq
      have hbb := ft_hf_b hhf
      have hzd := ft_okT_zd okq
      have hT : ft_zT (d :: sq) o = ft_zR d.1 + ft_zT sq o + ft_zR d.2 := rfl
      have hk3 : rs.length ≤ 3 := ft_k3 (by omega)
      have h2k := Nat.one_le_two_pow (n := rs.length)
      have hbeg := ft_hf_beg hhf he (by omega) (by omega)
      have hend := ft_hf_end hhf he (by omega) (by omega)
      have hwp := hw p
      by_cases hR : ft_zR d.1 + ft_zT sq o ≤ q
      rotate_left
      by_cases hL : q < ft_zR d.1
      rotate_left
      · refine ih (d :: rs) (f + ft_zR d.1) (q - ft_zR d.1) okq.2.2 h2 (by omega) (by omega) ⟨f, rfl, h1, h3, okq.1, okq.2.1, by rw [show f + ft_zR d.1 + ft_zT sq o + ft_zR d.2 = f + ft_zT (d :: sq) o from by omega]; exact hhf⟩ ?_
        rw [← hun]
        simp only [ft_uw]
        rw [Nat.sub_add_cancel (by omega)]
        congr 1
        simp only [ft_cu, if_neg hR, if_neg hL]
      · have hcu : ft_cu (d :: sq) o q = (ft_op d.1 sq o (d.2.take (ft_ix d.2 (q - (ft_zR d.1 + ft_zT sq o)))), d.2.getD (ft_ix d.2 (q - (ft_zR d.1 + ft_zT sq o))) ft_no, ft_ln (d.2.drop (ft_ix d.2 (q - (ft_zR d.1 + ft_zT sq o)) + 1))) := by simp only [ft_cu, if_pos hR]
        rw [hcu] at hun
        have hqr : q - (ft_zR d.1 + ft_zT sq o) < ft_zR d.2 := by omega
        have hilt := ft_ix_lt (l := d.2) (q - (ft_zR d.1 + ft_zT sq o)) okq.2.1.1
        have hisp := ft_ix_sp hqr
        have hile : ∀ j, j < ft_ix d.2 (q - (ft_zR d.1 + ft_zT sq o)) → ft_zR (d.2.take (j + 1)) ≤ q - (ft_zR d.1 + ft_zT sq o) := fun j hj => ft_ix_le hqr hj
        generalize ft_ix d.2 (q - (ft_zR d.1 + ft_zT sq o)) = i at hilt hisp hile hun
        have htg := ft_zR_tg d.2 hilt
        have hat := ft_wR_at (i := q - (ft_zR d.1 + ft_zT sq o)) okq.2.1.2.2 h3 he (by omega) hk3 (by decide) hqr
        rw [show (f + ft_zR d.1 + ft_zT sq o) + (q - (ft_zR d.1 + ft_zT sq o)) = p from by omega] at hat
        have hl1 := hat.2.1
        have hs1 := hat.1
        dsimp only [ft_le8, ft_sd] at hl1 hs1
        have okx := okq.2.1.2.2 _ (ft_getD_mem hilt)
        have hzx := ft_ok_z okx
        have okt1 := ft_okR_take okq.2.1.2.2 i
        have okt2 := ft_okR_drop okq.2.1.2.2 (i + 1)
        have d4 := okq.2.1.2.1
        have lt1 : (d.2.take i).length ≤ 4 := by rw [List.length_take]; omega
        have lt2 : (d.2.drop (i + 1)).length ≤ 4 := by rw [List.length_drop]; omega
        obtain ⟨x1, x2, x3⟩ := ft_hdR3 hilt h3
        have hah := ft_ahead okq.2.2 okq.1.2.2 okq.1.1 h1 h2 he (by omega) hk3 (fun hem => ft_k3 (by
          have := ft_okT_z okq.2.2 hem
          rw [Nat.pow_succ] at this ⊢
          omega))
        refine x_aload_n X d_M_cut_0 rfl hl rfl ?_
        refine m_get X hP 9 (by decide) e_M_34 rfl d_M_cut_1 ?_
        refine x_iload_n X d_M_cut_4 rfl hl rfl ?_
        refine m_ld_w X hP (by omega) d_M_cut_5 ?_
        refine x_goR (x_runS X (C_M_level l D A _ (w p) (by omega)) b_M_level s_M_level e_M_40 rfl hl rfl (Nat.le_of_ble_eq_true rfl) d_M_cut_6 (Nat.le_of_ble_eq_true rfl) (Nat.le_of_ble_eq_true rfl) ⟨Nat.le_of_ble_eq_true rfl, Nat.le_of_ble_eq_true rfl⟩) hS (fun locs hS => ?_)
        rw [hl1]
        refine x_istore_n X d_M_cut_9 rfl hl (by decide) rfl (fun ls hl => ?_)
        refine x_aload_n X d_M_cut_10 rfl hl rfl ?_
        refine m_get X hP 9 (by decide) e_M_34 rfl d_M_cut_11 ?_
        refine x_iload_n X d_M_cut_14 rfl hl rfl ?_
        refine m_ld_w X hP (by omega) d_M_cut_15 ?_
        refine x_goR (x_runS X (C_M_side l D A _ (w p) (by omega)) b_M_side s_M_side e_M_44 rfl hl rfl (Nat.le_of_ble_eq_true rfl) d_M_cut_16 (Nat.le_of_ble_eq_true rfl) (Nat.le_of_ble_eq_true rfl) ⟨Nat.le_of_ble_eq_true rfl, Nat.le_of_ble_eq_true rfl⟩) hS (fun locs hS => ?_)
        rw [hs1]
        refine x_istore_n X d_M_cut_19 rfl hl (by decide) rfl (fun ls hl => ?_)
        refine x_iload_n X d_M_cut_20 rfl hl rfl ?_
        refine x_istore X d_M_cut_21 hl (by decide) rfl (fun ls hl => ?_)
        refine dn (f + ft_zR d.1 + ft_zT sq o) 1 rs.length (q - (ft_zR d.1 + ft_zT sq o)) _ _ (by decide) hk3 (fun j hj => ?_) (ft_isb0 (fun h5 h6 => by omega)) (by omega) (by rw [show (f + ft_zR d.1 + ft_zT sq o) + (q - (ft_zR d.1 + ft_zT sq o)) = p from by omega]; exact hl) hS (fun locs ls hl hS => ?_)
        · have := ft_wR_at (i := j) okq.2.1.2.2 h3 he (by omega) hk3 (by decide) (by omega)
          exact ⟨this.2.1, this.1⟩
        refine x_iload X d_M_cut_47 hl rfl ?_
        refine x_istore X d_M_cut_49 hl (by decide) rfl (fun ls hl => ?_)
        refine x_iload_n X d_M_cut_51 rfl hl rfl ?_
        refine x_iconst (v := nI 2) X d_M_cut_52 rfl ?_
        refine n_icmp_ne X 75 d_M_cut_53 rfl (by decide) (by decide) (fun hc => ?_) (fun hc => absurd hc (by decide))
        refine srch d.2 (f + ft_zR d.1 + ft_zT sq o) 1 rs.length i (nI 1) (nI (f + ft_zR d.1 + ft_zT sq o)) i 0 _ _ okq.2.1.2.2 h3 (by decide) hk3 hilt (by omega) (by omega) (by omega) (by omega) (fun j hj => by have := hile j hj; omega) rfl (Nat.zero_le _) (by simp only [List.take_zero, ft_zR, Nat.add_zero]; exact hl) hS (fun locs ls hl hS => ?_)
        refine x_iload_n X d_M_cut_107 rfl hl rfl ?_
        refine n_if_ne X 127 d_M_cut_108 rfl (by decide) (fun hc => ?_) (fun hc => absurd hc (by decide))
        refine x_iload_n X d_M_cut_127 rfl hl rfl ?_
        refine x_iconst (v := nI 1) X d_M_cut_128 rfl ?_
        refine n_icmp_ne X 169 d_M_cut_129 rfl (by decide) (by decide) (fun hc => absurd rfl hc) (fun hc => ?_)
        have hxs : ((f + ft_zR d.1 + ft_zT sq o) + ft_zR (d.2.take i)) = f + (ft_zR d.1 + ft_zT sq o + ft_zR (d.2.take i)) := by omega
        refine x_aload_n X d_M_cut_132 rfl hl rfl ?_
        refine x_iload X d_M_cut_133 hl rfl ?_
        refine x_iload_n X d_M_cut_135 rfl hl rfl ?_
        rw [hxs]
        refine x_go0 (x_runV X (C_M_closeRight l D A _ a lo hi en md vs n zf mk pl ct w hP hd hw hz he hm (by omega) rs.length f d.1 (d.2.take i) sq o okq.1.2.2 okt1 okq.2.2 h1 h2 x1 okq.1.1 okq.1.2.1 lt1 (by omega) (by omega) hbeg) b_M_closeRight s_M_closeRight v_M_closeRight e_M_82 (m_at hP) rfl rfl hl rfl (Nat.le_of_ble_eq_true rfl) d_M_cut_136 (Nat.le_of_ble_eq_true rfl) (Nat.le_of_ble_eq_true rfl) ⟨Nat.le_of_ble_eq_true rfl, Nat.le_of_ble_eq_true rfl⟩) hS (fun _ h => h) (fun H locs hP hF hS => ?_)
        obtain ⟨w1, hP, hw1, hh1, heo1⟩ := hP
        rw [← hxs] at heo1
        have y2 := ft_eo_hd heo1 x2 (Or.inr (Nat.le_refl _))
        have y3 := ft_eo_hd heo1 x3 (Or.inr (by omega))
        have hff := ft_hf_eo heo1 (Nat.le_refl _) (by omega) hhf
        have hend1 := ft_hf_end hff he (by omega) (by omega)
        have hE : f + ft_zT (d :: sq) o = ((f + ft_zR d.1 + ft_zT sq o) + ft_zR (d.2.take i) + ft_z (d.2.getD i ft_no)) + ft_zR (d.2.drop (i + 1)) := by omega
        rw [hE] at hend1
        refine x_iload X d_M_cut_139 hl rfl ?_
        refine x_istore X d_M_cut_141 hl (by decide) rfl (fun ls hl => ?_)
        have up : ∀ (g m : Nat) (locs : List Loc) (ls : Array Slot), ft_zR (d.2.drop (i + 1)) - m = g → m ≤ ft_zR (d.2.drop (i + 1)) → lz ls 9 [some (.ref (a 0)), some (.int (nI p)), some (.int (nI rs.length)), some (.int (nI 1)), some (.int (nI (f + ft_zR d.1 + ft_zT sq o))), some (.int (nI ((f + ft_zR d.1 + ft_zT sq o) + ft_zR (d.2.take i)))), some (.int (nI ((f + ft_zR d.1 + ft_zT sq o) + ft_zR (d.2.take i) + ft_z (d.2.getD i ft_no)))), some (.int (nI (((f + ft_zR d.1 + ft_zT sq o) + ft_zR (d.2.take i) + ft_z (d.2.getD i ft_no)) + m))), none] → va_S (mFr a) H0 H locs →
            (∀ (locs : List Loc) (ls : Array Slot), lz ls 9 [some (.ref (a 0)), some (.int (nI p)), some (.int (nI rs.length)), some (.int (nI 1)), some (.int (nI (f + ft_zR d.1 + ft_zT sq o))), some (.int (nI ((f + ft_zR d.1 + ft_zT sq o) + ft_zR (d.2.take i)))), some (.int (nI ((f + ft_zR d.1 + ft_zT sq o) + ft_zR (d.2.take i) + ft_z (d.2.getD i ft_no)))), some (.int (nI (((f + ft_zR d.1 + ft_zT sq o) + ft_zR (d.2.take i) + ft_z (d.2.getD i ft_no)) + ft_zR (d.2.drop (i + 1))))), none] → va_S (mFr a) H0 H locs → W p_ l e_ (x_rm 4 0 0) s_ m_ ar_ bl_ me_ c_ H locs 0 0 (MQ bl_ (xQ (mFr a) (q0 Post)) ar_ s_ 0 0 (mFr a)) (F0 m_ 160 ls [])) → W p_ l e_ (x_rm 4 0 0) s_ m_ ar_ bl_ me_ c_ H locs 0 0 (MQ bl_ (xQ (mFr a) (q0 Post)) ar_ s_ 0 0 (mFr a)) (F0 m_ 143 ls []) := by
          clear hl hS
          intro g
          induction g with
          | zero =>
            intro m locs ls hg hmz hl hS kk
            have hme : m = ft_zR (d.2.drop (i + 1)) := by omega
            subst hme
            refine x_aload_n X d_M_cut_143 rfl hl rfl ?_
            refine x_iload X d_M_cut_144 hl rfl ?_
            refine x_iload_n X d_M_cut_146 rfl hl rfl ?_
            refine x_iconst (v := nI 1) X d_M_cut_147 rfl ?_
            refine x_goR (x_runV X (C_M_is l D A _ a lo hi en md vs n zf mk pl ct w1 hP hw1 (by omega) (((f + ft_zR d.1 + ft_zT sq o) + ft_zR (d.2.take i) + ft_z (d.2.getD i ft_no)) + ft_zR (d.2.drop (i + 1))) rs.length 1 (by omega) (by omega) (by decide)) b_M_is s_M_is v_M_is e_M_64 (m_at hP) rfl rfl hl rfl (Nat.le_of_ble_eq_true rfl) d_M_cut_148 (Nat.le_of_ble_eq_true rfl) (Nat.le_of_ble_eq_true rfl) ⟨Nat.le_of_ble_eq_true rfl, Nat.le_of_ble_eq_true rfl⟩) hS (fun locs hS => ?_)
            rw [ft_isE hend1]
            refine n_if_eq X 160 d_M_cut_151 rfl (by omega) (fun hc => ?_) (fun hc => absurd rfl hc)
            exact kk _ _ hl hS
          | succ g ih2 =>
            intro m locs ls hg hmz hl hS kk
            have hati := ft_wR_at (i := m) okt2 y3 he (by omega) hk3 (by decide) (by omega)
            refine x_aload_n X d_M_cut_143 rfl hl rfl ?_
            refine x_iload X d_M_cut_144 hl rfl ?_
            refine x_iload_n X d_M_cut_146 rfl hl rfl ?_
            refine x_iconst (v := nI 1) X d_M_cut_147 rfl ?_
            refine x_goR (x_runV X (C_M_is l D A _ a lo hi en md vs n zf mk pl ct w1 hP hw1 (by omega) (((f + ft_zR d.1 + ft_zT sq o) + ft_zR (d.2.take i) + ft_z (d.2.getD i ft_no)) + m) rs.length 1 (by omega) (by omega) (by decide)) b_M_is s_M_is v_M_is e_M_64 (m_at hP) rfl rfl hl rfl (Nat.le_of_ble_eq_true rfl) d_M_cut_148 (Nat.le_of_ble_eq_true rfl) (Nat.le_of_ble_eq_true rfl) ⟨Nat.le_of_ble_eq_true rfl, Nat.le_of_ble_eq_true rfl⟩) hS (fun locs hS => ?_)
            rw [ft_is1 (by omega) ⟨hati.2.1, hati.1⟩]
            refine n_if_eq X 160 d_M_cut_151 rfl (by omega) (fun hc => absurd hc (by decide)) (fun hc => ?_)
            refine n_iinc (d := 1) X d_M_cut_154 rfl hl rfl (by decide) rfl (fun ls hl => ?_)
            refine x_goto X 143 d_M_cut_157 rfl ?_
            exact ih2 (m + 1) _ _ (by omega) (by omega) hl hS kk
        refine up (ft_zR (d.2.drop (i + 1))) 0 _ _ rfl (Nat.zero_le _) hl hS (fun locs ls hl hS => ?_)
        clear up
        refine x_aload_n X d_M_cut_160 rfl hl rfl ?_
        refine x_iload X d_M_cut_161 hl rfl ?_
        refine x_iload X d_M_cut_163 hl rfl ?_
        refine x_iload_n X d_M_cut_165 rfl hl rfl ?_
        refine x_go0 (x_runV X (C_M_line l D A _ a lo hi en md vs n zf mk pl ct w1 hP hd hw1 hz he hm rs.length ((f + ft_zR d.1 + ft_zT sq o) + ft_zR (d.2.take i) + ft_z (d.2.getD i ft_no)) 1 (d.2.drop (i + 1)) okt2 y3 hk3 (by decide) (by omega) (by omega)) b_M_line s_M_line v_M_line e_M_75 (m_at hP) rfl rfl hl rfl (Nat.le_of_ble_eq_true rfl) d_M_cut_166 (Nat.le_of_ble_eq_true rfl) (Nat.le_of_ble_eq_true rfl) ⟨Nat.le_of_ble_eq_true rfl, Nat.le_of_ble_eq_true rfl⟩) hS (fun _ h => h) (fun H locs hP hF hS => ?_)
        obtain ⟨w2, hP, hw2, hh2, heo2⟩ := hP
        have o1 := ft_op_ok okq.2.2 okq.1.2.2 okt1 okq.1.2.1 lt1 (Or.inl okq.1.1)
        have o2 := ft_ln_ok okt2 (by omega)
        have z2 := ft_ln_z (d.2.drop (i + 1))
        have hxs2 : ((f + ft_zR d.1 + ft_zT sq o) + ft_zR (d.2.take i)) = f + ft_zT (ft_op d.1 sq o (d.2.take i)).1 (ft_op d.1 sq o (d.2.take i)).2 := by rw [o1.2]; omega
        rw [hxs2] at hl y2 hh2 heo2 hE
        refine ph2 rs (ft_op d.1 sq o (d.2.take i), d.2.getD i ft_no, ft_ln (d.2.drop (i + 1))) f q 1 [] w2 (nI 1) (nI (f + ft_zR d.1 + ft_zT sq o)) _ _ H _ _ hl hP hw2 o1.1 okx o2 (ft_eo_hd heo2 hh1 (Or.inl (by rw [ft_wT_len]; dsimp only; omega))) (by rw [ft_wX_nil]; exact ft_eo_hd heo2 y2 (Or.inl (by rw [ft_wI_len]; exact Nat.le_refl _))) hh2 (by decide) (by simpa using hk3) (fun d hd => by simp at hd) hpq (by dsimp only; rw [o1.2]; omega) (by dsimp only; rw [o1.2]; omega) ?_ ?_ hS
        · dsimp only
          rw [z2, ← hE]
          exact ft_hf_eo heo2 (by omega) (by omega) hff
        · intro w' H1 b1 b2 b3 b4 b5
          rw [hun] at b3 b4 b5
          rw [← hPost]
          exact ⟨w', b1, b2, b3, b4, b5⟩
      · have hcu : ft_cu (d :: sq) o q = (ft_ln (d.1.take (ft_ix d.1 q)), d.1.getD (ft_ix d.1 q) ft_no, ft_op (d.1.drop (ft_ix d.1 q + 1)) sq o d.2) := by simp only [ft_cu, if_neg hR, if_pos hL]
        rw [hcu] at hun
        have hilt := ft_ix_lt (l := d.1) q okq.1.1
        have hisp := ft_ix_sp hL
        have hile : ∀ j, j < ft_ix d.1 q → ft_zR (d.1.take (j + 1)) ≤ q := fun j hj => ft_ix_le hL hj
        generalize ft_ix d.1 q = i at hilt hisp hile hun
        have htg := ft_zR_tg d.1 hilt
        have hat := ft_wR_at (i := q) okq.1.2.2 h1 he (by omega) hk3 (by decide) hL
        rw [← hpq] at hat
        have hl1 := hat.2.1
        have hs1 := hat.1
        dsimp only [ft_le8, ft_sd] at hl1 hs1
        have okx := okq.1.2.2 _ (ft_getD_mem hilt)
        have hzx := ft_ok_z okx
        have okt1 := ft_okR_take okq.1.2.2 i
        have okt2 := ft_okR_drop okq.1.2.2 (i + 1)
        have d4 := okq.1.2.1
        have lt1 : (d.1.take i).length ≤ 4 := by rw [List.length_take]; omega
        have lt2 : (d.1.drop (i + 1)).length ≤ 4 := by rw [List.length_drop]; omega
        obtain ⟨x1, x2, x3⟩ := ft_hdR3 hilt h1
        refine x_aload_n X d_M_cut_0 rfl hl rfl ?_
        refine m_get X hP 9 (by decide) e_M_34 rfl d_M_cut_1 ?_
        refine x_iload_n X d_M_cut_4 rfl hl rfl ?_
        refine m_ld_w X hP (by omega) d_M_cut_5 ?_
        refine x_goR (x_runS X (C_M_level l D A _ (w p) (by omega)) b_M_level s_M_level e_M_40 rfl hl rfl (Nat.le_of_ble_eq_true rfl) d_M_cut_6 (Nat.le_of_ble_eq_true rfl) (Nat.le_of_ble_eq_true rfl) ⟨Nat.le_of_ble_eq_true rfl, Nat.le_of_ble_eq_true rfl⟩) hS (fun locs hS => ?_)
        rw [hl1]
        refine x_istore_n X d_M_cut_9 rfl hl (by decide) rfl (fun ls hl => ?_)
        refine x_aload_n X d_M_cut_10 rfl hl rfl ?_
        refine m_get X hP 9 (by decide) e_M_34 rfl d_M_cut_11 ?_
        refine x_iload_n X d_M_cut_14 rfl hl rfl ?_
        refine m_ld_w X hP (by omega) d_M_cut_15 ?_
        refine x_goR (x_runS X (C_M_side l D A _ (w p) (by omega)) b_M_side s_M_side e_M_44 rfl hl rfl (Nat.le_of_ble_eq_true rfl) d_M_cut_16 (Nat.le_of_ble_eq_true rfl) (Nat.le_of_ble_eq_true rfl) ⟨Nat.le_of_ble_eq_true rfl, Nat.le_of_ble_eq_true rfl⟩) hS (fun locs hS => ?_)
        rw [hs1]
        refine x_istore_n X d_M_cut_19 rfl hl (by decide) rfl (fun ls hl => ?_)
        refine x_iload_n X d_M_cut_20 rfl hl rfl ?_
        refine x_istore X d_M_cut_21 hl (by decide) rfl (fun ls hl => ?_)
        refine dn f 0 rs.length q _ _ (by decide) hk3 (fun j hj => ?_) (ft_isb0 (fun h5 h6 => by have := hbeg h5; omega)) (by omega) (by rw [← hpq]; exact hl) hS (fun locs ls hl hS => ?_)
        · have := ft_wR_at (i := j) okq.1.2.2 h1 he (by omega) hk3 (by decide) (by omega)
          exact ⟨this.2.1, this.1⟩
        refine x_iload X d_M_cut_47 hl rfl ?_
        refine x_istore X d_M_cut_49 hl (by decide) rfl (fun ls hl => ?_)
        refine x_iload_n X d_M_cut_51 rfl hl rfl ?_
        refine x_iconst (v := nI 2) X d_M_cut_52 rfl ?_
        refine n_icmp_ne X 75 d_M_cut_53 rfl (by decide) (by decide) (fun hc => ?_) (fun hc => absurd hc (by decide))
        refine srch d.1 f 0 rs.length i (nI 0) (nI f) i 0 _ _ okq.1.2.2 h1 (by decide) hk3 hilt (by omega) (by omega) (by omega) (by omega) (fun j hj => by have := hile j hj; omega) rfl (Nat.zero_le _) (by simp only [List.take_zero, ft_zR, Nat.add_zero]; exact hl) hS (fun locs ls hl hS => ?_)
        refine x_iload_n X d_M_cut_107 rfl hl rfl ?_
        refine n_if_ne X 127 d_M_cut_108 rfl (by decide) (fun hc => absurd rfl hc) (fun hc => ?_)
        refine x_aload_n X d_M_cut_111 rfl hl rfl ?_
        refine x_iload X d_M_cut_112 hl rfl ?_
        refine x_iload X d_M_cut_114 hl rfl ?_
        refine x_iload_n X d_M_cut_116 rfl hl rfl ?_
        refine x_go0 (x_runV X (C_M_line l D A _ a lo hi en md vs n zf mk pl ct w hP hd hw hz he hm rs.length f 0 (d.1.take i) okt1 x1 hk3 (by decide) (by omega) (by omega)) b_M_line s_M_line v_M_line e_M_75 (m_at hP) rfl rfl hl rfl (Nat.le_of_ble_eq_true rfl) d_M_cut_117 (Nat.le_of_ble_eq_true rfl) (Nat.le_of_ble_eq_true rfl) ⟨Nat.le_of_ble_eq_true rfl, Nat.le_of_ble_eq_true rfl⟩) hS (fun _ h => h) (fun H locs hP hF hS => ?_)
        obtain ⟨w1, hP, hw1, hh1, heo1⟩ := hP
        have y2 := ft_eo_hd heo1 x2 (Or.inr (Nat.le_refl _))
        have y3 := ft_eo_hd heo1 x3 (Or.inr (by omega))
        have m2 := ft_eo_hd heo1 h2 (Or.inr (by omega))
        have m3 := ft_eo_hd heo1 h3 (Or.inr (by omega))
        have hfe : f + ft_zR d.1 = (f + ft_zR (d.1.take i) + ft_z (d.1.getD i ft_no)) + ft_zR (d.1.drop (i + 1)) := by omega
        rw [hfe] at m2 m3
        have hff := ft_hf_eo heo1 (Nat.le_refl _) (by omega) hhf
        have hse : (f + ft_zR (d.1.take i) + ft_z (d.1.getD i ft_no)) + (ft_zR (d.1.drop (i + 1)) + ft_zT sq o + ft_zR d.2) = f + ft_zT (d :: sq) o := by omega
        refine x_aload_n X d_M_cut_120 rfl hl rfl ?_
        refine x_iload X d_M_cut_121 hl rfl ?_
        refine x_iload_n X d_M_cut_123 rfl hl rfl ?_
        refine x_go0 (x_runV X (C_M_closeLeft l D A _ a lo hi en md vs n zf mk pl ct w1 hP hd hw1 hz he hm (by omega) rs.length (f + ft_zR (d.1.take i) + ft_z (d.1.getD i ft_no)) (d.1.drop (i + 1)) d.2 sq o okt2 okq.2.1.2.2 okq.2.2 y3 m2 m3 lt2 okq.2.1.1 okq.2.1.2.1 (by omega) (by omega) (by rw [hse]; exact ft_hf_end hff he (by omega) (by omega))) b_M_closeLeft s_M_closeLeft v_M_closeLeft e_M_78 (m_at hP) rfl rfl hl rfl (Nat.le_of_ble_eq_true rfl) d_M_cut_124 (Nat.le_of_ble_eq_true rfl) (Nat.le_of_ble_eq_true rfl) ⟨Nat.le_of_ble_eq_true rfl, Nat.le_of_ble_eq_true rfl⟩) hS (fun _ h => h) (fun H locs hP hF hS => ?_)
        obtain ⟨w2, hP, hw2, hh2, heo2⟩ := hP
        rw [hse] at heo2
        have o2 := ft_op_ok okq.2.2 okt2 okq.2.1.2.2 lt2 okq.2.1.2.1 (Or.inr okq.2.1.1)
        have o1 := ft_ln_ok okt1 (by omega)
        have z1 := ft_ln_z (d.1.take i)
        rw [← z1] at hl y2 hh2 heo2
        refine x_iload_n X d_M_cut_127 rfl hl rfl ?_
        refine x_iconst (v := nI 1) X d_M_cut_128 rfl ?_
        refine n_icmp_ne X 169 d_M_cut_129 rfl (by decide) (by decide) (fun hc => ?_) (fun hc => absurd hc (by decide))
        refine ph2 rs (ft_ln (d.1.take i), d.1.getD i ft_no, ft_op (d.1.drop (i + 1)) sq o d.2) f q 0 [] w2 (nI 0) (nI f) none none H _ _ hl hP hw2 o1 okx o2.1 (ft_eo_hd heo2 hh1 (Or.inl (by rw [ft_wT_len]; dsimp only; omega))) (by rw [ft_wX_nil]; exact ft_eo_hd heo2 y2 (Or.inl (by rw [ft_wI_len]; exact Nat.le_refl _))) hh2 (by decide) (by simpa using hk3) (fun d hd => by simp at hd) hpq (by dsimp only; omega) (by dsimp only; omega) ?_ ?_ hS
        · dsimp only
          rw [o2.2, z1, hse]
          exact ft_hf_eo heo2 (by omega) (Nat.le_refl _) hff
        · intro w' H1 b1 b2 b3 b4 b5
          rw [hun] at b3 b4 b5
          rw [← hPost]
          exact ⟨w', b1, b2, b3, b4, b5⟩
  exact ph1 sp [] 0 p okt ht (by omega) (by omega) ⟨rfl, by omega⟩ rfl
