/-! The calls keep what holds of the state. -/
theorem ft_jn_128 {ne : Nat} : ∀ (sp : ft_S) (o : Option ft_I) (row : List ft_I) (sp2 : ft_S) (o2 : Option ft_I) (c : ft_C) (k : Nat), row.length ≤ 4 → ft_okR ne c.1 c.2 k row → ft_okT ne c.1 c.2 k sp o → ft_okT ne c.1 c.2 k sp2 o2 → (∀ i, c.2 i < 128) → ft_zT sp o + ft_zR row + ft_zT sp2 o2 < 128 → ∀ i, (ft_jn sp o row sp2 o2 c).2.2 i < 128 := by
  intro sp
  induction sp with
  | nil =>
    intro o row sp2 o2 c k h4 hr h1 h2 h hz
    cases o with
    | none =>
      simp only [ft_zT] at hz
      exact ft_af_128 (k := k) row ((sp2, o2), c) hr h2 h (by simp only []; omega)
    | some x =>
      simp only [ft_zT] at hz
      cases he : ft_em sp2 o2 with
      | true =>
        simp only [ft_jn, he, if_true]
        exact ft_ab_128 (k := k) row (([], some x), c) hr h1 h (by simp only [ft_zT]; omega)
      | false =>
        simp only [ft_jn, he, Bool.false_eq_true, if_false]
        have ho := ft_af_ok (k := k) row ((sp2, o2), c) hr h2
        exact ft_fr_128 _ _ _ _ (ft_af_128 (k := k) row ((sp2, o2), c) hr h2 h (by simp only []; omega)) (by rw [ho.2.2]; simp only []; omega)
  | cons d sp ih =>
    intro o row sp2 o2 c k h4 hr h1 h2 h hz
    cases sp2 with
    | nil =>
      have ho := ft_ab_ok (k := k) row ((d :: sp, o), c) hr h1
      have hb := ft_ab_128 (k := k) row ((d :: sp, o), c) hr h1 h (by simp only []; omega)
      cases o2 with
      | none => exact hb
      | some y =>
        simp only [ft_jn]
        exact ft_bk_128 _ _ _ _ hb (by rw [ho.2.2]; simp only []; simp only [ft_zT] at hz ⊢; omega)
    | cons d2 sp2 =>
      obtain ⟨a1, a2, a3⟩ := h1
      obtain ⟨b1, b2, b3⟩ := h2
      have hrow := ft_okR_app (ft_okR_app a2.2.2 hr) b1.2.2
      obtain ⟨g1, g2, g3, g4, g5⟩ := ft_gr_ok (ne := ne) (k := k) 16 (d.2 ++ row ++ d2.1) c (by simp; omega) (by simp; omega) hrow
      simp only [ft_zT] at hz
      simp only [ft_jn]
      refine ih o (ft_gr 16 (d.2 ++ row ++ d2.1) c).1 sp2 o2 (ft_gr 16 (d.2 ++ row ++ d2.1) c).2 (k + 1) (by rw [g3]; simp; omega) g2 (ft_okT_ex g1 a3) (ft_okT_ex g1 b3) (ft_gr_128 _ _ _ h (by rw [ft_zR_app, ft_zR_app]; omega)) ?_
      rw [g4, ft_zR_app, ft_zR_app]
      omega
/-- HALVES -/
theorem ft_ha_ok {ne : Nat} {c : ft_C} {sp : ft_S} {o : Option ft_I} {p : Nat} (h : ft_okT ne c.1 c.2 0 sp o) (hp : p ≤ ft_zT sp o) : ft_ex c (ft_ha sp o p c).2.2 ∧ ft_okT ne (ft_ha sp o p c).2.2.1 (ft_ha sp o p c).2.2.2 0 (ft_ha sp o p c).1.1 (ft_ha sp o p c).1.2 ∧ ft_okT ne (ft_ha sp o p c).2.2.1 (ft_ha sp o p c).2.2.2 0 (ft_ha sp o p c).2.1.1 (ft_ha sp o p c).2.1.2 ∧ ft_zT (ft_ha sp o p c).1.1 (ft_ha sp o p c).1.2 = p ∧ ft_zT (ft_ha sp o p c).2.1.1 (ft_ha sp o p c).2.1.2 = ft_zT sp o - p := by
  unfold ft_ha
  split
  · rename_i e
    exact ⟨ft_ex_rf c, h, trivial, e.symm, by simp only [ft_zT]; omega⟩
  · rename_i e
    obtain ⟨c1, c2, c3, c4, c5, c6⟩ := ft_cu_ok h (p := p) (by omega)
    have hz1 := ft_ok_z0 c2
    have hf := ft_fr_ok (ne := ne) (ft_cu sp o p).2.2.1 (ft_cu sp o p).2.1 (ft_cu sp o p).2.2.2 c 0 c2 c3
    exact ⟨hf.1, ft_okT_ex hf.1 c1, hf.2, by simp only []; omega, by simp only []; rw [ft_fr_z]; omega⟩
theorem ft_ha_128 {ne : Nat} {c : ft_C} {sp : ft_S} {o : Option ft_I} {p : Nat} (h : ft_okT ne c.1 c.2 0 sp o) (hp : p ≤ ft_zT sp o) (h8 : ∀ i, c.2 i < 128) (hz : ft_zT sp o < 128) : ∀ i, (ft_ha sp o p c).2.2.2 i < 128 := by
  unfold ft_ha
  split
  · exact h8
  · rename_i e
    obtain ⟨c1, c2, c3, c4, c5, c6⟩ := ft_cu_ok h (p := p) (by omega)
    exact ft_fr_128 _ _ _ _ h8 (by omega)
theorem ft_ha_c {ne : Nat} {c : ft_C} {sp : ft_S} {o : Option ft_I} {p : Nat} (h : ft_okT ne c.1 c.2 0 sp o) (hp : p ≤ ft_zT sp o) : (ft_ha sp o p c).2.2.1 ≤ ft_cT (ft_ha sp o p c).2.1.1 (ft_ha sp o p c).2.1.2 + c.1 := by
  unfold ft_ha
  split
  · simp only []; omega
  · rename_i e
    have := ft_fr_c (ft_cu sp o p).2.2.1 (ft_cu sp o p).2.1 (ft_cu sp o p).2.2.2 c
    simp only []
    omega
theorem ft_rp_8 {ne : Nat} {y : ft_I} : ∀ (k : Nat) (x : ft_I) (p : Nat) (c : ft_C), ft_ok ne c.1 c.2 0 y → ft_ok ne c.1 c.2 k x → p < ft_z x → (∀ i, c.2 i < 128) → ft_z x < 128 → ∀ i, (ft_rp k x p y c).2.2 i < 128 := by
  intro k
  induction k with
  | zero => intro x p c _ _ _ h _; exact h
  | succ k ih =>
    intro x p c hy hx hp h hz
    obtain ⟨p1, p2, p3, p4⟩ := ft_okR_ps hx
    have hlt := ft_ix_lt (l := ft_ps x) p (by omega)
    have hs := ft_ix_sp (l := ft_ps x) (p := p) (by omega)
    have hex := ft_ex_up c (ft_z x)
    have htg := ft_zR_tg (ft_ps x) hlt
    unfold ft_rp
    exact ih _ _ (c.1 + 1, va_up c.2 (c.1 + 1) (ft_z x)) (ft_ok_ex hex hy) (ft_ok_ex hex (p1 _ (ft_getD_mem hlt))) (by omega) (ft_up128 h hz) (by omega)
theorem ft_rR_8 {ne : Nat} {y : ft_I} {k : Nat} {l : List ft_I} {p : Nat} {c : ft_C} (hy : ft_ok ne c.1 c.2 0 y) (h : ft_okR ne c.1 c.2 k l) (hp : p < ft_zR l) (hl : 0 < l.length) (h8 : ∀ i, c.2 i < 128) (hz : ft_zR l < 128) : ∀ i, (ft_rR k l p y c).2.2 i < 128 := by
  have hlt := ft_ix_lt (l := l) p hl
  have hs := ft_ix_sp (l := l) (p := p) hp
  have htg := ft_zR_tg l hlt
  unfold ft_rR
  exact ft_rp_8 k _ _ c hy (h _ (ft_getD_mem hlt)) (by omega) h8 (by omega)
theorem ft_rT_8 {ne : Nat} {y : ft_I} {o : Option ft_I} {c : ft_C} : ∀ (sp : ft_S) (k p : Nat), ft_ok ne c.1 c.2 0 y → ft_okT ne c.1 c.2 k sp o → p < ft_zT sp o → (∀ i, c.2 i < 128) → ft_zT sp o < 128 → ∀ i, (ft_rT k sp o p y c).2.2 i < 128 := by
  intro sp
  induction sp with
  | nil =>
    intro k p hy h hp h8 hz
    cases o with
    | none => simp [ft_zT] at hp
    | some x => exact ft_rp_8 k x p c hy h hp h8 hz
  | cons d sp ih =>
    intro k p hy h hp h8 hz
    obtain ⟨a1, a2, a3⟩ := h
    simp only [ft_zT] at hp hz
    unfold ft_rT
    split
    · exact ft_rR_8 hy a2.2.2 (by omega) (by omega) h8 (by omega)
    · split
      · exact ft_rR_8 hy a1.2.2 (by assumption) (by omega) h8 (by omega)
      · exact ih (k + 1) (p - ft_zR d.1) hy a3 (by omega) h8 (by omega)
theorem ft_rT_c {ne : Nat} {y : ft_I} {o : Option ft_I} {c : ft_C} : ∀ (sp : ft_S) (k p : Nat), ft_ok ne c.1 c.2 0 y → ft_okT ne c.1 c.2 k sp o → p < ft_zT sp o → 2 * 2 ^ k + ft_zT sp o ≤ 42 → (ft_rT k sp o p y c).2.1 ≤ c.1 + 3 := by
  intro sp
  induction sp with
  | nil =>
    intro k p hy h hp hB
    cases o with
    | none => simp [ft_zT] at hp
    | some x =>
      have h1 := (ft_rp_ok k x p c hy h hp).2.2.2
      have h2 := ft_ok_z h
      simp only [ft_zT] at hB
      have hk3 : k ≤ 3 := ft_k3 (by omega)
      show (ft_rp k x p y c).2.1 ≤ _
      omega
  | cons d sp ih =>
    intro k p hy h hp hB
    have hzd := ft_okT_zd h
    obtain ⟨a1, a2, a3⟩ := h
    simp only [ft_zT] at hp hB
    have hk3 : k ≤ 3 := ft_k3 (by omega)
    unfold ft_rT
    split
    · have := (ft_rR_ok (p := p - (ft_zR d.1 + ft_zT sp o)) hy a2.2.2 (by omega) (by omega)).2.2.2.1
      simp only []
      omega
    · split
      · have := (ft_rR_ok (p := p) hy a1.2.2 (by assumption) (by omega)).2.2.2.1
        simp only []
        omega
      · exact ih (k + 1) (p - ft_zR d.1) hy a3 (by omega) (by rw [Nat.pow_succ]; omega)
/-- what holds of the state between calls, with the sizes' bound -/
def sp_ok2 (q : ft_Q) : Prop := sp_ok q ∧ ∀ i, q.2.1.2 i < 128
theorem sp_keep_ok {q : ft_Q} {t : ft_T} {c : ft_C} {e : ft_E} (hq : sp_ok2 q) (hlen : q.1.length < 120) (hex : ft_ex q.2.1 c) (hne : q.2.2.length ≤ e.length) (he1 : e.length ≤ q.2.2.length + 1) (ht : ft_okT e.length c.1 c.2 0 t.1 t.2) (hz : ft_zT t.1 t.2 ≤ 40) (hc : c.1 ≤ q.2.1.1 + 35) (h8 : ∀ i, c.2 i < 128) : sp_ok2 (q.1 ++ [t], c, e) := by
  obtain ⟨⟨a1, a2, a3, a4, a5⟩, a6⟩ := hq
  refine ⟨⟨by simp, by simp; omega, fun u hu => ?_, by simp; omega, by simp; omega⟩, h8⟩
  rcases List.mem_append.1 hu with hu | hu
  · exact ⟨ft_okT_mono hne hex.1 hex.2 (a3 u hu).1, (a3 u hu).2⟩
  · rw [List.mem_singleton.1 hu]; exact ⟨ht, hz⟩
theorem sp_at_mem {q : ft_Q} {v : Int32} {t : ft_T} (h : sp_at q v = some t) : t ∈ q.1 := by
  unfold sp_at at h
  split at h
  · cases h
  · exact List.mem_of_getElem? h
theorem sp_new_ok (q : ft_Q) (lo hi : Int32) {c : ft_C} : ft_ok (q.2.2 ++ [(lo, hi)]).length c.1 c.2 0 (sp_new q) := ⟨q.2.2.length, rfl, by simp⟩
theorem sp_t_ok {q : ft_Q} (hq : sp_ok2 q) {t : ft_T} (ht : t ∈ q.1) (e : ft_E) (he : q.2.2.length ≤ e.length) : ft_okT e.length q.2.1.1 q.2.1.2 0 t.1 t.2 := ft_okT_mono he (Nat.le_refl _) (fun _ _ _ => rfl) (hq.1.2.2.1 t ht).1
theorem sp_pushFront_ok {q : ft_Q} (hq : sp_ok2 q) (v lo hi : Int32) : sp_ok2 (sp_pushFront q v lo hi).2 := by
  unfold sp_pushFront
  cases hv : sp_at q v with
  | none => exact hq
  | some t =>
    have hm := sp_at_mem hv
    dsimp only
    split
    · exact hq
    · split
      · exact hq
      · rename_i hc
        have ht := sp_t_ok hq hm (q.2.2 ++ [(lo, hi)]) (by simp)
        have hn := sp_new_ok q lo hi (c := q.2.1)
        have hf := ft_fr_ok t.1 (sp_new q) t.2 q.2.1 0 hn ht
        have hz := ft_fr_z t.1 (sp_new q) t.2 q.2.1
        have hz1 : ft_z (sp_new q) = 1 := rfl
        have hcc := ft_fr_c t.1 (sp_new q) t.2 q.2.1
        have hc35 := ft_c35 hf.2 (by omega)
        exact sp_keep_ok hq (by omega) hf.1 (by simp) (by simp) hf.2 (by omega) (by omega) (ft_fr_128 _ _ _ _ hq.2 (by omega))
theorem sp_pushBack_ok {q : ft_Q} (hq : sp_ok2 q) (v lo hi : Int32) : sp_ok2 (sp_pushBack q v lo hi).2 := by
  unfold sp_pushBack
  cases hv : sp_at q v with
  | none => exact hq
  | some t =>
    have hm := sp_at_mem hv
    dsimp only
    split
    · exact hq
    · split
      · exact hq
      · rename_i hc
        have ht := sp_t_ok hq hm (q.2.2 ++ [(lo, hi)]) (by simp)
        have hn := sp_new_ok q lo hi (c := q.2.1)
        have hf := ft_bk_ok t.1 (sp_new q) t.2 q.2.1 0 hn ht
        have hz := ft_bk_z t.1 (sp_new q) t.2 q.2.1
        have hz1 : ft_z (sp_new q) = 1 := rfl
        have hcc := ft_bk_c t.1 (sp_new q) t.2 q.2.1
        have hc35 := ft_c35 hf.2 (by omega)
        exact sp_keep_ok hq (by omega) hf.1 (by simp) (by simp) hf.2 (by omega) (by omega) (ft_bk_128 _ _ _ _ hq.2 (by omega))
theorem ft_zem {ne mm : Nat} {zf : Nat → Nat} {k : Nat} {sp : ft_S} {o : Option ft_I} (h : ft_okT ne mm zf k sp o) (hz : ft_zT sp o ≠ 0) : ft_em sp o = false := by
  cases he : ft_em sp o with
  | false => rfl
  | true => exact absurd ((ft_em_z h).1 he) hz
theorem sp_popFront_ok {q : ft_Q} (hq : sp_ok2 q) (v : Int32) : sp_ok2 (sp_popFront q v).2 := by
  unfold sp_popFront
  cases hv : sp_at q v with
  | none => exact hq
  | some t =>
    have hm := sp_at_mem hv
    dsimp only
    split
    · exact hq
    · split
      · exact hq
      · rename_i h0 hc
        have ht := hq.1.2.2.1 t hm
        have hr := ft_re_ok ht.1
        have := hr.2 (ft_zem ht.1 h0)
        exact sp_keep_ok hq (by omega) (ft_ex_rf _) (Nat.le_refl _) (by omega) hr.1 (by omega) (by omega) hq.2
theorem sp_popBack_ok {q : ft_Q} (hq : sp_ok2 q) (v : Int32) : sp_ok2 (sp_popBack q v).2 := by
  unfold sp_popBack
  cases hv : sp_at q v with
  | none => exact hq
  | some t =>
    have hm := sp_at_mem hv
    dsimp only
    split
    · exact hq
    · split
      · exact hq
      · rename_i h0 hc
        have ht := hq.1.2.2.1 t hm
        have hr := ft_le_ok ht.1
        have := hr.2 (ft_zem ht.1 h0)
        exact sp_keep_ok hq (by omega) (ft_ex_rf _) (Nat.le_refl _) (by omega) hr.1 (by omega) (by omega) hq.2
theorem sp_concat_ok {q : ft_Q} (hq : sp_ok2 q) (v u : Int32) : sp_ok2 (sp_concat q v u).2 := by
  unfold sp_concat
  cases hv : sp_at q v with
  | none => exact hq
  | some t => cases hu : sp_at q u with
    | none => exact hq
    | some t2 =>
      dsimp only
      split
      · exact hq
      · rename_i hc
        have h1 := hq.1.2.2.1 t (sp_at_mem hv)
        have h2 := hq.1.2.2.1 t2 (sp_at_mem hu)
        have hj := ft_jn_ok t.1 t.2 [] t2.1 t2.2 q.2.1 0 (by simp) (fun y hy => by simp at hy) h1.1 h2.1
        have hz := hj.2.2
        simp only [ft_zR] at hz
        have hcc := ft_jn_c t.1 t.2 [] t2.1 t2.2 q.2.1 0 (by simp) (fun y hy => by simp at hy) h1.1 h2.1
        have hc35 := ft_c35 hj.2.1 (by omega)
        exact sp_keep_ok hq (by omega) hj.1 (Nat.le_refl _) (by omega) hj.2.1 (by omega) (by omega) (ft_jn_128 _ _ _ _ _ _ 0 (by simp) (fun y hy => by simp at hy) h1.1 h2.1 hq.2 (by simp only [ft_zR]; omega))
