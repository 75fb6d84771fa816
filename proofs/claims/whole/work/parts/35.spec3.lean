/-! The calls keep what holds of the state: split, replace, insert, removeTop. -/
theorem sp_es_len (q : ft_Q) (t : ft_T) : (sp_es q t).length = ft_zT t.1 t.2 := by simp [sp_es, ft_lT_len]
theorem sp_ip_le (lo : Int32) (es : ft_E) : sp_ip lo es ≤ es.length := by
  induction es with
  | nil => simp [sp_ip]
  | cons e l ih =>
    unfold sp_ip
    split
    · simp; omega
    · simp
theorem sp_top_lt (l : ft_E) : ∀ (i : Nat) (b : Int32) (j : Nat), i < j → sp_top i b j l < j + l.length := by
  induction l with
  | nil => intro i b j h; simpa [sp_top] using h
  | cons e l ih =>
    intro i b j h
    unfold sp_top
    split
    · have := ih j e.2 (j + 1) (by omega); simp; omega
    · have := ih i b (j + 1) (by omega); simp; omega
theorem sp_tp_lt {es : ft_E} (h : 0 < es.length) : sp_tp es < es.length := by
  cases es with
  | nil => simp at h
  | cons e l =>
    have := sp_top_lt l 0 e.2 1 (by decide)
    simp only [sp_tp, List.length_cons]
    omega
theorem sp_split_ok {q : ft_Q} (hq : sp_ok2 q) (v p : Int32) : sp_ok2 (sp_split q v p).2 := by
  unfold sp_split
  cases hv : sp_at q v with
  | none => exact hq
  | some t =>
    have hm := sp_at_mem hv
    dsimp only
    split
    · exact hq
    · rename_i hp
      split
      · exact hq
      · rename_i hc
        have ht := hq.1.2.2.1 t hm
        have hp2 : p.toNatClampNeg ≤ ft_zT t.1 t.2 := by
          rcases pk_ix p (n := ft_zT t.1 t.2 + 1) (by omega) with h | h | ⟨j, hj, e⟩
          · exact absurd (Or.inl h) hp
          · exfalso
            apply hp
            refine Or.inr (Int32.lt_of_lt_of_le ?_ h)
            exact nI_lt (by omega) (by omega)
          · rw [e, nI_clamp (by omega)]; omega
        obtain ⟨h1, h2, h3, h4, h5⟩ := ft_ha_ok ht.1 hp2
        have h6 := ft_ha_c ht.1 hp2
        have h7 := ft_ha_128 ht.1 hp2 hq.2 (by omega)
        have h8 := ft_c35 h3 (by omega)
        generalize ft_ha t.1 t.2 p.toNatClampNeg q.2.1 = H at h1 h2 h3 h4 h5 h6 h7 h8
        have k1 := sp_keep_ok (t := H.1) (e := q.2.2) hq (by omega) h1 (Nat.le_refl _) (by omega) h2 (by omega) (by omega) h7
        have k2 := sp_keep_ok (t := H.2.1) (c := H.2.2) (e := q.2.2) k1 (by simp; omega) (ft_ex_rf _) (Nat.le_refl _) (by simp) h3 (by omega) (by simp) h7
        have e : q.1 ++ [H.1, H.2.1] = q.1 ++ [H.1] ++ [H.2.1] := by simp
        rw [e]
        exact k2
theorem sp_replace_ok {q : ft_Q} (hq : sp_ok2 q) (v p lo hi : Int32) : sp_ok2 (sp_replace q v p lo hi).2 := by
  unfold sp_replace
  cases hv : sp_at q v with
  | none => exact hq
  | some t =>
    have hm := sp_at_mem hv
    dsimp only
    split
    · exact hq
    · rename_i hp
      split
      · exact hq
      · rename_i hc
        have ht := sp_t_ok hq hm (q.2.2 ++ [(lo, hi)]) (by simp)
        have hz40 := (hq.1.2.2.1 t hm).2
        have hn := sp_new_ok q lo hi (c := q.2.1)
        have hp2 : p.toNatClampNeg < ft_zT t.1 t.2 := by
          rcases pk_ix p (n := ft_zT t.1 t.2) (by omega) with h | h | ⟨j, hj, e⟩
          · exact absurd (Or.inl h) hp
          · exact absurd (Or.inr (Or.inl h)) hp
          · rw [e, nI_clamp (by omega)]; omega
        obtain ⟨h1, h2, h3⟩ := ft_rT_ok t.1 0 p.toNatClampNeg hn ht hp2
        have h4 := ft_rT_c t.1 0 p.toNatClampNeg hn ht hp2 (by omega)
        exact sp_keep_ok hq (by omega) h1 (by simp) (by simp) h2 (by omega) (by omega) (ft_rT_8 t.1 0 _ hn ht hp2 hq.2 (by omega))
theorem sp_insT_ok {ne : Nat} {t : ft_T} {c : ft_C} {p : Nat} {x : ft_I} (h : ft_okT ne c.1 c.2 0 t.1 t.2) (hx : ft_ok ne c.1 c.2 0 x) (hp : p ≤ ft_zT t.1 t.2) (hz : ft_zT t.1 t.2 < 40) (h8 : ∀ i, c.2 i < 128) : ft_ex c (sp_insT t p x c).2 ∧ ft_okT ne (sp_insT t p x c).2.1 (sp_insT t p x c).2.2 0 (sp_insT t p x c).1.1 (sp_insT t p x c).1.2 ∧ ft_zT (sp_insT t p x c).1.1 (sp_insT t p x c).1.2 = ft_zT t.1 t.2 + 1 ∧ (sp_insT t p x c).2.1 ≤ c.1 + 35 ∧ ∀ i, (sp_insT t p x c).2.2 i < 128 := by
  unfold sp_insT
  obtain ⟨h1, h2, h3, h4, h5⟩ := ft_ha_ok h hp
  have h6 := ft_ha_c h hp
  have h7 := ft_ha_128 h hp h8 (by omega)
  generalize ft_ha t.1 t.2 p c = H at h1 h2 h3 h4 h5 h6 h7 ⊢
  have hz1 := ft_ok_z0 hx
  have hf := ft_fr_ok (ne := ne) H.2.1.1 x H.2.1.2 H.2.2 0 (ft_ok_ex h1 hx) h3
  have hfz := ft_fr_z H.2.1.1 x H.2.1.2 H.2.2
  have hfc := ft_fr_c H.2.1.1 x H.2.1.2 H.2.2
  have hf8 := ft_fr_128 H.2.1.1 x H.2.1.2 H.2.2 h7 (by omega)
  generalize ft_fr x H.2.1.1 H.2.1.2 H.2.2 = F at hf hfz hfc hf8 ⊢
  have hb := ft_okT_ex hf.1 h2
  have hj := ft_jn_ok (ne := ne) H.1.1 H.1.2 [] F.1.1 F.1.2 F.2 0 (by simp) (fun y hy => by simp at hy) hb hf.2
  have hjz := hj.2.2
  simp only [ft_zR] at hjz
  have hjc := ft_jn_c (ne := ne) H.1.1 H.1.2 [] F.1.1 F.1.2 F.2 0 (by simp) (fun y hy => by simp at hy) hb hf.2
  simp only [ft_cR] at hjc
  have hj8 := ft_jn_128 (ne := ne) H.1.1 H.1.2 [] F.1.1 F.1.2 F.2 0 (by simp) (fun y hy => by simp at hy) hb hf.2 hf8 (by simp only [ft_zR]; omega)
  have hc35 := ft_c35 hj.2.1 (by omega)
  exact ⟨ft_ex_tr (ft_ex_tr h1 hf.1) hj.1, hj.2.1, by omega, by omega, hj8⟩
theorem sp_insert_ok {q : ft_Q} (hq : sp_ok2 q) (v lo hi : Int32) : sp_ok2 (sp_insert q v lo hi).2 := by
  unfold sp_insert
  cases hv : sp_at q v with
  | none => exact hq
  | some t =>
    have hm := sp_at_mem hv
    dsimp only
    split
    · exact hq
    · split
      · exact hq
      · rename_i hc
        have ht := sp_t_ok hq hm (q.2.2 ++ [(lo, hi)]) (by simp)
        have hn := sp_new_ok q lo hi (c := q.2.1)
        have hip := sp_ip_le lo (sp_es q t)
        rw [sp_es_len] at hip
        obtain ⟨h1, h2, h3, h4, h5⟩ := sp_insT_ok ht hn hip (by omega) hq.2
        exact sp_keep_ok hq (by omega) h1 (by simp) (by simp) h2 (by omega) h4 h5
theorem sp_removeTop_ok {q : ft_Q} (hq : sp_ok2 q) (v : Int32) : sp_ok2 (sp_removeTop q v).2 := by
  unfold sp_removeTop
  cases hv : sp_at q v with
  | none => exact hq
  | some t =>
    have hm := sp_at_mem hv
    dsimp only
    split
    · exact hq
    · split
      · exact hq
      · rename_i h0 hc
        have ht := hq.1.2.2.1 t hm
        have htp := sp_tp_lt (es := sp_es q t) (by rw [sp_es_len]; omega)
        rw [sp_es_len] at htp
        obtain ⟨c1, c2, c3, c4, c5, c6⟩ := ft_cu_ok ht.1 htp
        generalize ft_cu t.1 t.2 (sp_tp (sp_es q t)) = C at c1 c2 c3 c4 c5 c6
        have hj := ft_jn_ok C.1.1 C.1.2 [] C.2.2.1 C.2.2.2 q.2.1 0 (by simp) (fun y hy => by simp at hy) c1 c3
        have hz := hj.2.2
        simp only [ft_zR] at hz
        have hcc := ft_jn_c C.1.1 C.1.2 [] C.2.2.1 C.2.2.2 q.2.1 0 (by simp) (fun y hy => by simp at hy) c1 c3
        have hc35 := ft_c35 hj.2.1 (by omega)
        exact sp_keep_ok hq (by omega) hj.1 (Nat.le_refl _) (by omega) hj.2.1 (by omega) (by omega) (ft_jn_128 _ _ _ _ _ _ 0 (by simp) (fun y hy => by simp at hy) c1 c3 hq.2 (by simp only [ft_zR]; omega))
/-- the state holds the reference -/
def mR (q : ft_Q) (lo hi : Nat → Int32) (en : Nat) (zf mk : Nat → Nat) (md : Nat) (pl ct : Nat → Nat) (vs : Nat) (w : Nat → Nat) (n : Nat) : Prop :=
  (vs = q.1.length ∧ en = q.2.2.length ∧ md = q.2.1.1 ∧ zf = q.2.1.2) ∧ (∀ (i : Nat) (e : Int32 × Int32), q.2.2[i]? = some e → lo i = e.1 ∧ hi i = e.2) ∧ (∀ (v : Nat) (t : ft_T), q.1[v]? = some t → ct v = ft_zT t.1 t.2 ∧ ft_hd pl (40 * v) (ft_wT t.1 t.2)) ∧ (∀ i, mk i = 0) ∧ ft_bw pl ∧ ft_bw w ∧ n ≤ 48
def mI (D : va_G) (a : Nat → Nat) (A : Nat → ClassId) (q : ft_Q) (H : Heap) : Prop := ∃ lo hi en zf mk md pl ct vs w n, mR q lo hi en zf mk md pl ct vs w n ∧ mH D a A lo hi en zf mk md pl ct vs w n H
theorem ft_ld_hd {w pl : Nat → Nat} {j m : Nat} {L : List Nat} (h : ft_hd pl (40 * j) L) (hm : L.length ≤ m) : ft_hd (ft_ld w pl j m) 0 L := fun i x hi => by
  have hil := (List.getElem?_eq_some_iff.1 hi).1
  unfold ft_ld
  rw [Nat.zero_add, if_pos (by omega)]
  exact h i x hi
theorem ft_st_hd {w pl : Nat → Nat} {v f m : Nat} {L : List Nat} (h : ft_hd w f L) (hm : L.length ≤ m) : ft_hd (ft_st pl w v f m) (40 * v) L := fun i x hi => by
  have hil := (List.getElem?_eq_some_iff.1 hi).1
  unfold ft_st
  rw [if_pos (by omega), Nat.add_sub_cancel_left]
  exact h i x hi
theorem ft_st_old {w pl : Nat → Nat} {v u f m : Nat} {L : List Nat} (h : ft_hd pl (40 * u) L) (hu : u < v) (hl : L.length ≤ 40) : ft_hd (ft_st pl w v f m) (40 * u) L := ft_hd_congr h (fun q h1 h2 => by unfold ft_st; rw [if_neg (by omega)])
theorem mR_keep {q : ft_Q} {lo hi : Nat → Int32} {en : Nat} {zf mk : Nat → Nat} {md : Nat} {pl ct : Nat → Nat} {vs : Nat} {w : Nat → Nat} {n : Nat} (h : mR q lo hi en zf mk md pl ct vs w n) (hq : sp_ok2 q) {t : ft_T} {c : ft_C} {e : ft_E} {lo' hi' : Nat → Int32} {w' : Nat → Nat} {f m n' : Nat}
    (hE : ∀ (i : Nat) (x : Int32 × Int32), e[i]? = some x → lo' i = x.1 ∧ hi' i = x.2) (hh : ft_hd w' f (ft_wT t.1 t.2)) (hm : m = ft_zT t.1 t.2) (hw : ft_bw w') (hn : n' ≤ 48) : mR (q.1 ++ [t], c, e) lo' hi' e.length c.2 mk c.1 (ft_st pl w' vs f m) (va_up ct vs m) (vs + 1) w' n' := by
  obtain ⟨⟨h1, h2, h3, h4⟩, h5, h6, h7, h8, h9, h10⟩ := h
  refine ⟨⟨by simp [h1], rfl, rfl, rfl⟩, hE, fun v u hv => ?_, h7, ft_st_bw hw h8, hw, hn⟩
  rcases Nat.lt_or_ge v q.1.length with hlt | hge
  · rw [List.getElem?_append_left hlt] at hv
    have hu := h6 v u hv
    have hz := (hq.1.2.2.1 u (List.mem_of_getElem? hv)).2
    have hne : v ≠ vs := by omega
    exact ⟨by simp only [va_up, if_neg hne]; exact hu.1, ft_st_old hu.2 (by omega) (by rw [ft_wT_len]; exact hz)⟩
  · rw [List.getElem?_append_right hge] at hv
    have hve : v - q.1.length = 0 := by
      rcases Nat.eq_zero_or_pos (v - q.1.length) with h0 | h0
      · exact h0
      · rw [List.getElem?_eq_none (by simp; omega)] at hv; cases hv
    rw [hve] at hv
    cases hv
    have hve : v = vs := by omega
    subst hve
    exact ⟨by simp only [va_up, if_true]; exact hm, ft_st_hd hh (by rw [ft_wT_len]; omega)⟩
theorem mR_ent {q : ft_Q} {lo hi : Nat → Int32} {x y : Int32} (h : ∀ (i : Nat) (e : Int32 × Int32), q.2.2[i]? = some e → lo i = e.1 ∧ hi i = e.2) : ∀ (i : Nat) (e : Int32 × Int32), (q.2.2 ++ [(x, y)])[i]? = some e → upd lo q.2.2.length x i = e.1 ∧ upd hi q.2.2.length y i = e.2 := by
  intro i e hi2
  rcases Nat.lt_or_ge i q.2.2.length with hlt | hge
  · rw [List.getElem?_append_left hlt] at hi2
    have hne : i ≠ q.2.2.length := by omega
    simp only [upd, if_neg hne]
    exact h i e hi2
  · rw [List.getElem?_append_right hge] at hi2
    have h0 : i - q.2.2.length = 0 := by
      rcases Nat.eq_zero_or_pos (i - q.2.2.length) with h0 | h0
      · exact h0
      · rw [List.getElem?_eq_none (by simp; omega)] at hi2; cases hi2
    rw [h0] at hi2
    cases hi2
    have hie : i = q.2.2.length := by omega
    subst hie
    simp [upd]
theorem sp_at_cases {q : ft_Q} (hq : sp_ok2 q) (v : Int32) : ((v < 0 ∨ nI q.1.length ≤ v) ∧ sp_at q v = none) ∨ ∃ (j : Nat) (t : ft_T), v = nI j ∧ j < q.1.length ∧ q.1[j]? = some t ∧ sp_at q v = some t := by
  have h120 := hq.1.2.1
  rcases pk_ix v (n := q.1.length) (by omega) with h | h | ⟨j, hj, e⟩
  · exact Or.inl ⟨Or.inl h, by unfold sp_at; rw [if_pos h]⟩
  · refine Or.inl ⟨Or.inr h, ?_⟩
    unfold sp_at
    have hn : ¬ v < 0 := fun h0 => by
      have h1 := Int32.lt_of_le_of_lt h h0
      exact nI_pos (by omega) h1
    rw [if_neg hn]
    obtain ⟨j, hj, e⟩ := nI_of hn
    subst e
    rw [nI_clamp hj]
    exact List.getElem?_eq_none ((nI_leI (by omega) hj).1 h)
  · refine Or.inr ⟨j, q.1[j], e, hj, List.getElem?_eq_getElem hj, ?_⟩
    unfold sp_at
    subst e
    rw [if_neg (nI_pos (by omega)), nI_clamp (by omega)]
    exact List.getElem?_eq_getElem hj
