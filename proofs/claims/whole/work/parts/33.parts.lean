/-! Contracts of the reference: none, load, store, put, drop, halves. -/
/-- what load, store, put and drop make of the arrays -/
def ft_ld (w pl : Nat → Nat) (j m : Nat) : Nat → Nat := fun q => if q < m then pl (40 * j + q) else w q
def ft_st (pl w : Nat → Nat) (v f m : Nat) : Nat → Nat := fun x => if 40 * v ≤ x ∧ x < 40 * v + m then w (f + (x - 40 * v)) else pl x
def ft_sh (w : Nat → Nat) (p n : Nat) : Nat → Nat := fun q => if p < q ∧ q ≤ n then w (q - 1) else w q
def ft_dr (w : Nat → Nat) (p m : Nat) : Nat → Nat := fun q => if p ≤ q ∧ q < m then w (q + 1) else w q
theorem ft_ld_bw {w pl : Nat → Nat} {j m : Nat} (h1 : ft_bw w) (h2 : ft_bw pl) : ft_bw (ft_ld w pl j m) := fun q => by
  unfold ft_ld; split
  · exact h2 _
  · exact h1 _
theorem ft_st_bw {w pl : Nat → Nat} {v f m : Nat} (h1 : ft_bw w) (h2 : ft_bw pl) : ft_bw (ft_st pl w v f m) := fun q => by
  unfold ft_st; split
  · exact h1 _
  · exact h2 _
theorem ft_sh_bw {w : Nat → Nat} {p n : Nat} (h1 : ft_bw w) : ft_bw (ft_sh w p n) := fun q => by
  unfold ft_sh; split
  · exact h1 _
  · exact h1 _
theorem ft_dr_bw {w : Nat → Nat} {p n : Nat} (h1 : ft_bw w) : ft_bw (ft_dr w p n) := fun q => by
  unfold ft_dr; split
  · exact h1 _
  · exact h1 _
theorem ft_up_bw {w : Nat → Nat} {p v : Nat} (h1 : ft_bw w) (hv : v < 2251799813685248) : ft_bw (va_up w p v) := fun q => by
  unfold va_up; split
  · exact hv
  · exact h1 _
theorem ft_ld0 (w pl : Nat → Nat) (j : Nat) : ft_ld w pl j 0 = w := funext fun q => by unfold ft_ld; rw [if_neg (by omega)]
theorem ft_ldS (w pl : Nat → Nat) (j i : Nat) : va_up (ft_ld w pl j i) i (pl (40 * j + i)) = ft_ld w pl j (i + 1) := funext fun q => by
  simp only [ft_ld, va_up]
  by_cases e : q = i
  · subst e; rw [if_pos rfl, if_pos (by omega)]
  · rw [if_neg e]
    by_cases e2 : q < i
    · rw [if_pos e2, if_pos (by omega)]
    · rw [if_neg e2, if_neg (by omega)]
theorem ft_st0 (pl w : Nat → Nat) (v f : Nat) : ft_st pl w v f 0 = pl := funext fun q => by unfold ft_st; rw [if_neg (by omega)]
theorem ft_stS (pl w : Nat → Nat) (v f i : Nat) : va_up (ft_st pl w v f i) (40 * v + i) (w (f + i)) = ft_st pl w v f (i + 1) := funext fun q => by
  simp only [ft_st, va_up]
  by_cases e : q = 40 * v + i
  · subst e; rw [if_pos rfl, if_pos (by omega), Nat.add_sub_cancel_left]
  · rw [if_neg e]
    by_cases e2 : 40 * v ≤ q ∧ q < 40 * v + i
    · rw [if_pos e2, if_pos (by omega)]
    · rw [if_neg e2, if_neg (by omega)]
theorem ft_dr0 (w : Nat → Nat) (p : Nat) : ft_dr w p p = w := funext fun q => by unfold ft_dr; rw [if_neg (by omega)]
theorem ft_dr_at (w : Nat → Nat) (p i : Nat) : ft_dr w p i (i + 1) = w (i + 1) := by unfold ft_dr; rw [if_neg (by omega)]
theorem ft_drS {w : Nat → Nat} {p i : Nat} (h : p ≤ i) : va_up (ft_dr w p i) i (w (i + 1)) = ft_dr w p (i + 1) := funext fun q => by
  simp only [ft_dr, va_up]
  by_cases e : q = i
  · subst e; rw [if_pos rfl, if_pos (by omega)]
  · rw [if_neg e]
    by_cases e2 : p ≤ q ∧ q < i
    · rw [if_pos e2, if_pos (by omega)]
    · rw [if_neg e2, if_neg (by omega)]
/-- the words above i have moved up already -/
def ft_sg (w : Nat → Nat) (i n : Nat) : Nat → Nat := fun q => if i < q ∧ q ≤ n then w (q - 1) else w q
theorem ft_sg0 (w : Nat → Nat) (n : Nat) : ft_sg w n n = w := funext fun q => by unfold ft_sg; rw [if_neg (by omega)]
theorem ft_sg_at (w : Nat → Nat) (i n : Nat) : ft_sg w (i + 1) n i = w i := by unfold ft_sg; rw [if_neg (by omega)]
theorem ft_sgS {w : Nat → Nat} {i n : Nat} (h : i + 1 ≤ n) : va_up (ft_sg w (i + 1) n) (i + 1) (w i) = ft_sg w i n := funext fun q => by
  simp only [ft_sg, va_up]
  by_cases e : q = i + 1
  · subst e; rw [if_pos rfl, if_pos (by omega), Nat.add_sub_cancel]
  · rw [if_neg e]
    by_cases e2 : i + 1 < q ∧ q ≤ n
    · rw [if_pos e2, if_pos (by omega)]
    · rw [if_neg e2, if_neg (by omega)]
set_option maxRecDepth 100000 in
set_option maxHeartbeats 4000000 in
theorem C_M_none_t (l : Launch) (D : va_G) (A : Nat → ClassId) (H0 : Heap) (a : Nat → Nat) (lo hi : Nat → Int32) (en md vs n : Nat) (zf mk pl ct w : Nat → Nat) (hP : mH D a A lo hi en zf mk md pl ct vs w n H0) (v : Int32) (hv : v < 0 ∨ nI vs ≤ v) : xC l y_M_none c_M_none 2 (some .boolean) 0 D A H0 [.ref (a 0), .int v] (fun _ => False) (q1 (.int (nI 1)) (fun H1 => H1 = H0)) 0 0 := by
  refine xC.of rfl (Nat.le_of_ble_eq_true rfl) ?_
  intro p_ e_ s_ m_ ar_ bl_ me_ c_ ls X hl
  have hl : lz ls 2 [some (.ref (a 0)), some (.int v)] := hl
  have hS : va_S (fun _ => False) H0 H0 [] := va_S.rf
  refine x_iload_n X d_M_none_0 rfl hl rfl ?_
  have fin : ∀ (locs : List Loc), va_S (fun _ => False) H0 H0 locs → W p_ l e_ (x_rm 0 0 0) s_ m_ ar_ bl_ me_ c_ H0 locs 0 0 (MQ bl_ (xQ (fun _ => False) (q1 (.int (nI 1)) (fun H1 => H1 = H0))) ar_ s_ 0 0 (fun _ => False)) (F0 m_ 12 ls []) := by
    intro locs hS
    refine x_iconst (v := nI 1) X d_M_none_12 rfl ?_
    refine x_goto X 17 d_M_none_13 rfl ?_
    exact x_zret X hS (Nat.le_refl _) (Nat.le_refl _) d_M_none_17 rfl ⟨rfl, rfl⟩
  refine x_if_lt X 12 d_M_none_1 rfl (fun _ => fin _ hS) (fun h0 => ?_)
  refine x_iload_n X d_M_none_4 rfl hl rfl ?_
  refine x_aload_n X d_M_none_5 rfl hl rfl ?_
  refine m_get X hP 8 (by decide) e_M_30 rfl d_M_none_6 ?_
  refine x_icmp_lt X 16 d_M_none_9 rfl (fun h => ?_) (fun _ => fin _ hS)
  rcases hv with hv | hv
  · exact absurd hv h0
  · exact absurd h (Int32.not_lt.2 hv)
set_option maxRecDepth 100000 in
set_option maxHeartbeats 4000000 in
theorem C_M_none_f (l : Launch) (D : va_G) (A : Nat → ClassId) (H0 : Heap) (a : Nat → Nat) (lo hi : Nat → Int32) (en md vs n : Nat) (zf mk pl ct w : Nat → Nat) (hP : mH D a A lo hi en zf mk md pl ct vs w n H0) (j : Nat) (hj : j < vs) (hvs : vs < 2 ^ 31) : xC l y_M_none c_M_none 2 (some .boolean) 0 D A H0 [.ref (a 0), .int (nI j)] (fun _ => False) (q1 (.int (nI 0)) (fun H1 => H1 = H0)) 0 0 := by
  refine xC.of rfl (Nat.le_of_ble_eq_true rfl) ?_
  intro p_ e_ s_ m_ ar_ bl_ me_ c_ ls X hl
  have hl : lz ls 2 [some (.ref (a 0)), some (.int (nI j))] := hl
  have hS : va_S (fun _ => False) H0 H0 [] := va_S.rf
  refine x_iload_n X d_M_none_0 rfl hl rfl ?_
  refine n_if_lt X 12 d_M_none_1 rfl (by omega) (fun hc => absurd hc (Nat.not_lt_zero _)) (fun hc => ?_)
  refine x_iload_n X d_M_none_4 rfl hl rfl ?_
  refine x_aload_n X d_M_none_5 rfl hl rfl ?_
  refine m_get X hP 8 (by decide) e_M_30 rfl d_M_none_6 ?_
  refine n_icmp_lt X 16 d_M_none_9 rfl (by omega) (by omega) (fun hc => ?_) (fun hc => absurd hc (by omega))
  refine x_iconst (v := nI 0) X d_M_none_16 rfl ?_
  exact x_zret X hS (Nat.le_refl _) (Nat.le_refl _) d_M_none_17 rfl ⟨rfl, rfl⟩
set_option maxRecDepth 100000 in
set_option maxHeartbeats 4000000 in
theorem C_M_load (l : Launch) (D : va_G) (A : Nat → ClassId) (H0 : Heap) (a : Nat → Nat) (lo hi : Nat → Int32) (en md vs n : Nat) (zf mk pl ct w : Nat → Nat) (hP : mH D a A lo hi en zf mk md pl ct vs w n H0) (hd : mDs a) (j : Nat) (hj : j < 120) (hc40 : ct j ≤ 40) : xC l y_M_load c_M_load 3 (none : Option FieldType) 0 D A H0 [.ref (a 0), .int (nI j)] (mFr a) (q0 (fun H1 => mH D a A lo hi en zf mk md pl ct vs (ft_ld w pl j (ct j)) (ct j) H1)) 0 0 := by
  refine xC.of rfl (Nat.le_of_ble_eq_true rfl) ?_
  intro p_ e_ s_ m_ ar_ bl_ me_ c_ ls X hl
  have hl : lz ls 3 [some (.ref (a 0)), some (.int (nI j)), none] := hl
  have hS : va_S (mFr a) H0 H0 [] := va_S.rf
  refine x_aload_n X d_M_load_0 rfl hl rfl ?_
  refine x_aload_n X d_M_load_1 rfl hl rfl ?_
  refine m_get X hP 7 (by decide) e_M_27 rfl d_M_load_2 ?_
  refine x_iload_n X d_M_load_5 rfl hl rfl ?_
  refine m_ld_ct X hP (by omega) d_M_load_6 ?_
  refine m_put_n X hP hd hS d_M_load_7 (fun H locs hP hS => ?_)
  refine x_iconst (v := nI 0) X d_M_load_10 rfl ?_
  refine x_istore_n X d_M_load_11 rfl hl (by decide) rfl (fun ls hl => ?_)
  have loop : ∀ (g i : Nat) (H1 : Heap) (locs : List Loc) (ls : Array Slot), ct j - i = g → i ≤ ct j → lz ls 3 [some (.ref (a 0)), some (.int (nI j)), some (.int (nI i))] → mH D a A lo hi en zf mk md pl ct vs (ft_ld w pl j i) (ct j) H1 → va_S (mFr a) H0 H1 locs → W p_ l e_ (x_rm 0 0 0) s_ m_ ar_ bl_ me_ c_ H1 locs 0 0 (MQ bl_ (xQ (mFr a) (q0 (fun H1 => mH D a A lo hi en zf mk md pl ct vs (ft_ld w pl j (ct j)) (ct j) H1))) ar_ s_ 0 0 (mFr a)) (F0 m_ 12 ls []) := by
    intro g
    induction g with
    | zero =>
      intro i H1 locs ls hg hic hl hP hS
      have hie : i = ct j := by omega
      subst hie
      refine x_iload_n X d_M_load_12 rfl hl rfl ?_
      refine x_aload_n X d_M_load_13 rfl hl rfl ?_
      refine m_get X hP 10 (by decide) e_M_37 rfl d_M_load_14 ?_
      refine n_icmp_ge X 43 d_M_load_17 rfl (by omega) (by omega) (fun hc => ?_) (fun hc => absurd hc (by omega))
      exact x_vret X hS (Nat.le_refl _) (Nat.le_refl _) d_M_load_43 ⟨rfl, hP⟩
    | succ g ih =>
      intro i H1 locs ls hg hic hl hP hS
      refine x_iload_n X d_M_load_12 rfl hl rfl ?_
      refine x_aload_n X d_M_load_13 rfl hl rfl ?_
      refine m_get X hP 10 (by decide) e_M_37 rfl d_M_load_14 ?_
      refine n_icmp_ge X 43 d_M_load_17 rfl (by omega) (by omega) (fun hc => absurd hc (by omega)) (fun hc => ?_)
      refine x_aload_n X d_M_load_20 rfl hl rfl ?_
      refine m_get X hP 9 (by decide) e_M_34 rfl d_M_load_21 ?_
      refine x_iload_n X d_M_load_24 rfl hl rfl ?_
      refine x_aload_n X d_M_load_25 rfl hl rfl ?_
      refine m_get X hP 6 (by decide) e_M_23 rfl d_M_load_26 ?_
      refine x_bipush (v := nI 40) X d_M_load_29 rfl ?_
      refine x_iload_n X d_M_load_31 rfl hl rfl ?_
      refine n_imul X d_M_load_32 ?_
      refine x_iload_n X d_M_load_33 rfl hl rfl ?_
      refine n_iadd X d_M_load_34 ?_
      refine m_ld_pl X hP (by omega) d_M_load_35 ?_
      refine m_st_w X hP hd hS (by omega) d_M_load_36 (fun H locs hP hS => ?_)
      rw [ft_ldS] at hP
      refine n_iinc (d := 1) X d_M_load_37 rfl hl rfl (by decide) rfl (fun ls hl => ?_)
      refine x_goto X 12 d_M_load_40 rfl ?_
      exact ih (i + 1) _ _ _ (by omega) (by omega) hl hP hS
  exact loop (ct j) 0 _ _ _ rfl (Nat.zero_le _) hl (by rw [ft_ld0]; exact hP) hS
set_option maxRecDepth 100000 in
set_option maxHeartbeats 4000000 in
theorem C_M_store (l : Launch) (D : va_G) (A : Nat → ClassId) (H0 : Heap) (a : Nat → Nat) (lo hi : Nat → Int32) (en md vs n : Nat) (zf mk pl ct w : Nat → Nat) (hP : mH D a A lo hi en zf mk md pl ct vs w n H0) (hd : mDs a) (f t : Nat) (hft : f ≤ t) (ht : t ≤ 48) (htf : t - f ≤ 40) (hvs : vs < 120) : xC l y_M_store c_M_store 4 (some .int) 0 D A H0 [.ref (a 0), .int (nI f), .int (nI t)] (mFr a) (q1 (.int (nI vs)) (fun H1 => mH D a A lo hi en zf mk md (ft_st pl w vs f (t - f)) (va_up ct vs (t - f)) (vs + 1) w n H1)) 0 0 := by
  refine xC.of rfl (Nat.le_of_ble_eq_true rfl) ?_
  intro p_ e_ s_ m_ ar_ bl_ me_ c_ ls X hl
  have hl : lz ls 4 [some (.ref (a 0)), some (.int (nI f)), some (.int (nI t)), none] := hl
  have hS : va_S (mFr a) H0 H0 [] := va_S.rf
  refine x_iload_n X d_M_store_0 rfl hl rfl ?_
  refine x_istore_n X d_M_store_1 rfl hl (by decide) rfl (fun ls hl => ?_)
  have loop : ∀ (g i : Nat) (H1 : Heap) (locs : List Loc) (ls : Array Slot), t - f - i = g → i ≤ t - f → lz ls 4 [some (.ref (a 0)), some (.int (nI f)), some (.int (nI t)), some (.int (nI (f + i)))] → mH D a A lo hi en zf mk md (ft_st pl w vs f i) ct vs w n H1 → va_S (mFr a) H0 H1 locs → W p_ l e_ (x_rm 0 0 0) s_ m_ ar_ bl_ me_ c_ H1 locs 0 0 (MQ bl_ (xQ (mFr a) (q1 (.int (nI vs)) (fun H1 => mH D a A lo hi en zf mk md (ft_st pl w vs f (t - f)) (va_up ct vs (t - f)) (vs + 1) w n H1))) ar_ s_ 0 0 (mFr a)) (F0 m_ 2 ls []) := by
    intro g
    induction g with
    | zero =>
      intro i H1 locs ls hg hic hl hP hS
      have hie : i = t - f := by omega
      subst hie
      refine x_iload_n X d_M_store_2 rfl hl rfl ?_
      refine x_iload_n X d_M_store_3 rfl hl rfl ?_
      refine n_icmp_ge X 35 d_M_store_4 rfl (by omega) (by omega) (fun hc => ?_) (fun hc => absurd hc (by omega))
      refine x_aload_n X d_M_store_35 rfl hl rfl ?_
      refine m_get X hP 7 (by decide) e_M_27 rfl d_M_store_36 ?_
      refine x_aload_n X d_M_store_39 rfl hl rfl ?_
      refine m_get X hP 8 (by decide) e_M_30 rfl d_M_store_40 ?_
      refine x_iload_n X d_M_store_43 rfl hl rfl ?_
      refine x_iload_n X d_M_store_44 rfl hl rfl ?_
      refine n_isub X d_M_store_45 (by omega) ?_
      refine x_i2b X d_M_store_46 (m_byte2 _ (by omega)) ?_
      refine m_st_ct X hP hd hS (by omega) (by omega) d_M_store_47 (fun H locs hP hS => ?_)
      refine x_aload_n X d_M_store_48 rfl hl rfl ?_
      refine x_dup X d_M_store_49 rfl ?_
      refine m_get X hP 8 (by decide) e_M_30 rfl d_M_store_50 ?_
      refine x_iconst (v := nI 1) X d_M_store_53 rfl ?_
      refine n_iadd X d_M_store_54 ?_
      refine m_put_vs X hP hd hS d_M_store_55 (fun H locs hP hS => ?_)
      refine x_aload_n X d_M_store_58 rfl hl rfl ?_
      refine m_get X hP 8 (by decide) e_M_30 rfl d_M_store_59 ?_
      refine x_iconst (v := nI 1) X d_M_store_62 rfl ?_
      refine n_isub X d_M_store_63 (by omega) ?_
      rw [Nat.add_sub_cancel]
      exact x_iret X hS (Nat.le_refl _) (Nat.le_refl _) d_M_store_64 ⟨rfl, hP⟩
    | succ g ih =>
      intro i H1 locs ls hg hic hl hP hS
      refine x_iload_n X d_M_store_2 rfl hl rfl ?_
      refine x_iload_n X d_M_store_3 rfl hl rfl ?_
      refine n_icmp_ge X 35 d_M_store_4 rfl (by omega) (by omega) (fun hc => absurd hc (by omega)) (fun hc => ?_)
      refine x_aload_n X d_M_store_7 rfl hl rfl ?_
      refine m_get X hP 6 (by decide) e_M_23 rfl d_M_store_8 ?_
      refine x_bipush (v := nI 40) X d_M_store_11 rfl ?_
      refine x_aload_n X d_M_store_13 rfl hl rfl ?_
      refine m_get X hP 8 (by decide) e_M_30 rfl d_M_store_14 ?_
      refine n_imul X d_M_store_17 ?_
      refine x_iload_n X d_M_store_18 rfl hl rfl ?_
      refine n_iadd X d_M_store_19 ?_
      refine x_iload_n X d_M_store_20 rfl hl rfl ?_
      refine n_isub X d_M_store_21 (by omega) ?_
      rw [show 40 * vs + (f + i) - f = 40 * vs + i from by omega]
      refine x_aload_n X d_M_store_22 rfl hl rfl ?_
      refine m_get X hP 9 (by decide) e_M_34 rfl d_M_store_23 ?_
      refine x_iload_n X d_M_store_26 rfl hl rfl ?_
      refine m_ld_w X hP (by omega) d_M_store_27 ?_
      refine m_st_pl X hP hd hS (by omega) d_M_store_28 (fun H locs hP hS => ?_)
      rw [ft_stS] at hP
      refine n_iinc (d := 1) X d_M_store_29 rfl hl rfl (by decide) rfl (fun ls hl => ?_)
      refine x_goto X 2 d_M_store_32 rfl ?_
      exact ih (i + 1) _ _ _ (by omega) (by omega) hl hP hS
  exact loop (t - f) 0 _ _ _ rfl (Nat.zero_le _) hl (by rw [ft_st0]; exact hP) hS
theorem m_or384 : ∀ en, en < 128 → lN en ||| 384 = lN (en + 384) := by decide +kernel
set_option maxRecDepth 100000 in
set_option maxHeartbeats 4000000 in
theorem C_M_put (l : Launch) (D : va_G) (A : Nat → ClassId) (H0 : Heap) (a : Nat → Nat) (lo hi : Nat → Int32) (en md vs n : Nat) (zf mk pl ct w : Nat → Nat) (hP : mH D a A lo hi en zf mk md pl ct vs w n H0) (hd : mDs a) (p : Nat) (lw hg : Int32) (hpn : p ≤ n) (hn : n < 48) (hen : en < 120) : xC l y_M_put c_M_put 5 (none : Option FieldType) 0 D A H0 [.ref (a 0), .int (nI p), .int lw, .int hg] (mFr a) (q0 (fun H1 => mH D a A (upd lo en lw) (upd hi en hg) (en + 1) zf mk md pl ct vs (va_up (ft_sg w p n) p (en + 384)) (n + 1) H1)) 0 0 := by
  refine xC.of rfl (Nat.le_of_ble_eq_true rfl) ?_
  intro p_ e_ s_ m_ ar_ bl_ me_ c_ ls X hl
  have hl : lz ls 5 [some (.ref (a 0)), some (.int (nI p)), some (.int lw), some (.int hg), none] := hl
  have hS : va_S (mFr a) H0 H0 [] := va_S.rf
  refine x_aload_n X d_M_put_0 rfl hl rfl ?_
  refine m_get X hP 10 (by decide) e_M_37 rfl d_M_put_1 ?_
  refine x_istore X d_M_put_4 hl (by decide) rfl (fun ls hl => ?_)
  have loop : ∀ (g i : Nat) (H1 : Heap) (locs : List Loc) (ls : Array Slot), i - p = g → p ≤ i → i ≤ n → lz ls 5 [some (.ref (a 0)), some (.int (nI p)), some (.int lw), some (.int hg), some (.int (nI i))] → mH D a A lo hi en zf mk md pl ct vs (ft_sg w i n) n H1 → va_S (mFr a) H0 H1 locs → W p_ l e_ (x_rm 0 0 0) s_ m_ ar_ bl_ me_ c_ H1 locs 0 0 (MQ bl_ (xQ (mFr a) (q0 (fun H1 => mH D a A (upd lo en lw) (upd hi en hg) (en + 1) zf mk md pl ct vs (va_up (ft_sg w p n) p (en + 384)) (n + 1) H1))) ar_ s_ 0 0 (mFr a)) (F0 m_ 6 ls []) := by
    intro g
    induction g with
    | zero =>
      intro i H1 locs ls hgi hpi hin hl hP hS
      have hie : i = p := by omega
      subst hie
      refine x_iload X d_M_put_6 hl rfl ?_
      refine x_iload_n X d_M_put_8 rfl hl rfl ?_
      refine n_icmp_le X 34 d_M_put_9 rfl (by omega) (by omega) (fun hc => ?_) (fun hc => absurd hc (by omega))
      refine x_aload_n X d_M_put_34 rfl hl rfl ?_
      refine m_get X hP 0 (by decide) e_M_7 rfl d_M_put_35 ?_
      refine x_aload_n X d_M_put_38 rfl hl rfl ?_
      refine m_get X hP 2 (by decide) e_M_104 rfl d_M_put_39 ?_
      refine x_iload_n X d_M_put_42 rfl hl rfl ?_
      refine m_st_lo X hP hd hS (by omega) d_M_put_43 (fun H locs hP hS => ?_)
      refine x_aload_n X d_M_put_44 rfl hl rfl ?_
      refine m_get X hP 1 (by decide) e_M_13 rfl d_M_put_45 ?_
      refine x_aload_n X d_M_put_48 rfl hl rfl ?_
      refine m_get X hP 2 (by decide) e_M_104 rfl d_M_put_49 ?_
      refine x_iload_n X d_M_put_52 rfl hl rfl ?_
      refine m_st_hi X hP hd hS (by omega) d_M_put_53 (fun H locs hP hS => ?_)
      refine x_aload_n X d_M_put_54 rfl hl rfl ?_
      refine m_get X hP 9 (by decide) e_M_34 rfl d_M_put_55 ?_
      refine x_iload_n X d_M_put_58 rfl hl rfl ?_
      refine x_aload_n X d_M_put_59 rfl hl rfl ?_
      refine m_get X hP 2 (by decide) e_M_104 rfl d_M_put_60 ?_
      refine x_i2l X d_M_put_63 (nI_l (by omega)) ?_
      refine x_ldc2 X e_M_107 d_M_put_64 ?_
      refine x_lor X d_M_put_67 ?_
      refine x_topl (y := lN (en + 384)) (m_or384 en (by omega)) ?_
      refine m_st_w X hP hd hS (by omega) d_M_put_68 (fun H locs hP hS => ?_)
      refine x_aload_n X d_M_put_69 rfl hl rfl ?_
      refine x_dup X d_M_put_70 rfl ?_
      refine m_get X hP 2 (by decide) e_M_104 rfl d_M_put_71 ?_
      refine x_iconst (v := nI 1) X d_M_put_74 rfl ?_
      refine n_iadd X d_M_put_75 ?_
      refine m_put_en X hP hd hS d_M_put_76 (fun H locs hP hS => ?_)
      refine x_aload_n X d_M_put_79 rfl hl rfl ?_
      refine x_dup X d_M_put_80 rfl ?_
      refine m_get X hP 10 (by decide) e_M_37 rfl d_M_put_81 ?_
      refine x_iconst (v := nI 1) X d_M_put_84 rfl ?_
      refine n_iadd X d_M_put_85 ?_
      refine m_put_n X hP hd hS d_M_put_86 (fun H locs hP hS => ?_)
      exact x_vret X hS (Nat.le_refl _) (Nat.le_refl _) d_M_put_89 ⟨rfl, hP⟩
    | succ g ih =>
      intro i H1 locs ls hgi hpi hin hl hP hS
      obtain ⟨i, rfl⟩ : ∃ i', i = i' + 1 := ⟨i - 1, by omega⟩
      refine x_iload X d_M_put_6 hl rfl ?_
      refine x_iload_n X d_M_put_8 rfl hl rfl ?_
      refine n_icmp_le X 34 d_M_put_9 rfl (by omega) (by omega) (fun hc => absurd hc (by omega)) (fun hc => ?_)
      refine x_aload_n X d_M_put_12 rfl hl rfl ?_
      refine m_get X hP 9 (by decide) e_M_34 rfl d_M_put_13 ?_
      refine x_iload X d_M_put_16 hl rfl ?_
      refine x_aload_n X d_M_put_18 rfl hl rfl ?_
      refine m_get X hP 9 (by decide) e_M_34 rfl d_M_put_19 ?_
      refine x_iload X d_M_put_22 hl rfl ?_
      refine x_iconst (v := nI 1) X d_M_put_24 rfl ?_
      refine n_isub X d_M_put_25 (by omega) ?_
      rw [Nat.add_sub_cancel]
      refine m_ld_w X hP (by omega) d_M_put_26 ?_
      rw [ft_sg_at]
      refine m_st_w X hP hd hS (by omega) d_M_put_27 (fun H locs hP hS => ?_)
      rw [ft_sgS hin] at hP
      refine n_idec X d_M_put_28 (by omega) hl rfl (by decide) rfl (fun ls hl => ?_)
      refine x_goto X 6 d_M_put_31 rfl ?_
      rw [Nat.add_sub_cancel] at hl
      exact ih i _ _ _ (by omega) (by omega) (by omega) hl hP hS
  exact loop (n - p) n _ _ _ rfl hpn (Nat.le_refl _) hl (by rw [ft_sg0]; exact hP) hS
set_option maxRecDepth 100000 in
set_option maxHeartbeats 4000000 in
theorem C_M_drop (l : Launch) (D : va_G) (A : Nat → ClassId) (H0 : Heap) (a : Nat → Nat) (lo hi : Nat → Int32) (en md vs n : Nat) (zf mk pl ct w : Nat → Nat) (hP : mH D a A lo hi en zf mk md pl ct vs w n H0) (hd : mDs a) (p : Nat) (hpn : p < n) (hn : n ≤ 48) : xC l y_M_drop c_M_drop 3 (none : Option FieldType) 0 D A H0 [.ref (a 0), .int (nI p)] (mFr a) (q0 (fun H1 => mH D a A lo hi en zf mk md pl ct vs (ft_dr w p (n - 1)) (n - 1) H1)) 0 0 := by
  refine xC.of rfl (Nat.le_of_ble_eq_true rfl) ?_
  intro p_ e_ s_ m_ ar_ bl_ me_ c_ ls X hl
  have hl : lz ls 3 [some (.ref (a 0)), some (.int (nI p)), none] := hl
  have hS : va_S (mFr a) H0 H0 [] := va_S.rf
  refine x_aload_n X d_M_drop_0 rfl hl rfl ?_
  refine x_dup X d_M_drop_1 rfl ?_
  refine m_get X hP 10 (by decide) e_M_37 rfl d_M_drop_2 ?_
  refine x_iconst (v := nI 1) X d_M_drop_5 rfl ?_
  refine n_isub X d_M_drop_6 (by omega) ?_
  refine m_put_n X hP hd hS d_M_drop_7 (fun H locs hP hS => ?_)
  refine x_iload_n X d_M_drop_10 rfl hl rfl ?_
  refine x_istore_n X d_M_drop_11 rfl hl (by decide) rfl (fun ls hl => ?_)
  have loop : ∀ (g i : Nat) (H1 : Heap) (locs : List Loc) (ls : Array Slot), n - 1 - i = g → p ≤ i → i ≤ n - 1 → lz ls 3 [some (.ref (a 0)), some (.int (nI p)), some (.int (nI i))] → mH D a A lo hi en zf mk md pl ct vs (ft_dr w p i) (n - 1) H1 → va_S (mFr a) H0 H1 locs → W p_ l e_ (x_rm 0 0 0) s_ m_ ar_ bl_ me_ c_ H1 locs 0 0 (MQ bl_ (xQ (mFr a) (q0 (fun H1 => mH D a A lo hi en zf mk md pl ct vs (ft_dr w p (n - 1)) (n - 1) H1))) ar_ s_ 0 0 (mFr a)) (F0 m_ 12 ls []) := by
    intro g
    induction g with
    | zero =>
      intro i H1 locs ls hg hpi hic hl hP hS
      have hie : i = n - 1 := by omega
      subst hie
      refine x_iload_n X d_M_drop_12 rfl hl rfl ?_
      refine x_aload_n X d_M_drop_13 rfl hl rfl ?_
      refine m_get X hP 10 (by decide) e_M_37 rfl d_M_drop_14 ?_
      refine n_icmp_ge X 40 d_M_drop_17 rfl (by omega) (by omega) (fun hc => ?_) (fun hc => absurd hc (by omega))
      exact x_vret X hS (Nat.le_refl _) (Nat.le_refl _) d_M_drop_40 ⟨rfl, hP⟩
    | succ g ih =>
      intro i H1 locs ls hg hpi hic hl hP hS
      refine x_iload_n X d_M_drop_12 rfl hl rfl ?_
      refine x_aload_n X d_M_drop_13 rfl hl rfl ?_
      refine m_get X hP 10 (by decide) e_M_37 rfl d_M_drop_14 ?_
      refine n_icmp_ge X 40 d_M_drop_17 rfl (by omega) (by omega) (fun hc => absurd hc (by omega)) (fun hc => ?_)
      refine x_aload_n X d_M_drop_20 rfl hl rfl ?_
      refine m_get X hP 9 (by decide) e_M_34 rfl d_M_drop_21 ?_
      refine x_iload_n X d_M_drop_24 rfl hl rfl ?_
      refine x_aload_n X d_M_drop_25 rfl hl rfl ?_
      refine m_get X hP 9 (by decide) e_M_34 rfl d_M_drop_26 ?_
      refine x_iload_n X d_M_drop_29 rfl hl rfl ?_
      refine x_iconst (v := nI 1) X d_M_drop_30 rfl ?_
      refine n_iadd X d_M_drop_31 ?_
      refine m_ld_w X hP (by omega) d_M_drop_32 ?_
      rw [ft_dr_at]
      refine m_st_w X hP hd hS (by omega) d_M_drop_33 (fun H locs hP hS => ?_)
      rw [ft_drS hpi] at hP
      refine n_iinc (d := 1) X d_M_drop_34 rfl hl rfl (by decide) rfl (fun ls hl => ?_)
      refine x_goto X 12 d_M_drop_37 rfl ?_
      exact ih (i + 1) _ _ _ (by omega) (by omega) (by omega) hl hP hS
  exact loop (n - 1 - p) p _ _ _ rfl (Nat.le_refl _) (by omega) hl (by rw [ft_dr0]; exact hP) hS
set_option maxRecDepth 100000 in
set_option maxHeartbeats 4000000 in
theorem C_M_halves (l : Launch) (D : va_G) (A : Nat → ClassId) (H0 : Heap) (a : Nat → Nat) (lo hi : Nat → Int32) (en md vs n : Nat) (zf mk pl ct w : Nat → Nat) (hP : mH D a A lo hi en zf mk md pl ct vs w n H0) (hd : mDs a) (hw : ft_bw w) (hz : ∀ i, zf i < 128) (he : en ≤ 128) (sp : ft_S) (o : Option ft_I) (p : Nat) (okt : ft_okT en md zf 0 sp o) (ht : ft_hd w 0 (ft_wT sp o)) (hn40 : n ≤ 40) (hnn : n = ft_zT sp o) (hp : p ≤ n) (hmd : (ft_ha sp o p (md, zf)).2.2.1 < 4200) : xC l y_M_halves c_M_halves 2 (none : Option FieldType) 5 D A H0 [.ref (a 0), .int (nI p)] (mFr a) (q0 (fun H1 => ∃ w', mH D a A lo hi en (ft_ha sp o p (md, zf)).2.2.2 mk (ft_ha sp o p (md, zf)).2.2.1 pl ct vs w' n H1 ∧ ft_bw w' ∧ ft_hd w' 0 (ft_wT (ft_ha sp o p (md, zf)).1.1 (ft_ha sp o p (md, zf)).1.2) ∧ ft_hd w' p (ft_wT (ft_ha sp o p (md, zf)).2.1.1 (ft_ha sp o p (md, zf)).2.1.2))) 0 0 := by
  refine xC.of rfl (Nat.le_of_ble_eq_true rfl) ?_
  intro p_ e_ s_ m_ ar_ bl_ me_ c_ ls X hl
  have hl : lz ls 2 [some (.ref (a 0)), some (.int (nI p))] := hl
  have hS : va_S (mFr a) H0 H0 [] := va_S.rf
  refine x_iload_n X d_M_halves_0 rfl hl rfl ?_
  refine x_aload_n X d_M_halves_1 rfl hl rfl ?_
  refine m_get X hP 10 (by decide) e_M_37 rfl d_M_halves_2 ?_
  refine n_icmp_ge X 19 d_M_halves_5 rfl (by omega) (by omega) (fun hc => ?_) (fun hc => ?_)
  · have hpe : p = ft_zT sp o := by omega
    have hha : ft_ha sp o p (md, zf) = ((sp, o), ([], none), (md, zf)) := by unfold ft_ha; rw [if_pos hpe]
    exact x_vret X hS (Nat.le_refl _) (Nat.le_refl _) d_M_halves_19 ⟨rfl, w, by rw [hha]; exact hP, hw, by rw [hha]; exact ht, by rw [hha]; exact ft_hd_nil _ _⟩
  · have hne : p ≠ ft_zT sp o := by omega
    have hha : ft_ha sp o p (md, zf) = ((ft_cu sp o p).1, (ft_fr (ft_cu sp o p).2.1 (ft_cu sp o p).2.2.1 (ft_cu sp o p).2.2.2 (md, zf)).1, (ft_fr (ft_cu sp o p).2.1 (ft_cu sp o p).2.2.1 (ft_cu sp o p).2.2.2 (md, zf)).2) := by unfold ft_ha; rw [if_neg hne]
    obtain ⟨c1, c2, c3, c4, c5, c6⟩ := ft_cu_ok okt (p := p) (by omega)
    have hz1 := ft_ok_z0 c2
    rw [hha] at hmd
    have hfo := ft_fr_ok (ne := en) (ft_cu sp o p).2.2.1 (ft_cu sp o p).2.1 (ft_cu sp o p).2.2.2 (md, zf) 0 c2 c3
    have hmd0 : md < 4200 := Nat.lt_of_le_of_lt hfo.1.1 hmd
    refine x_aload_n X d_M_halves_8 rfl hl rfl ?_
    refine x_iload_n X d_M_halves_9 rfl hl rfl ?_
    refine x_go0 (x_runV X (C_M_cut l D A _ a lo hi en md vs n zf mk pl ct w hP hd hw hz he hmd0 sp o p okt ht hn40 hnn (by omega)) b_M_cut s_M_cut v_M_cut e_M_129 (m_at hP) rfl rfl hl rfl (Nat.le_of_ble_eq_true rfl) d_M_halves_10 (Nat.le_of_ble_eq_true rfl) (Nat.le_of_ble_eq_true rfl) ⟨Nat.le_of_ble_eq_true rfl, Nat.le_of_ble_eq_true rfl⟩) hS (fun _ h => h) (fun H locs hP hF hS => ?_)
    obtain ⟨w1, hP, hw1, b1, b2, b3⟩ := hP
    have hpe : ft_zT (ft_cu sp o p).1.1 (ft_cu sp o p).1.2 = p := by omega
    rw [hpe] at b2 b3
    refine x_aload_n X d_M_halves_13 rfl hl rfl ?_
    refine x_iload_n X d_M_halves_14 rfl hl rfl ?_
    refine x_iconst (v := nI 0) X d_M_halves_15 rfl ?_
    refine x_go0 (x_runV X (C_M_front l D A _ a lo hi en md vs n zf mk pl ct w1 hP hd hw1 hz he (by omega) 0 p (ft_cu sp o p).2.1 (ft_cu sp o p).2.2.1 (ft_cu sp o p).2.2.2 3 c2 c3 b2 b3 (by decide) (by omega) (by omega) (fun h => absurd h (by omega)) hmd) b_M_front s_M_front v_M_front e_M_98 (m_at hP) rfl rfl hl rfl (Nat.le_of_ble_eq_true rfl) d_M_halves_16 (Nat.le_of_ble_eq_true rfl) (Nat.le_of_ble_eq_true rfl) ⟨Nat.le_of_ble_eq_true rfl, Nat.le_of_ble_eq_true rfl⟩) hS (fun _ h => h) (fun H locs hP hF hS => ?_)
    obtain ⟨w2, hP, hw2, e1, e2⟩ := hP
    exact x_vret X hS (Nat.le_refl _) (Nat.le_refl _) d_M_halves_19 ⟨rfl, w2, by rw [hha]; exact hP, hw2, by rw [hha]; exact ft_eo_hd e2 b1 (Or.inl (by rw [ft_wT_len]; dsimp only; omega)), by rw [hha]; exact e1⟩
