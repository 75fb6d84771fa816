/-! Contracts of the reference: settle, wrap, line. -/
theorem ft_sw_nil (w : Nat → Nat) (a k s : Nat) : ft_sw w a a k s = w := funext fun x => by
  unfold ft_sw
  rw [if_neg (by omega)]
theorem ft_sw_self (w : Nat → Nat) (a q k s : Nat) : ft_sw w a q k s q = w q := by
  unfold ft_sw
  rw [if_neg (by omega)]
theorem ft_sw_step {w : Nat → Nat} {a q k s : Nat} (h : a ≤ q) : va_up (ft_sw w a q k s) q (ft_stl k s (w q)) = ft_sw w a (q + 1) k s := funext fun x => by
  simp only [ft_sw, va_up]
  by_cases e : x = q
  · subst e; rw [if_pos rfl, if_pos ⟨h, by omega⟩]
  · rw [if_neg e]
    by_cases e2 : a ≤ x ∧ x < q
    · rw [if_pos e2, if_pos ⟨e2.1, by omega⟩]
    · rw [if_neg e2, if_neg (by omega)]
theorem ft_sw_end {w : Nat → Nat} {a q b k s : Nat} (h : q ≤ b ∨ q = a) (h2 : b ≤ q) : ft_sw w a q k s = ft_sw w a b k s := funext fun x => by
  unfold ft_sw
  by_cases e : a ≤ x ∧ x < q
  · rw [if_pos e, if_pos (by omega)]
  · rw [if_neg e, if_neg (by omega)]
theorem ft_ww_nil (w : Nat → Nat) (a k m : Nat) : ft_ww w a a k m = w := funext fun x => by
  unfold ft_ww
  rw [if_neg (by omega)]
theorem ft_ww_self (w : Nat → Nat) (a q k m : Nat) : ft_ww w a q k m q = w q := by
  unfold ft_ww
  rw [if_neg (by omega)]
theorem ft_ww_step {w : Nat → Nat} {a q k m : Nat} (h : a ≤ q) : va_up (ft_ww w a q k m) q (w q % (4096 * 8192 ^ k) + m * (4096 * 8192 ^ k)) = ft_ww w a (q + 1) k m := funext fun x => by
  simp only [ft_ww, va_up]
  by_cases e : x = q
  · subst e; rw [if_pos rfl, if_pos ⟨h, by omega⟩]
  · rw [if_neg e]
    by_cases e2 : a ≤ x ∧ x < q
    · rw [if_pos e2, if_pos ⟨e2.1, by omega⟩]
    · rw [if_neg e2, if_neg (by omega)]
theorem ft_ww_end {w : Nat → Nat} {a q b k m : Nat} (h : q ≤ b ∨ q = a) (h2 : b ≤ q) : ft_ww w a q k m = ft_ww w a b k m := funext fun x => by
  unfold ft_ww
  by_cases e : a ≤ x ∧ x < q
  · rw [if_pos e, if_pos (by omega)]
  · rw [if_neg e, if_neg (by omega)]
theorem bt_p51 : ∀ k, k < 4 → 2 ^ (12 + 13 * k) ≤ 2251799813685248 := by decide +kernel
theorem bt_p51' : ∀ k, k < 4 → 3968 < 2 ^ (12 + 13 * k) := by decide +kernel
set_option maxRecDepth 100000 in
set_option maxHeartbeats 4000000 in
theorem C_M_settle (l : Launch) (D : va_G) (A : Nat → ClassId) (H0 : Heap) (a : Nat → Nat) (lo hi : Nat → Int32) (en md vs n : Nat) (zf mk pl ct w : Nat → Nat) (hP : mH D a A lo hi en zf mk md pl ct vs w n H0) (hd : mDs a) (hw : ft_bw w) (f t k s : Nat) (hf : f < 2 ^ 31) (ht : t ≤ 48) (hk : k < 4) (hs : s < 4) : xC l y_M_settle c_M_settle 8 (none : Option FieldType) 0 D A H0 [.ref (a 0), .int (nI f), .int (nI t), .int (nI k), .int (nI s)] (mFr a) (q0 (fun H1 => mH D a A lo hi en zf mk md pl ct vs (ft_sw w f t k s) n H1)) 0 0 := by
  refine xC.of rfl (Nat.le_of_ble_eq_true rfl) ?_
  intro p_ e_ s_ m_ ar_ bl_ me_ c_ ls X hl
  have hl : lz ls 8 [some (.ref (a 0)), some (.int (nI f)), some (.int (nI t)), some (.int (nI k)), some (.int (nI s)), none, none, none] := hl
  have hS : va_S (mFr a) H0 H0 [] := va_S.rf
  have hp51 := bt_p51 k hk
  have hp51b := bt_p51' k hk
  refine x_lconst (v := lN 1) X d_M_settle_0 rfl ?_
  refine x_bipush (v := nI 12) X d_M_settle_1 rfl ?_
  refine x_bipush (v := nI 13) X d_M_settle_3 rfl ?_
  refine x_iload_n X d_M_settle_5 rfl hl rfl ?_
  refine n_imul X d_M_settle_6 ?_
  refine n_iadd X d_M_settle_7 ?_
  refine x_lshl X d_M_settle_8 (wb_shl 1 (by omega)) ?_
  refine x_lconst (v := lN 1) X d_M_settle_9 rfl ?_
  refine x_lsub X d_M_settle_10 ?_
  refine x_ldc2 X e_M_51 d_M_settle_11 ?_
  refine x_land X d_M_settle_14 ?_
  refine x_topl (y := lN (2 ^ (12 + 13 * k) - 1 - 3968)) (by rw [Nat.one_mul]; exact bt_mask k hk) ?_
  refine x_lstore X d_M_settle_15 hl (by decide) rfl (fun ls hl => ?_)
  refine x_iload_n X d_M_settle_17 rfl hl rfl ?_
  refine x_istore X d_M_settle_18 hl (by decide) rfl (fun ls hl => ?_)
  have loop : ∀ (g q : Nat) (H1 : Heap) (locs : List Loc) (ls : Array Slot), t - q = g → f ≤ q → q < 2 ^ 31 → (q ≤ t ∨ q = f) → lz ls 8 [some (.ref (a 0)), some (.int (nI f)), some (.int (nI t)), some (.int (nI k)), some (.int (nI s)), some (.long (lN (2 ^ (12 + 13 * k) - 1 - 3968))), none, some (.int (nI q))] → mH D a A lo hi en zf mk md pl ct vs (ft_sw w f q k s) n H1 → va_S (mFr a) H0 H1 locs → W p_ l e_ (x_rm 0 0 0) s_ m_ ar_ bl_ me_ c_ H1 locs 0 0 (MQ bl_ (xQ (mFr a) (q0 (fun H1 => mH D a A lo hi en zf mk md pl ct vs (ft_sw w f t k s) n H1))) ar_ s_ 0 0 (mFr a)) (F0 m_ 20 ls []) := by
    intro g
    induction g with
    | zero =>
      intro q H1 locs ls hg hfq hq31 hqt hl hP hS
      refine x_iload X d_M_settle_20 hl rfl ?_
      refine x_iload_n X d_M_settle_22 rfl hl rfl ?_
      refine n_icmp_ge X 62 d_M_settle_23 rfl (by omega) (by omega) (fun hc => ?_) (fun hc => absurd hc (by omega))
      rw [ft_sw_end hqt hc] at hP
      exact x_vret X hS (Nat.le_refl _) (Nat.le_refl _) d_M_settle_62 ⟨rfl, hP⟩
    | succ g ih =>
      intro q H1 locs ls hg hfq hq31 hqt hl hP hS
      have hwq := hw q
      refine x_iload X d_M_settle_20 hl rfl ?_
      refine x_iload_n X d_M_settle_22 rfl hl rfl ?_
      refine n_icmp_ge X 62 d_M_settle_23 rfl (by omega) (by omega) (fun hc => absurd hc (by omega)) (fun hc => ?_)
      refine x_aload_n X d_M_settle_26 rfl hl rfl ?_
      refine m_get X hP 9 (by decide) e_M_34 rfl d_M_settle_27 ?_
      refine x_iload X d_M_settle_30 hl rfl ?_
      refine x_aload_n X d_M_settle_32 rfl hl rfl ?_
      refine m_get X hP 9 (by decide) e_M_34 rfl d_M_settle_33 ?_
      refine x_iload X d_M_settle_36 hl rfl ?_
      refine m_ld_w X hP (by omega) d_M_settle_38 ?_
      refine x_lload X d_M_settle_39 hl rfl ?_
      rw [ft_sw_self]
      refine x_land X d_M_settle_41 ?_
      refine x_topl (wb_and (by omega) (by omega)) ?_
      refine x_iload X d_M_settle_42 hl rfl ?_
      refine x_i2l X d_M_settle_44 (nI_l (by omega)) ?_
      refine x_bipush (v := nI 7) X d_M_settle_45 rfl ?_
      refine x_lshl X d_M_settle_47 (wb_shl _ (by omega)) ?_
      refine x_lor X d_M_settle_48 ?_
      refine x_topl (wb_or (Nat.lt_of_le_of_lt Nat.and_le_left (by omega)) (by omega)) ?_
      refine x_iload_n X d_M_settle_49 rfl hl rfl ?_
      refine x_i2l X d_M_settle_50 (nI_l (by omega)) ?_
      refine x_bipush (v := nI 9) X d_M_settle_51 rfl ?_
      refine x_lshl X d_M_settle_53 (wb_shl _ (by omega)) ?_
      refine x_lor X d_M_settle_54 ?_
      refine x_topl (wb_or (Nat.or_lt_two_pow (Nat.lt_of_le_of_lt Nat.and_le_left (by omega)) (by omega)) (by omega)) ?_
      refine x_topl (y := lN (ft_stl k s (w q))) (by rw [← bt_stl hk hs]) ?_
      refine m_st_w X hP hd hS (by omega) d_M_settle_55 (fun H locs hP hS => ?_)
      rw [ft_sw_step hfq] at hP
      refine n_iinc (d := 1) X d_M_settle_56 rfl hl rfl (by decide) rfl (fun ls hl => ?_)
      refine x_goto X 20 d_M_settle_59 rfl ?_
      exact ih (q + 1) _ _ _ (by omega) (by omega) (by omega) (by omega) hl hP hS
  exact loop (t - f) f H0 [] _ rfl (Nat.le_refl _) hf (Or.inr rfl) hl (by rw [ft_sw_nil]; exact hP) hS
