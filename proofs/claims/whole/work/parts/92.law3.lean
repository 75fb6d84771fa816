/-! The law: its loop. -/
theorem lw_sub {L i : Nat} (hL : L ≤ 2560) (hi : i ≤ L) (h : ¬ i + 5 ≤ L) : nI L - nI 5 < nI i := by
  by_cases h5 : 5 ≤ L
  · rw [pk_sub h5]
    exact nI_lt (by omega) (by omega)
  · have h0 : nI L - nI 5 < nI 0 := by
      match L, h5 with
      | 0, _ => decide
      | 1, _ => decide
      | 2, _ => decide
      | 3, _ => decide
      | 4, _ => decide
      | L + 5, h5 => omega
    exact Int32.lt_of_lt_of_le h0 (nI_le (Nat.zero_le _) (by omega))
set_option maxRecDepth 100000 in
set_option maxHeartbeats 4000000 in
theorem lw_loop {p : Program} {l : Launch} {e : Env} {s : State} {m : MethodId} {below : List Frame} {meth : Method} {c : Code} {b L : Nat} {xs : Nat → Int32} {D : va_G} {A : Nat → ClassId} {S : Nat → Prop} {b0 u ks bv ar : Nat} {a : Nat → Nat} (X : xx p s m #[.ref b] meth c code 4 R_law ret D A s.heap) (hX : va_X b L xs s s.heap) (hbl : b < s.heap.size) (hL : L ≤ 2560) (F : lw_F S b0 u ks bv ar a s.heap.size) (hend : ∀ (H : Heap) (locs : List Loc) (ls : Array Slot) (cells slots : Nat), va_S (fun x => s.heap.size ≤ x) s.heap H locs → cells ≤ 600000 → slots ≤ 7302250 → W p l e room_1 s m #[.ref b] below meth c H locs cells slots (lw_Z below #[.ref b] s) (F0 m 862 ls [.int (nI 1)])) : ∀ (g i w : Nat) (q : ft_Q) (H : Heap) (locs : List Loc) (ls : Array Slot), L - i ≤ g → i ≤ L → w ≤ i → sp_ok2 q → cG D A S b0 u ks bv ar q w H → mI D a A q H → lz ls 4 [some (.ref b), some (.ref b0), some (.ref (a 0)), some (.int (nI i))] → va_S (fun x => s.heap.size ≤ x) s.heap H locs → W p l e room_1 s m #[.ref b] below meth c H locs (lw_ce q) (lw_sl q) (lw_Z below #[.ref b] s) (F0 m 18 ls []) := by
  intro g
  induction g with
  | zero =>
    intro i w q H locs ls hg hi hw hq hG hI hl hS
    have hl2 := hq.1.2.1
    refine x_iload_n X d_L_law_18 rfl hl rfl ?_
    refine x_aload_n X d_L_law_19 rfl hl rfl ?_
    refine x_slen X hX hbl hS d_L_law_20 ?_
    refine x_iconst (v := nI 5) X d_L_law_21 rfl ?_
    refine x_isub X d_L_law_22 ?_
    refine x_icmp_gt X 861 d_L_law_23 rfl (fun _ => ?_) (fun h => absurd (lw_sub hL hi (by omega)) h)
    refine x_iconst (v := nI 1) X d_L_law_861 rfl ?_
    exact hend _ _ _ _ _ hS (by show 17 + 5000 * (q.1.length - 1) ≤ 600000; omega) (by show 19000 + 50000 * (q.1.length - 1) ≤ 7302250; omega)
  | succ g ih =>
    intro i w q H locs ls hg hi hw hq hG hI hl hS
    have hl2 := hq.1.2.1
    by_cases hc : i + 5 ≤ L
    · have kk : ∀ (q1 : ft_Q) (H1 : Heap) (locs1 : List Loc), sp_ok2 q1 → cG D A S b0 u ks bv ar q1 (w + 1) H1 → mI D a A q1 H1 → va_S (fun x => s.heap.size ≤ x) s.heap H1 locs1 → W p l e room_1 s m #[.ref b] below meth c H1 locs1 (lw_ce q1) (lw_sl q1) (lw_Z below #[.ref b] s) (F0 m 855 ls []) := by
        intro q1 H1 locs1 h1 h2 h3 h4
        refine n_iinc (d := 5) X d_L_law_855 rfl hl rfl (by decide) rfl (fun ls hl => ?_)
        refine x_goto X 18 d_L_law_858 rfl ?_
        exact ih (i + 5) (w + 1) q1 H1 _ _ (by omega) hc (by omega) h1 h2 h3 hl h4
      refine x_iload_n X d_L_law_18 rfl hl rfl ?_
      refine x_aload_n X d_L_law_19 rfl hl rfl ?_
      refine x_slen X hX hbl hS d_L_law_20 ?_
      refine x_iconst (v := nI 5) X d_L_law_21 rfl ?_
      refine x_isub X d_L_law_22 ?_
      refine x_icmp_gt X 861 d_L_law_23 rfl (fun h => absurd h ?_) (fun _ => ?_)
      · rw [pk_sub (by omega)]
        exact nI_nlt (by omega) (by omega)
      refine x_aload_n X d_L_law_26 rfl hl rfl ?_
      refine x_iload_n X d_L_law_27 rfl hl rfl ?_
      refine x_sld X hX hbl hS (by omega) (by omega) d_L_law_28 ?_
      refine x_bipush (v := nI 31) X d_L_law_29 rfl ?_
      refine x_iand X d_L_law_31 ?_
      obtain ⟨n, hn, hxn⟩ := wb_of32 (xs i)
      rw [hxn, show nI n &&& nI 31 = nI (n % 32) from bt_and n (k := 5) (by decide)]
      have hr : n % 32 < 32 := Nat.mod_lt _ (by decide)
      generalize n % 32 = r at hr ⊢
      by_cases r0 : r = 0
      · subst r0; exact x_tabI X 128 d_L_law_32 (by decide +kernel) (by decide +kernel) rfl (by decide +kernel) (lw_c_pushFront X hX hbl hL F q w i hq (by omega) hc H _ ls hG hI hl hS kk)
      by_cases r1 : r = 1
      · subst r1; exact x_tabI X 171 d_L_law_32 (by decide +kernel) (by decide +kernel) rfl (by decide +kernel) (lw_c_pushBack X hX hbl hL F q w i hq (by omega) hc H _ ls hG hI hl hS kk)
      by_cases r2 : r = 2
      · subst r2; exact x_tabI X 214 d_L_law_32 (by decide +kernel) (by decide +kernel) rfl (by decide +kernel) (lw_c_popFront X hX hbl hL F q w i hq (by omega) hc H _ ls hG hI hl hS kk)
      by_cases r3 : r = 3
      · subst r3; exact x_tabI X 237 d_L_law_32 (by decide +kernel) (by decide +kernel) rfl (by decide +kernel) (lw_c_popBack X hX hbl hL F q w i hq (by omega) hc H _ ls hG hI hl hS kk)
      by_cases r4 : r = 4
      · subst r4; exact x_tabI X 260 d_L_law_32 (by decide +kernel) (by decide +kernel) rfl (by decide +kernel) (lw_c_concat X hX hbl hL F q w i hq (by omega) hc H _ ls hG hI hl hS kk)
      by_cases r5 : r = 5
      · subst r5; exact x_tabI X 293 d_L_law_32 (by decide +kernel) (by decide +kernel) rfl (by decide +kernel) (lw_c_split X hX hbl hL F q w i hq (by omega) hc H _ ls hG hI hl hS kk)
      by_cases r6 : r = 6
      · subst r6; exact x_tabI X 326 d_L_law_32 (by decide +kernel) (by decide +kernel) rfl (by decide +kernel) (lw_c_replace X hX hbl hL F q w i hq (by omega) hc H _ ls hG hI hl hS kk)
      by_cases r7 : r = 7
      · subst r7; exact x_tabI X 379 d_L_law_32 (by decide +kernel) (by decide +kernel) rfl (by decide +kernel) (lw_c_insert X hX hbl hL F q w i hq (by omega) hc H _ ls hG hI hl hS kk)
      by_cases r8 : r = 8
      · subst r8; exact x_tabI X 422 d_L_law_32 (by decide +kernel) (by decide +kernel) rfl (by decide +kernel) (lw_c_removeTop X hX hbl hL F q w i hq (by omega) hc H _ ls hG hI hl hS kk)
      by_cases r9 : r = 9
      · subst r9; exact x_tabI X 445 d_L_law_32 (by decide +kernel) (by decide +kernel) rfl (by decide +kernel) (lw_c_length X hX hbl hL F q w i hq (by omega) hc H _ ls hG hI hl hS kk)
      by_cases r10 : r = 10
      · subst r10; exact x_tabI X 468 d_L_law_32 (by decide +kernel) (by decide +kernel) rfl (by decide +kernel) (lw_c_low X hX hbl hL F q w i hq (by omega) hc H _ ls hG hI hl hS kk)
      by_cases r11 : r = 11
      · subst r11; exact x_tabI X 501 d_L_law_32 (by decide +kernel) (by decide +kernel) rfl (by decide +kernel) (lw_c_high X hX hbl hL F q w i hq (by omega) hc H _ ls hG hI hl hS kk)
      by_cases r12 : r = 12
      · subst r12; exact x_tabI X 534 d_L_law_32 (by decide +kernel) (by decide +kernel) rfl (by decide +kernel) (lw_c_measure X hX hbl hL F q w i hq (by omega) hc H _ ls hG hI hl hS kk)
      by_cases r13 : r = 13
      · subst r13; exact x_tabI X 568 d_L_law_32 (by decide +kernel) (by decide +kernel) rfl (by decide +kernel) (lw_c_search X hX hbl hL F q w i hq (by omega) hc H _ ls hG hI hl hS kk)
      by_cases r14 : r = 14
      · subst r14; exact x_tabI X 641 d_L_law_32 (by decide +kernel) (by decide +kernel) rfl (by decide +kernel) (lw_c_meeting X hX hbl hL F q w i hq (by omega) hc H _ ls hG hI hl hS kk)
      by_cases r15 : r = 15
      · subst r15; exact x_tabI X 694 d_L_law_32 (by decide +kernel) (by decide +kernel) rfl (by decide +kernel) (lw_c_spine X hX hbl hL F q w i hq (by omega) hc H _ ls hG hI hl hS kk)
      by_cases r16 : r = 16
      · subst r16; exact x_tabI X 717 d_L_law_32 (by decide +kernel) (by decide +kernel) rfl (by decide +kernel) (lw_c_digit X hX hbl hL F q w i hq (by omega) hc H _ ls hG hI hl hS kk)
      by_cases r17 : r = 17
      · subst r17; exact x_tabI X 776 d_L_law_32 (by decide +kernel) (by decide +kernel) rfl (by decide +kernel) (lw_c_rank X hX hbl hL F q w i hq (by omega) hc H _ ls hG hI hl hS kk)
      by_cases r18 : r = 18
      · subst r18; exact x_tabI X 809 d_L_law_32 (by decide +kernel) (by decide +kernel) rfl (by decide +kernel) (lw_c_shared X hX hbl hL F q w i hq (by omega) hc H _ ls hG hI hl hS kk)
      by_cases r19 : r = 19
      · subst r19; exact x_tabI X 842 d_L_law_32 (by decide +kernel) (by decide +kernel) rfl (by decide +kernel) (lw_c_made X hX hbl hL F q w i hq (by omega) hc H _ ls hG hI hl hS kk)
      refine x_tabO X 855 d_L_law_32 (Or.inr ?_) (by decide +kernel) (kk q H _ hq hG.up hI hS)
      rw [nI_toInt (by omega)]
      omega
    · skip
      refine x_iload_n X d_L_law_18 rfl hl rfl ?_
      refine x_aload_n X d_L_law_19 rfl hl rfl ?_
      refine x_slen X hX hbl hS d_L_law_20 ?_
      refine x_iconst (v := nI 5) X d_L_law_21 rfl ?_
      refine x_isub X d_L_law_22 ?_
      refine x_icmp_gt X 861 d_L_law_23 rfl (fun _ => ?_) (fun h => absurd (lw_sub hL hi (by omega)) h)
      refine x_iconst (v := nI 1) X d_L_law_861 rfl ?_
      exact hend _ _ _ _ _ hS (by show 17 + 5000 * (q.1.length - 1) ≤ 600000; omega) (by show 19000 + 50000 * (q.1.length - 1) ≤ 7302250; omega)
