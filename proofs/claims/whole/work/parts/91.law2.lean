/-! The law, call by call: both sides answer alike. -/
/-- no call takes a version away -/
theorem sp_pushFront_le (q : ft_Q) (v lo hi : Int32) : q.1.length ≤ (sp_pushFront q v lo hi).2.1.length := by
  unfold sp_pushFront
  split
  · exact Nat.le_refl _
  · split
    · exact Nat.le_refl _
    · split
      · exact Nat.le_refl _
      · simp [sp_keep]
theorem sp_pushBack_le (q : ft_Q) (v lo hi : Int32) : q.1.length ≤ (sp_pushBack q v lo hi).2.1.length := by
  unfold sp_pushBack
  split
  · exact Nat.le_refl _
  · split
    · exact Nat.le_refl _
    · split
      · exact Nat.le_refl _
      · simp [sp_keep]
theorem sp_popFront_le (q : ft_Q) (v : Int32) : q.1.length ≤ (sp_popFront q v).2.1.length := by
  unfold sp_popFront
  split
  · exact Nat.le_refl _
  · split
    · exact Nat.le_refl _
    · split
      · exact Nat.le_refl _
      · simp [sp_keep]
theorem sp_popBack_le (q : ft_Q) (v : Int32) : q.1.length ≤ (sp_popBack q v).2.1.length := by
  unfold sp_popBack
  split
  · exact Nat.le_refl _
  · split
    · exact Nat.le_refl _
    · split
      · exact Nat.le_refl _
      · simp [sp_keep]
theorem sp_concat_le (q : ft_Q) (v x : Int32) : q.1.length ≤ (sp_concat q v x).2.1.length := by
  unfold sp_concat
  split
  · split
    · exact Nat.le_refl _
    · simp [sp_keep]
  · exact Nat.le_refl _
theorem sp_split_le (q : ft_Q) (v p : Int32) : q.1.length ≤ (sp_split q v p).2.1.length := by
  unfold sp_split
  split
  · exact Nat.le_refl _
  · split
    · exact Nat.le_refl _
    · split
      · exact Nat.le_refl _
      · simp [sp_keep]
theorem sp_replace_le (q : ft_Q) (v p lo hi : Int32) : q.1.length ≤ (sp_replace q v p lo hi).2.1.length := by
  unfold sp_replace
  split
  · exact Nat.le_refl _
  · split
    · exact Nat.le_refl _
    · split
      · exact Nat.le_refl _
      · simp [sp_keep]
theorem sp_insert_le (q : ft_Q) (v lo hi : Int32) : q.1.length ≤ (sp_insert q v lo hi).2.1.length := by
  unfold sp_insert
  split
  · exact Nat.le_refl _
  · split
    · exact Nat.le_refl _
    · split
      · exact Nat.le_refl _
      · simp [sp_keep]
theorem sp_removeTop_le (q : ft_Q) (v : Int32) : q.1.length ≤ (sp_removeTop q v).2.1.length := by
  unfold sp_removeTop
  split
  · exact Nat.le_refl _
  · split
    · exact Nat.le_refl _
    · split
      · exact Nat.le_refl _
      · simp [sp_keep]
set_option maxRecDepth 100000 in
set_option maxHeartbeats 4000000 in
theorem lw_c_pushFront {p : Program} {l : Launch} {e : Env} {s : State} {m : MethodId} {below : List Frame} {meth : Method} {c : Code} {b L : Nat} {xs : Nat → Int32} {D : va_G} {A : Nat → ClassId} {S : Nat → Prop} {b0 u ks bv ar : Nat} {a : Nat → Nat} (X : xx p s m #[.ref b] meth c code 4 R_law ret D A s.heap) (hX : va_X b L xs s s.heap) (hbl : b < s.heap.size) (hL : L ≤ 2560) (F : lw_F S b0 u ks bv ar a s.heap.size) (q : ft_Q) (w i : Nat) (hq : sp_ok2 q) (hw : w < 100000) (hi : i + 5 ≤ L) (H : Heap) (locs : List Loc) (ls : Array Slot) (hG : cG D A S b0 u ks bv ar q w H) (hI : mI D a A q H) (hl : lz ls 4 [some (.ref b), some (.ref b0), some (.ref (a 0)), some (.int (nI i))]) (hS : va_S (fun x => s.heap.size ≤ x) s.heap H locs) (kk : ∀ (q1 : ft_Q) (H1 : Heap) (locs1 : List Loc), sp_ok2 q1 → cG D A S b0 u ks bv ar q1 (w + 1) H1 → mI D a A q1 H1 → va_S (fun x => s.heap.size ≤ x) s.heap H1 locs1 → W p l e room_1 s m #[.ref b] below meth c H1 locs1 (lw_ce q1) (lw_sl q1) (lw_Z below #[.ref b] s) (F0 m 855 ls [])) : W p l e room_1 s m #[.ref b] below meth c H locs (lw_ce q) (lw_sl q) (lw_Z below #[.ref b] s) (F0 m 128 ls []) := by
  have hL31 : L < 2 ^ 31 := by omega
  obtain ⟨hd, hm, hma, hdis, hz⟩ := id F
  obtain ⟨fo, hO⟩ := hG.obj
  have hl1 := hq.1.1
  have hl2 := hq.1.2.1
  have z0 := hS.1
  have hce : lw_ce q = 17 + 5000 * (q.1.length - 1) := rfl
  have hsl : lw_sl q = 19000 + 50000 * (q.1.length - 1) := rfl
  refine x_aload_n X d_L_law_128 rfl hl rfl ?_
  refine x_aload_n X d_L_law_129 rfl hl rfl ?_
  refine x_iload_n X d_L_law_130 rfl hl rfl ?_
  refine x_iconst (v := nI 1) X d_L_law_131 rfl ?_
  refine n_iadd X d_L_law_132 ?_
  refine x_sld X hX hbl hS (by omega) hL31 d_L_law_133 ?_
  refine x_aload_n X d_L_law_134 rfl hl rfl ?_
  refine x_iload_n X d_L_law_135 rfl hl rfl ?_
  refine x_iconst (v := nI 2) X d_L_law_136 rfl ?_
  refine n_iadd X d_L_law_137 ?_
  refine x_sld X hX hbl hS (by omega) hL31 d_L_law_138 ?_
  refine x_aload_n X d_L_law_139 rfl hl rfl ?_
  refine x_iload_n X d_L_law_140 rfl hl rfl ?_
  refine x_iconst (v := nI 3) X d_L_law_141 rfl ?_
  refine n_iadd X d_L_law_142 ?_
  refine x_sld X hX hbl hS (by omega) hL31 d_L_law_143 ?_
  have ho := sp_pushFront_ok hq (xs (i + 1)) (xs (i + 2)) (xs (i + 3))
  have hge := sp_pushFront_le q (xs (i + 1)) (xs (i + 2)) (xs (i + 3))
  have ho2 := ho.1.2.1
  have ho1 := ho.1.1
  refine x_go1 (x_runV X (A_F_pushFront l D A _ S b0 u ks bv ar hd q hq w hw hG (xs (i + 1)) (xs (i + 2)) (xs (i + 3))) b_F_pushFront s_F_pushFront v_F_pushFront e_L_13 hO rfl rfl hl rfl (Nat.le_of_ble_eq_true rfl) d_L_law_144 (Nat.le_of_ble_eq_true rfl) (Nat.le_of_ble_eq_true rfl) ⟨by show _ ≤ 600000; omega, by show _ ≤ 7302250; omega⟩) hS (fun x h => h.elim (fun h => hz x (hG.1 x h)) (fun h => Nat.le_trans z0 h)) (fun H1 locs hG1 hF1 hS => ?_)
  have hI1 := hI.kc F hG hF1
  obtain ⟨fm, hM⟩ := hI1.obj
  refine x_aload_n X d_L_law_147 rfl hl rfl ?_
  refine x_aload_n X d_L_law_148 rfl hl rfl ?_
  refine x_iload_n X d_L_law_149 rfl hl rfl ?_
  refine x_iconst (v := nI 1) X d_L_law_150 rfl ?_
  refine n_iadd X d_L_law_151 ?_
  refine x_sld X hX hbl hS (by omega) hL31 d_L_law_152 ?_
  refine x_aload_n X d_L_law_153 rfl hl rfl ?_
  refine x_iload_n X d_L_law_154 rfl hl rfl ?_
  refine x_iconst (v := nI 2) X d_L_law_155 rfl ?_
  refine n_iadd X d_L_law_156 ?_
  refine x_sld X hX hbl hS (by omega) hL31 d_L_law_157 ?_
  refine x_aload_n X d_L_law_158 rfl hl rfl ?_
  refine x_iload_n X d_L_law_159 rfl hl rfl ?_
  refine x_iconst (v := nI 3) X d_L_law_160 rfl ?_
  refine n_iadd X d_L_law_161 ?_
  refine x_sld X hX hbl hS (by omega) hL31 d_L_law_162 ?_
  refine x_go1 (x_runV X (A_M_pushFront l D A _ a hm q hq hI1 (xs (i + 1)) (xs (i + 2)) (xs (i + 3))) b_M_pushFront s_M_pushFront v_M_pushFront e_L_17 hM rfl rfl hl rfl (Nat.le_of_ble_eq_true rfl) d_L_law_163 (Nat.le_of_ble_eq_true rfl) (Nat.le_of_ble_eq_true rfl) ⟨by show _ ≤ 600000; omega, by show _ ≤ 7302250; omega⟩) hS (fun x h => hz x (hma x h)) (fun H2 locs hI2 hF2 hS => ?_)
  have hG2 := hG1.kp F hF2
  refine x_icmp_eq X 855 d_L_law_166 rfl (fun _ => ?_) (fun h => absurd rfl h)
  refine W.widen ?_ ?_ (kk (sp_pushFront q (xs (i + 1)) (xs (i + 2)) (xs (i + 3))).2 H2 _ ho hG2 hI2 hS)
  · show _ ≤ 17 + 5000 * ((sp_pushFront q (xs (i + 1)) (xs (i + 2)) (xs (i + 3))).2.1.length - 1); omega
  · show _ ≤ 19000 + 50000 * ((sp_pushFront q (xs (i + 1)) (xs (i + 2)) (xs (i + 3))).2.1.length - 1); omega
set_option maxRecDepth 100000 in
set_option maxHeartbeats 4000000 in
theorem lw_c_pushBack {p : Program} {l : Launch} {e : Env} {s : State} {m : MethodId} {below : List Frame} {meth : Method} {c : Code} {b L : Nat} {xs : Nat → Int32} {D : va_G} {A : Nat → ClassId} {S : Nat → Prop} {b0 u ks bv ar : Nat} {a : Nat → Nat} (X : xx p s m #[.ref b] meth c code 4 R_law ret D A s.heap) (hX : va_X b L xs s s.heap) (hbl : b < s.heap.size) (hL : L ≤ 2560) (F : lw_F S b0 u ks bv ar a s.heap.size) (q : ft_Q) (w i : Nat) (hq : sp_ok2 q) (hw : w < 100000) (hi : i + 5 ≤ L) (H : Heap) (locs : List Loc) (ls : Array Slot) (hG : cG D A S b0 u ks bv ar q w H) (hI : mI D a A q H) (hl : lz ls 4 [some (.ref b), some (.ref b0), some (.ref (a 0)), some (.int (nI i))]) (hS : va_S (fun x => s.heap.size ≤ x) s.heap H locs) (kk : ∀ (q1 : ft_Q) (H1 : Heap) (locs1 : List Loc), sp_ok2 q1 → cG D A S b0 u ks bv ar q1 (w + 1) H1 → mI D a A q1 H1 → va_S (fun x => s.heap.size ≤ x) s.heap H1 locs1 → W p l e room_1 s m #[.ref b] below meth c H1 locs1 (lw_ce q1) (lw_sl q1) (lw_Z below #[.ref b] s) (F0 m 855 ls [])) : W p l e room_1 s m #[.ref b] below meth c H locs (lw_ce q) (lw_sl q) (lw_Z below #[.ref b] s) (F0 m 171 ls []) := by
  have hL31 : L < 2 ^ 31 := by omega
  obtain ⟨hd, hm, hma, hdis, hz⟩ := id F
  obtain ⟨fo, hO⟩ := hG.obj
  have hl1 := hq.1.1
  have hl2 := hq.1.2.1
  have z0 := hS.1
  have hce : lw_ce q = 17 + 5000 * (q.1.length - 1) := rfl
  have hsl : lw_sl q = 19000 + 50000 * (q.1.length - 1) := rfl
  refine x_aload_n X d_L_law_171 rfl hl rfl ?_
  refine x_aload_n X d_L_law_172 rfl hl rfl ?_
  refine x_iload_n X d_L_law_173 rfl hl rfl ?_
  refine x_iconst (v := nI 1) X d_L_law_174 rfl ?_
  refine n_iadd X d_L_law_175 ?_
  refine x_sld X hX hbl hS (by omega) hL31 d_L_law_176 ?_
  refine x_aload_n X d_L_law_177 rfl hl rfl ?_
  refine x_iload_n X d_L_law_178 rfl hl rfl ?_
  refine x_iconst (v := nI 2) X d_L_law_179 rfl ?_
  refine n_iadd X d_L_law_180 ?_
  refine x_sld X hX hbl hS (by omega) hL31 d_L_law_181 ?_
  refine x_aload_n X d_L_law_182 rfl hl rfl ?_
  refine x_iload_n X d_L_law_183 rfl hl rfl ?_
  refine x_iconst (v := nI 3) X d_L_law_184 rfl ?_
  refine n_iadd X d_L_law_185 ?_
  refine x_sld X hX hbl hS (by omega) hL31 d_L_law_186 ?_
  have ho := sp_pushBack_ok hq (xs (i + 1)) (xs (i + 2)) (xs (i + 3))
  have hge := sp_pushBack_le q (xs (i + 1)) (xs (i + 2)) (xs (i + 3))
  have ho2 := ho.1.2.1
  have ho1 := ho.1.1
  refine x_go1 (x_runV X (A_F_pushBack l D A _ S b0 u ks bv ar hd q hq w hw hG (xs (i + 1)) (xs (i + 2)) (xs (i + 3))) b_F_pushBack s_F_pushBack v_F_pushBack e_L_18 hO rfl rfl hl rfl (Nat.le_of_ble_eq_true rfl) d_L_law_187 (Nat.le_of_ble_eq_true rfl) (Nat.le_of_ble_eq_true rfl) ⟨by show _ ≤ 600000; omega, by show _ ≤ 7302250; omega⟩) hS (fun x h => h.elim (fun h => hz x (hG.1 x h)) (fun h => Nat.le_trans z0 h)) (fun H1 locs hG1 hF1 hS => ?_)
  have hI1 := hI.kc F hG hF1
  obtain ⟨fm, hM⟩ := hI1.obj
  refine x_aload_n X d_L_law_190 rfl hl rfl ?_
  refine x_aload_n X d_L_law_191 rfl hl rfl ?_
  refine x_iload_n X d_L_law_192 rfl hl rfl ?_
  refine x_iconst (v := nI 1) X d_L_law_193 rfl ?_
  refine n_iadd X d_L_law_194 ?_
  refine x_sld X hX hbl hS (by omega) hL31 d_L_law_195 ?_
  refine x_aload_n X d_L_law_196 rfl hl rfl ?_
  refine x_iload_n X d_L_law_197 rfl hl rfl ?_
  refine x_iconst (v := nI 2) X d_L_law_198 rfl ?_
  refine n_iadd X d_L_law_199 ?_
  refine x_sld X hX hbl hS (by omega) hL31 d_L_law_200 ?_
  refine x_aload_n X d_L_law_201 rfl hl rfl ?_
  refine x_iload_n X d_L_law_202 rfl hl rfl ?_
  refine x_iconst (v := nI 3) X d_L_law_203 rfl ?_
  refine n_iadd X d_L_law_204 ?_
  refine x_sld X hX hbl hS (by omega) hL31 d_L_law_205 ?_
  refine x_go1 (x_runV X (A_M_pushBack l D A _ a hm q hq hI1 (xs (i + 1)) (xs (i + 2)) (xs (i + 3))) b_M_pushBack s_M_pushBack v_M_pushBack e_L_21 hM rfl rfl hl rfl (Nat.le_of_ble_eq_true rfl) d_L_law_206 (Nat.le_of_ble_eq_true rfl) (Nat.le_of_ble_eq_true rfl) ⟨by show _ ≤ 600000; omega, by show _ ≤ 7302250; omega⟩) hS (fun x h => hz x (hma x h)) (fun H2 locs hI2 hF2 hS => ?_)
  have hG2 := hG1.kp F hF2
  refine x_icmp_eq X 855 d_L_law_209 rfl (fun _ => ?_) (fun h => absurd rfl h)
  refine W.widen ?_ ?_ (kk (sp_pushBack q (xs (i + 1)) (xs (i + 2)) (xs (i + 3))).2 H2 _ ho hG2 hI2 hS)
  · show _ ≤ 17 + 5000 * ((sp_pushBack q (xs (i + 1)) (xs (i + 2)) (xs (i + 3))).2.1.length - 1); omega
  · show _ ≤ 19000 + 50000 * ((sp_pushBack q (xs (i + 1)) (xs (i + 2)) (xs (i + 3))).2.1.length - 1); omega
set_option maxRecDepth 100000 in
set_option maxHeartbeats 4000000 in
theorem lw_c_popFront {p : Program} {l : Launch} {e : Env} {s : State} {m : MethodId} {below : List Frame} {meth : Method} {c : Code} {b L : Nat} {xs : Nat → Int32} {D : va_G} {A : Nat → ClassId} {S : Nat → Prop} {b0 u ks bv ar : Nat} {a : Nat → Nat} (X : xx p s m #[.ref b] meth c code 4 R_law ret D A s.heap) (hX : va_X b L xs s s.heap) (hbl : b < s.heap.size) (hL : L ≤ 2560) (F : lw_F S b0 u ks bv ar a s.heap.size) (q : ft_Q) (w i : Nat) (hq : sp_ok2 q) (hw : w < 100000) (hi : i + 5 ≤ L) (H : Heap) (locs : List Loc) (ls : Array Slot) (hG : cG D A S b0 u ks bv ar q w H) (hI : mI D a A q H) (hl : lz ls 4 [some (.ref b), some (.ref b0), some (.ref (a 0)), some (.int (nI i))]) (hS : va_S (fun x => s.heap.size ≤ x) s.heap H locs) (kk : ∀ (q1 : ft_Q) (H1 : Heap) (locs1 : List Loc), sp_ok2 q1 → cG D A S b0 u ks bv ar q1 (w + 1) H1 → mI D a A q1 H1 → va_S (fun x => s.heap.size ≤ x) s.heap H1 locs1 → W p l e room_1 s m #[.ref b] below meth c H1 locs1 (lw_ce q1) (lw_sl q1) (lw_Z below #[.ref b] s) (F0 m 855 ls [])) : W p l e room_1 s m #[.ref b] below meth c H locs (lw_ce q) (lw_sl q) (lw_Z below #[.ref b] s) (F0 m 214 ls []) := by
  have hL31 : L < 2 ^ 31 := by omega
  obtain ⟨hd, hm, hma, hdis, hz⟩ := id F
  obtain ⟨fo, hO⟩ := hG.obj
  have hl1 := hq.1.1
  have hl2 := hq.1.2.1
  have z0 := hS.1
  have hce : lw_ce q = 17 + 5000 * (q.1.length - 1) := rfl
  have hsl : lw_sl q = 19000 + 50000 * (q.1.length - 1) := rfl
  refine x_aload_n X d_L_law_214 rfl hl rfl ?_
  refine x_aload_n X d_L_law_215 rfl hl rfl ?_
  refine x_iload_n X d_L_law_216 rfl hl rfl ?_
  refine x_iconst (v := nI 1) X d_L_law_217 rfl ?_
  refine n_iadd X d_L_law_218 ?_
  refine x_sld X hX hbl hS (by omega) hL31 d_L_law_219 ?_
  have ho := sp_popFront_ok hq (xs (i + 1))
  have hge := sp_popFront_le q (xs (i + 1))
  have ho2 := ho.1.2.1
  have ho1 := ho.1.1
  refine x_go1 (x_runV X (A_F_popFront l D A _ S b0 u ks bv ar hd q hq w hw hG (xs (i + 1))) b_F_popFront s_F_popFront v_F_popFront e_L_22 hO rfl rfl hl rfl (Nat.le_of_ble_eq_true rfl) d_L_law_220 (Nat.le_of_ble_eq_true rfl) (Nat.le_of_ble_eq_true rfl) ⟨by show _ ≤ 600000; omega, by show _ ≤ 7302250; omega⟩) hS (fun x h => h.elim (fun h => hz x (hG.1 x h)) (fun h => Nat.le_trans z0 h)) (fun H1 locs hG1 hF1 hS => ?_)
  have hI1 := hI.kc F hG hF1
  obtain ⟨fm, hM⟩ := hI1.obj
  refine x_aload_n X d_L_law_223 rfl hl rfl ?_
  refine x_aload_n X d_L_law_224 rfl hl rfl ?_
  refine x_iload_n X d_L_law_225 rfl hl rfl ?_
  refine x_iconst (v := nI 1) X d_L_law_226 rfl ?_
  refine n_iadd X d_L_law_227 ?_
  refine x_sld X hX hbl hS (by omega) hL31 d_L_law_228 ?_
  refine x_go1 (x_runV X (A_M_popFront l D A _ a hm q hq hI1 (xs (i + 1))) b_M_popFront s_M_popFront v_M_popFront e_L_26 hM rfl rfl hl rfl (Nat.le_of_ble_eq_true rfl) d_L_law_229 (Nat.le_of_ble_eq_true rfl) (Nat.le_of_ble_eq_true rfl) ⟨by show _ ≤ 600000; omega, by show _ ≤ 7302250; omega⟩) hS (fun x h => hz x (hma x h)) (fun H2 locs hI2 hF2 hS => ?_)
  have hG2 := hG1.kp F hF2
  refine x_icmp_eq X 855 d_L_law_232 rfl (fun _ => ?_) (fun h => absurd rfl h)
  refine W.widen ?_ ?_ (kk (sp_popFront q (xs (i + 1))).2 H2 _ ho hG2 hI2 hS)
  · show _ ≤ 17 + 5000 * ((sp_popFront q (xs (i + 1))).2.1.length - 1); omega
  · show _ ≤ 19000 + 50000 * ((sp_popFront q (xs (i + 1))).2.1.length - 1); omega
set_option maxRecDepth 100000 in
set_option maxHeartbeats 4000000 in
theorem lw_c_popBack {p : Program} {l : Launch} {e : Env} {s : State} {m : MethodId} {below : List Frame} {meth : Method} {c : Code} {b L : Nat} {xs : Nat → Int32} {D : va_G} {A : Nat → ClassId} {S : Nat → Prop} {b0 u ks bv ar : Nat} {a : Nat → Nat} (X : xx p s m #[.ref b] meth c code 4 R_law ret D A s.heap) (hX : va_X b L xs s s.heap) (hbl : b < s.heap.size) (hL : L ≤ 2560) (F : lw_F S b0 u ks bv ar a s.heap.size) (q : ft_Q) (w i : Nat) (hq : sp_ok2 q) (hw : w < 100000) (hi : i + 5 ≤ L) (H : Heap) (locs : List Loc) (ls : Array Slot) (hG : cG D A S b0 u ks bv ar q w H) (hI : mI D a A q H) (hl : lz ls 4 [some (.ref b), some (.ref b0), some (.ref (a 0)), some (.int (nI i))]) (hS : va_S (fun x => s.heap.size ≤ x) s.heap H locs) (kk : ∀ (q1 : ft_Q) (H1 : Heap) (locs1 : List Loc), sp_ok2 q1 → cG D A S b0 u ks bv ar q1 (w + 1) H1 → mI D a A q1 H1 → va_S (fun x => s.heap.size ≤ x) s.heap H1 locs1 → W p l e room_1 s m #[.ref b] below meth c H1 locs1 (lw_ce q1) (lw_sl q1) (lw_Z below #[.ref b] s) (F0 m 855 ls [])) : W p l e room_1 s m #[.ref b] below meth c H locs (lw_ce q) (lw_sl q) (lw_Z below #[.ref b] s) (F0 m 237 ls []) := by
  have hL31 : L < 2 ^ 31 := by omega
  obtain ⟨hd, hm, hma, hdis, hz⟩ := id F
  obtain ⟨fo, hO⟩ := hG.obj
  have hl1 := hq.1.1
  have hl2 := hq.1.2.1
  have z0 := hS.1
  have hce : lw_ce q = 17 + 5000 * (q.1.length - 1) := rfl
  have hsl : lw_sl q = 19000 + 50000 * (q.1.length - 1) := rfl
  refine x_aload_n X d_L_law_237 rfl hl rfl ?_
  refine x_aload_n X d_L_law_238 rfl hl rfl ?_
  refine x_iload_n X d_L_law_239 rfl hl rfl ?_
  refine x_iconst (v := nI 1) X d_L_law_240 rfl ?_
  refine n_iadd X d_L_law_241 ?_
  refine x_sld X hX hbl hS (by omega) hL31 d_L_law_242 ?_
  have ho := sp_popBack_ok hq (xs (i + 1))
  have hge := sp_popBack_le q (xs (i + 1))
  have ho2 := ho.1.2.1
  have ho1 := ho.1.1
  refine x_go1 (x_runV X (A_F_popBack l D A _ S b0 u ks bv ar hd q hq w hw hG (xs (i + 1))) b_F_popBack s_F_popBack v_F_popBack e_L_27 hO rfl rfl hl rfl (Nat.le_of_ble_eq_true rfl) d_L_law_243 (Nat.le_of_ble_eq_true rfl) (Nat.le_of_ble_eq_true rfl) ⟨by show _ ≤ 600000; omega, by show _ ≤ 7302250; omega⟩) hS (fun x h => h.elim (fun h => hz x (hG.1 x h)) (fun h => Nat.le_trans z0 h)) (fun H1 locs hG1 hF1 hS => ?_)
  have hI1 := hI.kc F hG hF1
  obtain ⟨fm, hM⟩ := hI1.obj
  refine x_aload_n X d_L_law_246 rfl hl rfl ?_
  refine x_aload_n X d_L_law_247 rfl hl rfl ?_
  refine x_iload_n X d_L_law_248 rfl hl rfl ?_
  refine x_iconst (v := nI 1) X d_L_law_249 rfl ?_
  refine n_iadd X d_L_law_250 ?_
  refine x_sld X hX hbl hS (by omega) hL31 d_L_law_251 ?_
  refine x_go1 (x_runV X (A_M_popBack l D A _ a hm q hq hI1 (xs (i + 1))) b_M_popBack s_M_popBack v_M_popBack e_L_30 hM rfl rfl hl rfl (Nat.le_of_ble_eq_true rfl) d_L_law_252 (Nat.le_of_ble_eq_true rfl) (Nat.le_of_ble_eq_true rfl) ⟨by show _ ≤ 600000; omega, by show _ ≤ 7302250; omega⟩) hS (fun x h => hz x (hma x h)) (fun H2 locs hI2 hF2 hS => ?_)
  have hG2 := hG1.kp F hF2
  refine x_icmp_eq X 855 d_L_law_255 rfl (fun _ => ?_) (fun h => absurd rfl h)
  refine W.widen ?_ ?_ (kk (sp_popBack q (xs (i + 1))).2 H2 _ ho hG2 hI2 hS)
  · show _ ≤ 17 + 5000 * ((sp_popBack q (xs (i + 1))).2.1.length - 1); omega
  · show _ ≤ 19000 + 50000 * ((sp_popBack q (xs (i + 1))).2.1.length - 1); omega
set_option maxRecDepth 100000 in
set_option maxHeartbeats 4000000 in
theorem lw_c_concat {p : Program} {l : Launch} {e : Env} {s : State} {m : MethodId} {below : List Frame} {meth : Method} {c : Code} {b L : Nat} {xs : Nat → Int32} {D : va_G} {A : Nat → ClassId} {S : Nat → Prop} {b0 u ks bv ar : Nat} {a : Nat → Nat} (X : xx p s m #[.ref b] meth c code 4 R_law ret D A s.heap) (hX : va_X b L xs s s.heap) (hbl : b < s.heap.size) (hL : L ≤ 2560) (F : lw_F S b0 u ks bv ar a s.heap.size) (q : ft_Q) (w i : Nat) (hq : sp_ok2 q) (hw : w < 100000) (hi : i + 5 ≤ L) (H : Heap) (locs : List Loc) (ls : Array Slot) (hG : cG D A S b0 u ks bv ar q w H) (hI : mI D a A q H) (hl : lz ls 4 [some (.ref b), some (.ref b0), some (.ref (a 0)), some (.int (nI i))]) (hS : va_S (fun x => s.heap.size ≤ x) s.heap H locs) (kk : ∀ (q1 : ft_Q) (H1 : Heap) (locs1 : List Loc), sp_ok2 q1 → cG D A S b0 u ks bv ar q1 (w + 1) H1 → mI D a A q1 H1 → va_S (fun x => s.heap.size ≤ x) s.heap H1 locs1 → W p l e room_1 s m #[.ref b] below meth c H1 locs1 (lw_ce q1) (lw_sl q1) (lw_Z below #[.ref b] s) (F0 m 855 ls [])) : W p l e room_1 s m #[.ref b] below meth c H locs (lw_ce q) (lw_sl q) (lw_Z below #[.ref b] s) (F0 m 260 ls []) := by
  have hL31 : L < 2 ^ 31 := by omega
  obtain ⟨hd, hm, hma, hdis, hz⟩ := id F
  obtain ⟨fo, hO⟩ := hG.obj
  have hl1 := hq.1.1
  have hl2 := hq.1.2.1
  have z0 := hS.1
  have hce : lw_ce q = 17 + 5000 * (q.1.length - 1) := rfl
  have hsl : lw_sl q = 19000 + 50000 * (q.1.length - 1) := rfl
  refine x_aload_n X d_L_law_260 rfl hl rfl ?_
  refine x_aload_n X d_L_law_261 rfl hl rfl ?_
  refine x_iload_n X d_L_law_262 rfl hl rfl ?_
  refine x_iconst (v := nI 1) X d_L_law_263 rfl ?_
  refine n_iadd X d_L_law_264 ?_
  refine x_sld X hX hbl hS (by omega) hL31 d_L_law_265 ?_
  refine x_aload_n X d_L_law_266 rfl hl rfl ?_
  refine x_iload_n X d_L_law_267 rfl hl rfl ?_
  refine x_iconst (v := nI 2) X d_L_law_268 rfl ?_
  refine n_iadd X d_L_law_269 ?_
  refine x_sld X hX hbl hS (by omega) hL31 d_L_law_270 ?_
  have ho := sp_concat_ok hq (xs (i + 1)) (xs (i + 2))
  have hge := sp_concat_le q (xs (i + 1)) (xs (i + 2))
  have ho2 := ho.1.2.1
  have ho1 := ho.1.1
  refine x_go1 (x_runV X (A_F_concat l D A _ S b0 u ks bv ar hd q hq w hw hG (xs (i + 1)) (xs (i + 2))) b_F_concat s_F_concat v_F_concat e_L_31 hO rfl rfl hl rfl (Nat.le_of_ble_eq_true rfl) d_L_law_271 (Nat.le_of_ble_eq_true rfl) (Nat.le_of_ble_eq_true rfl) ⟨by show _ ≤ 600000; omega, by show _ ≤ 7302250; omega⟩) hS (fun x h => h.elim (fun h => hz x (hG.1 x h)) (fun h => Nat.le_trans z0 h)) (fun H1 locs hG1 hF1 hS => ?_)
  have hI1 := hI.kc F hG hF1
  obtain ⟨fm, hM⟩ := hI1.obj
  refine x_aload_n X d_L_law_274 rfl hl rfl ?_
  refine x_aload_n X d_L_law_275 rfl hl rfl ?_
  refine x_iload_n X d_L_law_276 rfl hl rfl ?_
  refine x_iconst (v := nI 1) X d_L_law_277 rfl ?_
  refine n_iadd X d_L_law_278 ?_
  refine x_sld X hX hbl hS (by omega) hL31 d_L_law_279 ?_
  refine x_aload_n X d_L_law_280 rfl hl rfl ?_
  refine x_iload_n X d_L_law_281 rfl hl rfl ?_
  refine x_iconst (v := nI 2) X d_L_law_282 rfl ?_
  refine n_iadd X d_L_law_283 ?_
  refine x_sld X hX hbl hS (by omega) hL31 d_L_law_284 ?_
  refine x_go1 (x_runV X (A_M_concat l D A _ a hm q hq hI1 (xs (i + 1)) (xs (i + 2))) b_M_concat s_M_concat v_M_concat e_L_35 hM rfl rfl hl rfl (Nat.le_of_ble_eq_true rfl) d_L_law_285 (Nat.le_of_ble_eq_true rfl) (Nat.le_of_ble_eq_true rfl) ⟨by show _ ≤ 600000; omega, by show _ ≤ 7302250; omega⟩) hS (fun x h => hz x (hma x h)) (fun H2 locs hI2 hF2 hS => ?_)
  have hG2 := hG1.kp F hF2
  refine x_icmp_eq X 855 d_L_law_288 rfl (fun _ => ?_) (fun h => absurd rfl h)
  refine W.widen ?_ ?_ (kk (sp_concat q (xs (i + 1)) (xs (i + 2))).2 H2 _ ho hG2 hI2 hS)
  · show _ ≤ 17 + 5000 * ((sp_concat q (xs (i + 1)) (xs (i + 2))).2.1.length - 1); omega
  · show _ ≤ 19000 + 50000 * ((sp_concat q (xs (i + 1)) (xs (i + 2))).2.1.length - 1); omega
set_option maxRecDepth 100000 in
set_option maxHeartbeats 4000000 in
theorem lw_c_split {p : Program} {l : Launch} {e : Env} {s : State} {m : MethodId} {below : List Frame} {meth : Method} {c : Code} {b L : Nat} {xs : Nat → Int32} {D : va_G} {A : Nat → ClassId} {S : Nat → Prop} {b0 u ks bv ar : Nat} {a : Nat → Nat} (X : xx p s m #[.ref b] meth c code 4 R_law ret D A s.heap) (hX : va_X b L xs s s.heap) (hbl : b < s.heap.size) (hL : L ≤ 2560) (F : lw_F S b0 u ks bv ar a s.heap.size) (q : ft_Q) (w i : Nat) (hq : sp_ok2 q) (hw : w < 100000) (hi : i + 5 ≤ L) (H : Heap) (locs : List Loc) (ls : Array Slot) (hG : cG D A S b0 u ks bv ar q w H) (hI : mI D a A q H) (hl : lz ls 4 [some (.ref b), some (.ref b0), some (.ref (a 0)), some (.int (nI i))]) (hS : va_S (fun x => s.heap.size ≤ x) s.heap H locs) (kk : ∀ (q1 : ft_Q) (H1 : Heap) (locs1 : List Loc), sp_ok2 q1 → cG D A S b0 u ks bv ar q1 (w + 1) H1 → mI D a A q1 H1 → va_S (fun x => s.heap.size ≤ x) s.heap H1 locs1 → W p l e room_1 s m #[.ref b] below meth c H1 locs1 (lw_ce q1) (lw_sl q1) (lw_Z below #[.ref b] s) (F0 m 855 ls [])) : W p l e room_1 s m #[.ref b] below meth c H locs (lw_ce q) (lw_sl q) (lw_Z below #[.ref b] s) (F0 m 293 ls []) := by
  have hL31 : L < 2 ^ 31 := by omega
  obtain ⟨hd, hm, hma, hdis, hz⟩ := id F
  obtain ⟨fo, hO⟩ := hG.obj
  have hl1 := hq.1.1
  have hl2 := hq.1.2.1
  have z0 := hS.1
  have hce : lw_ce q = 17 + 5000 * (q.1.length - 1) := rfl
  have hsl : lw_sl q = 19000 + 50000 * (q.1.length - 1) := rfl
  refine x_aload_n X d_L_law_293 rfl hl rfl ?_
  refine x_aload_n X d_L_law_294 rfl hl rfl ?_
  refine x_iload_n X d_L_law_295 rfl hl rfl ?_
  refine x_iconst (v := nI 1) X d_L_law_296 rfl ?_
  refine n_iadd X d_L_law_297 ?_
  refine x_sld X hX hbl hS (by omega) hL31 d_L_law_298 ?_
  refine x_aload_n X d_L_law_299 rfl hl rfl ?_
  refine x_iload_n X d_L_law_300 rfl hl rfl ?_
  refine x_iconst (v := nI 2) X d_L_law_301 rfl ?_
  refine n_iadd X d_L_law_302 ?_
  refine x_sld X hX hbl hS (by omega) hL31 d_L_law_303 ?_
  have ho := sp_split_ok hq (xs (i + 1)) (xs (i + 2))
  have hge := sp_split_le q (xs (i + 1)) (xs (i + 2))
  have ho2 := ho.1.2.1
  have ho1 := ho.1.1
  refine x_go1 (x_runV X (A_F_split l D A _ S b0 u ks bv ar hd q hq w hw hG (xs (i + 1)) (xs (i + 2))) b_F_split s_F_split v_F_split e_L_36 hO rfl rfl hl rfl (Nat.le_of_ble_eq_true rfl) d_L_law_304 (Nat.le_of_ble_eq_true rfl) (Nat.le_of_ble_eq_true rfl) ⟨by show _ ≤ 600000; omega, by show _ ≤ 7302250; omega⟩) hS (fun x h => h.elim (fun h => hz x (hG.1 x h)) (fun h => Nat.le_trans z0 h)) (fun H1 locs hG1 hF1 hS => ?_)
  have hI1 := hI.kc F hG hF1
  obtain ⟨fm, hM⟩ := hI1.obj
  refine x_aload_n X d_L_law_307 rfl hl rfl ?_
  refine x_aload_n X d_L_law_308 rfl hl rfl ?_
  refine x_iload_n X d_L_law_309 rfl hl rfl ?_
  refine x_iconst (v := nI 1) X d_L_law_310 rfl ?_
  refine n_iadd X d_L_law_311 ?_
  refine x_sld X hX hbl hS (by omega) hL31 d_L_law_312 ?_
  refine x_aload_n X d_L_law_313 rfl hl rfl ?_
  refine x_iload_n X d_L_law_314 rfl hl rfl ?_
  refine x_iconst (v := nI 2) X d_L_law_315 rfl ?_
  refine n_iadd X d_L_law_316 ?_
  refine x_sld X hX hbl hS (by omega) hL31 d_L_law_317 ?_
  refine x_go1 (x_runV X (A_M_split l D A _ a hm q hq hI1 (xs (i + 1)) (xs (i + 2))) b_M_split s_M_split v_M_split e_L_39 hM rfl rfl hl rfl (Nat.le_of_ble_eq_true rfl) d_L_law_318 (Nat.le_of_ble_eq_true rfl) (Nat.le_of_ble_eq_true rfl) ⟨by show _ ≤ 600000; omega, by show _ ≤ 7302250; omega⟩) hS (fun x h => hz x (hma x h)) (fun H2 locs hI2 hF2 hS => ?_)
  have hG2 := hG1.kp F hF2
  refine x_icmp_eq X 855 d_L_law_321 rfl (fun _ => ?_) (fun h => absurd rfl h)
  refine W.widen ?_ ?_ (kk (sp_split q (xs (i + 1)) (xs (i + 2))).2 H2 _ ho hG2 hI2 hS)
  · show _ ≤ 17 + 5000 * ((sp_split q (xs (i + 1)) (xs (i + 2))).2.1.length - 1); omega
  · show _ ≤ 19000 + 50000 * ((sp_split q (xs (i + 1)) (xs (i + 2))).2.1.length - 1); omega
set_option maxRecDepth 100000 in
set_option maxHeartbeats 4000000 in
theorem lw_c_replace {p : Program} {l : Launch} {e : Env} {s : State} {m : MethodId} {below : List Frame} {meth : Method} {c : Code} {b L : Nat} {xs : Nat → Int32} {D : va_G} {A : Nat → ClassId} {S : Nat → Prop} {b0 u ks bv ar : Nat} {a : Nat → Nat} (X : xx p s m #[.ref b] meth c code 4 R_law ret D A s.heap) (hX : va_X b L xs s s.heap) (hbl : b < s.heap.size) (hL : L ≤ 2560) (F : lw_F S b0 u ks bv ar a s.heap.size) (q : ft_Q) (w i : Nat) (hq : sp_ok2 q) (hw : w < 100000) (hi : i + 5 ≤ L) (H : Heap) (locs : List Loc) (ls : Array Slot) (hG : cG D A S b0 u ks bv ar q w H) (hI : mI D a A q H) (hl : lz ls 4 [some (.ref b), some (.ref b0), some (.ref (a 0)), some (.int (nI i))]) (hS : va_S (fun x => s.heap.size ≤ x) s.heap H locs) (kk : ∀ (q1 : ft_Q) (H1 : Heap) (locs1 : List Loc), sp_ok2 q1 → cG D A S b0 u ks bv ar q1 (w + 1) H1 → mI D a A q1 H1 → va_S (fun x => s.heap.size ≤ x) s.heap H1 locs1 → W p l e room_1 s m #[.ref b] below meth c H1 locs1 (lw_ce q1) (lw_sl q1) (lw_Z below #[.ref b] s) (F0 m 855 ls [])) : W p l e room_1 s m #[.ref b] below meth c H locs (lw_ce q) (lw_sl q) (lw_Z below #[.ref b] s) (F0 m 326 ls []) := by
  have hL31 : L < 2 ^ 31 := by omega
  obtain ⟨hd, hm, hma, hdis, hz⟩ := id F
  obtain ⟨fo, hO⟩ := hG.obj
  have hl1 := hq.1.1
  have hl2 := hq.1.2.1
  have z0 := hS.1
  have hce : lw_ce q = 17 + 5000 * (q.1.length - 1) := rfl
  have hsl : lw_sl q = 19000 + 50000 * (q.1.length - 1) := rfl
  refine x_aload_n X d_L_law_326 rfl hl rfl ?_
  refine x_aload_n X d_L_law_327 rfl hl rfl ?_
  refine x_iload_n X d_L_law_328 rfl hl rfl ?_
  refine x_iconst (v := nI 1) X d_L_law_329 rfl ?_
  refine n_iadd X d_L_law_330 ?_
  refine x_sld X hX hbl hS (by omega) hL31 d_L_law_331 ?_
  refine x_aload_n X d_L_law_332 rfl hl rfl ?_
  refine x_iload_n X d_L_law_333 rfl hl rfl ?_
  refine x_iconst (v := nI 2) X d_L_law_334 rfl ?_
  refine n_iadd X d_L_law_335 ?_
  refine x_sld X hX hbl hS (by omega) hL31 d_L_law_336 ?_
  refine x_aload_n X d_L_law_337 rfl hl rfl ?_
  refine x_iload_n X d_L_law_338 rfl hl rfl ?_
  refine x_iconst (v := nI 3) X d_L_law_339 rfl ?_
  refine n_iadd X d_L_law_340 ?_
  refine x_sld X hX hbl hS (by omega) hL31 d_L_law_341 ?_
  refine x_aload_n X d_L_law_342 rfl hl rfl ?_
  refine x_iload_n X d_L_law_343 rfl hl rfl ?_
  refine x_iconst (v := nI 4) X d_L_law_344 rfl ?_
  refine n_iadd X d_L_law_345 ?_
  refine x_sld X hX hbl hS (by omega) hL31 d_L_law_346 ?_
  have ho := sp_replace_ok hq (xs (i + 1)) (xs (i + 2)) (xs (i + 3)) (xs (i + 4))
  have hge := sp_replace_le q (xs (i + 1)) (xs (i + 2)) (xs (i + 3)) (xs (i + 4))
  have ho2 := ho.1.2.1
  have ho1 := ho.1.1
  refine x_go1 (x_runV X (A_F_replace l D A _ S b0 u ks bv ar hd q hq w hw hG (xs (i + 1)) (xs (i + 2)) (xs (i + 3)) (xs (i + 4))) b_F_replace s_F_replace v_F_replace e_L_40 hO rfl rfl hl rfl (Nat.le_of_ble_eq_true rfl) d_L_law_347 (Nat.le_of_ble_eq_true rfl) (Nat.le_of_ble_eq_true rfl) ⟨by show _ ≤ 600000; omega, by show _ ≤ 7302250; omega⟩) hS (fun x h => h.elim (fun h => hz x (hG.1 x h)) (fun h => Nat.le_trans z0 h)) (fun H1 locs hG1 hF1 hS => ?_)
  have hI1 := hI.kc F hG hF1
  obtain ⟨fm, hM⟩ := hI1.obj
  refine x_aload_n X d_L_law_350 rfl hl rfl ?_
  refine x_aload_n X d_L_law_351 rfl hl rfl ?_
  refine x_iload_n X d_L_law_352 rfl hl rfl ?_
  refine x_iconst (v := nI 1) X d_L_law_353 rfl ?_
  refine n_iadd X d_L_law_354 ?_
  refine x_sld X hX hbl hS (by omega) hL31 d_L_law_355 ?_
  refine x_aload_n X d_L_law_356 rfl hl rfl ?_
  refine x_iload_n X d_L_law_357 rfl hl rfl ?_
  refine x_iconst (v := nI 2) X d_L_law_358 rfl ?_
  refine n_iadd X d_L_law_359 ?_
  refine x_sld X hX hbl hS (by omega) hL31 d_L_law_360 ?_
  refine x_aload_n X d_L_law_361 rfl hl rfl ?_
  refine x_iload_n X d_L_law_362 rfl hl rfl ?_
  refine x_iconst (v := nI 3) X d_L_law_363 rfl ?_
  refine n_iadd X d_L_law_364 ?_
  refine x_sld X hX hbl hS (by omega) hL31 d_L_law_365 ?_
  refine x_aload_n X d_L_law_366 rfl hl rfl ?_
  refine x_iload_n X d_L_law_367 rfl hl rfl ?_
  refine x_iconst (v := nI 4) X d_L_law_368 rfl ?_
  refine n_iadd X d_L_law_369 ?_
  refine x_sld X hX hbl hS (by omega) hL31 d_L_law_370 ?_
  refine x_go1 (x_runV X (A_M_replace l D A _ a hm q hq hI1 (xs (i + 1)) (xs (i + 2)) (xs (i + 3)) (xs (i + 4))) b_M_replace s_M_replace v_M_replace e_L_44 hM rfl rfl hl rfl (Nat.le_of_ble_eq_true rfl) d_L_law_371 (Nat.le_of_ble_eq_true rfl) (Nat.le_of_ble_eq_true rfl) ⟨by show _ ≤ 600000; omega, by show _ ≤ 7302250; omega⟩) hS (fun x h => hz x (hma x h)) (fun H2 locs hI2 hF2 hS => ?_)
  have hG2 := hG1.kp F hF2
  refine x_icmp_eq X 855 d_L_law_374 rfl (fun _ => ?_) (fun h => absurd rfl h)
  refine W.widen ?_ ?_ (kk (sp_replace q (xs (i + 1)) (xs (i + 2)) (xs (i + 3)) (xs (i + 4))).2 H2 _ ho hG2 hI2 hS)
  · show _ ≤ 17 + 5000 * ((sp_replace q (xs (i + 1)) (xs (i + 2)) (xs (i + 3)) (xs (i + 4))).2.1.length - 1); omega
  · show _ ≤ 19000 + 50000 * ((sp_replace q (xs (i + 1)) (xs (i + 2)) (xs (i + 3)) (xs (i + 4))).2.1.length - 1); omega
set_option maxRecDepth 100000 in
set_option maxHeartbeats 4000000 in
theorem lw_c_insert {p : Program} {l : Launch} {e : Env} {s : State} {m : MethodId} {below : List Frame} {meth : Method} {c : Code} {b L : Nat} {xs : Nat → Int32} {D : va_G} {A : Nat → ClassId} {S : Nat → Prop} {b0 u ks bv ar : Nat} {a : Nat → Nat} (X : xx p s m #[.ref b] meth c code 4 R_law ret D A s.heap) (hX : va_X b L xs s s.heap) (hbl : b < s.heap.size) (hL : L ≤ 2560) (F : lw_F S b0 u ks bv ar a s.heap.size) (q : ft_Q) (w i : Nat) (hq : sp_ok2 q) (hw : w < 100000) (hi : i + 5 ≤ L) (H : Heap) (locs : List Loc) (ls : Array Slot) (hG : cG D A S b0 u ks bv ar q w H) (hI : mI D a A q H) (hl : lz ls 4 [some (.ref b), some (.ref b0), some (.ref (a 0)), some (.int (nI i))]) (hS : va_S (fun x => s.heap.size ≤ x) s.heap H locs) (kk : ∀ (q1 : ft_Q) (H1 : Heap) (locs1 : List Loc), sp_ok2 q1 → cG D A S b0 u ks bv ar q1 (w + 1) H1 → mI D a A q1 H1 → va_S (fun x => s.heap.size ≤ x) s.heap H1 locs1 → W p l e room_1 s m #[.ref b] below meth c H1 locs1 (lw_ce q1) (lw_sl q1) (lw_Z below #[.ref b] s) (F0 m 855 ls [])) : W p l e room_1 s m #[.ref b] below meth c H locs (lw_ce q) (lw_sl q) (lw_Z below #[.ref b] s) (F0 m 379 ls []) := by
  have hL31 : L < 2 ^ 31 := by omega
  obtain ⟨hd, hm, hma, hdis, hz⟩ := id F
  obtain ⟨fo, hO⟩ := hG.obj
  have hl1 := hq.1.1
  have hl2 := hq.1.2.1
  have z0 := hS.1
  have hce : lw_ce q = 17 + 5000 * (q.1.length - 1) := rfl
  have hsl : lw_sl q = 19000 + 50000 * (q.1.length - 1) := rfl
  refine x_aload_n X d_L_law_379 rfl hl rfl ?_
  refine x_aload_n X d_L_law_380 rfl hl rfl ?_
  refine x_iload_n X d_L_law_381 rfl hl rfl ?_
  refine x_iconst (v := nI 1) X d_L_law_382 rfl ?_
  refine n_iadd X d_L_law_383 ?_
  refine x_sld X hX hbl hS (by omega) hL31 d_L_law_384 ?_
  refine x_aload_n X d_L_law_385 rfl hl rfl ?_
  refine x_iload_n X d_L_law_386 rfl hl rfl ?_
  refine x_iconst (v := nI 2) X d_L_law_387 rfl ?_
  refine n_iadd X d_L_law_388 ?_
  refine x_sld X hX hbl hS (by omega) hL31 d_L_law_389 ?_
  refine x_aload_n X d_L_law_390 rfl hl rfl ?_
  refine x_iload_n X d_L_law_391 rfl hl rfl ?_
  refine x_iconst (v := nI 3) X d_L_law_392 rfl ?_
  refine n_iadd X d_L_law_393 ?_
  refine x_sld X hX hbl hS (by omega) hL31 d_L_law_394 ?_
  have ho := sp_insert_ok hq (xs (i + 1)) (xs (i + 2)) (xs (i + 3))
  have hge := sp_insert_le q (xs (i + 1)) (xs (i + 2)) (xs (i + 3))
  have ho2 := ho.1.2.1
  have ho1 := ho.1.1
  refine x_go1 (x_runV X (A_F_insert l D A _ S b0 u ks bv ar hd q hq w hw hG (xs (i + 1)) (xs (i + 2)) (xs (i + 3))) b_F_insert s_F_insert v_F_insert e_L_45 hO rfl rfl hl rfl (Nat.le_of_ble_eq_true rfl) d_L_law_395 (Nat.le_of_ble_eq_true rfl) (Nat.le_of_ble_eq_true rfl) ⟨by show _ ≤ 600000; omega, by show _ ≤ 7302250; omega⟩) hS (fun x h => h.elim (fun h => hz x (hG.1 x h)) (fun h => Nat.le_trans z0 h)) (fun H1 locs hG1 hF1 hS => ?_)
  have hI1 := hI.kc F hG hF1
  obtain ⟨fm, hM⟩ := hI1.obj
  refine x_aload_n X d_L_law_398 rfl hl rfl ?_
  refine x_aload_n X d_L_law_399 rfl hl rfl ?_
  refine x_iload_n X d_L_law_400 rfl hl rfl ?_
  refine x_iconst (v := nI 1) X d_L_law_401 rfl ?_
  refine n_iadd X d_L_law_402 ?_
  refine x_sld X hX hbl hS (by omega) hL31 d_L_law_403 ?_
  refine x_aload_n X d_L_law_404 rfl hl rfl ?_
  refine x_iload_n X d_L_law_405 rfl hl rfl ?_
  refine x_iconst (v := nI 2) X d_L_law_406 rfl ?_
  refine n_iadd X d_L_law_407 ?_
  refine x_sld X hX hbl hS (by omega) hL31 d_L_law_408 ?_
  refine x_aload_n X d_L_law_409 rfl hl rfl ?_
  refine x_iload_n X d_L_law_410 rfl hl rfl ?_
  refine x_iconst (v := nI 3) X d_L_law_411 rfl ?_
  refine n_iadd X d_L_law_412 ?_
  refine x_sld X hX hbl hS (by omega) hL31 d_L_law_413 ?_
  refine x_go1 (x_runV X (A_M_insert l D A _ a hm q hq hI1 (xs (i + 1)) (xs (i + 2)) (xs (i + 3))) b_M_insert s_M_insert v_M_insert e_L_48 hM rfl rfl hl rfl (Nat.le_of_ble_eq_true rfl) d_L_law_414 (Nat.le_of_ble_eq_true rfl) (Nat.le_of_ble_eq_true rfl) ⟨by show _ ≤ 600000; omega, by show _ ≤ 7302250; omega⟩) hS (fun x h => hz x (hma x h)) (fun H2 locs hI2 hF2 hS => ?_)
  have hG2 := hG1.kp F hF2
  refine x_icmp_eq X 855 d_L_law_417 rfl (fun _ => ?_) (fun h => absurd rfl h)
  refine W.widen ?_ ?_ (kk (sp_insert q (xs (i + 1)) (xs (i + 2)) (xs (i + 3))).2 H2 _ ho hG2 hI2 hS)
  · show _ ≤ 17 + 5000 * ((sp_insert q (xs (i + 1)) (xs (i + 2)) (xs (i + 3))).2.1.length - 1); omega
  · show _ ≤ 19000 + 50000 * ((sp_insert q (xs (i + 1)) (xs (i + 2)) (xs (i + 3))).2.1.length - 1); omega
set_option maxRecDepth 100000 in
set_option maxHeartbeats 4000000 in
theorem lw_c_removeTop {p : Program} {l : Launch} {e : Env} {s : State} {m : MethodId} {below : List Frame} {meth : Method} {c : Code} {b L : Nat} {xs : Nat → Int32} {D : va_G} {A : Nat → ClassId} {S : Nat → Prop} {b0 u ks bv ar : Nat} {a : Nat → Nat} (X : xx p s m #[.ref b] meth c code 4 R_law ret D A s.heap) (hX : va_X b L xs s s.heap) (hbl : b < s.heap.size) (hL : L ≤ 2560) (F : lw_F S b0 u ks bv ar a s.heap.size) (q : ft_Q) (w i : Nat) (hq : sp_ok2 q) (hw : w < 100000) (hi : i + 5 ≤ L) (H : Heap) (locs : List Loc) (ls : Array Slot) (hG : cG D A S b0 u ks bv ar q w H) (hI : mI D a A q H) (hl : lz ls 4 [some (.ref b), some (.ref b0), some (.ref (a 0)), some (.int (nI i))]) (hS : va_S (fun x => s.heap.size ≤ x) s.heap H locs) (kk : ∀ (q1 : ft_Q) (H1 : Heap) (locs1 : List Loc), sp_ok2 q1 → cG D A S b0 u ks bv ar q1 (w + 1) H1 → mI D a A q1 H1 → va_S (fun x => s.heap.size ≤ x) s.heap H1 locs1 → W p l e room_1 s m #[.ref b] below meth c H1 locs1 (lw_ce q1) (lw_sl q1) (lw_Z below #[.ref b] s) (F0 m 855 ls [])) : W p l e room_1 s m #[.ref b] below meth c H locs (lw_ce q) (lw_sl q) (lw_Z below #[.ref b] s) (F0 m 422 ls []) := by
  have hL31 : L < 2 ^ 31 := by omega
  obtain ⟨hd, hm, hma, hdis, hz⟩ := id F
  obtain ⟨fo, hO⟩ := hG.obj
  have hl1 := hq.1.1
  have hl2 := hq.1.2.1
  have z0 := hS.1
  have hce : lw_ce q = 17 + 5000 * (q.1.length - 1) := rfl
  have hsl : lw_sl q = 19000 + 50000 * (q.1.length - 1) := rfl
  refine x_aload_n X d_L_law_422 rfl hl rfl ?_
  refine x_aload_n X d_L_law_423 rfl hl rfl ?_
  refine x_iload_n X d_L_law_424 rfl hl rfl ?_
  refine x_iconst (v := nI 1) X d_L_law_425 rfl ?_
  refine n_iadd X d_L_law_426 ?_
  refine x_sld X hX hbl hS (by omega) hL31 d_L_law_427 ?_
  have ho := sp_removeTop_ok hq (xs (i + 1))
  have hge := sp_removeTop_le q (xs (i + 1))
  have ho2 := ho.1.2.1
  have ho1 := ho.1.1
  refine x_go1 (x_runV X (A_F_removeTop l D A _ S b0 u ks bv ar hd q hq w hw hG (xs (i + 1))) b_F_removeTop s_F_removeTop v_F_removeTop e_L_49 hO rfl rfl hl rfl (Nat.le_of_ble_eq_true rfl) d_L_law_428 (Nat.le_of_ble_eq_true rfl) (Nat.le_of_ble_eq_true rfl) ⟨by show _ ≤ 600000; omega, by show _ ≤ 7302250; omega⟩) hS (fun x h => h.elim (fun h => hz x (hG.1 x h)) (fun h => Nat.le_trans z0 h)) (fun H1 locs hG1 hF1 hS => ?_)
  have hI1 := hI.kc F hG hF1
  obtain ⟨fm, hM⟩ := hI1.obj
  refine x_aload_n X d_L_law_431 rfl hl rfl ?_
  refine x_aload_n X d_L_law_432 rfl hl rfl ?_
  refine x_iload_n X d_L_law_433 rfl hl rfl ?_
  refine x_iconst (v := nI 1) X d_L_law_434 rfl ?_
  refine n_iadd X d_L_law_435 ?_
  refine x_sld X hX hbl hS (by omega) hL31 d_L_law_436 ?_
  refine x_go1 (x_runV X (A_M_removeTop l D A _ a hm q hq hI1 (xs (i + 1))) b_M_removeTop s_M_removeTop v_M_removeTop e_L_52 hM rfl rfl hl rfl (Nat.le_of_ble_eq_true rfl) d_L_law_437 (Nat.le_of_ble_eq_true rfl) (Nat.le_of_ble_eq_true rfl) ⟨by show _ ≤ 600000; omega, by show _ ≤ 7302250; omega⟩) hS (fun x h => hz x (hma x h)) (fun H2 locs hI2 hF2 hS => ?_)
  have hG2 := hG1.kp F hF2
  refine x_icmp_eq X 855 d_L_law_440 rfl (fun _ => ?_) (fun h => absurd rfl h)
  refine W.widen ?_ ?_ (kk (sp_removeTop q (xs (i + 1))).2 H2 _ ho hG2 hI2 hS)
  · show _ ≤ 17 + 5000 * ((sp_removeTop q (xs (i + 1))).2.1.length - 1); omega
  · show _ ≤ 19000 + 50000 * ((sp_removeTop q (xs (i + 1))).2.1.length - 1); omega
set_option maxRecDepth 100000 in
set_option maxHeartbeats 4000000 in
theorem lw_c_length {p : Program} {l : Launch} {e : Env} {s : State} {m : MethodId} {below : List Frame} {meth : Method} {c : Code} {b L : Nat} {xs : Nat → Int32} {D : va_G} {A : Nat → ClassId} {S : Nat → Prop} {b0 u ks bv ar : Nat} {a : Nat → Nat} (X : xx p s m #[.ref b] meth c code 4 R_law ret D A s.heap) (hX : va_X b L xs s s.heap) (hbl : b < s.heap.size) (hL : L ≤ 2560) (F : lw_F S b0 u ks bv ar a s.heap.size) (q : ft_Q) (w i : Nat) (hq : sp_ok2 q) (hw : w < 100000) (hi : i + 5 ≤ L) (H : Heap) (locs : List Loc) (ls : Array Slot) (hG : cG D A S b0 u ks bv ar q w H) (hI : mI D a A q H) (hl : lz ls 4 [some (.ref b), some (.ref b0), some (.ref (a 0)), some (.int (nI i))]) (hS : va_S (fun x => s.heap.size ≤ x) s.heap H locs) (kk : ∀ (q1 : ft_Q) (H1 : Heap) (locs1 : List Loc), sp_ok2 q1 → cG D A S b0 u ks bv ar q1 (w + 1) H1 → mI D a A q1 H1 → va_S (fun x => s.heap.size ≤ x) s.heap H1 locs1 → W p l e room_1 s m #[.ref b] below meth c H1 locs1 (lw_ce q1) (lw_sl q1) (lw_Z below #[.ref b] s) (F0 m 855 ls [])) : W p l e room_1 s m #[.ref b] below meth c H locs (lw_ce q) (lw_sl q) (lw_Z below #[.ref b] s) (F0 m 445 ls []) := by
  have hL31 : L < 2 ^ 31 := by omega
  obtain ⟨hd, hm, hma, hdis, hz⟩ := id F
  obtain ⟨fo, hO⟩ := hG.obj
  have hl1 := hq.1.1
  have hl2 := hq.1.2.1
  have z0 := hS.1
  have hce : lw_ce q = 17 + 5000 * (q.1.length - 1) := rfl
  have hsl : lw_sl q = 19000 + 50000 * (q.1.length - 1) := rfl
  refine x_aload_n X d_L_law_445 rfl hl rfl ?_
  refine x_aload_n X d_L_law_446 rfl hl rfl ?_
  refine x_iload_n X d_L_law_447 rfl hl rfl ?_
  refine x_iconst (v := nI 1) X d_L_law_448 rfl ?_
  refine n_iadd X d_L_law_449 ?_
  refine x_sld X hX hbl hS (by omega) hL31 d_L_law_450 ?_
  obtain ⟨fm, hM⟩ := hI.obj
  obtain ⟨hSS, hSb, rh, nn, em, lt, vs, mv, hR, hF⟩ := id hG
  refine x_goR (x_runV X (A_F_length l D A _ S b0 u ks bv ar rh q hq w nn em lt vs mv hF (xs (i + 1))) b_F_length s_F_length v_F_length e_L_53 hO rfl rfl hl rfl (Nat.le_of_ble_eq_true rfl) d_L_law_451 (Nat.le_of_ble_eq_true rfl) (Nat.le_of_ble_eq_true rfl) ⟨by show _ ≤ 600000; omega, by show _ ≤ 7302250; omega⟩) hS (fun locs hS => ?_)
  refine x_aload_n X d_L_law_454 rfl hl rfl ?_
  refine x_aload_n X d_L_law_455 rfl hl rfl ?_
  refine x_iload_n X d_L_law_456 rfl hl rfl ?_
  refine x_iconst (v := nI 1) X d_L_law_457 rfl ?_
  refine n_iadd X d_L_law_458 ?_
  refine x_sld X hX hbl hS (by omega) hL31 d_L_law_459 ?_
  refine x_goR (x_runV X (A_M_length l D A _ a q hq hI (xs (i + 1))) b_M_length s_M_length v_M_length e_L_56 hM rfl rfl hl rfl (Nat.le_of_ble_eq_true rfl) d_L_law_460 (Nat.le_of_ble_eq_true rfl) (Nat.le_of_ble_eq_true rfl) ⟨by show _ ≤ 600000; omega, by show _ ≤ 7302250; omega⟩) hS (fun locs hS => ?_)
  refine x_icmp_eq X 855 d_L_law_463 rfl (fun _ => ?_) (fun h => absurd rfl h)
  exact kk q H _ hq hG.up hI hS
set_option maxRecDepth 100000 in
set_option maxHeartbeats 4000000 in
theorem lw_c_low {p : Program} {l : Launch} {e : Env} {s : State} {m : MethodId} {below : List Frame} {meth : Method} {c : Code} {b L : Nat} {xs : Nat → Int32} {D : va_G} {A : Nat → ClassId} {S : Nat → Prop} {b0 u ks bv ar : Nat} {a : Nat → Nat} (X : xx p s m #[.ref b] meth c code 4 R_law ret D A s.heap) (hX : va_X b L xs s s.heap) (hbl : b < s.heap.size) (hL : L ≤ 2560) (F : lw_F S b0 u ks bv ar a s.heap.size) (q : ft_Q) (w i : Nat) (hq : sp_ok2 q) (hw : w < 100000) (hi : i + 5 ≤ L) (H : Heap) (locs : List Loc) (ls : Array Slot) (hG : cG D A S b0 u ks bv ar q w H) (hI : mI D a A q H) (hl : lz ls 4 [some (.ref b), some (.ref b0), some (.ref (a 0)), some (.int (nI i))]) (hS : va_S (fun x => s.heap.size ≤ x) s.heap H locs) (kk : ∀ (q1 : ft_Q) (H1 : Heap) (locs1 : List Loc), sp_ok2 q1 → cG D A S b0 u ks bv ar q1 (w + 1) H1 → mI D a A q1 H1 → va_S (fun x => s.heap.size ≤ x) s.heap H1 locs1 → W p l e room_1 s m #[.ref b] below meth c H1 locs1 (lw_ce q1) (lw_sl q1) (lw_Z below #[.ref b] s) (F0 m 855 ls [])) : W p l e room_1 s m #[.ref b] below meth c H locs (lw_ce q) (lw_sl q) (lw_Z below #[.ref b] s) (F0 m 468 ls []) := by
  have hL31 : L < 2 ^ 31 := by omega
  obtain ⟨hd, hm, hma, hdis, hz⟩ := id F
  obtain ⟨fo, hO⟩ := hG.obj
  have hl1 := hq.1.1
  have hl2 := hq.1.2.1
  have z0 := hS.1
  have hce : lw_ce q = 17 + 5000 * (q.1.length - 1) := rfl
  have hsl : lw_sl q = 19000 + 50000 * (q.1.length - 1) := rfl
  refine x_aload_n X d_L_law_468 rfl hl rfl ?_
  refine x_aload_n X d_L_law_469 rfl hl rfl ?_
  refine x_iload_n X d_L_law_470 rfl hl rfl ?_
  refine x_iconst (v := nI 1) X d_L_law_471 rfl ?_
  refine n_iadd X d_L_law_472 ?_
  refine x_sld X hX hbl hS (by omega) hL31 d_L_law_473 ?_
  refine x_aload_n X d_L_law_474 rfl hl rfl ?_
  refine x_iload_n X d_L_law_475 rfl hl rfl ?_
  refine x_iconst (v := nI 2) X d_L_law_476 rfl ?_
  refine n_iadd X d_L_law_477 ?_
  refine x_sld X hX hbl hS (by omega) hL31 d_L_law_478 ?_
  obtain ⟨fm, hM⟩ := hI.obj
  obtain ⟨hSS, hSb, rh, nn, em, lt, vs, mv, hR, hF⟩ := id hG
  refine x_goR (x_runV X (A_F_low l D A _ S b0 u ks bv ar rh q hq w nn em lt vs mv hF (xs (i + 1)) (xs (i + 2))) b_F_low s_F_low v_F_low e_L_57 hO rfl rfl hl rfl (Nat.le_of_ble_eq_true rfl) d_L_law_479 (Nat.le_of_ble_eq_true rfl) (Nat.le_of_ble_eq_true rfl) ⟨by show _ ≤ 600000; omega, by show _ ≤ 7302250; omega⟩) hS (fun locs hS => ?_)
  refine x_aload_n X d_L_law_482 rfl hl rfl ?_
  refine x_aload_n X d_L_law_483 rfl hl rfl ?_
  refine x_iload_n X d_L_law_484 rfl hl rfl ?_
  refine x_iconst (v := nI 1) X d_L_law_485 rfl ?_
  refine n_iadd X d_L_law_486 ?_
  refine x_sld X hX hbl hS (by omega) hL31 d_L_law_487 ?_
  refine x_aload_n X d_L_law_488 rfl hl rfl ?_
  refine x_iload_n X d_L_law_489 rfl hl rfl ?_
  refine x_iconst (v := nI 2) X d_L_law_490 rfl ?_
  refine n_iadd X d_L_law_491 ?_
  refine x_sld X hX hbl hS (by omega) hL31 d_L_law_492 ?_
  refine x_goR (x_runV X (A_M_low l D A _ a q hq hI (xs (i + 1)) (xs (i + 2))) b_M_low s_M_low v_M_low e_L_60 hM rfl rfl hl rfl (Nat.le_of_ble_eq_true rfl) d_L_law_493 (Nat.le_of_ble_eq_true rfl) (Nat.le_of_ble_eq_true rfl) ⟨by show _ ≤ 600000; omega, by show _ ≤ 7302250; omega⟩) hS (fun locs hS => ?_)
  refine x_icmp_eq X 855 d_L_law_496 rfl (fun _ => ?_) (fun h => absurd rfl h)
  exact kk q H _ hq hG.up hI hS
set_option maxRecDepth 100000 in
set_option maxHeartbeats 4000000 in
theorem lw_c_high {p : Program} {l : Launch} {e : Env} {s : State} {m : MethodId} {below : List Frame} {meth : Method} {c : Code} {b L : Nat} {xs : Nat → Int32} {D : va_G} {A : Nat → ClassId} {S : Nat → Prop} {b0 u ks bv ar : Nat} {a : Nat → Nat} (X : xx p s m #[.ref b] meth c code 4 R_law ret D A s.heap) (hX : va_X b L xs s s.heap) (hbl : b < s.heap.size) (hL : L ≤ 2560) (F : lw_F S b0 u ks bv ar a s.heap.size) (q : ft_Q) (w i : Nat) (hq : sp_ok2 q) (hw : w < 100000) (hi : i + 5 ≤ L) (H : Heap) (locs : List Loc) (ls : Array Slot) (hG : cG D A S b0 u ks bv ar q w H) (hI : mI D a A q H) (hl : lz ls 4 [some (.ref b), some (.ref b0), some (.ref (a 0)), some (.int (nI i))]) (hS : va_S (fun x => s.heap.size ≤ x) s.heap H locs) (kk : ∀ (q1 : ft_Q) (H1 : Heap) (locs1 : List Loc), sp_ok2 q1 → cG D A S b0 u ks bv ar q1 (w + 1) H1 → mI D a A q1 H1 → va_S (fun x => s.heap.size ≤ x) s.heap H1 locs1 → W p l e room_1 s m #[.ref b] below meth c H1 locs1 (lw_ce q1) (lw_sl q1) (lw_Z below #[.ref b] s) (F0 m 855 ls [])) : W p l e room_1 s m #[.ref b] below meth c H locs (lw_ce q) (lw_sl q) (lw_Z below #[.ref b] s) (F0 m 501 ls []) := by
  have hL31 : L < 2 ^ 31 := by omega
  obtain ⟨hd, hm, hma, hdis, hz⟩ := id F
  obtain ⟨fo, hO⟩ := hG.obj
  have hl1 := hq.1.1
  have hl2 := hq.1.2.1
  have z0 := hS.1
  have hce : lw_ce q = 17 + 5000 * (q.1.length - 1) := rfl
  have hsl : lw_sl q = 19000 + 50000 * (q.1.length - 1) := rfl
  refine x_aload_n X d_L_law_501 rfl hl rfl ?_
  refine x_aload_n X d_L_law_502 rfl hl rfl ?_
  refine x_iload_n X d_L_law_503 rfl hl rfl ?_
  refine x_iconst (v := nI 1) X d_L_law_504 rfl ?_
  refine n_iadd X d_L_law_505 ?_
  refine x_sld X hX hbl hS (by omega) hL31 d_L_law_506 ?_
  refine x_aload_n X d_L_law_507 rfl hl rfl ?_
  refine x_iload_n X d_L_law_508 rfl hl rfl ?_
  refine x_iconst (v := nI 2) X d_L_law_509 rfl ?_
  refine n_iadd X d_L_law_510 ?_
  refine x_sld X hX hbl hS (by omega) hL31 d_L_law_511 ?_
  obtain ⟨fm, hM⟩ := hI.obj
  obtain ⟨hSS, hSb, rh, nn, em, lt, vs, mv, hR, hF⟩ := id hG
  refine x_goR (x_runV X (A_F_high l D A _ S b0 u ks bv ar rh q hq w nn em lt vs mv hF (xs (i + 1)) (xs (i + 2))) b_F_high s_F_high v_F_high e_L_61 hO rfl rfl hl rfl (Nat.le_of_ble_eq_true rfl) d_L_law_512 (Nat.le_of_ble_eq_true rfl) (Nat.le_of_ble_eq_true rfl) ⟨by show _ ≤ 600000; omega, by show _ ≤ 7302250; omega⟩) hS (fun locs hS => ?_)
  refine x_aload_n X d_L_law_515 rfl hl rfl ?_
  refine x_aload_n X d_L_law_516 rfl hl rfl ?_
  refine x_iload_n X d_L_law_517 rfl hl rfl ?_
  refine x_iconst (v := nI 1) X d_L_law_518 rfl ?_
  refine n_iadd X d_L_law_519 ?_
  refine x_sld X hX hbl hS (by omega) hL31 d_L_law_520 ?_
  refine x_aload_n X d_L_law_521 rfl hl rfl ?_
  refine x_iload_n X d_L_law_522 rfl hl rfl ?_
  refine x_iconst (v := nI 2) X d_L_law_523 rfl ?_
  refine n_iadd X d_L_law_524 ?_
  refine x_sld X hX hbl hS (by omega) hL31 d_L_law_525 ?_
  refine x_goR (x_runV X (A_M_high l D A _ a q hq hI (xs (i + 1)) (xs (i + 2))) b_M_high s_M_high v_M_high e_L_64 hM rfl rfl hl rfl (Nat.le_of_ble_eq_true rfl) d_L_law_526 (Nat.le_of_ble_eq_true rfl) (Nat.le_of_ble_eq_true rfl) ⟨by show _ ≤ 600000; omega, by show _ ≤ 7302250; omega⟩) hS (fun locs hS => ?_)
  refine x_icmp_eq X 855 d_L_law_529 rfl (fun _ => ?_) (fun h => absurd rfl h)
  exact kk q H _ hq hG.up hI hS
set_option maxRecDepth 100000 in
set_option maxHeartbeats 4000000 in
theorem lw_c_measure {p : Program} {l : Launch} {e : Env} {s : State} {m : MethodId} {below : List Frame} {meth : Method} {c : Code} {b L : Nat} {xs : Nat → Int32} {D : va_G} {A : Nat → ClassId} {S : Nat → Prop} {b0 u ks bv ar : Nat} {a : Nat → Nat} (X : xx p s m #[.ref b] meth c code 4 R_law ret D A s.heap) (hX : va_X b L xs s s.heap) (hbl : b < s.heap.size) (hL : L ≤ 2560) (F : lw_F S b0 u ks bv ar a s.heap.size) (q : ft_Q) (w i : Nat) (hq : sp_ok2 q) (hw : w < 100000) (hi : i + 5 ≤ L) (H : Heap) (locs : List Loc) (ls : Array Slot) (hG : cG D A S b0 u ks bv ar q w H) (hI : mI D a A q H) (hl : lz ls 4 [some (.ref b), some (.ref b0), some (.ref (a 0)), some (.int (nI i))]) (hS : va_S (fun x => s.heap.size ≤ x) s.heap H locs) (kk : ∀ (q1 : ft_Q) (H1 : Heap) (locs1 : List Loc), sp_ok2 q1 → cG D A S b0 u ks bv ar q1 (w + 1) H1 → mI D a A q1 H1 → va_S (fun x => s.heap.size ≤ x) s.heap H1 locs1 → W p l e room_1 s m #[.ref b] below meth c H1 locs1 (lw_ce q1) (lw_sl q1) (lw_Z below #[.ref b] s) (F0 m 855 ls [])) : W p l e room_1 s m #[.ref b] below meth c H locs (lw_ce q) (lw_sl q) (lw_Z below #[.ref b] s) (F0 m 534 ls []) := by
  have hL31 : L < 2 ^ 31 := by omega
  obtain ⟨hd, hm, hma, hdis, hz⟩ := id F
  obtain ⟨fo, hO⟩ := hG.obj
  have hl1 := hq.1.1
  have hl2 := hq.1.2.1
  have z0 := hS.1
  have hce : lw_ce q = 17 + 5000 * (q.1.length - 1) := rfl
  have hsl : lw_sl q = 19000 + 50000 * (q.1.length - 1) := rfl
  refine x_aload_n X d_L_law_534 rfl hl rfl ?_
  refine x_aload_n X d_L_law_535 rfl hl rfl ?_
  refine x_iload_n X d_L_law_536 rfl hl rfl ?_
  refine x_iconst (v := nI 1) X d_L_law_537 rfl ?_
  refine n_iadd X d_L_law_538 ?_
  refine x_sld X hX hbl hS (by omega) hL31 d_L_law_539 ?_
  refine x_aload_n X d_L_law_540 rfl hl rfl ?_
  refine x_iload_n X d_L_law_541 rfl hl rfl ?_
  refine x_iconst (v := nI 2) X d_L_law_542 rfl ?_
  refine n_iadd X d_L_law_543 ?_
  refine x_sld X hX hbl hS (by omega) hL31 d_L_law_544 ?_
  obtain ⟨fm, hM⟩ := hI.obj
  obtain ⟨hSS, hSb, rh, nn, em, lt, vs, mv, hR, hF⟩ := id hG
  refine x_goR (x_runV X (A_F_measure l D A _ S b0 u ks bv ar rh q hq w nn em lt vs mv hF (xs (i + 1)) (xs (i + 2))) b_F_measure s_F_measure v_F_measure e_L_65 hO rfl rfl hl rfl (Nat.le_of_ble_eq_true rfl) d_L_law_545 (Nat.le_of_ble_eq_true rfl) (Nat.le_of_ble_eq_true rfl) ⟨by show _ ≤ 600000; omega, by show _ ≤ 7302250; omega⟩) hS (fun locs hS => ?_)
  refine x_aload_n X d_L_law_548 rfl hl rfl ?_
  refine x_aload_n X d_L_law_549 rfl hl rfl ?_
  refine x_iload_n X d_L_law_550 rfl hl rfl ?_
  refine x_iconst (v := nI 1) X d_L_law_551 rfl ?_
  refine n_iadd X d_L_law_552 ?_
  refine x_sld X hX hbl hS (by omega) hL31 d_L_law_553 ?_
  refine x_aload_n X d_L_law_554 rfl hl rfl ?_
  refine x_iload_n X d_L_law_555 rfl hl rfl ?_
  refine x_iconst (v := nI 2) X d_L_law_556 rfl ?_
  refine n_iadd X d_L_law_557 ?_
  refine x_sld X hX hbl hS (by omega) hL31 d_L_law_558 ?_
  refine x_goR (x_runV X (A_M_measure l D A _ a q hq hI (xs (i + 1)) (xs (i + 2))) b_M_measure s_M_measure v_M_measure e_L_69 hM rfl rfl hl rfl (Nat.le_of_ble_eq_true rfl) d_L_law_559 (Nat.le_of_ble_eq_true rfl) (Nat.le_of_ble_eq_true rfl) ⟨by show _ ≤ 600000; omega, by show _ ≤ 7302250; omega⟩) hS (fun locs hS => ?_)
  refine x_lcmp X d_L_law_562 ?_
  rw [lg_cmp_self]
  refine x_if_eq X 855 d_L_law_563 rfl (fun _ => ?_) (fun h => absurd rfl h)
  exact kk q H _ hq hG.up hI hS
set_option maxRecDepth 100000 in
set_option maxHeartbeats 4000000 in
theorem lw_c_search {p : Program} {l : Launch} {e : Env} {s : State} {m : MethodId} {below : List Frame} {meth : Method} {c : Code} {b L : Nat} {xs : Nat → Int32} {D : va_G} {A : Nat → ClassId} {S : Nat → Prop} {b0 u ks bv ar : Nat} {a : Nat → Nat} (X : xx p s m #[.ref b] meth c code 4 R_law ret D A s.heap) (hX : va_X b L xs s s.heap) (hbl : b < s.heap.size) (hL : L ≤ 2560) (F : lw_F S b0 u ks bv ar a s.heap.size) (q : ft_Q) (w i : Nat) (hq : sp_ok2 q) (hw : w < 100000) (hi : i + 5 ≤ L) (H : Heap) (locs : List Loc) (ls : Array Slot) (hG : cG D A S b0 u ks bv ar q w H) (hI : mI D a A q H) (hl : lz ls 4 [some (.ref b), some (.ref b0), some (.ref (a 0)), some (.int (nI i))]) (hS : va_S (fun x => s.heap.size ≤ x) s.heap H locs) (kk : ∀ (q1 : ft_Q) (H1 : Heap) (locs1 : List Loc), sp_ok2 q1 → cG D A S b0 u ks bv ar q1 (w + 1) H1 → mI D a A q1 H1 → va_S (fun x => s.heap.size ≤ x) s.heap H1 locs1 → W p l e room_1 s m #[.ref b] below meth c H1 locs1 (lw_ce q1) (lw_sl q1) (lw_Z below #[.ref b] s) (F0 m 855 ls [])) : W p l e room_1 s m #[.ref b] below meth c H locs (lw_ce q) (lw_sl q) (lw_Z below #[.ref b] s) (F0 m 568 ls []) := by
  have hL31 : L < 2 ^ 31 := by omega
  obtain ⟨hd, hm, hma, hdis, hz⟩ := id F
  obtain ⟨fo, hO⟩ := hG.obj
  have hl1 := hq.1.1
  have hl2 := hq.1.2.1
  have z0 := hS.1
  have hce : lw_ce q = 17 + 5000 * (q.1.length - 1) := rfl
  have hsl : lw_sl q = 19000 + 50000 * (q.1.length - 1) := rfl
  refine x_aload_n X d_L_law_568 rfl hl rfl ?_
  refine x_aload_n X d_L_law_569 rfl hl rfl ?_
  refine x_iload_n X d_L_law_570 rfl hl rfl ?_
  refine x_iconst (v := nI 1) X d_L_law_571 rfl ?_
  refine n_iadd X d_L_law_572 ?_
  refine x_sld X hX hbl hS (by omega) hL31 d_L_law_573 ?_
  refine x_aload_n X d_L_law_574 rfl hl rfl ?_
  refine x_iload_n X d_L_law_575 rfl hl rfl ?_
  refine x_iconst (v := nI 2) X d_L_law_576 rfl ?_
  refine n_iadd X d_L_law_577 ?_
  refine x_sld X hX hbl hS (by omega) hL31 d_L_law_578 ?_
  refine x_aload_n X d_L_law_579 rfl hl rfl ?_
  refine x_iload_n X d_L_law_580 rfl hl rfl ?_
  refine x_iconst (v := nI 3) X d_L_law_581 rfl ?_
  refine n_iadd X d_L_law_582 ?_
  refine x_sld X hX hbl hS (by omega) hL31 d_L_law_583 ?_
  refine x_i2l X d_L_law_584 rfl ?_
  refine x_bipush (v := nI 32) X d_L_law_585 rfl ?_
  refine x_lshl X d_L_law_587 rfl ?_
  refine x_aload_n X d_L_law_588 rfl hl rfl ?_
  refine x_iload_n X d_L_law_589 rfl hl rfl ?_
  refine x_iconst (v := nI 4) X d_L_law_590 rfl ?_
  refine n_iadd X d_L_law_591 ?_
  refine x_sld X hX hbl hS (by omega) hL31 d_L_law_592 ?_
  refine x_i2l X d_L_law_593 rfl ?_
  refine x_ldc2 X e_L_70 d_L_law_594 ?_
  refine x_land X d_L_law_597 ?_
  refine x_lor X d_L_law_598 ?_
  obtain ⟨fm, hM⟩ := hI.obj
  obtain ⟨hSS, hSb, rh, nn, em, lt, vs, mv, hR, hF⟩ := id hG
  refine x_goR (x_runV X (A_F_search l D A _ S b0 u ks bv ar rh q hq w nn em lt vs mv hF (xs (i + 1)) (xs (i + 2)) _) b_F_search s_F_search v_F_search e_L_72 hO rfl rfl hl rfl (Nat.le_of_ble_eq_true rfl) d_L_law_599 (Nat.le_of_ble_eq_true rfl) (Nat.le_of_ble_eq_true rfl) ⟨by show _ ≤ 600000; omega, by show _ ≤ 7302250; omega⟩) hS (fun locs hS => ?_)
  refine x_aload_n X d_L_law_602 rfl hl rfl ?_
  refine x_aload_n X d_L_law_603 rfl hl rfl ?_
  refine x_iload_n X d_L_law_604 rfl hl rfl ?_
  refine x_iconst (v := nI 1) X d_L_law_605 rfl ?_
  refine n_iadd X d_L_law_606 ?_
  refine x_sld X hX hbl hS (by omega) hL31 d_L_law_607 ?_
  refine x_aload_n X d_L_law_608 rfl hl rfl ?_
  refine x_iload_n X d_L_law_609 rfl hl rfl ?_
  refine x_iconst (v := nI 2) X d_L_law_610 rfl ?_
  refine n_iadd X d_L_law_611 ?_
  refine x_sld X hX hbl hS (by omega) hL31 d_L_law_612 ?_
  refine x_aload_n X d_L_law_613 rfl hl rfl ?_
  refine x_iload_n X d_L_law_614 rfl hl rfl ?_
  refine x_iconst (v := nI 3) X d_L_law_615 rfl ?_
  refine n_iadd X d_L_law_616 ?_
  refine x_sld X hX hbl hS (by omega) hL31 d_L_law_617 ?_
  refine x_i2l X d_L_law_618 rfl ?_
  refine x_bipush (v := nI 32) X d_L_law_619 rfl ?_
  refine x_lshl X d_L_law_621 rfl ?_
  refine x_aload_n X d_L_law_622 rfl hl rfl ?_
  refine x_iload_n X d_L_law_623 rfl hl rfl ?_
  refine x_iconst (v := nI 4) X d_L_law_624 rfl ?_
  refine n_iadd X d_L_law_625 ?_
  refine x_sld X hX hbl hS (by omega) hL31 d_L_law_626 ?_
  refine x_i2l X d_L_law_627 rfl ?_
  refine x_ldc2 X e_L_70 d_L_law_628 ?_
  refine x_land X d_L_law_631 ?_
  refine x_lor X d_L_law_632 ?_
  refine x_goR (x_runV X (A_M_search l D A _ a q hq hI (xs (i + 1)) (xs (i + 2)) _) b_M_search s_M_search v_M_search e_L_76 hM rfl rfl hl rfl (Nat.le_of_ble_eq_true rfl) d_L_law_633 (Nat.le_of_ble_eq_true rfl) (Nat.le_of_ble_eq_true rfl) ⟨by show _ ≤ 600000; omega, by show _ ≤ 7302250; omega⟩) hS (fun locs hS => ?_)
  refine x_icmp_eq X 855 d_L_law_636 rfl (fun _ => ?_) (fun h => absurd rfl h)
  exact kk q H _ hq hG.up hI hS
set_option maxRecDepth 100000 in
set_option maxHeartbeats 4000000 in
theorem lw_c_meeting {p : Program} {l : Launch} {e : Env} {s : State} {m : MethodId} {below : List Frame} {meth : Method} {c : Code} {b L : Nat} {xs : Nat → Int32} {D : va_G} {A : Nat → ClassId} {S : Nat → Prop} {b0 u ks bv ar : Nat} {a : Nat → Nat} (X : xx p s m #[.ref b] meth c code 4 R_law ret D A s.heap) (hX : va_X b L xs s s.heap) (hbl : b < s.heap.size) (hL : L ≤ 2560) (F : lw_F S b0 u ks bv ar a s.heap.size) (q : ft_Q) (w i : Nat) (hq : sp_ok2 q) (hw : w < 100000) (hi : i + 5 ≤ L) (H : Heap) (locs : List Loc) (ls : Array Slot) (hG : cG D A S b0 u ks bv ar q w H) (hI : mI D a A q H) (hl : lz ls 4 [some (.ref b), some (.ref b0), some (.ref (a 0)), some (.int (nI i))]) (hS : va_S (fun x => s.heap.size ≤ x) s.heap H locs) (kk : ∀ (q1 : ft_Q) (H1 : Heap) (locs1 : List Loc), sp_ok2 q1 → cG D A S b0 u ks bv ar q1 (w + 1) H1 → mI D a A q1 H1 → va_S (fun x => s.heap.size ≤ x) s.heap H1 locs1 → W p l e room_1 s m #[.ref b] below meth c H1 locs1 (lw_ce q1) (lw_sl q1) (lw_Z below #[.ref b] s) (F0 m 855 ls [])) : W p l e room_1 s m #[.ref b] below meth c H locs (lw_ce q) (lw_sl q) (lw_Z below #[.ref b] s) (F0 m 641 ls []) := by
  have hL31 : L < 2 ^ 31 := by omega
  obtain ⟨hd, hm, hma, hdis, hz⟩ := id F
  obtain ⟨fo, hO⟩ := hG.obj
  have hl1 := hq.1.1
  have hl2 := hq.1.2.1
  have z0 := hS.1
  have hce : lw_ce q = 17 + 5000 * (q.1.length - 1) := rfl
  have hsl : lw_sl q = 19000 + 50000 * (q.1.length - 1) := rfl
  refine x_aload_n X d_L_law_641 rfl hl rfl ?_
  refine x_aload_n X d_L_law_642 rfl hl rfl ?_
  refine x_iload_n X d_L_law_643 rfl hl rfl ?_
  refine x_iconst (v := nI 1) X d_L_law_644 rfl ?_
  refine n_iadd X d_L_law_645 ?_
  refine x_sld X hX hbl hS (by omega) hL31 d_L_law_646 ?_
  refine x_aload_n X d_L_law_647 rfl hl rfl ?_
  refine x_iload_n X d_L_law_648 rfl hl rfl ?_
  refine x_iconst (v := nI 2) X d_L_law_649 rfl ?_
  refine n_iadd X d_L_law_650 ?_
  refine x_sld X hX hbl hS (by omega) hL31 d_L_law_651 ?_
  refine x_aload_n X d_L_law_652 rfl hl rfl ?_
  refine x_iload_n X d_L_law_653 rfl hl rfl ?_
  refine x_iconst (v := nI 3) X d_L_law_654 rfl ?_
  refine n_iadd X d_L_law_655 ?_
  refine x_sld X hX hbl hS (by omega) hL31 d_L_law_656 ?_
  refine x_aload_n X d_L_law_657 rfl hl rfl ?_
  refine x_iload_n X d_L_law_658 rfl hl rfl ?_
  refine x_iconst (v := nI 4) X d_L_law_659 rfl ?_
  refine n_iadd X d_L_law_660 ?_
  refine x_sld X hX hbl hS (by omega) hL31 d_L_law_661 ?_
  obtain ⟨fm, hM⟩ := hI.obj
  obtain ⟨hSS, hSb, rh, nn, em, lt, vs, mv, hR, hF⟩ := id hG
  refine x_goR (x_runV X (A_F_meeting l D A _ S b0 u ks bv ar rh q hq w nn em lt vs mv hF (xs (i + 1)) (xs (i + 2)) (xs (i + 3)) (xs (i + 4))) b_F_meeting s_F_meeting v_F_meeting e_L_77 hO rfl rfl hl rfl (Nat.le_of_ble_eq_true rfl) d_L_law_662 (Nat.le_of_ble_eq_true rfl) (Nat.le_of_ble_eq_true rfl) ⟨by show _ ≤ 600000; omega, by show _ ≤ 7302250; omega⟩) hS (fun locs hS => ?_)
  refine x_aload_n X d_L_law_665 rfl hl rfl ?_
  refine x_aload_n X d_L_law_666 rfl hl rfl ?_
  refine x_iload_n X d_L_law_667 rfl hl rfl ?_
  refine x_iconst (v := nI 1) X d_L_law_668 rfl ?_
  refine n_iadd X d_L_law_669 ?_
  refine x_sld X hX hbl hS (by omega) hL31 d_L_law_670 ?_
  refine x_aload_n X d_L_law_671 rfl hl rfl ?_
  refine x_iload_n X d_L_law_672 rfl hl rfl ?_
  refine x_iconst (v := nI 2) X d_L_law_673 rfl ?_
  refine n_iadd X d_L_law_674 ?_
  refine x_sld X hX hbl hS (by omega) hL31 d_L_law_675 ?_
  refine x_aload_n X d_L_law_676 rfl hl rfl ?_
  refine x_iload_n X d_L_law_677 rfl hl rfl ?_
  refine x_iconst (v := nI 3) X d_L_law_678 rfl ?_
  refine n_iadd X d_L_law_679 ?_
  refine x_sld X hX hbl hS (by omega) hL31 d_L_law_680 ?_
  refine x_aload_n X d_L_law_681 rfl hl rfl ?_
  refine x_iload_n X d_L_law_682 rfl hl rfl ?_
  refine x_iconst (v := nI 4) X d_L_law_683 rfl ?_
  refine n_iadd X d_L_law_684 ?_
  refine x_sld X hX hbl hS (by omega) hL31 d_L_law_685 ?_
  refine x_goR (x_runV X (A_M_meeting l D A _ a q hq hI (xs (i + 1)) (xs (i + 2)) (xs (i + 3)) (xs (i + 4))) b_M_meeting s_M_meeting v_M_meeting e_L_80 hM rfl rfl hl rfl (Nat.le_of_ble_eq_true rfl) d_L_law_686 (Nat.le_of_ble_eq_true rfl) (Nat.le_of_ble_eq_true rfl) ⟨by show _ ≤ 600000; omega, by show _ ≤ 7302250; omega⟩) hS (fun locs hS => ?_)
  refine x_icmp_eq X 855 d_L_law_689 rfl (fun _ => ?_) (fun h => absurd rfl h)
  exact kk q H _ hq hG.up hI hS
set_option maxRecDepth 100000 in
set_option maxHeartbeats 4000000 in
theorem lw_c_spine {p : Program} {l : Launch} {e : Env} {s : State} {m : MethodId} {below : List Frame} {meth : Method} {c : Code} {b L : Nat} {xs : Nat → Int32} {D : va_G} {A : Nat → ClassId} {S : Nat → Prop} {b0 u ks bv ar : Nat} {a : Nat → Nat} (X : xx p s m #[.ref b] meth c code 4 R_law ret D A s.heap) (hX : va_X b L xs s s.heap) (hbl : b < s.heap.size) (hL : L ≤ 2560) (F : lw_F S b0 u ks bv ar a s.heap.size) (q : ft_Q) (w i : Nat) (hq : sp_ok2 q) (hw : w < 100000) (hi : i + 5 ≤ L) (H : Heap) (locs : List Loc) (ls : Array Slot) (hG : cG D A S b0 u ks bv ar q w H) (hI : mI D a A q H) (hl : lz ls 4 [some (.ref b), some (.ref b0), some (.ref (a 0)), some (.int (nI i))]) (hS : va_S (fun x => s.heap.size ≤ x) s.heap H locs) (kk : ∀ (q1 : ft_Q) (H1 : Heap) (locs1 : List Loc), sp_ok2 q1 → cG D A S b0 u ks bv ar q1 (w + 1) H1 → mI D a A q1 H1 → va_S (fun x => s.heap.size ≤ x) s.heap H1 locs1 → W p l e room_1 s m #[.ref b] below meth c H1 locs1 (lw_ce q1) (lw_sl q1) (lw_Z below #[.ref b] s) (F0 m 855 ls [])) : W p l e room_1 s m #[.ref b] below meth c H locs (lw_ce q) (lw_sl q) (lw_Z below #[.ref b] s) (F0 m 694 ls []) := by
  have hL31 : L < 2 ^ 31 := by omega
  obtain ⟨hd, hm, hma, hdis, hz⟩ := id F
  obtain ⟨fo, hO⟩ := hG.obj
  have hl1 := hq.1.1
  have hl2 := hq.1.2.1
  have z0 := hS.1
  have hce : lw_ce q = 17 + 5000 * (q.1.length - 1) := rfl
  have hsl : lw_sl q = 19000 + 50000 * (q.1.length - 1) := rfl
  refine x_aload_n X d_L_law_694 rfl hl rfl ?_
  refine x_aload_n X d_L_law_695 rfl hl rfl ?_
  refine x_iload_n X d_L_law_696 rfl hl rfl ?_
  refine x_iconst (v := nI 1) X d_L_law_697 rfl ?_
  refine n_iadd X d_L_law_698 ?_
  refine x_sld X hX hbl hS (by omega) hL31 d_L_law_699 ?_
  obtain ⟨fm, hM⟩ := hI.obj
  obtain ⟨hSS, hSb, rh, nn, em, lt, vs, mv, hR, hF⟩ := id hG
  refine x_goR (x_runV X (A_F_spine l D A _ S b0 u ks bv ar rh q hq w nn em lt vs mv hF (xs (i + 1))) b_F_spine s_F_spine v_F_spine e_L_81 hO rfl rfl hl rfl (Nat.le_of_ble_eq_true rfl) d_L_law_700 (Nat.le_of_ble_eq_true rfl) (Nat.le_of_ble_eq_true rfl) ⟨by show _ ≤ 600000; omega, by show _ ≤ 7302250; omega⟩) hS (fun locs hS => ?_)
  refine x_aload_n X d_L_law_703 rfl hl rfl ?_
  refine x_aload_n X d_L_law_704 rfl hl rfl ?_
  refine x_iload_n X d_L_law_705 rfl hl rfl ?_
  refine x_iconst (v := nI 1) X d_L_law_706 rfl ?_
  refine n_iadd X d_L_law_707 ?_
  refine x_sld X hX hbl hS (by omega) hL31 d_L_law_708 ?_
  refine x_goR (x_runV X (A_M_spine l D A _ a hm q hq hI (xs (i + 1))) b_M_spine s_M_spine v_M_spine e_L_84 hM rfl rfl hl rfl (Nat.le_of_ble_eq_true rfl) d_L_law_709 (Nat.le_of_ble_eq_true rfl) (Nat.le_of_ble_eq_true rfl) ⟨by show _ ≤ 600000; omega, by show _ ≤ 7302250; omega⟩) hS (fun locs hS => ?_)
  refine x_icmp_eq X 855 d_L_law_712 rfl (fun _ => ?_) (fun h => absurd rfl h)
  exact kk q H _ hq hG.up hI hS
set_option maxRecDepth 100000 in
set_option maxHeartbeats 4000000 in
theorem lw_c_digit {p : Program} {l : Launch} {e : Env} {s : State} {m : MethodId} {below : List Frame} {meth : Method} {c : Code} {b L : Nat} {xs : Nat → Int32} {D : va_G} {A : Nat → ClassId} {S : Nat → Prop} {b0 u ks bv ar : Nat} {a : Nat → Nat} (X : xx p s m #[.ref b] meth c code 4 R_law ret D A s.heap) (hX : va_X b L xs s s.heap) (hbl : b < s.heap.size) (hL : L ≤ 2560) (F : lw_F S b0 u ks bv ar a s.heap.size) (q : ft_Q) (w i : Nat) (hq : sp_ok2 q) (hw : w < 100000) (hi : i + 5 ≤ L) (H : Heap) (locs : List Loc) (ls : Array Slot) (hG : cG D A S b0 u ks bv ar q w H) (hI : mI D a A q H) (hl : lz ls 4 [some (.ref b), some (.ref b0), some (.ref (a 0)), some (.int (nI i))]) (hS : va_S (fun x => s.heap.size ≤ x) s.heap H locs) (kk : ∀ (q1 : ft_Q) (H1 : Heap) (locs1 : List Loc), sp_ok2 q1 → cG D A S b0 u ks bv ar q1 (w + 1) H1 → mI D a A q1 H1 → va_S (fun x => s.heap.size ≤ x) s.heap H1 locs1 → W p l e room_1 s m #[.ref b] below meth c H1 locs1 (lw_ce q1) (lw_sl q1) (lw_Z below #[.ref b] s) (F0 m 855 ls [])) : W p l e room_1 s m #[.ref b] below meth c H locs (lw_ce q) (lw_sl q) (lw_Z below #[.ref b] s) (F0 m 717 ls []) := by
  by_cases hr0 : xs (i + 3) = 0
  · skip
    have hL31 : L < 2 ^ 31 := by omega
    obtain ⟨hd, hm, hma, hdis, hz⟩ := id F
    obtain ⟨fo, hO⟩ := hG.obj
    have hl1 := hq.1.1
    have hl2 := hq.1.2.1
    have z0 := hS.1
    have hce : lw_ce q = 17 + 5000 * (q.1.length - 1) := rfl
    have hsl : lw_sl q = 19000 + 50000 * (q.1.length - 1) := rfl
    refine x_aload_n X d_L_law_717 rfl hl rfl ?_
    refine x_aload_n X d_L_law_718 rfl hl rfl ?_
    refine x_iload_n X d_L_law_719 rfl hl rfl ?_
    refine x_iconst (v := nI 1) X d_L_law_720 rfl ?_
    refine n_iadd X d_L_law_721 ?_
    refine x_sld X hX hbl hS (by omega) hL31 d_L_law_722 ?_
    refine x_aload_n X d_L_law_723 rfl hl rfl ?_
    refine x_iload_n X d_L_law_724 rfl hl rfl ?_
    refine x_iconst (v := nI 2) X d_L_law_725 rfl ?_
    refine n_iadd X d_L_law_726 ?_
    refine x_sld X hX hbl hS (by omega) hL31 d_L_law_727 ?_
    refine x_aload_n X d_L_law_728 rfl hl rfl ?_
    refine x_iload_n X d_L_law_729 rfl hl rfl ?_
    refine x_iconst (v := nI 3) X d_L_law_730 rfl ?_
    refine n_iadd X d_L_law_731 ?_
    refine x_sld X hX hbl hS (by omega) hL31 d_L_law_732 ?_
    refine x_if_eq X 740 d_L_law_733 rfl (fun _ => ?_) (fun h => absurd hr0 h)
    refine x_iconst (v := nI 0) X d_L_law_740 rfl ?_
    obtain ⟨fm, hM⟩ := hI.obj
    obtain ⟨hSS, hSb, rh, nn, em, lt, vs, mv, hR, hF⟩ := id hG
    refine x_goR (x_runV X (A_F_digit l D A _ S b0 u ks bv ar rh q hq w nn em lt vs mv hF (xs (i + 1)) (xs (i + 2)) 0 (by decide)) b_F_digit s_F_digit v_F_digit e_L_85 hO rfl rfl hl rfl (Nat.le_of_ble_eq_true rfl) d_L_law_741 (Nat.le_of_ble_eq_true rfl) (Nat.le_of_ble_eq_true rfl) ⟨by show _ ≤ 600000; omega, by show _ ≤ 7302250; omega⟩) hS (fun locs hS => ?_)
    refine x_aload_n X d_L_law_744 rfl hl rfl ?_
    refine x_aload_n X d_L_law_745 rfl hl rfl ?_
    refine x_iload_n X d_L_law_746 rfl hl rfl ?_
    refine x_iconst (v := nI 1) X d_L_law_747 rfl ?_
    refine n_iadd X d_L_law_748 ?_
    refine x_sld X hX hbl hS (by omega) hL31 d_L_law_749 ?_
    refine x_aload_n X d_L_law_750 rfl hl rfl ?_
    refine x_iload_n X d_L_law_751 rfl hl rfl ?_
    refine x_iconst (v := nI 2) X d_L_law_752 rfl ?_
    refine n_iadd X d_L_law_753 ?_
    refine x_sld X hX hbl hS (by omega) hL31 d_L_law_754 ?_
    refine x_aload_n X d_L_law_755 rfl hl rfl ?_
    refine x_iload_n X d_L_law_756 rfl hl rfl ?_
    refine x_iconst (v := nI 3) X d_L_law_757 rfl ?_
    refine n_iadd X d_L_law_758 ?_
    refine x_sld X hX hbl hS (by omega) hL31 d_L_law_759 ?_
    refine x_if_eq X 767 d_L_law_760 rfl (fun _ => ?_) (fun h => absurd hr0 h)
    refine x_iconst (v := nI 0) X d_L_law_767 rfl ?_
    refine x_go1 (x_runV X (A_M_digit l D A _ a hm q hq hI (xs (i + 1)) (xs (i + 2)) 0 (by decide)) b_M_digit s_M_digit v_M_digit e_L_89 hM rfl rfl hl rfl (Nat.le_of_ble_eq_true rfl) d_L_law_768 (Nat.le_of_ble_eq_true rfl) (Nat.le_of_ble_eq_true rfl) ⟨by show _ ≤ 600000; omega, by show _ ≤ 7302250; omega⟩) hS (fun x h => hz x (hma x h)) (fun H2 locs hI2 hF2 hS => ?_)
    have hG2 := hG.kp F hF2
    refine x_icmp_eq X 855 d_L_law_771 rfl (fun _ => ?_) (fun h => absurd rfl h)
    exact kk q H2 _ hq hG2.up hI2 hS
  · skip
    have hL31 : L < 2 ^ 31 := by omega
    obtain ⟨hd, hm, hma, hdis, hz⟩ := id F
    obtain ⟨fo, hO⟩ := hG.obj
    have hl1 := hq.1.1
    have hl2 := hq.1.2.1
    have z0 := hS.1
    have hce : lw_ce q = 17 + 5000 * (q.1.length - 1) := rfl
    have hsl : lw_sl q = 19000 + 50000 * (q.1.length - 1) := rfl
    refine x_aload_n X d_L_law_717 rfl hl rfl ?_
    refine x_aload_n X d_L_law_718 rfl hl rfl ?_
    refine x_iload_n X d_L_law_719 rfl hl rfl ?_
    refine x_iconst (v := nI 1) X d_L_law_720 rfl ?_
    refine n_iadd X d_L_law_721 ?_
    refine x_sld X hX hbl hS (by omega) hL31 d_L_law_722 ?_
    refine x_aload_n X d_L_law_723 rfl hl rfl ?_
    refine x_iload_n X d_L_law_724 rfl hl rfl ?_
    refine x_iconst (v := nI 2) X d_L_law_725 rfl ?_
    refine n_iadd X d_L_law_726 ?_
    refine x_sld X hX hbl hS (by omega) hL31 d_L_law_727 ?_
    refine x_aload_n X d_L_law_728 rfl hl rfl ?_
    refine x_iload_n X d_L_law_729 rfl hl rfl ?_
    refine x_iconst (v := nI 3) X d_L_law_730 rfl ?_
    refine n_iadd X d_L_law_731 ?_
    refine x_sld X hX hbl hS (by omega) hL31 d_L_law_732 ?_
    refine x_if_eq X 740 d_L_law_733 rfl (fun h => absurd h hr0) (fun _ => ?_)
    refine x_iconst (v := nI 1) X d_L_law_736 rfl ?_
    refine x_goto X 741 d_L_law_737 rfl ?_
    obtain ⟨fm, hM⟩ := hI.obj
    obtain ⟨hSS, hSb, rh, nn, em, lt, vs, mv, hR, hF⟩ := id hG
    refine x_goR (x_runV X (A_F_digit l D A _ S b0 u ks bv ar rh q hq w nn em lt vs mv hF (xs (i + 1)) (xs (i + 2)) 1 (by decide)) b_F_digit s_F_digit v_F_digit e_L_85 hO rfl rfl hl rfl (Nat.le_of_ble_eq_true rfl) d_L_law_741 (Nat.le_of_ble_eq_true rfl) (Nat.le_of_ble_eq_true rfl) ⟨by show _ ≤ 600000; omega, by show _ ≤ 7302250; omega⟩) hS (fun locs hS => ?_)
    refine x_aload_n X d_L_law_744 rfl hl rfl ?_
    refine x_aload_n X d_L_law_745 rfl hl rfl ?_
    refine x_iload_n X d_L_law_746 rfl hl rfl ?_
    refine x_iconst (v := nI 1) X d_L_law_747 rfl ?_
    refine n_iadd X d_L_law_748 ?_
    refine x_sld X hX hbl hS (by omega) hL31 d_L_law_749 ?_
    refine x_aload_n X d_L_law_750 rfl hl rfl ?_
    refine x_iload_n X d_L_law_751 rfl hl rfl ?_
    refine x_iconst (v := nI 2) X d_L_law_752 rfl ?_
    refine n_iadd X d_L_law_753 ?_
    refine x_sld X hX hbl hS (by omega) hL31 d_L_law_754 ?_
    refine x_aload_n X d_L_law_755 rfl hl rfl ?_
    refine x_iload_n X d_L_law_756 rfl hl rfl ?_
    refine x_iconst (v := nI 3) X d_L_law_757 rfl ?_
    refine n_iadd X d_L_law_758 ?_
    refine x_sld X hX hbl hS (by omega) hL31 d_L_law_759 ?_
    refine x_if_eq X 767 d_L_law_760 rfl (fun h => absurd h hr0) (fun _ => ?_)
    refine x_iconst (v := nI 1) X d_L_law_763 rfl ?_
    refine x_goto X 768 d_L_law_764 rfl ?_
    refine x_go1 (x_runV X (A_M_digit l D A _ a hm q hq hI (xs (i + 1)) (xs (i + 2)) 1 (by decide)) b_M_digit s_M_digit v_M_digit e_L_89 hM rfl rfl hl rfl (Nat.le_of_ble_eq_true rfl) d_L_law_768 (Nat.le_of_ble_eq_true rfl) (Nat.le_of_ble_eq_true rfl) ⟨by show _ ≤ 600000; omega, by show _ ≤ 7302250; omega⟩) hS (fun x h => hz x (hma x h)) (fun H2 locs hI2 hF2 hS => ?_)
    have hG2 := hG.kp F hF2
    refine x_icmp_eq X 855 d_L_law_771 rfl (fun _ => ?_) (fun h => absurd rfl h)
    exact kk q H2 _ hq hG2.up hI2 hS
set_option maxRecDepth 100000 in
set_option maxHeartbeats 4000000 in
theorem lw_c_rank {p : Program} {l : Launch} {e : Env} {s : State} {m : MethodId} {below : List Frame} {meth : Method} {c : Code} {b L : Nat} {xs : Nat → Int32} {D : va_G} {A : Nat → ClassId} {S : Nat → Prop} {b0 u ks bv ar : Nat} {a : Nat → Nat} (X : xx p s m #[.ref b] meth c code 4 R_law ret D A s.heap) (hX : va_X b L xs s s.heap) (hbl : b < s.heap.size) (hL : L ≤ 2560) (F : lw_F S b0 u ks bv ar a s.heap.size) (q : ft_Q) (w i : Nat) (hq : sp_ok2 q) (hw : w < 100000) (hi : i + 5 ≤ L) (H : Heap) (locs : List Loc) (ls : Array Slot) (hG : cG D A S b0 u ks bv ar q w H) (hI : mI D a A q H) (hl : lz ls 4 [some (.ref b), some (.ref b0), some (.ref (a 0)), some (.int (nI i))]) (hS : va_S (fun x => s.heap.size ≤ x) s.heap H locs) (kk : ∀ (q1 : ft_Q) (H1 : Heap) (locs1 : List Loc), sp_ok2 q1 → cG D A S b0 u ks bv ar q1 (w + 1) H1 → mI D a A q1 H1 → va_S (fun x => s.heap.size ≤ x) s.heap H1 locs1 → W p l e room_1 s m #[.ref b] below meth c H1 locs1 (lw_ce q1) (lw_sl q1) (lw_Z below #[.ref b] s) (F0 m 855 ls [])) : W p l e room_1 s m #[.ref b] below meth c H locs (lw_ce q) (lw_sl q) (lw_Z below #[.ref b] s) (F0 m 776 ls []) := by
  have hL31 : L < 2 ^ 31 := by omega
  obtain ⟨hd, hm, hma, hdis, hz⟩ := id F
  obtain ⟨fo, hO⟩ := hG.obj
  have hl1 := hq.1.1
  have hl2 := hq.1.2.1
  have z0 := hS.1
  have hce : lw_ce q = 17 + 5000 * (q.1.length - 1) := rfl
  have hsl : lw_sl q = 19000 + 50000 * (q.1.length - 1) := rfl
  refine x_aload_n X d_L_law_776 rfl hl rfl ?_
  refine x_aload_n X d_L_law_777 rfl hl rfl ?_
  refine x_iload_n X d_L_law_778 rfl hl rfl ?_
  refine x_iconst (v := nI 1) X d_L_law_779 rfl ?_
  refine n_iadd X d_L_law_780 ?_
  refine x_sld X hX hbl hS (by omega) hL31 d_L_law_781 ?_
  refine x_aload_n X d_L_law_782 rfl hl rfl ?_
  refine x_iload_n X d_L_law_783 rfl hl rfl ?_
  refine x_iconst (v := nI 2) X d_L_law_784 rfl ?_
  refine n_iadd X d_L_law_785 ?_
  refine x_sld X hX hbl hS (by omega) hL31 d_L_law_786 ?_
  obtain ⟨fm, hM⟩ := hI.obj
  obtain ⟨hSS, hSb, rh, nn, em, lt, vs, mv, hR, hF⟩ := id hG
  refine x_goR (x_runV X (A_F_rank l D A _ S b0 u ks bv ar rh q hq w nn em lt vs mv hF (xs (i + 1)) (xs (i + 2))) b_F_rank s_F_rank v_F_rank e_L_90 hO rfl rfl hl rfl (Nat.le_of_ble_eq_true rfl) d_L_law_787 (Nat.le_of_ble_eq_true rfl) (Nat.le_of_ble_eq_true rfl) ⟨by show _ ≤ 600000; omega, by show _ ≤ 7302250; omega⟩) hS (fun locs hS => ?_)
  refine x_aload_n X d_L_law_790 rfl hl rfl ?_
  refine x_aload_n X d_L_law_791 rfl hl rfl ?_
  refine x_iload_n X d_L_law_792 rfl hl rfl ?_
  refine x_iconst (v := nI 1) X d_L_law_793 rfl ?_
  refine n_iadd X d_L_law_794 ?_
  refine x_sld X hX hbl hS (by omega) hL31 d_L_law_795 ?_
  refine x_aload_n X d_L_law_796 rfl hl rfl ?_
  refine x_iload_n X d_L_law_797 rfl hl rfl ?_
  refine x_iconst (v := nI 2) X d_L_law_798 rfl ?_
  refine n_iadd X d_L_law_799 ?_
  refine x_sld X hX hbl hS (by omega) hL31 d_L_law_800 ?_
  refine x_goR (x_runV X (A_M_rank l D A _ a q hq hI (xs (i + 1)) (xs (i + 2))) b_M_rank s_M_rank v_M_rank e_L_93 hM rfl rfl hl rfl (Nat.le_of_ble_eq_true rfl) d_L_law_801 (Nat.le_of_ble_eq_true rfl) (Nat.le_of_ble_eq_true rfl) ⟨by show _ ≤ 600000; omega, by show _ ≤ 7302250; omega⟩) hS (fun locs hS => ?_)
  refine x_icmp_eq X 855 d_L_law_804 rfl (fun _ => ?_) (fun h => absurd rfl h)
  exact kk q H _ hq hG.up hI hS
set_option maxRecDepth 100000 in
set_option maxHeartbeats 4000000 in
theorem lw_c_shared {p : Program} {l : Launch} {e : Env} {s : State} {m : MethodId} {below : List Frame} {meth : Method} {c : Code} {b L : Nat} {xs : Nat → Int32} {D : va_G} {A : Nat → ClassId} {S : Nat → Prop} {b0 u ks bv ar : Nat} {a : Nat → Nat} (X : xx p s m #[.ref b] meth c code 4 R_law ret D A s.heap) (hX : va_X b L xs s s.heap) (hbl : b < s.heap.size) (hL : L ≤ 2560) (F : lw_F S b0 u ks bv ar a s.heap.size) (q : ft_Q) (w i : Nat) (hq : sp_ok2 q) (hw : w < 100000) (hi : i + 5 ≤ L) (H : Heap) (locs : List Loc) (ls : Array Slot) (hG : cG D A S b0 u ks bv ar q w H) (hI : mI D a A q H) (hl : lz ls 4 [some (.ref b), some (.ref b0), some (.ref (a 0)), some (.int (nI i))]) (hS : va_S (fun x => s.heap.size ≤ x) s.heap H locs) (kk : ∀ (q1 : ft_Q) (H1 : Heap) (locs1 : List Loc), sp_ok2 q1 → cG D A S b0 u ks bv ar q1 (w + 1) H1 → mI D a A q1 H1 → va_S (fun x => s.heap.size ≤ x) s.heap H1 locs1 → W p l e room_1 s m #[.ref b] below meth c H1 locs1 (lw_ce q1) (lw_sl q1) (lw_Z below #[.ref b] s) (F0 m 855 ls [])) : W p l e room_1 s m #[.ref b] below meth c H locs (lw_ce q) (lw_sl q) (lw_Z below #[.ref b] s) (F0 m 809 ls []) := by
  have hL31 : L < 2 ^ 31 := by omega
  obtain ⟨hd, hm, hma, hdis, hz⟩ := id F
  obtain ⟨fo, hO⟩ := hG.obj
  have hl1 := hq.1.1
  have hl2 := hq.1.2.1
  have z0 := hS.1
  have hce : lw_ce q = 17 + 5000 * (q.1.length - 1) := rfl
  have hsl : lw_sl q = 19000 + 50000 * (q.1.length - 1) := rfl
  refine x_aload_n X d_L_law_809 rfl hl rfl ?_
  refine x_aload_n X d_L_law_810 rfl hl rfl ?_
  refine x_iload_n X d_L_law_811 rfl hl rfl ?_
  refine x_iconst (v := nI 1) X d_L_law_812 rfl ?_
  refine n_iadd X d_L_law_813 ?_
  refine x_sld X hX hbl hS (by omega) hL31 d_L_law_814 ?_
  refine x_aload_n X d_L_law_815 rfl hl rfl ?_
  refine x_iload_n X d_L_law_816 rfl hl rfl ?_
  refine x_iconst (v := nI 2) X d_L_law_817 rfl ?_
  refine n_iadd X d_L_law_818 ?_
  refine x_sld X hX hbl hS (by omega) hL31 d_L_law_819 ?_
  obtain ⟨fm, hM⟩ := hI.obj
  refine x_go1 (x_runV X (A_F_shared l D A _ S b0 u ks bv ar hd q hq w hw hG (xs (i + 1)) (xs (i + 2))) b_F_shared s_F_shared v_F_shared e_L_94 hO rfl rfl hl rfl (Nat.le_of_ble_eq_true rfl) d_L_law_820 (Nat.le_of_ble_eq_true rfl) (Nat.le_of_ble_eq_true rfl) ⟨by show _ ≤ 600000; omega, by show _ ≤ 7302250; omega⟩) hS (fun x h => hz x (hG.1 x (h.elim (fun h => Or.inr (Or.inr (Or.inl h))) (fun h => Or.inr (Or.inr (Or.inr (Or.inr h))))))) (fun H1 locs hG1 hF1 hS => ?_)
  have hI1 := hI.ks F hF1
  obtain ⟨fm, hM⟩ := hI1.obj
  refine x_aload_n X d_L_law_823 rfl hl rfl ?_
  refine x_aload_n X d_L_law_824 rfl hl rfl ?_
  refine x_iload_n X d_L_law_825 rfl hl rfl ?_
  refine x_iconst (v := nI 1) X d_L_law_826 rfl ?_
  refine n_iadd X d_L_law_827 ?_
  refine x_sld X hX hbl hS (by omega) hL31 d_L_law_828 ?_
  refine x_aload_n X d_L_law_829 rfl hl rfl ?_
  refine x_iload_n X d_L_law_830 rfl hl rfl ?_
  refine x_iconst (v := nI 2) X d_L_law_831 rfl ?_
  refine n_iadd X d_L_law_832 ?_
  refine x_sld X hX hbl hS (by omega) hL31 d_L_law_833 ?_
  refine x_go1 (x_runV X (A_M_shared l D A _ a hm q hq hI1 (xs (i + 1)) (xs (i + 2))) b_M_shared s_M_shared v_M_shared e_L_97 hM rfl rfl hl rfl (Nat.le_of_ble_eq_true rfl) d_L_law_834 (Nat.le_of_ble_eq_true rfl) (Nat.le_of_ble_eq_true rfl) ⟨by show _ ≤ 600000; omega, by show _ ≤ 7302250; omega⟩) hS (fun x h => hz x (hma x h)) (fun H2 locs hI2 hF2 hS => ?_)
  have hG2 := hG1.kp F hF2
  refine x_icmp_eq X 855 d_L_law_837 rfl (fun _ => ?_) (fun h => absurd rfl h)
  exact kk q H2 _ hq hG2 hI2 hS
set_option maxRecDepth 100000 in
set_option maxHeartbeats 4000000 in
theorem lw_c_made {p : Program} {l : Launch} {e : Env} {s : State} {m : MethodId} {below : List Frame} {meth : Method} {c : Code} {b L : Nat} {xs : Nat → Int32} {D : va_G} {A : Nat → ClassId} {S : Nat → Prop} {b0 u ks bv ar : Nat} {a : Nat → Nat} (X : xx p s m #[.ref b] meth c code 4 R_law ret D A s.heap) (hX : va_X b L xs s s.heap) (hbl : b < s.heap.size) (hL : L ≤ 2560) (F : lw_F S b0 u ks bv ar a s.heap.size) (q : ft_Q) (w i : Nat) (hq : sp_ok2 q) (hw : w < 100000) (hi : i + 5 ≤ L) (H : Heap) (locs : List Loc) (ls : Array Slot) (hG : cG D A S b0 u ks bv ar q w H) (hI : mI D a A q H) (hl : lz ls 4 [some (.ref b), some (.ref b0), some (.ref (a 0)), some (.int (nI i))]) (hS : va_S (fun x => s.heap.size ≤ x) s.heap H locs) (kk : ∀ (q1 : ft_Q) (H1 : Heap) (locs1 : List Loc), sp_ok2 q1 → cG D A S b0 u ks bv ar q1 (w + 1) H1 → mI D a A q1 H1 → va_S (fun x => s.heap.size ≤ x) s.heap H1 locs1 → W p l e room_1 s m #[.ref b] below meth c H1 locs1 (lw_ce q1) (lw_sl q1) (lw_Z below #[.ref b] s) (F0 m 855 ls [])) : W p l e room_1 s m #[.ref b] below meth c H locs (lw_ce q) (lw_sl q) (lw_Z below #[.ref b] s) (F0 m 842 ls []) := by
  have hL31 : L < 2 ^ 31 := by omega
  obtain ⟨hd, hm, hma, hdis, hz⟩ := id F
  obtain ⟨fo, hO⟩ := hG.obj
  have hl1 := hq.1.1
  have hl2 := hq.1.2.1
  have z0 := hS.1
  have hce : lw_ce q = 17 + 5000 * (q.1.length - 1) := rfl
  have hsl : lw_sl q = 19000 + 50000 * (q.1.length - 1) := rfl
  refine x_aload_n X d_L_law_842 rfl hl rfl ?_
  obtain ⟨fm, hM⟩ := hI.obj
  obtain ⟨hSS, hSb, rh, nn, em, lt, vs, mv, hR, hF⟩ := id hG
  refine x_goR (x_runV X (A_F_made l D A _ S b0 u ks bv ar rh q hq w nn em lt vs mv hF ) b_F_made s_F_made v_F_made e_L_98 hO rfl rfl hl rfl (Nat.le_of_ble_eq_true rfl) d_L_law_843 (Nat.le_of_ble_eq_true rfl) (Nat.le_of_ble_eq_true rfl) ⟨by show _ ≤ 600000; omega, by show _ ≤ 7302250; omega⟩) hS (fun locs hS => ?_)
  refine x_aload_n X d_L_law_846 rfl hl rfl ?_
  refine x_goR (x_runV X (A_M_made l D A _ a q hq hI ) b_M_made s_M_made v_M_made e_L_102 hM rfl rfl hl rfl (Nat.le_of_ble_eq_true rfl) d_L_law_847 (Nat.le_of_ble_eq_true rfl) (Nat.le_of_ble_eq_true rfl) ⟨by show _ ≤ 600000; omega, by show _ ≤ 7302250; omega⟩) hS (fun locs hS => ?_)
  refine x_icmp_eq X 855 d_L_law_850 rfl (fun _ => ?_) (fun h => absurd rfl h)
  exact kk q H _ hq hG.up hI hS
