/-! Bits: the family wb_ is out of the kit's BITS.to-paste; what follows it is for the words of the reference. -/
theorem wb_tb (n : Nat) : (lN n).toBitVec = BitVec.ofNat 64 n := rfl
theorem wb_inj {a b : Int64} (h : a.toBitVec = b.toBitVec) : a = b := Int64.toBitVec_inj.mp h
theorem wb_tn {n : Nat} (h : n < 2 ^ 64) : (lN n).toBitVec.toNat = n := by rw [wb_tb, BitVec.toNat_ofNat, Nat.mod_eq_of_lt h]
theorem wb_of (x : Int64) : ∃ n, n < 2 ^ 64 ∧ x = lN n := ⟨x.toBitVec.toNat, x.toBitVec.isLt, wb_inj (by rw [wb_tb]; simp)⟩
theorem wb_of32 (x : Int32) : ∃ n, n < 2 ^ 32 ∧ x = nI n := ⟨x.toBitVec.toNat, x.toBitVec.isLt, Int32.toBitVec_inj.mp (by show _ = BitVec.ofNat 32 _; simp)⟩
theorem wb_c : ∀ k, k < 64 → ((nI k).toInt64 &&& 63) = lN k := by decide +kernel
theorem wb_cu : ∀ k, k < 64 → ((nI k).toInt64.toUInt64 &&& Int64.toUInt64 63) = UInt64.ofNat k := by decide +kernel
theorem wb_sm : ∀ k, k < 64 → (BitVec.ofNat 64 k).smod 64 = BitVec.ofNat 64 k := by decide +kernel
theorem wb_pw {a b : Nat} (h : a ≤ b) : 2 ^ b = 2 ^ a * 2 ^ (b - a) := by rw [← Nat.pow_add]; congr 1; omega
theorem wb_lt2 {a b : Nat} (h : a < b) : 2 ^ a < 2 ^ b := Nat.pow_lt_pow_right (by decide) h
theorem wb_mod (n : Nat) : lN n = lN (n % 2 ^ 64) := wb_inj (by rw [wb_tb, wb_tb]; apply BitVec.eq_of_toNat_eq; rw [BitVec.toNat_ofNat, BitVec.toNat_ofNat, Nat.mod_mod])
theorem wb_shr {n k : Nat} (hn : n < 2 ^ 64) (hk : k < 64) : ((lN n).toUInt64 >>> ((nI k).toInt64.toUInt64 &&& Int64.toUInt64 63)).toInt64 = lN (n / 2 ^ k) := by
  rw [wb_cu k hk]
  apply wb_inj
  apply BitVec.eq_of_toNat_eq
  show ((lN n).toUInt64 >>> UInt64.ofNat k).toNat = (BitVec.ofNat 64 _).toNat
  have h1 : (UInt64.ofNat k).toNat = k := by
    show (BitVec.ofNat 64 k).toNat = k
    rw [BitVec.toNat_ofNat, Nat.mod_eq_of_lt (by omega)]
  have h2 : (lN n).toUInt64.toNat = n := wb_tn hn
  rw [UInt64.toNat_shiftRight, h1, h2, Nat.mod_eq_of_lt hk, Nat.shiftRight_eq_div_pow, BitVec.toNat_ofNat, Nat.mod_eq_of_lt (Nat.lt_of_le_of_lt (Nat.div_le_self _ _) hn)]
theorem wb_shl (n : Nat) {k : Nat} (hk : k < 64) : lN n <<< ((nI k).toInt64 &&& 63) = lN (n * 2 ^ k) := by
  rw [wb_c k hk]
  apply wb_inj
  rw [Int64.toBitVec_shiftLeft, wb_tb, wb_tb, wb_tb, wb_sm k hk]
  apply BitVec.eq_of_toNat_eq
  rw [BitVec.shiftLeft_eq', BitVec.toNat_shiftLeft, BitVec.toNat_ofNat, BitVec.toNat_ofNat, BitVec.toNat_ofNat, Nat.mod_eq_of_lt (show k < 2 ^ 64 by omega), Nat.shiftLeft_eq, Nat.mul_mod, Nat.mod_mod, ← Nat.mul_mod]
theorem wb_and {a b : Nat} (ha : a < 2 ^ 64) (hb : b < 2 ^ 64) : lN a &&& lN b = lN (a &&& b) := by
  apply wb_inj
  rw [Int64.toBitVec_and, wb_tb, wb_tb, wb_tb]
  apply BitVec.eq_of_toNat_eq
  rw [BitVec.toNat_and, BitVec.toNat_ofNat, BitVec.toNat_ofNat, BitVec.toNat_ofNat, Nat.mod_eq_of_lt ha, Nat.mod_eq_of_lt hb, Nat.mod_eq_of_lt (Nat.and_lt_two_pow _ hb)]
theorem wb_or {a b : Nat} (ha : a < 2 ^ 64) (hb : b < 2 ^ 64) : lN a ||| lN b = lN (a ||| b) := by
  apply wb_inj
  rw [Int64.toBitVec_or, wb_tb, wb_tb, wb_tb]
  apply BitVec.eq_of_toNat_eq
  rw [BitVec.toNat_or, BitVec.toNat_ofNat, BitVec.toNat_ofNat, BitVec.toNat_ofNat, Nat.mod_eq_of_lt ha, Nat.mod_eq_of_lt hb, Nat.mod_eq_of_lt (Nat.or_lt_two_pow ha hb)]
theorem wb_mask {n k : Nat} (hn : n < 2 ^ 64) (hk : k < 64) : lN n &&& lN (2 ^ k - 1) = lN (n % 2 ^ k) := by
  rw [wb_and hn (by have := wb_lt2 hk; omega), Nat.and_two_pow_sub_one_eq_mod]
theorem wb_a1 {n : Nat} (hn : n < 2 ^ 64) : lN n &&& 1 = lN (n % 2) := wb_mask (k := 1) hn (by decide)
theorem wb_bit {n k : Nat} (hn : n < 2 ^ 64) (hk : k < 64) : ((lN n).toUInt64 >>> ((nI k).toInt64.toUInt64 &&& Int64.toUInt64 63)).toInt64 &&& 1 = lN (n / 2 ^ k % 2) := by
  rw [wb_shr hn hk, wb_a1 (Nat.lt_of_le_of_lt (Nat.div_le_self _ _) hn)]
theorem bt_tn (n : Nat) : (nI n).toBitVec.toNat = n % 2 ^ 32 := by
  show (Int32.ofNat n).toBitVec.toNat = _
  rw [Int32.toBitVec_ofNat', BitVec.toNat_ofNat]
theorem bt_and (n : Nat) {k : Nat} (hk : k ≤ 31) : nI n &&& nI (2 ^ k - 1) = nI (n % 2 ^ k) := by
  have h2 : 2 ^ k ≤ 2 ^ 31 := Nat.pow_le_pow_right (by decide) hk
  rw [pk_and _ k (by rw [bt_tn, Nat.mod_eq_of_lt (by omega)]), bt_tn, Nat.mod_mod_of_dvd _ (Nat.pow_dvd_pow 2 (by omega : k ≤ 32))]
theorem bt_pow (k : Nat) : 8192 ^ k = 2 ^ (13 * k) := by rw [Nat.pow_mul]
theorem bt_pow2 (k : Nat) : 4096 * 8192 ^ k = 2 ^ (12 + 13 * k) := by rw [Nat.pow_add, bt_pow]
theorem bt_small : ∀ e, e < 128 → ∀ s, s < 4 → ∀ k, k < 4 → (e ||| s * 128) ||| k * 512 = e + 128 * s + 512 * k := by decide +kernel
theorem bt_keep : ∀ k, k < 4 → (2 ^ (12 + 13 * k) - 1 - 3968) % 2 ^ 12 = 127 ∧ (2 ^ (12 + 13 * k) - 1 - 3968) / 2 ^ 12 = 2 ^ (13 * k) - 1 := by decide +kernel
/-- what settle makes of a word -/
theorem bt_stl {k s v : Nat} (hk : k < 4) (hs : s < 4) : ((v &&& (2 ^ (12 + 13 * k) - 1 - 3968)) ||| (s * 128)) ||| (k * 512) = ft_stl k s v := by
  obtain ⟨k1, k2⟩ := bt_keep k hk
  have h1 : (((v &&& (2 ^ (12 + 13 * k) - 1 - 3968)) ||| (s * 128)) ||| (k * 512)) % 2 ^ 12 = v % 128 + 128 * s + 512 * k := by
    rw [Nat.or_mod_two_pow, Nat.or_mod_two_pow, Nat.and_mod_two_pow, k1, show (127 : Nat) = 2 ^ 7 - 1 from rfl, Nat.and_two_pow_sub_one_eq_mod, Nat.mod_eq_of_lt (show s * 128 < 2 ^ 12 by omega), Nat.mod_eq_of_lt (show k * 512 < 2 ^ 12 by omega), Nat.mod_mod_of_dvd _ (by decide : 2 ^ 7 ∣ 2 ^ 12)]
    exact bt_small (v % 2 ^ 7) (by omega) s hs k hk
  have h2 : (((v &&& (2 ^ (12 + 13 * k) - 1 - 3968)) ||| (s * 128)) ||| (k * 512)) / 2 ^ 12 = (v / 4096) % 8192 ^ k := by
    rw [Nat.or_div_two_pow, Nat.or_div_two_pow, Nat.and_div_two_pow, k2, Nat.and_two_pow_sub_one_eq_mod, Nat.div_eq_of_lt (show s * 128 < 2 ^ 12 by omega), Nat.div_eq_of_lt (show k * 512 < 2 ^ 12 by omega), Nat.or_zero, Nat.or_zero, bt_pow]
  have h3 := Nat.div_add_mod (((v &&& (2 ^ (12 + 13 * k) - 1 - 3968)) ||| (s * 128)) ||| (k * 512)) (2 ^ 12)
  rw [h1, h2] at h3
  unfold ft_stl
  omega
theorem ft_stl_lt {k s v : Nat} (hk : k < 4) (hs : s < 4) : ft_stl k s v < 2251799813685248 := by
  have h1 : (v / 4096) % 8192 ^ k < 8192 ^ k := Nat.mod_lt _ (Nat.pow_pos (by decide))
  have h2 : 8192 ^ k ≤ 8192 ^ 3 := Nat.pow_le_pow_right (by decide) (by omega)
  unfold ft_stl
  omega
/-- what wrap makes of a word -/
theorem bt_wrap (j m v : Nat) : (v &&& (2 ^ (12 + 13 * j) - 1)) ||| (m * 2 ^ (12 + 13 * j)) = v % (4096 * 8192 ^ j) + m * (4096 * 8192 ^ j) := by
  rw [Nat.and_two_pow_sub_one_eq_mod, bt_pow2, Nat.or_comm, Nat.mul_comm m, ← Nat.two_pow_add_eq_or_of_lt (Nat.mod_lt _ (Nat.two_pow_pos _)), Nat.add_comm]
theorem bt_mask : ∀ k, k < 4 → (lN (2 ^ (12 + 13 * k)) - lN 1) &&& (-3969) = lN (2 ^ (12 + 13 * k) - 1 - 3968) := by decide +kernel
/-- all words of the working array are small -/
def ft_bw (w : Nat → Nat) : Prop := ∀ j, w j < 2251799813685248
theorem ft_bw_sw {w : Nat → Nat} {a b k s : Nat} (h : ft_bw w) (hk : k < 4) (hs : s < 4) : ft_bw (ft_sw w a b k s) := fun j => by
  unfold ft_sw
  split
  · exact ft_stl_lt hk hs
  · exact h j
