/-! How many bits are set: the JDK's way, byte by byte. -/
theorem and_split (x m M : Nat) (hm : m < 256) : x &&& (m + 256 * M) = ((x % 256) &&& m) + 256 * ((x / 256) &&& M) := by
  have h1 : (x &&& (m + 256 * M)) % 2 ^ 8 = (x % 2 ^ 8) &&& ((m + 256 * M) % 2 ^ 8) := Nat.and_mod_two_pow
  have h2 : (x &&& (m + 256 * M)) / 2 ^ 8 = (x / 2 ^ 8) &&& ((m + 256 * M) / 2 ^ 8) := Nat.and_div_two_pow
  rw [show (m + 256 * M) % 2 ^ 8 = m by omega] at h1
  rw [show (m + 256 * M) / 2 ^ 8 = M by omega] at h2
  have h3 := Nat.div_add_mod (x &&& (m + 256 * M)) (2 ^ 8)
  rw [h1, h2] at h3
  rw [show (256 : Nat) = 2 ^ 8 from rfl] at *
  omega
def mk8 (m : Nat) : Nat → Nat
  | 0 => 0
  | k + 1 => m + 256 * mk8 m k
def g1 (k n : Nat) : Nat := n - (n / 2 &&& mk8 85 k)
def g2 (k n : Nat) : Nat := (n &&& mk8 51 k) + (n / 4 &&& mk8 51 k)
def g3 (k n : Nat) : Nat := (n + n / 16) &&& mk8 15 k
/-- bits of each byte, in that byte -/
def by8 : Nat → Nat → Nat
  | 0, _ => 0
  | k + 1, n => cn (n % 256).testBit 8 + 256 * by8 k (n / 256)
theorem mk8_s (m k : Nat) : mk8 m (k + 1) = m + 256 * mk8 m k := rfl
def f1 (a : Nat) : Nat := a - (a / 2 &&& 85)
def f2 (p : Nat) : Nat := (p &&& 51) + (p / 4 &&& 51)
theorem g1_a : ∀ a, a < 256 → ∀ c, c < 2 → (a / 2 + 128 * c) &&& 85 = a / 2 &&& 85 := by decide +kernel
theorem g2_a : ∀ a, a < 256 → ∀ c, c < 4 → (a / 4 + 64 * c) &&& 51 = a / 4 &&& 51 := by decide +kernel
theorem g_a : ∀ a, a < 256 → f1 a < 256 ∧ f2 (f1 a) % 16 ≤ 4 ∧ f2 (f1 a) ≤ 68 ∧ (f2 (f1 a) + f2 (f1 a) / 16) % 16 = cn a.testBit 8 := by decide +kernel
theorem and15 (x : Nat) : x &&& 15 = x % 16 := Nat.and_two_pow_sub_one_eq_mod x 4
theorem g1_s (k a b : Nat) (ha : a < 256) : g1 (k + 1) (a + 256 * b) = f1 a + 256 * g1 k b := by
  have h1 : (a / 2 &&& 85) ≤ a / 2 := Nat.and_le_left
  have h2 : (b / 2 &&& mk8 85 k) ≤ b / 2 := Nat.and_le_left
  unfold g1 f1
  rw [mk8_s, and_split _ 85 _ (by decide), show (a + 256 * b) / 2 % 256 = a / 2 + 128 * (b % 2) by omega, show (a + 256 * b) / 2 / 256 = b / 2 by omega, g1_a a ha _ (by omega)]
  omega
theorem g2_s (k p q : Nat) (hp : p < 256) : g2 (k + 1) (p + 256 * q) = f2 p + 256 * g2 k q := by
  unfold g2 f2
  rw [mk8_s, and_split _ 51 _ (by decide), and_split _ 51 _ (by decide), show (p + 256 * q) % 256 = p by omega, show (p + 256 * q) / 256 = q by omega, show (p + 256 * q) / 4 % 256 = p / 4 + 64 * (q % 4) by omega, show (p + 256 * q) / 4 / 256 = q / 4 by omega, g2_a p hp _ (by omega)]
  omega
theorem g3_s (k y z : Nat) (hy : y ≤ 68) (hz : z % 16 ≤ 4) : g3 (k + 1) (y + 256 * z) = (y + y / 16) % 16 + 256 * g3 k z := by
  unfold g3
  rw [mk8_s, and_split _ 15 _ (by decide), and15, show (y + 256 * z + (y + 256 * z) / 16) % 256 % 16 = (y + y / 16) % 16 by omega, show (y + 256 * z + (y + 256 * z) / 16) / 256 = z + z / 16 by omega]
theorem g_by : ∀ (k n : Nat), n < 256 ^ k → g2 k (g1 k n) % 16 ≤ 4 ∧ g3 k (g2 k (g1 k n)) = by8 k n
  | 0, n, h => by
    have : n = 0 := by simpa using h
    subst this
    decide +kernel
  | k + 1, n, h => by
    have h2 : n / 256 < 256 ^ k := by
      rw [Nat.div_lt_iff_lt_mul (by decide)]
      rw [Nat.pow_succ] at h
      exact h
    obtain ⟨i1, i2⟩ := g_by k (n / 256) h2
    have ha : n % 256 < 256 := Nat.mod_lt _ (by decide)
    obtain ⟨a2, a3, a4, a5⟩ := g_a (n % 256) ha
    have e : n = n % 256 + 256 * (n / 256) := by omega
    have e1 : g2 (k + 1) (g1 (k + 1) n) = f2 (f1 (n % 256)) + 256 * g2 k (g1 k (n / 256)) := by
      conv => lhs; rw [e]
      rw [g1_s k _ _ ha, g2_s k _ _ a2]
    rw [e1]
    refine ⟨?_, ?_⟩
    · rw [show ∀ F X : Nat, (F + 256 * X) % 16 = F % 16 from fun F X => by omega]
      exact a3
    rw [g3_s k _ _ a4 i1, i2, a5]
    rfl
theorem cn_add (P : Nat → Bool) (a : Nat) : ∀ b, cn P (a + b) = cn P a + cn (fun i => P (a + i)) b
  | 0 => rfl
  | b + 1 => by
    rw [show a + (b + 1) = (a + b) + 1 from rfl, cn, cn, cn_add P a b, Nat.add_assoc]
theorem cn_bits (n : Nat) : ∀ k, cn n.testBit (8 + k) = cn (n % 256).testBit 8 + cn (n / 256).testBit k := fun k => by
  rw [cn_add]
  congr 1
  · exact cn_congr (fun i hi => by
      rw [show (256 : Nat) = 2 ^ 8 from rfl, Nat.testBit_mod_two_pow]
      simp [hi])
  · exact cn_congr (fun i hi => by
      rw [show (256 : Nat) = 2 ^ 8 from rfl, Nat.testBit_div_two_pow, Nat.add_comm])
theorem cn_8 (n : Nat) : cn n.testBit 8 ≤ 8 := cn_le _ _
def ad1 (w : Nat) : Nat := w + w / 2 ^ 8
def ad2 (w : Nat) : Nat := w + w / 2 ^ 16
def ad3 (w : Nat) : Nat := w + w / 2 ^ 32
theorem by8_0 : ∀ k, by8 k 0 = 0
  | 0 => rfl
  | k + 1 => by
    rw [by8, show (0 : Nat) / 256 = 0 from rfl, by8_0 k]
    decide +kernel
/-- the sum of the bytes, as the JDK adds them: of five bytes and of three -/
theorem by8_sumL (n : Nat) (h : n < 2 ^ 40) : ad3 (ad2 (ad1 (by8 8 n))) < 2 ^ 63 ∧ ad2 (ad1 (by8 8 n)) < 2 ^ 63 ∧ ad1 (by8 8 n) < 2 ^ 63 ∧ by8 8 n < 2 ^ 63 ∧ ad3 (ad2 (ad1 (by8 8 n))) % 128 = cn n.testBit 40 := by
  have e0 : cn n.testBit 40 = cn (n % 256).testBit 8 + (cn (n / 256 % 256).testBit 8 + (cn (n / 256 / 256 % 256).testBit 8 + (cn (n / 256 / 256 / 256 % 256).testBit 8 + cn (n / 256 / 256 / 256 / 256 % 256).testBit 8))) := by
    rw [show (40 : Nat) = 8 + (8 + (8 + (8 + (8 + 0)))) from rfl, cn_bits, cn_bits, cn_bits, cn_bits, cn_bits]
    rfl
  have e1 : by8 8 n = cn (n % 256).testBit 8 + 256 * (cn (n / 256 % 256).testBit 8 + 256 * (cn (n / 256 / 256 % 256).testBit 8 + 256 * (cn (n / 256 / 256 / 256 % 256).testBit 8 + 256 * (cn (n / 256 / 256 / 256 / 256 % 256).testBit 8 + 256 * 0)))) := by
    rw [by8, by8, by8, by8, by8, show n / 256 / 256 / 256 / 256 / 256 = 0 by omega, by8_0]
  rw [e0, e1]
  have h0 := cn_8 (n % 256)
  have h1 := cn_8 (n / 256 % 256)
  have h2 := cn_8 (n / 256 / 256 % 256)
  have h3 := cn_8 (n / 256 / 256 / 256 % 256)
  have h4 := cn_8 (n / 256 / 256 / 256 / 256 % 256)
  generalize cn (n % 256).testBit 8 = c0 at *
  generalize cn (n / 256 % 256).testBit 8 = c1 at *
  generalize cn (n / 256 / 256 % 256).testBit 8 = c2 at *
  generalize cn (n / 256 / 256 / 256 % 256).testBit 8 = c3 at *
  generalize cn (n / 256 / 256 / 256 / 256 % 256).testBit 8 = c4 at *
  clear e0 e1 h
  have e4 : ad1 (c0 + 256 * (c1 + 256 * (c2 + 256 * (c3 + 256 * (c4 + 256 * 0))))) = (c0 + c1) + 256 * (c1 + c2) + 65536 * (c2 + c3) + 16777216 * (c3 + c4) + 4294967296 * c4 := by unfold ad1; omega
  rw [e4]
  have e5 : ad2 ((c0 + c1) + 256 * (c1 + c2) + 65536 * (c2 + c3) + 16777216 * (c3 + c4) + 4294967296 * c4) = (c0 + c1 + c2 + c3) + 256 * (c1 + c2 + c3 + c4) + 65536 * (c2 + c3 + c4) + 16777216 * (c3 + c4) + 4294967296 * c4 := by unfold ad2; omega
  rw [e5]
  have e6 : ad3 ((c0 + c1 + c2 + c3) + 256 * (c1 + c2 + c3 + c4) + 65536 * (c2 + c3 + c4) + 16777216 * (c3 + c4) + 4294967296 * c4) = (c0 + c1 + c2 + c3 + c4) + 256 * (c1 + c2 + c3 + c4) + 65536 * (c2 + c3 + c4) + 16777216 * (c3 + c4) + 4294967296 * c4 := by unfold ad3; omega
  rw [e6]
  refine ⟨by omega, by omega, by omega, by omega, by omega⟩
theorem by8_sumI (n : Nat) (h : n < 2 ^ 24) : ad2 (ad1 (by8 4 n)) < 2 ^ 31 ∧ ad1 (by8 4 n) < 2 ^ 31 ∧ by8 4 n < 2 ^ 31 ∧ ad2 (ad1 (by8 4 n)) % 64 = cn n.testBit 24 := by
  have e0 : cn n.testBit 24 = cn (n % 256).testBit 8 + (cn (n / 256 % 256).testBit 8 + cn (n / 256 / 256 % 256).testBit 8) := by
    rw [show (24 : Nat) = 8 + (8 + (8 + 0)) from rfl, cn_bits, cn_bits, cn_bits]
    rfl
  have e1 : by8 4 n = cn (n % 256).testBit 8 + 256 * (cn (n / 256 % 256).testBit 8 + 256 * (cn (n / 256 / 256 % 256).testBit 8 + 256 * 0)) := by
    rw [by8, by8, by8, show n / 256 / 256 / 256 = 0 by omega, by8_0]
  rw [e0, e1]
  have h0 := cn_8 (n % 256)
  have h1 := cn_8 (n / 256 % 256)
  have h2 := cn_8 (n / 256 / 256 % 256)
  generalize cn (n % 256).testBit 8 = c0 at *
  generalize cn (n / 256 % 256).testBit 8 = c1 at *
  generalize cn (n / 256 / 256 % 256).testBit 8 = c2 at *
  clear e0 e1 h
  have e4 : ad1 (c0 + 256 * (c1 + 256 * (c2 + 256 * 0))) = (c0 + c1) + 256 * (c1 + c2) + 65536 * c2 := by unfold ad1; omega
  rw [e4]
  have e5 : ad2 ((c0 + c1) + 256 * (c1 + c2) + 65536 * c2) = (c0 + c1 + c2) + 256 * (c1 + c2) + 65536 * c2 := by unfold ad2; omega
  rw [e5]
  refine ⟨by omega, by omega, by omega, by omega⟩
def su (x : Int64) (k : Int32) : Int64 := (x.toUInt64 >>> (k.toInt64.toUInt64 &&& Int64.toUInt64 63)).toInt64
theorem su_e {n k : Nat} (hn : n < 2 ^ 64) (hk : k < 64) : su (lN n) (nI k) = lN (n / 2 ^ k) := wb_shr hn hk
def bl1 (x : Int64) : Int64 := x - (su x 1 &&& 6148914691236517205)
def bl2 (x : Int64) : Int64 := (x &&& 3689348814741910323) + (su x 2 &&& 3689348814741910323)
def bl3 (x : Int64) : Int64 := (x + su x 4) &&& 1085102592571150095
def bl4 (x : Int64) : Int64 := x + su x 8
def bl5 (x : Int64) : Int64 := x + su x 16
def bl6 (x : Int64) : Int64 := x + su x 32
theorem bl_e (n : Nat) (h : n < 2 ^ 40) : (bl6 (bl5 (bl4 (bl3 (bl2 (bl1 (lN n))))))).toInt32 &&& 127 = nI (cn n.testBit 40) := by
  have q1 : bl1 (lN n) = lN (g1 8 n) := by
    unfold bl1 g1
    rw [show (1 : Int32) = nI 1 from rfl, su_e (by omega) (by decide), show (6148914691236517205 : Int64) = lN (mk8 85 8) by decide +kernel, wb_and (by omega) (by decide +kernel), lN_sub (Nat.le_trans Nat.and_le_left (Nat.div_le_self _ _))]
  have b1 : g1 8 n < 2 ^ 40 := Nat.lt_of_le_of_lt (Nat.sub_le _ _) h
  have q2 : bl2 (lN (g1 8 n)) = lN (g2 8 (g1 8 n)) := by
    unfold bl2 g2
    rw [show (2 : Int32) = nI 2 from rfl, su_e (by omega) (by decide), show (3689348814741910323 : Int64) = lN (mk8 51 8) by decide +kernel, wb_and (by omega) (by decide +kernel), wb_and (by omega) (by decide +kernel), lN_add]
  have b2 : g2 8 (g1 8 n) < 2 ^ 41 := by
    have a1 : g1 8 n &&& mk8 51 8 ≤ g1 8 n := Nat.and_le_left
    have a2 : g1 8 n / 4 &&& mk8 51 8 ≤ g1 8 n / 4 := Nat.and_le_left
    unfold g2; omega
  have q3 : bl3 (lN (g2 8 (g1 8 n))) = lN (by8 8 n) := by
    rw [← (g_by 8 n (by omega)).2]
    unfold bl3 g3
    rw [show (4 : Int32) = nI 4 from rfl, su_e (by omega) (by decide), show (1085102592571150095 : Int64) = lN (mk8 15 8) by decide +kernel, lN_add, wb_and (by omega) (by decide +kernel)]
  obtain ⟨s1, s2, s3, s4, s5⟩ := by8_sumL n h
  have q4 : bl4 (lN (by8 8 n)) = lN (ad1 (by8 8 n)) := by
    unfold bl4 ad1
    rw [show (8 : Int32) = nI 8 from rfl, su_e (by omega) (by decide), lN_add]
  have q5 : bl5 (lN (ad1 (by8 8 n))) = lN (ad2 (ad1 (by8 8 n))) := by
    unfold bl5 ad2
    rw [show (16 : Int32) = nI 16 from rfl, su_e (by omega) (by decide), lN_add]
  have q6 : bl6 (lN (ad2 (ad1 (by8 8 n)))) = lN (ad3 (ad2 (ad1 (by8 8 n)))) := by
    unfold bl6 ad3
    rw [show (32 : Int32) = nI 32 from rfl, su_e (by omega) (by decide), lN_add]
  rw [q1, q2, q3, q4, q5, q6, lN_i, ← s5]
  generalize ad3 (ad2 (ad1 (by8 8 n))) = w
  rw [pk_and (nI w) (m := 127) 7 (by decide)]
  congr 1
  show BitVec.toNat (BitVec.ofNat 32 _) % 2 ^ 7 = _
  rw [BitVec.toNat_ofNat]
  omega
def iu (x k : Int32) : Int32 := (x.toUInt32 >>> (k.toUInt32 &&& Int32.toUInt32 31)).toInt32
theorem iu_e {n k : Nat} (hn : n < 2 ^ 32) (hk : k < 32) : iu (nI n) (nI k) = nI (n / 2 ^ k) := pk_ushrN hn (nI k) k (s_u k hk)
def bi1 (x : Int32) : Int32 := x - (iu x 1 &&& 1431655765)
def bi2 (x : Int32) : Int32 := (x &&& 858993459) + (iu x 2 &&& 858993459)
def bi3 (x : Int32) : Int32 := (x + iu x 4) &&& 252645135
def bi4 (x : Int32) : Int32 := x + iu x 8
def bi5 (x : Int32) : Int32 := x + iu x 16
theorem bi_e (n : Nat) (h : n < 2 ^ 24) : bi5 (bi4 (bi3 (bi2 (bi1 (nI n))))) &&& 63 = nI (cn n.testBit 24) := by
  have q1 : bi1 (nI n) = nI (g1 4 n) := by
    unfold bi1 g1
    rw [show (1 : Int32) = nI 1 from rfl, iu_e (by omega) (by decide), show (1431655765 : Int32) = nI (mk8 85 4) by decide +kernel, nx_and, pk_sub (Nat.le_trans Nat.and_le_left (Nat.div_le_self _ _))]
  have b1 : g1 4 n < 2 ^ 24 := Nat.lt_of_le_of_lt (Nat.sub_le _ _) h
  have q2 : bi2 (nI (g1 4 n)) = nI (g2 4 (g1 4 n)) := by
    unfold bi2 g2
    rw [show (2 : Int32) = nI 2 from rfl, iu_e (by omega) (by decide), show (858993459 : Int32) = nI (mk8 51 4) by decide +kernel, nx_and, nx_and, nI_add]
  have b2 : g2 4 (g1 4 n) < 2 ^ 25 := by
    have a1 : g1 4 n &&& mk8 51 4 ≤ g1 4 n := Nat.and_le_left
    have a2 : g1 4 n / 4 &&& mk8 51 4 ≤ g1 4 n / 4 := Nat.and_le_left
    unfold g2; omega
  have q3 : bi3 (nI (g2 4 (g1 4 n))) = nI (by8 4 n) := by
    rw [← (g_by 4 n (by omega)).2]
    unfold bi3 g3
    rw [show (4 : Int32) = nI 4 from rfl, iu_e (by omega) (by decide), show (252645135 : Int32) = nI (mk8 15 4) by decide +kernel, nI_add, nx_and]
  obtain ⟨s1, s2, s3, s4⟩ := by8_sumI n h
  have q4 : bi4 (nI (by8 4 n)) = nI (ad1 (by8 4 n)) := by
    unfold bi4 ad1
    rw [show (8 : Int32) = nI 8 from rfl, iu_e (by omega) (by decide), nI_add]
  have q5 : bi5 (nI (ad1 (by8 4 n))) = nI (ad2 (ad1 (by8 4 n))) := by
    unfold bi5 ad2
    rw [show (16 : Int32) = nI 16 from rfl, iu_e (by omega) (by decide), nI_add]
  rw [q1, q2, q3, q4, q5, ← s4]
  exact pk_andN (by omega) 6 (by decide)
theorem cn_bts (P : Nat → Bool) {n k : Nat} (h : n ≤ k) : cn (bts P n).testBit k = cn P n := by
  obtain ⟨j, rfl⟩ : ∃ j, k = n + j := ⟨k - n, by omega⟩
  rw [cn_add]
  have e1 : cn (bts P n).testBit n = cn P n := cn_congr (fun i hi => by rw [tb_bts]; simp [hi])
  have e2 : ∀ m, cn (fun i => (bts P n).testBit (n + i)) m = 0 := by
    intro m
    induction m with
    | zero => rfl
    | succ m ih =>
      rw [cn, ih, tb_bts, decide_eq_false (show ¬ n + m < n by omega)]
      rfl
  rw [e1, e2]
  rfl
section BC
variable {G : xG} {d : Nat} {h : xH} {Q : Option Value → xH → Prop}
theorem c_bitL {x : Int64} (P : Nat → Bool) (n : Nat) (hn : n ≤ 40) (hx : x = lN (bts P n)) (q : Q (some (.int (nI (cn P n)))) h) : CW G d jJ13_bitCount_95d88 [.long x] h Q := by
  have hb : bts P n < 2 ^ 40 := Nat.lt_of_lt_of_le (bts_lt P n) (Nat.pow_le_pow_right (by decide) hn)
  have e := bl_e (bts P n) hb
  rw [← hx, cn_bts P hn] at e
  rw [← e] at q
  refine CW_wp fJ13_bitCount_95d88 rfl rfl rfl ?_
  exact q
theorem c_bitI {x : Int32} (P : Nat → Bool) (n : Nat) (hn : n ≤ 24) (hx : x = nI (bts P n)) (q : Q (some (.int (nI (cn P n)))) h) : CW G d jJ6_bitCount_0f7a4 [.int x] h Q := by
  have hb : bts P n < 2 ^ 24 := Nat.lt_of_lt_of_le (bts_lt P n) (Nat.pow_le_pow_right (by decide) hn)
  have e := bi_e (bts P n) hb
  rw [← hx, cn_bts P hn] at e
  rw [← e] at q
  refine CW_wp fJ6_bitCount_0f7a4 rfl rfl rfl ?_
  exact q
end BC
