/-! Bits (families of kit/laws/BITS.to-paste, and sets as natural numbers). -/
def bt (x : Int32) (i : Nat) : Bool := x.toBitVec.getLsbD i
theorem b_ext {x y : Int32} (h : ∀ i, i < 32 → bt x i = bt y i) : x = y := Int32.toBitVec_inj.mp (BitVec.eq_of_getLsbD_eq (fun i hi => h i hi))
theorem b_or (x y : Int32) (i : Nat) : bt (x ||| y) i = (bt x i || bt y i) := by unfold bt; rw [Int32.toBitVec_or, BitVec.getLsbD_or]
theorem b_and (x y : Int32) (i : Nat) : bt (x &&& y) i = (bt x i && bt y i) := by unfold bt; rw [Int32.toBitVec_and, BitVec.getLsbD_and]
theorem b_xor (x y : Int32) (i : Nat) : bt (x ^^^ y) i = (bt x i ^^ bt y i) := by unfold bt; rw [Int32.toBitVec_xor, BitVec.getLsbD_xor]
theorem b_big {x : Int32} {i : Nat} (h : 32 ≤ i) : bt x i = false := BitVec.getLsbD_of_ge _ _ h
theorem b_m1 : ∀ i, i < 32 → bt (-1) i = true := by decide +kernel
theorem b_0 (i : Nat) : bt 0 i = false := BitVec.getLsbD_zero
theorem s_l : ∀ n, n < 32 → ((nI n &&& 31).toBitVec.smod 32).toNat = n := by decide +kernel
theorem s_u : ∀ n, n < 32 → (((nI n).toUInt32 &&& Int32.toUInt32 31).toBitVec % 32).toNat = n := by decide +kernel
theorem b_shl (n : Nat) (hn : n < 32) (x : Int32) {i : Nat} (hi : i < 32) : bt (x <<< (nI n &&& 31)) i = (decide (n ≤ i) && bt x (i - n)) := by
  unfold bt
  rw [Int32.toBitVec_shiftLeft]
  show (x.toBitVec <<< ((nI n &&& 31).toBitVec.smod 32).toNat).getLsbD i = _
  rw [s_l n hn, BitVec.getLsbD_shiftLeft]
  rcases Nat.lt_or_ge i n with h | h
  · simp [h, Nat.not_le.mpr h]
  · simp [hi, h, Nat.not_lt.mpr h]
theorem b_sshr (n : Nat) (hn : n < 32) (x : Int32) {i : Nat} (hi : i < 32) : bt (x >>> (nI n &&& 31)) i = if n + i < 32 then bt x (n + i) else bt x 31 := by
  unfold bt
  rw [Int32.toBitVec_shiftRight]
  show (x.toBitVec.sshiftRight ((nI n &&& 31).toBitVec.smod 32).toNat).getLsbD i = _
  rw [s_l n hn, BitVec.getLsbD_sshiftRight, BitVec.msb_eq_getLsbD_last]
  simp [hi]
theorem nx_and (a b : Nat) : nI a &&& nI b = nI (a &&& b) := by
  apply Int32.toBitVec_inj.1
  show BitVec.ofNat 32 a &&& BitVec.ofNat 32 b = BitVec.ofNat 32 (a &&& b)
  apply BitVec.eq_of_getLsbD_eq
  intro i hi
  simp [hi]
theorem nx_xor (a b : Nat) : nI a ^^^ nI b = nI (a ^^^ b) := by
  apply Int32.toBitVec_inj.1
  show BitVec.ofNat 32 a ^^^ BitVec.ofNat 32 b = BitVec.ofNat 32 (a ^^^ b)
  apply BitVec.eq_of_getLsbD_eq
  intro i hi
  simp [hi]
theorem wb_tb (n : Nat) : (lN n).toBitVec = BitVec.ofNat 64 n := rfl
theorem wb_inj {a b : Int64} (h : a.toBitVec = b.toBitVec) : a = b := Int64.toBitVec_inj.mp h
theorem wb_tn {n : Nat} (h : n < 2 ^ 64) : (lN n).toBitVec.toNat = n := by rw [wb_tb, BitVec.toNat_ofNat, Nat.mod_eq_of_lt h]
theorem wb_of (x : Int64) : ∃ n, n < 2 ^ 64 ∧ x = lN n := ⟨x.toBitVec.toNat, x.toBitVec.isLt, wb_inj (by rw [wb_tb]; simp)⟩
theorem wb_of32 (x : Int32) : ∃ n, n < 2 ^ 32 ∧ x = nI n := ⟨x.toBitVec.toNat, x.toBitVec.isLt, Int32.toBitVec_inj.mp (by show _ = BitVec.ofNat 32 _; simp)⟩
theorem wb_c : ∀ k, k < 64 → ((nI k).toInt64 &&& 63) = lN k := by decide +kernel
theorem wb_cu : ∀ k, k < 64 → ((nI k).toInt64.toUInt64 &&& Int64.toUInt64 63) = UInt64.ofNat k := by decide +kernel
theorem wb_sm : ∀ k, k < 64 → (BitVec.ofNat 64 k).smod 64 = BitVec.ofNat 64 k := by decide +kernel
theorem wb_pw {a b : Nat} (h : a ≤ b) : 2 ^ b = 2 ^ a * 2 ^ (b - a) := by rw [← Nat.pow_add]; congr 1; omega
theorem wb_lt2 {a b : Nat} (h : a < b) : 2 ^ a < 2 ^ b := Nat.pow_lt_pow_right (by decide) h
theorem wb_mod (n : Nat) : lN n = lN (n % 2 ^ 64) := wb_inj (by rw [wb_tb, wb_tb]; apply BitVec.eq_of_toNat_eq; rw [BitVec.toNat_ofNat, BitVec.toNat_ofNat, Nat.mod_mod])
theorem wb_shr {n k : Nat} (hn : n < 2 ^ 64) (hk : k < 64) : ((lN n).toUInt64 >>> ((nI k).toInt64.toUInt64 &&& Int64.toUInt64 63)).toInt64 = lN (n / 2 ^ k) := by
  rw [wb_cu k hk]
  apply wb_inj
  apply BitVec.eq_of_toNat_eq
  show ((lN n).toUInt64 >>> UInt64.ofNat k).toNat = (BitVec.ofNat 64 _).toNat
  have h1 : (UInt64.ofNat k).toNat = k := by
    show (BitVec.ofNat 64 k).toNat = k
    rw [BitVec.toNat_ofNat, Nat.mod_eq_of_lt (by omega)]
  have h2 : (lN n).toUInt64.toNat = n := wb_tn hn
  rw [UInt64.toNat_shiftRight, h1, h2, Nat.mod_eq_of_lt hk, Nat.shiftRight_eq_div_pow, BitVec.toNat_ofNat, Nat.mod_eq_of_lt (Nat.lt_of_le_of_lt (Nat.div_le_self _ _) hn)]
theorem wb_shl (n : Nat) {k : Nat} (hk : k < 64) : lN n <<< ((nI k).toInt64 &&& 63) = lN (n * 2 ^ k) := by
  rw [wb_c k hk]
  apply wb_inj
  rw [Int64.toBitVec_shiftLeft, wb_tb, wb_tb, wb_tb, wb_sm k hk]
  apply BitVec.eq_of_toNat_eq
  rw [BitVec.shiftLeft_eq', BitVec.toNat_shiftLeft, BitVec.toNat_ofNat, BitVec.toNat_ofNat, BitVec.toNat_ofNat, Nat.mod_eq_of_lt (show k < 2 ^ 64 by omega), Nat.shiftLeft_eq, Nat.mul_mod, Nat.mod_mod, ← Nat.mul_mod]
theorem wb_and {a b : Nat} (ha : a < 2 ^ 64) (hb : b < 2 ^ 64) : lN a &&& lN b = lN (a &&& b) := by
  apply wb_inj
  rw [Int64.toBitVec_and, wb_tb, wb_tb, wb_tb]
  apply BitVec.eq_of_toNat_eq
  rw [BitVec.toNat_and, BitVec.toNat_ofNat, BitVec.toNat_ofNat, BitVec.toNat_ofNat, Nat.mod_eq_of_lt ha, Nat.mod_eq_of_lt hb, Nat.mod_eq_of_lt (Nat.and_lt_two_pow _ hb)]
theorem wb_or {a b : Nat} (ha : a < 2 ^ 64) (hb : b < 2 ^ 64) : lN a ||| lN b = lN (a ||| b) := by
  apply wb_inj
  rw [Int64.toBitVec_or, wb_tb, wb_tb, wb_tb]
  apply BitVec.eq_of_toNat_eq
  rw [BitVec.toNat_or, BitVec.toNat_ofNat, BitVec.toNat_ofNat, BitVec.toNat_ofNat, Nat.mod_eq_of_lt ha, Nat.mod_eq_of_lt hb, Nat.mod_eq_of_lt (Nat.or_lt_two_pow ha hb)]
theorem wb_mask {n k : Nat} (hn : n < 2 ^ 64) (hk : k < 64) : lN n &&& lN (2 ^ k - 1) = lN (n % 2 ^ k) := by
  rw [wb_and hn (by have := wb_lt2 hk; omega), Nat.and_two_pow_sub_one_eq_mod]
theorem wb_a1 {n : Nat} (hn : n < 2 ^ 64) : lN n &&& 1 = lN (n % 2) := wb_mask (k := 1) hn (by decide)
theorem pf_lI {a : Nat} (h : a < 2 ^ 63) : (lN a).toInt = (a : Int) := lg_ofNat_toInt h
theorem pf_shr {a d : Nat} {D : Int64} (hD : (D.toBitVec.smod 64).toNat = d) (h : a < 2 ^ 62) : lN a >>> D = lN (a / 2 ^ d) := by
  have hd : a / 2 ^ d ≤ a := Nat.div_le_self _ _
  apply Int64.toInt_inj.mp
  have e : (lN a >>> D).toInt = (lN a).toInt >>> d := by
    rw [← hD]
    exact BitVec.toInt_sshiftRight ..
  rw [e, Int.shiftRight_eq_div_pow, pf_lI (by omega), pf_lI (by omega)]
  rfl
/-! Branches on numbers known as natural ones. -/
theorem xlt {x y : Int32} {A B : Prop} (a b : Nat) (hx : x = nI a) (hy : y = nI b) (ha : a < 2 ^ 31) (hb : b < 2 ^ 31) (h1 : a < b → A) (h2 : b ≤ a → B) : if x < y then A else B := by
  subst hx hy
  exact xite (fun c => h1 (by rw [nI_ltI ha hb] at c; exact c)) (fun c => h2 (by rw [nI_ltI ha hb] at c; omega))
theorem xle {x y : Int32} {A B : Prop} (a b : Nat) (hx : x = nI a) (hy : y = nI b) (ha : a < 2 ^ 31) (hb : b < 2 ^ 31) (h1 : a ≤ b → A) (h2 : b < a → B) : if x ≤ y then A else B := by
  subst hx hy
  exact xite (fun c => h1 (by rw [nI_leI ha hb] at c; exact c)) (fun c => h2 (by rw [nI_leI ha hb] at c; omega))
theorem xeq {x y : Int32} {A B : Prop} (a b : Nat) (hx : x = nI a) (hy : y = nI b) (ha : a < 2 ^ 31) (hb : b < 2 ^ 31) (h1 : a = b → A) (h2 : a ≠ b → B) : if x = y then A else B := by
  subst hx hy
  exact xite (fun c => h1 (by rw [nI_eq ha hb] at c; exact c)) (fun c => h2 (by rw [nI_eq ha hb] at c; exact c))
theorem xix {i : Int32} {n : Nat} {B : Prop} (k : Nat) (hi : i = nI k) (hk : k < n) (hn : n < 2 ^ 31) (h : i.toNatClampNeg = k → B) : if i < 0 ∨ n ≤ i.toNatClampNeg then False else B := by
  subst hi
  exact xelse (nin hk hn) (h (nI_clamp (by omega)))
theorem ia {x y : Int32} {a b : Nat} (hx : x = nI a) (hy : y = nI b) : x + y = nI (a + b) := by subst hx hy; exact nI_add a b
theorem im {x y : Int32} {a b : Nat} (hx : x = nI a) (hy : y = nI b) : x * y = nI (a * b) := by subst hx hy; exact pk_mul a b
theorem isb {x y : Int32} {a b : Nat} (hx : x = nI a) (hy : y = nI b) (h : b ≤ a) : x - y = nI (a - b) := by subst hx hy; exact pk_sub h
theorem idv {x y : Int32} {a b : Nat} (hx : x = nI a) (hy : y = nI b) (ha : a < 2 ^ 31) (h0 : 0 < b) (hb : b < 2 ^ 31) : x / y = nI (a / b) := by subst hx hy; exact pk_div ha h0 hb
theorem irm {x y : Int32} {a b : Nat} (hx : x = nI a) (hy : y = nI b) (ha : a < 2 ^ 31) (h0 : 0 < b) (hb : b < 2 ^ 31) : x - x / y * y = nI (a % b) := by subst hx hy; exact pk_rem ha h0 hb
/-- a loop upwards: from its end back to its start -/
theorem dn {E : Nat → Prop} {a n : Nat} (h : a ≤ n) (h0 : E n) (hs : ∀ i, a ≤ i → i < n → E (i + 1) → E i) : E a := by
  have : ∀ k i, i + k = n → a ≤ i → E i := by
    intro k
    induction k with
    | zero => intro i hi _; rw [show i = n by omega]; exact h0
    | succ k ih => intro i hi ha; exact hs i ha (by omega) (ih (i + 1) (by omega) (by omega))
  exact this (n - a) a (by omega) (Nat.le_refl _)
/-! Sets as natural numbers. -/
def bts (P : Nat → Bool) : Nat → Nat
  | 0 => 0
  | n + 1 => bts P n ||| (if P n = true then 2 ^ n else 0)
theorem tb_p (k i : Nat) : (2 ^ k).testBit i = decide (k = i) := Nat.testBit_two_pow
theorem tb_bts (P : Nat → Bool) : ∀ n i, (bts P n).testBit i = (decide (i < n) && P i)
  | 0, i => by simp [bts]
  | n + 1, i => by
    rw [bts, Nat.testBit_or, tb_bts P n i]
    by_cases h : P n = true
    · rw [if_pos h, tb_p]
      by_cases h2 : n = i
      · subst h2; simp [h]
      · by_cases h3 : i < n
        · simp [h2, h3, show i < n + 1 by omega]
        · simp [h2, h3, show ¬ i < n + 1 by omega]
    · rw [if_neg h]
      by_cases h2 : n = i
      · subst h2; simp [h]
      · by_cases h3 : i < n
        · simp [h3, show i < n + 1 by omega]
        · simp [h3, show ¬ i < n + 1 by omega]
theorem bts_lt (P : Nat → Bool) (n : Nat) : bts P n < 2 ^ n := by
  apply Nat.lt_pow_two_of_testBit
  intro i hi
  rw [tb_bts]
  simp [show ¬ i < n by omega]
theorem bts_eq {P : Nat → Bool} {n a : Nat} (h : ∀ i, a.testBit i = (decide (i < n) && P i)) : a = bts P n := Nat.eq_of_testBit_eq (fun i => by rw [h, tb_bts])
theorem bts_congr {P P' : Nat → Bool} {n : Nat} (h : ∀ i, i < n → P i = P' i) : bts P n = bts P' n := bts_eq (fun i => by
  rw [tb_bts]
  by_cases hi : i < n
  · rw [h i hi]
  · simp [hi])
theorem bt_nI {m i : Nat} (hi : i < 32) : bt (nI m) i = m.testBit i := by
  show (BitVec.ofNat 32 m).getLsbD i = m.testBit i
  rw [BitVec.getLsbD_ofNat, decide_eq_true hi, Bool.true_and]
theorem eq_nI {x : Int32} {c : Nat} (h : ∀ i, i < 32 → bt x i = c.testBit i) : x = nI c := b_ext (fun i hi => by rw [h i hi, bt_nI hi])
theorem nx_or (a b : Nat) : nI a ||| nI b = nI (a ||| b) := eq_nI (fun i hi => by rw [b_or, bt_nI hi, bt_nI hi, Nat.testBit_or])
theorem nx_shl (k : Nat) (hk : k < 31) : (1 : Int32) <<< (nI k &&& 31) = nI (2 ^ k) := by
  have h := pk_shlN (n := 1) (nI k &&& 31) k (s_l k (by omega)) (by have := wb_lt2 (show k < 32 by omega); omega)
  rw [Nat.one_mul] at h
  exact h
theorem io {x y : Int32} {a b : Nat} (hx : x = nI a) (hy : y = nI b) : x ||| y = nI (a ||| b) := by subst hx hy; exact nx_or a b
theorem ish {x : Int32} {k : Nat} (hx : x = nI k) (hk : k < 31) : (1 : Int32) <<< (x &&& 31) = nI (2 ^ k) := by subst hx; exact nx_shl k hk
theorem nx_andn {a b n : Nat} (hn : n ≤ 31) (P : Nat → Bool) (h : ∀ i, i < 32 → (a.testBit i && !b.testBit i) = (decide (i < n) && P i)) : nI a &&& (nI b ^^^ (-1)) = nI (bts P n) := eq_nI (fun i hi => by
  rw [b_and, b_xor, bt_nI hi, bt_nI hi, b_m1 i hi, tb_bts, ← h i hi, Bool.xor_true])
theorem tb_div (m i : Nat) : (m / 2 ^ i % 2 = 1) ↔ m.testBit i = true := by rw [Nat.testBit_eq_decide_div_mod_eq]; simp
theorem lg_cmp1 {b : Nat} (hb : b < 2) : (lg_cmp (lN b) 1 = 0) ↔ b = 1 := by
  match b, hb with
  | 0, _ => decide +kernel
  | 1, _ => decide +kernel
  | b + 2, h => omega
section BI
variable {G : xG} {d : Nat} {h : xH} {Q : Option Value → xH → Prop}
theorem c_isIn {y : Int64} {x : Int32} (m i : Nat) (hy : y = lN m) (hm : m < 2 ^ 62) (hx : x = nI i) (hi : i < 62) (q1 : m.testBit i = true → Q (some (.int 1)) h) (q0 : m.testBit i = false → Q (some (.int 0)) h) : CW G d jX8_isIn [.long y, .int x] h Q := by
  subst hy hx
  refine CW_wp fX8_isIn rfl rfl rfl ?_
  have e : lN m >>> ((nI i).toInt64 &&& 63) &&& 1 = lN (m / 2 ^ i % 2) := by
    rw [pf_shr (d := i) (by rw [wb_c i (by omega), wb_tb, wb_sm i (by omega), BitVec.toNat_ofNat, Nat.mod_eq_of_lt (by omega)]) hm, wb_a1 (Nat.lt_of_le_of_lt (Nat.div_le_self _ _) (by omega))]
  have e2 : (lg_cmp (lN m >>> ((nI i).toInt64 &&& 63) &&& 1) 1 = 0) ↔ m.testBit i = true := by
    rw [e, lg_cmp1 (Nat.mod_lt _ (by decide)), tb_div]
  refine xite (fun c => q1 (e2.mp c)) (fun c => q0 ?_)
  cases hb : m.testBit i with
  | false => rfl
  | true => exact absurd (e2.mpr hb) c
theorem m_has {y x : Int32} (m i : Nat) (hy : y = nI m) (hm : m < 2 ^ 31) (hx : x = nI i) (hi : i < 31) (q1 : m.testBit i = true → Q (some (.int 1)) h) (q0 : m.testBit i = false → Q (some (.int 0)) h) : CW G d jX9_has [.int y, .int x] h Q := by
  subst hy hx
  refine CW_wp fX9_has rfl rfl rfl ?_
  have e : nI m >>> (nI i &&& 31) &&& 1 = nI (m / 2 ^ i % 2) := by
    rw [pk_shrN hm (nI i &&& 31) i (s_l i (by omega)), pk_andN (Nat.lt_of_le_of_lt (Nat.div_le_self _ _) (by omega)) 1 (by decide)]
  refine xeq (m / 2 ^ i % 2) 1 e rfl (by omega) (by decide) (fun c => q1 ((tb_div m i).mp c)) (fun c => q0 ?_)
  cases hb : m.testBit i with
  | false => rfl
  | true => exact absurd ((tb_div m i).mpr hb) c
end BI
