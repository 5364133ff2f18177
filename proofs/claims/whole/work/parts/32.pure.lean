/-! What the answers of class and model have in common: pure. -/
theorem cn_mono {P P' : Nat → Bool} : ∀ {n : Nat}, (∀ i, i < n → P i = true → P' i = true) → cn P n ≤ cn P' n ∧ (cn P n = cn P' n → ∀ i, i < n → P' i = true → P i = true)
  | 0, _ => ⟨Nat.le_refl _, fun _ i hi => absurd hi (Nat.not_lt_zero _)⟩
  | n + 1, h => by
    obtain ⟨h1, h2⟩ := cn_mono (n := n) (fun i hi => h i (by omega))
    have h3 := h n (Nat.lt_succ_self n)
    rw [cn, cn]
    by_cases c : P n = true
    · rw [if_pos c, if_pos (h3 c)]
      refine ⟨by omega, fun e i hi hp => ?_⟩
      by_cases z : i = n
      · subst z; exact c
      · exact h2 (by omega) i (by omega) hp
    · rw [if_neg c]
      by_cases c2 : P' n = true
      · rw [if_pos c2]
        exact ⟨by omega, fun e => by omega⟩
      · rw [if_neg c2]
        refine ⟨by omega, fun e i hi hp => ?_⟩
        by_cases z : i = n
        · subst z; exact absurd hp c2
        · exact h2 (by omega) i (by omega) hp
theorem cn_all {P : Nat → Bool} : ∀ {n : Nat}, cn P n = n → ∀ i, i < n → P i = true
  | 0, _, i, hi => absurd hi (Nat.not_lt_zero _)
  | n + 1, h, i, hi => by
    have h1 := cn_le P n
    rw [cn] at h
    by_cases c : P n = true
    · rw [if_pos c] at h
      by_cases z : i = n
      · subst z; exact c
      · exact cn_all (n := n) (by omega) i (by omega)
    · rw [if_neg c] at h; omega
theorem cn_pos (P : Nat → Bool) : ∀ n, 0 < cn P n ↔ anyN P n = true
  | 0 => by simp [cn, anyN]
  | n + 1 => by
    rw [cn, anyN, Bool.or_eq_true, ← cn_pos P n]
    by_cases c : P n = true
    · simp [c]
    · simp [c]
theorem rc_stab {N : Nat → Int32} {a k : Nat} (h : ∀ j, j < 10 → rc N a (k + 1) j = true → rc N a k j = true) : ∀ m j, j < 10 → rc N a (k + m) j = true → rc N a k j = true
  | 0, j, _, hr => hr
  | m + 1, j, hj, hr => by
    rcases (rc_s N a (k + m) j).mp hr with h2 | ⟨c, h2, h3, h4⟩
    · exact rc_stab h m j hj h2
    · exact h j hj ((rc_s N a k j).mpr (Or.inr ⟨c, h2, rc_stab h m c h2 h3, h4⟩))
theorem rc_grow (N : Nat → Int32) {a : Nat} (ha : a < 10) : ∀ k, (∃ t, t < k ∧ ∀ j, j < 10 → rc N a (t + 1) j = true → rc N a t j = true) ∨ k + 1 ≤ cn (rc N a k) 10
  | 0 => by
    right
    have : 0 < cn (rc N a 0) 10 := (cn_pos _ _).mpr ((anyN_iff _ _).mpr ⟨a, ha, decide_eq_true rfl⟩)
    omega
  | k + 1 => by
    rcases rc_grow N ha k with ⟨t, ht, h⟩ | h
    · exact Or.inl ⟨t, by omega, h⟩
    · obtain ⟨h1, h2⟩ := cn_mono (P := rc N a k) (P' := rc N a (k + 1)) (n := 10) (fun i _ hi => (rc_s N a k i).mpr (Or.inl hi))
      by_cases e : cn (rc N a k) 10 = cn (rc N a (k + 1)) 10
      · exact Or.inl ⟨k, by omega, h2 e⟩
      · right; omega
theorem rc9 {N : Nat → Int32} {a b m : Nat} (ha : a < 10) (hb : b < 10) (h : rc N a m b = true) : rc N a 9 b = true := by
  rcases rc_grow N ha 9 with ⟨t, ht, h2⟩ | h2
  · have h3 : rc N a (t + m) b = true := rc_mono h _ (by omega)
    exact rc_mono (rc_stab h2 m b hb h3) 9 (by omega)
  · have := cn_le (rc N a 9) 10
    exact cn_all (n := 10) (by omega) b hb
/-- the model's distance, from what the class finds -/
theorem far_some {N : Nat → Int32} {a b k D : Nat} (h : fwS N a b = some k) (hD : ∀ k, k < 99 → (D ≤ k ↔ rc N a k b = true)) : D = k := by
  obtain ⟨h1, h2, h3, h4⟩ := ff_some h
  have h5 := (hD k (by omega)).mpr h3
  by_cases z : D = k
  · exact z
  · have h6 := (hD D (by omega)).mp (Nat.le_refl _)
    rw [h4 D (by omega) (by omega)] at h6
    cases h6
theorem far_none {N : Nat → Int32} {a b D : Nat} (ha : a < 10) (hb : b < 10) (h : fwS N a b = none) (hD : ∀ k, k < 99 → (D ≤ k ↔ rc N a k b = true)) : 99 ≤ D := by
  by_cases z : 99 ≤ D
  · exact z
  · have h6 := rc9 ha hb ((hD D (by omega)).mp (Nat.le_refl _))
    rw [ff_none h 9 (by omega) (by omega)] at h6
    cases h6
theorem rs_add (N : Nat → Int32) (a : Nat) : ∀ (k m : Nat), rs N a k ≤ rs N a (k + m)
  | _, 0 => Nat.le_refl _
  | k, m + 1 => Nat.le_trans (rs_add N a k m) (by show rs N a (k + m) ≤ rs N a (k + m) + _; omega)
theorem hd_mono {N : Nat → Int32} {s D D' : Nat} (h : hdS N s D = true) (h1 : sF N s 5 < D') (h2 : D' ≤ D) : hdS N s D' = true := by
  unfold hdS at h ⊢
  simp only [Bool.and_eq_true, decide_eq_true_eq] at h ⊢
  obtain ⟨⟨⟨a1, a2⟩, a3⟩, a4⟩ := h
  refine ⟨⟨⟨h1, by omega⟩, ?_⟩, ?_⟩
  · have h3 := rs_add N (sF N s 5 + 1) (D' - sF N s 5) (D - D')
    rw [show D' - sF N s 5 + (D - D') = D - sF N s 5 by omega] at h3
    unfold ageS at a3 ⊢
    omega
  · cases hf : foS N s with
    | none => rfl
    | some b =>
      rw [hf] at a4
      simp only [decide_eq_true_eq] at a4 ⊢
      omega
theorem hd_lt {N : Nat → Int32} {s D : Nat} (h : hdS N s D = true) : sF N s 5 < D ∧ D < 100 := by
  unfold hdS at h
  simp only [Bool.and_eq_true, decide_eq_true_eq] at h
  exact ⟨h.1.1.1, h.1.1.2⟩
theorem he_hd {N : Nat → Int32} {p s D : Nat} (h : heS N p s D = true) : hdS N s D = true := by
  unfold heS at h
  simp only [Bool.and_eq_true] at h
  exact h.2.1
theorem he_mono {N : Nat → Int32} {p s D D' : Nat} (h : heS N p s D = true) (h1 : sF N s 5 < D') (h2 : D' ≤ D) : heS N p s D' = true := by
  have h3 := hd_mono (he_hd h) h1 h2
  unfold heS at h ⊢
  simp only [Bool.and_eq_true] at h ⊢
  exact ⟨h.1, h3, h.2.2⟩
theorem ts_out {x : Int32} {n : Nat} (hn : n + 1 < 2 ^ 31) (h : x < 0 ∨ nI (n + 1) ≤ x) : x.toInt < 0 ∨ (n : Int) < x.toInt := by
  rcases h with h | h
  · exact Or.inl (Int32.lt_iff_toInt_lt.mp h)
  · right
    have h2 := Int32.le_iff_toInt_le.mp h
    rw [nI_toInt hn] at h2
    omega
theorem nI_max (a b : Nat) (ha : a < 2 ^ 31) (hb : b < 2 ^ 31) : (if nI a < nI b then nI b else nI a) = nI (max a b) := by
  by_cases h : a < b
  · rw [if_pos (nI_lt h hb), Nat.max_eq_right (by omega)]
  · rw [if_neg (nI_nlt (by omega) ha), Nat.max_eq_left (by omega)]
/-- the words, the loudest of those that are so -/
def wdS (P : Nat → Bool) (f : Nat → Nat) : Nat → Nat
  | 0 => 0
  | n + 1 => if P n = true then wdS P f n ||| 2 ^ f n else wdS P f n
def mxS (P : Nat → Bool) (f : Nat → Nat) : Nat → Nat
  | 0 => 0
  | n + 1 => if P n = true then max (mxS P f n) (f n) else mxS P f n
theorem mxS_le {P : Nat → Bool} {f : Nat → Nat} {k : Nat} : ∀ {n : Nat}, (∀ i, i < n → f i ≤ k) → mxS P f n ≤ k
  | 0, _ => Nat.zero_le _
  | n + 1, h => by
    have h1 := mxS_le (P := P) (n := n) (fun i hi => h i (by omega))
    have h2 := h n (by omega)
    rw [mxS]
    split
    · omega
    · exact h1
/-- the i-th that is so -/
def wiS (P : Nat → Bool) (n i : Nat) : Option Nat := ff (fun s => P s && decide (cn P s = i)) n 0
theorem cn_s1 {P : Nat → Bool} {n : Nat} (h : P n = true) : cn P (n + 1) = cn P n + 1 := by rw [cn, if_pos h]
theorem cn_s0 {P : Nat → Bool} {n : Nat} (h : P n = false) : cn P (n + 1) = cn P n := by rw [cn, if_neg (by simp [h])]; rfl
theorem nI_lit (x : Int32) {n : Nat} (h : x = nI n) (hn : n < 2 ^ 31) : x.toInt = n := by rw [h, nI_toInt hn]
