/-! THE TAPE read: the pure reading, TOKEN by TOKEN. -/
/-- a byte's sort -/
def bsT (c : Nat) : Nat := if 97 ≤ c ∧ c ≤ 122 then 1 else if 48 ≤ c ∧ c ≤ 57 then 2 else if c = 32 then 4 else if c = 59 then 3 else 5
def tyT (b : Nat → Nat) (T i : Nat) : Nat := if i < T then bsT (b i) else 0
theorem bsT_pos (c : Nat) : 1 ≤ bsT c ∧ bsT c ≤ 5 := by
  unfold bsT
  split
  · omega
  · split
    · omega
    · split
      · omega
      · split <;> omega
theorem tyT_le (b : Nat → Nat) (T i : Nat) : tyT b T i ≤ 5 := by
  unfold tyT
  split
  · exact (bsT_pos _).2
  · omega
theorem tyT_0 {b : Nat → Nat} {T i : Nat} : tyT b T i = 0 ↔ T ≤ i := by
  unfold tyT
  split
  · have := (bsT_pos (b i)).1
    omega
  · omega
/-- the first from e on, of n, that is not of the sort t -/
def skT (b : Nat → Nat) (T t : Nat) : Nat → Nat → Nat
  | 0, e => e
  | n + 1, e => if tyT b T e = t then skT b T t n (e + 1) else e
theorem sk_le (b : Nat → Nat) (T t : Nat) : ∀ n e, e ≤ skT b T t n e
  | 0, e => Nat.le_refl _
  | n + 1, e => by
    rw [skT]
    split
    · exact Nat.le_trans (Nat.le_succ e) (sk_le b T t n (e + 1))
    · exact Nat.le_refl _
theorem sk_T (b : Nat → Nat) (T t : Nat) (ht : t ≠ 0) : ∀ n e, e ≤ T → skT b T t n e ≤ T
  | 0, e, h => h
  | n + 1, e, h => by
    rw [skT]
    split
    · rename_i c
      refine sk_T b T t ht n (e + 1) ?_
      have : ¬ T ≤ e := fun z => ht (by rw [← c]; exact tyT_0.mpr z)
      omega
    · exact h
theorem sk_in (b : Nat → Nat) (T t : Nat) : ∀ n e i, e ≤ i → i < skT b T t n e → tyT b T i = t
  | 0, e, i, h1, h2 => by rw [skT] at h2; omega
  | n + 1, e, i, h1, h2 => by
    rw [skT] at h2
    by_cases c : tyT b T e = t
    · rw [if_pos c] at h2
      by_cases z : i = e
      · subst z; exact c
      · exact sk_in b T t n (e + 1) i (by omega) h2
    · rw [if_neg c] at h2; omega
theorem sk_end (b : Nat → Nat) (T t : Nat) (ht : t ≠ 0) : ∀ n e, T ≤ n + e → tyT b T (skT b T t n e) ≠ t
  | 0, e, h => by
    rw [skT, tyT_0.mpr (by omega)]
    exact Ne.symm ht
  | n + 1, e, h => by
    rw [skT]
    split
    · exact sk_end b T t ht n (e + 1) (by omega)
    · rename_i c; exact c
def stT (b : Nat → Nat) (T e : Nat) : Nat := skT b T 4 T e
def tkT (b : Nat → Nat) (T e : Nat) : Nat := tyT b T (stT b T e)
def enT (b : Nat → Nat) (T e : Nat) : Nat := if tkT b T e = 0 then stT b T e else if tkT b T e = 1 ∨ tkT b T e = 2 then skT b T (tkT b T e) T (stT b T e + 1) else stT b T e + 1
/-- the value of n digits from s on, as the class reckons it -/
def vaT (b : Nat → Nat) (s : Nat) : Nat → Nat
  | 0 => 0
  | n + 1 => if 1000 ≤ vaT b s n then 1000 else 10 * vaT b s n + b (s + n) - 48
def vT (b : Nat → Nat) (T e : Nat) : Nat := if tkT b T e = 2 then vaT b (stT b T e) (enT b T e - stT b T e) else 0
theorem st_b (b : Nat → Nat) (T e : Nat) (h : e ≤ T) : e ≤ stT b T e ∧ stT b T e ≤ T := ⟨sk_le b T 4 T e, sk_T b T 4 (by decide) T e h⟩
theorem en_b (b : Nat → Nat) (T e : Nat) (h : e ≤ T) : stT b T e ≤ enT b T e ∧ enT b T e ≤ T ∧ (tkT b T e ≠ 0 → stT b T e < enT b T e) := by
  obtain ⟨h1, h2⟩ := st_b b T e h
  unfold enT
  by_cases c : tkT b T e = 0
  · rw [if_pos c]
    exact ⟨Nat.le_refl _, h2, fun z => absurd c z⟩
  · rw [if_neg c]
    have h3 : stT b T e < T := by
      have : ¬ T ≤ stT b T e := fun z => c (tyT_0.mpr z)
      omega
    by_cases c2 : tkT b T e = 1 ∨ tkT b T e = 2
    · rw [if_pos c2]
      have h4 := sk_le b T (tkT b T e) T (stT b T e + 1)
      have h5 := sk_T b T (tkT b T e) c T (stT b T e + 1) (by omega)
      exact ⟨by omega, h5, fun _ => by omega⟩
    · rw [if_neg c2]
      exact ⟨by omega, by omega, fun _ => by omega⟩
theorem va_le (b : Nat → Nat) (hb : ∀ i, b i < 256) (s : Nat) : ∀ n, vaT b s n ≤ 10240
  | 0 => Nat.zero_le _
  | n + 1 => by
    have h1 := va_le b hb s n
    have h2 := hb (s + n)
    rw [vaT]
    split <;> omega
theorem v_le (b : Nat → Nat) (hb : ∀ i, b i < 256) (T e : Nat) : vT b T e ≤ 10240 := by
  unfold vT
  split
  · exact va_le b hb _ _
  · omega
theorem tk_le (b : Nat → Nat) (T e : Nat) : tkT b T e ≤ 5 := tyT_le b T _
theorem tk_4 (b : Nat → Nat) (T e : Nat) : tkT b T e ≠ 4 := sk_end b T 4 (by decide) T e (by omega)
theorem ty_2 {b : Nat → Nat} {T i : Nat} (h : tyT b T i = 2) : i < T ∧ 48 ≤ b i ∧ b i ≤ 57 := by
  unfold tyT at h
  split at h
  · rename_i c
    unfold bsT at h
    split at h
    · cases h
    · split at h
      · rename_i c2
        exact ⟨c, c2⟩
      · split at h
        · cases h
        · split at h <;> cases h
  · cases h
