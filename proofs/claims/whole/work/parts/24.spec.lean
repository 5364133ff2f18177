/-! THE STATE: the model's row N of 598 ints is the mathematical state; what it says, in natural numbers. -/
def vN (N : Nat → Int32) (j : Nat) : Nat := (N j).toNatClampNeg
def sF (N : Nat → Int32) (s f : Nat) : Nat := vN N (204 + 6 * s + f)
/-- how many SAYINGS -/
def sN (N : Nat → Int32) : Nat := vN N 1
def Wf (N : Nat → Int32) : Prop :=
  (N 0 = nI (vN N 0) ∧ vN N 0 < 100) ∧ (N 1 = nI (sN N) ∧ sN N ≤ 40) ∧ (N 2 = nI (vN N 2) ∧ 1 ≤ vN N 2 ∧ vN N 2 ≤ 20) ∧
  (∀ j, j < 100 → N (4 + j) = nI (vN N (4 + j)) ∧ vN N (4 + j) ≤ 1) ∧
  (∀ a b, a < 10 → b < 10 → N (104 + 10 * a + b) = nI (vN N (104 + 10 * a + b)) ∧ vN N (104 + 10 * a + b) ≤ 1 ∧ vN N (104 + 10 * a + b) = vN N (104 + 10 * b + a)) ∧ (∀ a, a < 10 → vN N (104 + 10 * a + a) = 0) ∧
  (∀ s, s < sN N → ∀ f, f < 6 → N (204 + 6 * s + f) = nI (sF N s f)) ∧
  (∀ s, s < sN N → sF N s 0 < 7 ∧ sF N s 1 < 16 ∧ 1 ≤ sF N s 2 ∧ sF N s 2 ≤ 9 ∧ sF N s 3 < 10 ∧ sF N s 4 < 24 ∧ sF N s 5 ≤ vN N 0) ∧ (∀ s t, s ≤ t → t < sN N → sF N s 5 ≤ sF N t 5) ∧
  (∀ q, q < 144 → N (444 + q) = -1 ∨ ∃ p, p < 10 ∧ N (444 + q) = nI p) ∧ (∀ j, j < 10 → N (588 + j) = -1 ∨ ∃ s, s < sN N ∧ N (588 + j) = nI s)
/-- there is a WAY -/
def wy (N : Nat → Int32) (p q : Nat) : Bool := decide (vN N (104 + 10 * p + q) = 1)
/-- a Valley of the class, its cells from b on, holds the state N -/
def PV (b : Nat) (N : Nat → Int32) (M : xM) : Prop :=
  M b 5 = N 0 ∧ M (b + 3) 0 = N 1 ∧ M b 6 = N 2 ∧ M b 7 = N 3 ∧ (∀ j, j < 100 → M (b + 12) j = N (4 + j)) ∧ (∀ p, p < 10 → M (b + 2) p = nI (bts (wy N p) 10)) ∧
  (∀ s, s < sN N → ∀ f, f < 6 → M (b + 4 + f) s = N (204 + 6 * s + f)) ∧ (∀ q, q < 144 → M (b + 11) q = N (444 + q)) ∧ (∀ j, j < 10 → M (b + 13) j = N (588 + j))
/-- RAIN on k DAYS from a on -/
def rs (N : Nat → Int32) (a : Nat) : Nat → Nat
  | 0 => 0
  | k + 1 => rs N a k + vN N (4 + (a + k))
def ageS (N : Nat → Int32) (s D : Nat) : Nat := (D - sF N s 5) + rs N (sF N s 5 + 1) (D - sF N s 5)
def lastK (k keep : Nat) : Nat := if k = 1 ∨ k = 4 then 2 * keep else if k = 5 then keep + 5 else if k = 6 then max 1 (keep - 3) else keep
def reachK (k loud : Nat) : Nat := if k = 2 ∨ k = 6 then 0 else if k = 4 then loud / 3 + 2 else loud / 3
/-- b is said OVER a (told behind it) -/
def ovS (N : Nat → Int32) (a b : Nat) : Bool := decide (sF N a 3 = sF N b 3) && decide (sF N a 4 = sF N b 4) && (decide (sF N b 0 = 3) || decide (sF N b 0 = 5) || (decide (sF N b 0 ≠ 2) && decide (sF N b 0 ≠ 6) && decide (sF N a 2 ≤ sF N b 2))) && (decide (sF N a 0 ≠ 5) || decide (sF N b 0 = 5))
/-- the first one from i on, of k, that is so -/
def ff (P : Nat → Bool) : Nat → Nat → Option Nat
  | 0, _ => none
  | k + 1, i => if P i = true then some i else ff P k (i + 1)
/-- the first SAYING that is said OVER s -/
def foS (N : Nat → Int32) (s : Nat) : Option Nat := ff (ovS N s) (sN N - (s + 1)) (s + 1)
def hdS (N : Nat → Int32) (s D : Nat) : Bool := decide (sF N s 5 < D) && decide (D < 100) && decide (ageS N s D ≤ lastK (sF N s 0) (vN N 2)) && (match foS N s with
  | none => true
  | some b => decide (D < sF N b 5))
section CV
variable {G : xG} {d : Nat} {M : xM} {N : Nat → Int32} {Q : Option Value → xH → Prop}
theorem PV.rain {b : Nat} (hp : PV b N M) (hw : Wf N) {j : Nat} (hj : j < 100) : M (b + 12) j = nI (vN N (4 + j)) := by
  rw [hp.2.2.2.2.1 j hj]; exact (hw.2.2.2.1 j hj).1
theorem PV.say {b : Nat} (hp : PV b N M) (hw : Wf N) {s f : Nat} (hs : s < sN N) (hf : f < 6) : M (b + 4 + f) s = nI (sF N s f) := by
  rw [hp.2.2.2.2.2.2.1 s hs f hf]; exact hw.2.2.2.2.2.2.1 s hs f hf
theorem l_rainy (hp : PV 1 N M) (hw : Wf N) (e a : Nat) (he : e < 100) (q : ∀ r, r = nI (rs N a (e + 1 - a)) → Q (some (.int r)) (HH M)) :
    ∀ (k i : Nat) (x r : Int32), i + k = e + 1 → a ≤ i → x = nI i → r = nI (rs N a (i - a)) → Ev G d jX5_rainyDays 5 [some (.ref 1), none, some (.int (nI e)), some (.int r), some (.int x)] [] (HH M) 0 0 Q := by
  intro k
  induction k with
  | zero =>
    intro i x r hi ha hx hr
    subst hx
    refine Ev_wp fX5_rainyDays rfl ?_
    refine xif (nI_lt (by omega) (by omega)) ?_
    exact q r (by rw [hr, show i = e + 1 by omega])
  | succ k ih =>
    intro i x r hi ha hx hr
    subst hx
    refine Ev_wp fX5_rainyDays rfl ?_
    refine xelse (nI_nlt (by omega) (by omega)) ?_
    refine xelse (nin (by omega) (by decide)) ?_
    rw [nI_clamp (by omega), show M 13 i = nI (vN N (4 + i)) from hp.rain hw (show i < 100 by omega)]
    refine ih (i + 1) _ _ (by omega) (by omega) (nI_succ i).symm ?_
    rw [hr, nI_add, show i + 1 - a = (i - a) + 1 by omega]
    show _ = nI (rs N a (i - a) + vN N (4 + (a + (i - a))))
    rw [show a + (i - a) = i by omega]
theorem c_rainy (hp : PV 1 N M) (hw : Wf N) {x y : Int32} (a e : Nat) (hx : x = nI a) (hy : y = nI e) (he : e < 100) (ha : a ≤ e + 1) (q : ∀ r, r = nI (rs N a (e + 1 - a)) → Q (some (.int r)) (HH M)) : CW G d jX5_rainyDays [.ref 1, .int x, .int y] (HH M) Q := by
  subst hx hy
  refine CW_wp fX5_rainyDays rfl rfl rfl ?_
  exact l_rainy hp hw e a he q (e + 1 - a) a _ _ (by omega) (Nat.le_refl _) rfl (by rw [Nat.sub_self]; rfl)
theorem c_ageOf (hp : PV 1 N M) (hw : Wf N) {x y : Int32} (a e : Nat) (hx : x = nI a) (hy : y = nI e) (he : e < 100) (ha : a ≤ e) (q : ∀ r, r = nI (e - a + rs N (a + 1) (e - a)) → Q (some (.int r)) (HH M)) : CW G (d + 1) jX5_ageOf [.ref 1, .int x, .int y] (HH M) Q := by
  subst hx hy
  refine CW_wp fX5_ageOf rfl rfl rfl ?_
  refine c_rainy hp hw (a + 1) e (nI_succ a).symm rfl he (by omega) (fun r hr => ?_)
  refine q _ ?_
  rw [hr, ← nI_add, ← pk_sub ha, show e + 1 - (a + 1) = e - a by omega]
theorem c_lasting (h : xH) {x y : Int32} (k kp : Nat) (hk : k < 7) (hkp : 1 ≤ kp ∧ kp ≤ 20) (hx : x = nI k) (hy : y = nI kp) (q : ∀ r, r = nI (lastK k kp) → Q (some (.int r)) h) : CW G d jX0_lasting [.int x, .int y] h Q := by
  subst hx hy
  match k, hk, q with
  | 0, _, q => exact CW_wp fX0_lasting rfl rfl rfl (q _ rfl)
  | 1, _, q => exact CW_wp fX0_lasting rfl rfl rfl (q _ (pk_mul 2 kp))
  | 2, _, q => exact CW_wp fX0_lasting rfl rfl rfl (q _ rfl)
  | 3, _, q => exact CW_wp fX0_lasting rfl rfl rfl (q _ rfl)
  | 4, _, q => exact CW_wp fX0_lasting rfl rfl rfl (q _ (pk_mul 2 kp))
  | 5, _, q => exact CW_wp fX0_lasting rfl rfl rfl (q _ (nI_add kp 5))
  | 6, _, q =>
    refine CW_wp fX0_lasting rfl rfl rfl (q _ ?_)
    have h1 : ∀ kp, 1 ≤ kp ∧ kp ≤ 20 → (if (1 : Int32) < nI kp - 3 then nI kp - 3 else 1) = nI (lastK 6 kp) := by
      intro kp ⟨h1, h2⟩
      match kp, h1, h2 with
      | 1, _, _ => decide +kernel
      | 2, _, _ => decide +kernel
      | 3, _, _ => decide +kernel
      | n + 4, _, h2 =>
        rw [show (3 : Int32) = nI 3 from rfl, pk_sub (by omega), show (1 : Int32) = nI 1 from rfl]
        rw [show lastK 6 (n + 4) = n + 1 by
          show max 1 (n + 4 - 3) = n + 1
          omega, show n + 4 - 3 = n + 1 by omega]
        by_cases h : nI 1 < nI (n + 1)
        · rw [if_pos h]
        · rw [if_neg h]
          rw [nI_ltI (by omega) (by omega)] at h
          rw [show n = 0 by omega]
    exact h1 kp hkp
  | k + 7, hk, _ => exact absurd hk (by omega)
theorem c_reachK (h : xH) {x y : Int32} (k l : Nat) (hk : k < 7) (hl : l ≤ 9) (hx : x = nI k) (hy : y = nI l) (q : ∀ r, r = nI (reachK k l) → Q (some (.int r)) h) : CW G d jX0_reachOf [.int x, .int y] h Q := by
  subst hx hy
  have e : nI l / 3 = nI (l / 3) := by rw [show (3 : Int32) = nI 3 from rfl, pk_div (by omega) (by omega) (by omega)]
  match k, hk, q with
  | 0, _, q => exact CW_wp fX0_reachOf rfl rfl rfl (q _ e)
  | 1, _, q => exact CW_wp fX0_reachOf rfl rfl rfl (q _ e)
  | 2, _, q => exact CW_wp fX0_reachOf rfl rfl rfl (q _ rfl)
  | 3, _, q => exact CW_wp fX0_reachOf rfl rfl rfl (q _ e)
  | 4, _, q => exact CW_wp fX0_reachOf rfl rfl rfl (q _ (by rw [e]; exact nI_add (l / 3) 2))
  | 5, _, q => exact CW_wp fX0_reachOf rfl rfl rfl (q _ e)
  | 6, _, q => exact CW_wp fX0_reachOf rfl rfl rfl (q _ rfl)
  | k + 7, hk, _ => exact absurd hk (by omega)
end CV
