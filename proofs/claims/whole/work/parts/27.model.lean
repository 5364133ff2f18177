/-! The model's questions. -/
def wh (N : Nat → Int32) (p t : Nat) : Int32 := N (444 + (24 * p + t))
theorem wh_c {N : Nat → Int32} (hw : Wf N) {p t : Nat} (hp : p < 6) (ht : t < 24) : wh N p t = -1 ∨ ∃ a, a < 10 ∧ wh N p t = nI a := hw.2.2.2.2.2.2.2.2.2.1 (24 * p + t) (by omega)
/-- how many are so -/
def cn (P : Nat → Bool) : Nat → Nat
  | 0 => 0
  | n + 1 => cn P n + (if P n = true then 1 else 0)
theorem cn_le (P : Nat → Bool) : ∀ n, cn P n ≤ n
  | 0 => Nat.le_refl _
  | n + 1 => by
    have := cn_le P n
    rw [cn]
    split <;> omega
theorem cn_congr {P P' : Nat → Bool} : ∀ {n : Nat}, (∀ i, i < n → P i = P' i) → cn P n = cn P' n
  | 0, _ => rfl
  | n + 1, h => by rw [cn, cn, cn_congr (fun i hi => h i (by omega)), h n (by omega)]
/-- a PERSON HEARS a SAYING -/
def heS (N : Nat → Int32) (p s D : Nat) : Bool := decide (wh N p (sF N s 4) ≠ -1) && (hdS N s D && arS N s (wh N p (sF N s 4)).toNatClampNeg)
theorem w_no2 {x : Int32} {a b : Nat} (ha : a < 2 ^ 31) (hb : b < 2 ^ 31) (h : ∀ k, a ≤ k → k ≤ b → x ≠ nI k) : ¬ (nI a ≤ x ∧ x ≤ nI b) := fun ⟨h1, h2⟩ => by
  have h3 : (0 : Int32) ≤ nI a := nI_pos' ha
  have h0 : ¬ x < 0 := fun z => Int32.not_le.mpr z (Int32.le_trans h3 h1)
  obtain ⟨j, hj, rfl⟩ := nI_of h0
  rw [nI_leI ha hj] at h1
  rw [nI_leI hj hb] at h2
  exact h j h1 h2 rfl
theorem last6 {v : Int32} {kp : Nat} (hv : v = nI kp) (hkp : 1 ≤ kp ∧ kp ≤ 20) : (if (1 : Int32) < v - 3 then v - 3 else 1) = nI (lastK 6 kp) := by
  subst hv
  match kp, hkp.1, hkp.2 with
  | 1, _, _ => decide +kernel
  | 2, _, _ => decide +kernel
  | 3, _, _ => decide +kernel
  | n + 4, _, h2 =>
    rw [show (3 : Int32) = nI 3 from rfl, pk_sub (by omega), show (1 : Int32) = nI 1 from rfl]
    rw [show lastK 6 (n + 4) = n + 1 by
      show max 1 (n + 4 - 3) = n + 1
      omega, show n + 4 - 3 = n + 1 by omega]
    by_cases h : nI 1 < nI (n + 1)
    · rw [if_pos h]
    · rw [if_neg h]
      rw [nI_ltI (by omega) (by omega)] at h
      rw [show n = 0 by omega]
section MQ
variable {G : xG} {d : Nat} {M : xM} {N : Nat → Int32} {Q : Option Value → xH → Prop}
theorem m_within_t {h : xH} {x lo hi : Int32} (k a b : Nat) (hx : x = nI k) (hlo : lo = nI a) (hhi : hi = nI b) (h1 : a ≤ k) (h2 : k ≤ b) (hb : b < 2 ^ 31) (q : Q (some (.int 1)) h) : CW G d jX9_within [.int x, .int lo, .int hi] h Q := by
  subst hx hlo hhi
  exact m_within _ _ _ (fun _ _ => q) (fun c => absurd ⟨nI_le h1 (by omega), nI_le h2 hb⟩ c)
theorem m_within_f {h : xH} {x lo hi : Int32} (a b : Nat) (hlo : lo = nI a) (hhi : hi = nI b) (ha : a < 2 ^ 31) (hb : b < 2 ^ 31) (hx : ∀ k, a ≤ k → k ≤ b → x ≠ nI k) (q : Q (some (.int 0)) h) : CW G d jX9_within [.int x, .int lo, .int hi] h Q := by
  subst hlo hhi
  exact m_within _ _ _ (fun c1 c2 => absurd ⟨c1, c2⟩ (w_no2 ha hb hx)) (fun _ => q)
theorem m_isPlace_t {h : xH} {x : Int32} (p : Nat) (hp : p < 10) (hx : x = nI p) (q : Q (some (.int 1)) h) : CW G (d + 1) jX9_isPlace [.int x] h Q := m_isPlace x (fun _ _ _ => q) (fun z => absurd hx (z p hp))
theorem m_isPlace_f {h : xH} {x : Int32} (hx : ∀ p, p < 10 → x ≠ nI p) (q : Q (some (.int 0)) h) : CW G (d + 1) jX9_isPlace [.int x] h Q := m_isPlace x (fun p hp e => absurd e (hx p hp)) (fun _ => q)
theorem m_isDay_t {h : xH} {x : Int32} (p : Nat) (hp : p < 100) (hx : x = nI p) (q : Q (some (.int 1)) h) : CW G (d + 1) jX9_isDay [.int x] h Q := m_isDay x (fun _ _ _ => q) (fun z => absurd hx (z p hp))
theorem m_isDay_f {h : xH} {x : Int32} (hx : ∀ p, p < 100 → x ≠ nI p) (q : Q (some (.int 0)) h) : CW G (d + 1) jX9_isDay [.int x] h Q := m_isDay x (fun p hp e => absurd e (hx p hp)) (fun _ => q)
theorem m_isHour_t {h : xH} {x : Int32} (p : Nat) (hp : p < 24) (hx : x = nI p) (q : Q (some (.int 1)) h) : CW G (d + 1) jX9_isHour [.int x] h Q := m_isHour x (fun _ _ _ => q) (fun z => absurd hx (z p hp))
theorem m_isHour_f {h : xH} {x : Int32} (hx : ∀ p, p < 24 → x ≠ nI p) (q : Q (some (.int 0)) h) : CW G (d + 1) jX9_isHour [.int x] h Q := m_isHour x (fun p hp e => absurd e (hx p hp)) (fun _ => q)
theorem m_isPerson_t {h : xH} {x : Int32} (p : Nat) (hp : p < 6) (hx : x = nI p) (q : Q (some (.int 1)) h) : CW G (d + 1) jX9_isPerson [.int x] h Q := m_isPerson x (fun _ _ _ => q) (fun z => absurd hx (z p hp))
theorem m_isPerson_f {h : xH} {x : Int32} (hx : ∀ p, p < 6 → x ≠ nI p) (q : Q (some (.int 0)) h) : CW G (d + 1) jX9_isPerson [.int x] h Q := m_isPerson x (fun p hp e => absurd e (hx p hp)) (fun _ => q)
theorem m_isSheet_t {h : xH} {x : Int32} (p : Nat) (hp : p < 4) (hx : x = nI p) (q : Q (some (.int 1)) h) : CW G (d + 1) jX9_isSheet [.int x] h Q := m_isSheet x (fun _ _ _ => q) (fun z => absurd hx (z p hp))
theorem m_isSheet_f {h : xH} {x : Int32} (hx : ∀ p, p < 4 → x ≠ nI p) (q : Q (some (.int 0)) h) : CW G (d + 1) jX9_isSheet [.int x] h Q := m_isSheet x (fun p hp e => absurd e (hx p hp)) (fun _ => q)
theorem m_isWhen_t {h : xH} {x : Int32} (D t : Nat) (hD : D < 100) (ht : t < 24) (hx : x = nI (100 * D + t)) (q : Q (some (.int 1)) h) : CW G (d + 2) jX9_isWhen [.int x] h Q := m_isWhen x (fun _ _ _ _ _ => q) (fun z => absurd hx (z D t hD ht))
theorem m_isWhen_f {h : xH} {x : Int32} (hx : ∀ D t, D < 100 → t < 24 → x ≠ nI (100 * D + t)) (q : Q (some (.int 0)) h) : CW G (d + 2) jX9_isWhen [.int x] h Q := m_isWhen x (fun D t hD ht e => absurd e (hx D t hD ht)) (fun _ => q)
theorem m_isSaying_t (hn : M 60 = N) (hw : Wf N) {x : Int32} (s : Nat) (hs : s < sN N) (hx : x = nI s) (q : Q (some (.int 1)) (HH M)) : CW G (d + 1) jX9_isSaying [.ref 59, .int x] (HH M) Q := by
  have h40 := hw.2.1.2
  have e1 : M 60 1 = nI (sN N) := by rw [hn]; exact hw.2.1.1
  refine CW_wp fX9_isSaying rfl rfl rfl ?_
  exact m_within_t s 0 (sN N - 1) hx rfl (isb e1 rfl (by omega)) (Nat.zero_le _) (by omega) (by omega) q
theorem m_isSaying_f (hn : M 60 = N) (hw : Wf N) {x : Int32} (hx : ∀ s, s < sN N → x ≠ nI s) (q : Q (some (.int 0)) (HH M)) : CW G (d + 1) jX9_isSaying [.ref 59, .int x] (HH M) Q := by
  have h40 := hw.2.1.2
  have e1 : M 60 1 = nI (sN N) := by rw [hn]; exact hw.2.1.1
  refine CW_wp fX9_isSaying rfl rfl rfl ?_
  rcases Nat.eq_zero_or_pos (sN N) with z | z
  · refine m_within _ _ _ (fun c1 c2 => ?_) (fun _ => q)
    have c3 : x ≤ M 60 1 - 1 := c2
    rw [e1, z] at c3
    exact absurd (Int32.le_trans c1 c3) (by decide)
  · exact m_within_f 0 (sN N - 1) rfl (isb e1 rfl (by omega)) (by omega) (by omega) (fun k _ hk => hx k (by omega)) q
theorem m_of (hn : M 60 = N) (hw : Wf N) {x y : Int32} (s f : Nat) (hs : s < sN N) (hf : f < 6) (hx : x = nI s) (hy : y = nI f) (q : ∀ r, r = nI (sF N s f) → Q (some (.int r)) (HH M)) : CW G d jX9_of [.ref 59, .int x, .int y] (HH M) Q := by
  have h40 := hw.2.1.2
  refine CW_wp fX9_of rfl rfl rfl ?_
  refine xix (n := 598) (204 + 6 * s + f) (ia (ia rfl (im rfl hx)) hy) (by omega) (by decide) (fun e => ?_)
  rw [e, hn]
  exact q _ (hw.2.2.2.2.2.2.1 s hs f hf)
theorem m_isWay (hn : M 60 = N) (hw : Wf N) {x y : Int32} (a b : Nat) (ha : a < 10) (hb : b < 10) (hx : x = nI a) (hy : y = nI b) (q1 : wy N a b = true → Q (some (.int 1)) (HH M)) (q0 : wy N a b = false → Q (some (.int 0)) (HH M)) : CW G d jX9_isWay [.ref 59, .int x, .int y] (HH M) Q := by
  have hv := hw.2.2.2.2.1 a b ha hb
  refine CW_wp fX9_isWay rfl rfl rfl ?_
  refine xix (n := 598) (104 + 10 * a + b) (ia (ia rfl (im rfl hx)) hy) (by omega) (by decide) (fun e => ?_)
  rw [e, hn]
  refine xeq (vN N (104 + 10 * a + b)) 1 hv.1 rfl (by omega) (by decide) (fun c => q1 (by simp [wy, c])) (fun c => q0 (by simp [wy, c]))
theorem m_lasts (hn : M 60 = N) (hw : Wf N) {x : Int32} (s : Nat) (hs : s < sN N) (hx : x = nI s) (q : ∀ r, r = nI (lastK (sF N s 0) (vN N 2)) → Q (some (.int r)) (HH M)) : CW G (d + 1) jX9_lasts [.ref 59, .int x] (HH M) Q := by
  have e2 : M 60 2 = nI (vN N 2) := by rw [hn]; exact hw.2.2.1.1
  refine CW_wp fX9_lasts rfl rfl rfl ?_
  refine m_of hn hw s 0 hs (by decide) hx rfl (fun r hr => ?_)
  have hk := (hw.2.2.2.2.2.2.2.1 s hs).1
  have hkp := hw.2.2.1.2
  generalize vN N 2 = kp at hkp q e2
  generalize sF N s 0 = k at hr hk q
  match k, hk, hr, q with
  | 0, _, hr, q => subst hr; exact q _ e2
  | 1, _, hr, q => subst hr; exact q _ (im rfl e2)
  | 2, _, hr, q => subst hr; exact q _ e2
  | 3, _, hr, q => subst hr; exact q _ e2
  | 4, _, hr, q => subst hr; exact q _ (im rfl e2)
  | 5, _, hr, q => subst hr; exact q _ (ia e2 rfl)
  | 6, _, hr, q => subst hr; exact q _ (last6 e2 hkp)
  | k + 7, hk, _, _ => exact absurd hk (by omega)
theorem m_reach (hn : M 60 = N) (hw : Wf N) {x : Int32} (s : Nat) (hs : s < sN N) (hx : x = nI s) (q : ∀ r, r = nI (reachK (sF N s 0) (sF N s 2)) → Q (some (.int r)) (HH M)) : CW G (d + 1) jX9_reach [.ref 59, .int x] (HH M) Q := by
  have wa := hw.2.2.2.2.2.2.2.1 s hs
  refine CW_wp fX9_reach rfl rfl rfl ?_
  refine m_of hn hw s 0 hs (by decide) hx rfl (fun r hr => ?_)
  refine m_of hn hw s 2 hs (by decide) hx rfl (fun r2 hr2 => ?_)
  have e : r2 / 3 = nI (sF N s 2 / 3) := idv hr2 rfl (by omega) (by decide) (by decide)
  refine xeq (sF N s 0) 2 hr rfl (by omega) (by decide) (fun c => q _ (by simp [reachK, c]; rfl)) (fun c => ?_)
  refine xeq (sF N s 0) 6 hr rfl (by omega) (by decide) (fun c2 => q _ (by simp [reachK, c2]; rfl)) (fun c2 => ?_)
  refine xeq (sF N s 0) 4 hr rfl (by omega) (by decide) (fun c3 => q _ ?_) (fun c3 => q _ ?_)
  · rw [e, show reachK (sF N s 0) (sF N s 2) = sF N s 2 / 3 + 2 by simp [reachK, c3]]
    exact nI_add _ 2
  · rw [e, show reachK (sF N s 0) (sF N s 2) = sF N s 2 / 3 by simp [reachK, c, c2, c3]]
theorem m_ageOf (hn : M 60 = N) (hw : Wf N) {x y : Int32} (s D : Nat) (hs : s < sN N) (hD : D < 100) (hl : sF N s 5 ≤ D) (hx : x = nI s) (hy : y = nI D) (q : ∀ r, r = nI (ageS N s D) → Q (some (.int r)) (HH M)) : CW G (d + 1) jX9_ageOf [.ref 59, .int x, .int y] (HH M) Q := by
  subst hx hy
  refine CW_wp fX9_ageOf rfl rfl rfl ?_
  refine m_of hn hw s 5 hs (by decide) rfl rfl (fun r hr => ?_)
  refine m_of hn hw s 5 hs (by decide) rfl rfl (fun r2 hr2 => ?_)
  subst hr hr2
  have key : Ev G (d + 1) jX9_ageOf 19 [some (.ref 59), none, some (.int (nI D)), some (.int (nI (D - sF N s 5 + rs N (sF N s 5 + 1) (sF N s 5 + 1 - (sF N s 5 + 1))))), some (.int (nI (sF N s 5 + 1)))] [] (HH M) 0 0 Q := by
    refine dn (E := fun i => Ev G (d + 1) jX9_ageOf 19 [some (.ref 59), none, some (.int (nI D)), some (.int (nI (D - sF N s 5 + rs N (sF N s 5 + 1) (i - (sF N s 5 + 1))))), some (.int (nI i))] [] (HH M) 0 0 Q) (show sF N s 5 + 1 ≤ D + 1 by omega) ?_ (fun i h1 h2 ih => ?_)
    · refine Ev_wp fX9_ageOf rfl ?_
      exact xif (by exact nI_lt (by omega) (by omega)) (by exact q _ (by rw [ageS, show D + 1 - (sF N s 5 + 1) = D - sF N s 5 by omega]))
    · refine Ev_wp fX9_ageOf rfl ?_
      refine xelse (nI_nlt (by omega) (by omega)) ?_
      refine xix (n := 598) (4 + i) (ia rfl rfl) (by omega) (by decide) (fun e => ?_)
      rw [e, hn, (hw.2.2.2.1 i (by omega)).1]
      rw [nI_succ, show i + 1 - (sF N s 5 + 1) = (i - (sF N s 5 + 1)) + 1 by omega, rs, show sF N s 5 + 1 + (i - (sF N s 5 + 1)) = i by omega, ← Nat.add_assoc, ← nI_add] at ih
      exact ih
  have e0 : nI (D - sF N s 5 + rs N (sF N s 5 + 1) (sF N s 5 + 1 - (sF N s 5 + 1))) = nI D - nI (sF N s 5) := by
    rw [Nat.sub_self, pk_sub hl]; rfl
  rw [e0, nI_succ] at key
  exact key
theorem m_isOver (hn : M 60 = N) (hw : Wf N) {x y : Int32} (a b : Nat) (ha : a < sN N) (hb : b < sN N) (hx : x = nI a) (hy : y = nI b) (q1 : ovS N a b = true → Q (some (.int 1)) (HH M)) (q0 : ovS N a b = false → Q (some (.int 0)) (HH M)) : CW G (d + 1) jX9_isOver [.ref 59, .int x, .int y] (HH M) Q := by
  have wa := hw.2.2.2.2.2.2.2.1 a ha
  have wb := hw.2.2.2.2.2.2.2.1 b hb
  refine CW_wp fX9_isOver rfl rfl rfl ?_
  refine m_of hn hw a 3 ha (by decide) hx rfl (fun r1 h1 => ?_)
  refine m_of hn hw b 3 hb (by decide) hy rfl (fun r2 h2 => ?_)
  refine xeq _ _ h1 h2 (by omega) (by omega) (fun c1 => ?_) (fun c1 => q0 (by simp [ovS, c1]))
  refine m_of hn hw a 4 ha (by decide) hx rfl (fun r3 h3 => ?_)
  refine m_of hn hw b 4 hb (by decide) hy rfl (fun r4 h4 => ?_)
  refine xeq _ _ h3 h4 (by omega) (by omega) (fun c2 => ?_) (fun c2 => q0 (by simp [ovS, c2]))
  refine m_of hn hw b 0 hb (by decide) hy rfl (fun k hk => ?_)
  refine xeq _ 3 hk rfl (by omega) (by decide) (fun k3 => ?_) (fun k3 => ?_)
  · refine m_of hn hw a 0 ha (by decide) hx rfl (fun k2 hk2 => ?_)
    refine xeq _ 5 hk2 rfl (by omega) (by decide) (fun y1 => ?_) (fun y1 => q1 (by simp [ovS, c1, c2, k3, y1]))
    exact xeq _ 5 hk rfl (by omega) (by decide) (fun y2 => absurd (k3.symm.trans y2) (by decide)) (fun y2 => q0 (by simp [ovS, c1, c2, k3, y1]))
  refine xeq _ 5 hk rfl (by omega) (by decide) (fun k5 => ?_) (fun k5 => ?_)
  · refine m_of hn hw a 0 ha (by decide) hx rfl (fun k2 hk2 => ?_)
    refine xeq _ 5 hk2 rfl (by omega) (by decide) (fun y1 => ?_) (fun y1 => q1 (by simp [ovS, c1, c2, k3, k5, y1]))
    exact xeq _ 5 hk rfl (by omega) (by decide) (fun y2 => q1 (by simp [ovS, c1, c2, k3, k5, y1])) (fun y2 => absurd k5 y2)
  refine xeq _ 2 hk rfl (by omega) (by decide) (fun k2 => q0 (by simp [ovS, k3, k5, k2])) (fun k2 => ?_)
  refine xeq _ 6 hk rfl (by omega) (by decide) (fun k6 => q0 (by simp [ovS, k3, k5, k6])) (fun k6 => ?_)
  refine m_of hn hw b 2 hb (by decide) hy rfl (fun l1 hl1 => ?_)
  refine m_of hn hw a 2 ha (by decide) hx rfl (fun l2 hl2 => ?_)
  refine xlt _ _ hl1 hl2 (by omega) (by omega) (fun cl => q0 ?_) (fun cl => ?_)
  · simp [ovS, k3, k5, show ¬ sF N a 2 ≤ sF N b 2 by omega]
  · refine m_of hn hw a 0 ha (by decide) hx rfl (fun k2' hk2' => ?_)
    refine xeq _ 5 hk2' rfl (by omega) (by decide) (fun y1 => ?_) (fun y1 => q1 (by simp [ovS, c1, c2, k2, k6, cl, y1]))
    exact xeq _ 5 hk rfl (by omega) (by decide) (fun y2 => absurd y2 k5) (fun y2 => q0 (by simp [ovS, y1, k5]))
theorem m_overOf (hn : M 60 = N) (hw : Wf N) {x : Int32} (s : Nat) (hs : s < sN N) (hx : x = nI s) (qs : ∀ k, foS N s = some k → Q (some (.int (nI k))) (HH M)) (qn : foS N s = none → Q (some (.int (-1))) (HH M)) : CW G (d + 2) jX9_overOf [.ref 59, .int x] (HH M) Q := by
  subst hx
  have h40 := hw.2.1.2
  have e1 : M 60 1 = nI (sN N) := by rw [hn]; exact hw.2.1.1
  have hge : M 60 1 ≤ nI (sN N) := by rw [e1]; exact Int32.le_refl _
  have hlt : ∀ i, i < sN N → ¬ M 60 1 ≤ nI i := fun i hi => by rw [e1]; exact nI_ge hi (by omega)
  refine CW_wp fX9_overOf rfl rfl rfl ?_
  have key : ff (ovS N s) (sN N - (s + 1)) (s + 1) = foS N s → Ev G (d + 2) jX9_overOf 4 [some (.ref 59), some (.int (nI s)), some (.int (nI (s + 1)))] [] (HH M) 0 0 Q := by
    refine dn (E := fun i => ff (ovS N s) (sN N - i) i = foS N s → Ev G (d + 2) jX9_overOf 4 [some (.ref 59), some (.int (nI s)), some (.int (nI i))] [] (HH M) 0 0 Q) (show s + 1 ≤ sN N by omega) (fun hf => ?_) (fun i h1 h2 ih hf => ?_)
    · refine Ev_wp fX9_overOf rfl ?_
      exact xif hge (by exact qn (by rw [← hf, ff_end _ (Nat.le_refl _)]))
    · refine Ev_wp fX9_overOf rfl ?_
      refine xelse (hlt i h2) ?_
      rw [nI_succ] at ih
      rw [ff_step _ h2] at hf
      refine m_isOver hn hw s i hs h2 rfl rfl (fun c => ?_) (fun c => ?_)
      · rw [if_pos c] at hf
        exact qs i hf.symm
      · rw [if_neg (by simp [c])] at hf
        exact ih hf
  rw [nI_succ] at key
  exact key rfl
theorem m_isHeard (hn : M 60 = N) (hw : Wf N) {x y : Int32} (s D : Nat) (hs : s < sN N) (hD : D < 100) (hx : x = nI s) (hy : y = nI D) (q1 : hdS N s D = true → Q (some (.int 1)) (HH M)) (q0 : hdS N s D = false → Q (some (.int 0)) (HH M)) : CW G (d + 3) jX9_isHeard [.ref 59, .int x, .int y] (HH M) Q := by
  have wa := hw.2.2.2.2.2.2.2.1 s hs
  have w0 := hw.1.2
  have h40 := hw.2.1.2
  refine CW_wp fX9_isHeard rfl rfl rfl ?_
  refine m_of hn hw s 5 hs (by decide) hx rfl (fun r1 h1 => ?_)
  refine xle _ _ hy h1 (by omega) (by omega) (fun c => q0 (by simp [hdS, show ¬ sF N s 5 < D by omega])) (fun c => ?_)
  refine m_ageOf hn hw s D hs hD (by omega) hx hy (fun r2 h2 => ?_)
  refine m_lasts hn hw s hs hx (fun r3 h3 => ?_)
  have h5 := rs_le N hw (sF N s 5 + 1) (D - sF N s 5) (by omega)
  have h6 := lastK_le (sF N s 0) (vN N 2) hw.2.2.1.2.2
  have h7 : ageS N s D = D - sF N s 5 + rs N (sF N s 5 + 1) (D - sF N s 5) := rfl
  refine xle _ _ h2 h3 (by omega) (by omega) (fun c2 => ?_) (fun c2 => q0 (by simp [hdS, show ¬ (ageS N s D ≤ lastK (sF N s 0) (vN N 2)) by omega]))
  refine m_overOf hn hw s hs hx (fun k hk => ?_) (fun hk => ?_)
  · have hk2 := foS_lt hk
    have wk := hw.2.2.2.2.2.2.2.1 k hk2.2
    refine xelse (nI_pos (by omega)) ?_
    refine m_of hn hw k 5 hk2.2 (by decide) rfl rfl (fun r4 h4 => ?_)
    refine xle _ _ h4 hy (by omega) (by omega) (fun c3 => q0 ?_) (fun c3 => q1 ?_)
    · simp [hdS, hk, show ¬ D < sF N k 5 by omega]
    · simp [hdS, hk, c, c2, c3, hD]
  · exact q1 (by simp [hdS, hk, c, c2, hD])
theorem m_whereIs (hn : M 60 = N) {x y : Int32} (p t : Nat) (hp : p < 6) (ht : t < 24) (hx : x = nI p) (hy : y = nI t) (q : Q (some (.int (wh N p t))) (HH M)) : CW G d jX9_whereIs [.ref 59, .int x, .int y] (HH M) Q := by
  refine CW_wp fX9_whereIs rfl rfl rfl ?_
  refine xix (n := 598) (444 + 24 * p + t) (ia (ia rfl (im rfl hx)) hy) (by omega) (by decide) (fun e => ?_)
  rw [e, hn, Nat.add_assoc]
  exact q
theorem m_manyAt (hn : M 60 = N) {x y : Int32} (t : Nat) (ht : t < 24) (hy : y = nI t) (q : Q (some (.int (nI (cn (fun p => decide (wh N p t = x)) 6)))) (HH M)) : CW G (d + 1) jX9_manyAt [.ref 59, .int x, .int y] (HH M) Q := by
  refine CW_wp fX9_manyAt rfl rfl rfl ?_
  refine dn (E := fun i => Ev G (d + 1) jX9_manyAt 5 [some (.ref 59), some (.int x), some (.int y), some (.int (nI (cn (fun p => decide (wh N p t = x)) i))), some (.int (nI i))] [] (HH M) 0 0 Q) (Nat.zero_le 6) ?_ (fun i _ h2 ih => ?_)
  · refine Ev_wp fX9_manyAt rfl ?_
    exact q
  · refine Ev_wp fX9_manyAt rfl ?_
    refine xelse (nI_ge h2 (by decide)) ?_
    refine m_whereIs hn i t (by omega) ht rfl hy ?_
    rw [nI_succ, cn] at ih
    refine xite (fun c => ?_) (fun c => ?_)
    · rw [if_pos (by simp [c]), nI_succ] at ih
      exact ih
    · rw [if_neg (by simp [c]), ← nI_add] at ih
      exact ih
end MQ
