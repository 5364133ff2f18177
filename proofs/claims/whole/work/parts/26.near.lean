/-! What is HEARD, the class's side: places within reach; SAYINGS heard. -/
/-! Ahead of a branch: tests of written numbers that stand between (the kernel wants them said). -/
theorem xl1 {l : Prop} [Decidable l] (hl : ¬ l) {c : Prop} [Decidable c] {A B : Prop} (h : if c then A else B) : if l then False else (if c then A else B) := xelse hl h
theorem xl2 {l : Prop} [Decidable l] (hl : ¬ l) {c : Prop} [Decidable c] {A B : Prop} (h : if c then A else B) : if l then False else (if l then False else (if c then A else B)) := xelse hl (xelse hl h)
theorem xr1 {l : Prop} [Decidable l] (hl : l) {c : Prop} [Decidable c] {A B : Prop} (h : if c then A else B) : if l then (if c then A else B) else False := xif hl h
def anyN (P : Nat → Bool) : Nat → Bool
  | 0 => false
  | n + 1 => anyN P n || P n
theorem anyN_iff (P : Nat → Bool) : ∀ n, anyN P n = true ↔ ∃ i, i < n ∧ P i = true
  | 0 => by simp [anyN]
  | n + 1 => by
    rw [anyN, Bool.or_eq_true, anyN_iff P n]
    constructor
    · rintro (⟨i, hi, h⟩ | h)
      · exact ⟨i, by omega, h⟩
      · exact ⟨n, by omega, h⟩
    · rintro ⟨i, hi, h⟩
      by_cases e : i = n
      · subst e; exact Or.inr h
      · exact Or.inl ⟨i, by omega, h⟩
theorem ff_step (P : Nat → Bool) {n i : Nat} (h : i < n) : ff P (n - i) i = if P i = true then some i else ff P (n - (i + 1)) (i + 1) := by
  rw [show n - i = (n - (i + 1)) + 1 by omega]; rfl
theorem ff_end (P : Nat → Bool) {n i : Nat} (h : n ≤ i) : ff P (n - i) i = none := by
  rw [show n - i = 0 by omega]; rfl
theorem ff_some {P : Nat → Bool} : ∀ {k i j : Nat}, ff P k i = some j → i ≤ j ∧ j < i + k ∧ P j = true ∧ ∀ t, i ≤ t → t < j → P t = false
  | 0, i, j, h => by cases h
  | k + 1, i, j, h => by
    rw [ff] at h
    by_cases c : P i = true
    · rw [if_pos c] at h
      cases h
      exact ⟨Nat.le_refl _, by omega, c, fun t h1 h2 => by omega⟩
    · rw [if_neg c] at h
      obtain ⟨h1, h2, h3, h4⟩ := ff_some h
      refine ⟨by omega, by omega, h3, fun t ht1 ht2 => ?_⟩
      by_cases e : t = i
      · subst e; simpa using c
      · exact h4 t (by omega) ht2
theorem ff_none {P : Nat → Bool} : ∀ {k i : Nat}, ff P k i = none → ∀ t, i ≤ t → t < i + k → P t = false
  | 0, i, h, t, h1, h2 => by omega
  | k + 1, i, h, t, h1, h2 => by
    rw [ff] at h
    by_cases c : P i = true
    · rw [if_pos c] at h; cases h
    · rw [if_neg c] at h
      by_cases e : t = i
      · subst e; simpa using c
      · exact ff_none h t (by omega) (by omega)
theorem bts_or (P P' : Nat → Bool) (n : Nat) : bts P n ||| bts P' n = bts (fun i => P i || P' i) n := bts_eq (fun i => by
  rw [Nat.testBit_or, tb_bts, tb_bts]
  cases decide (i < n) <;> simp)
theorem bts_one (a n : Nat) (h : a < n) : 2 ^ a = bts (fun q => decide (a = q)) n := bts_eq (fun i => by
  rw [tb_p]
  by_cases e : a = i
  · subst e; simp [h]
  · simp [e])
theorem bts31 (P : Nat → Bool) {n : Nat} (hn : n ≤ 30) : bts P n < 2 ^ 31 := Nat.lt_of_lt_of_le (bts_lt P n) (Nat.le_of_lt (wb_lt2 (show n < 31 by omega)))
theorem bts62 (P : Nat → Bool) {n : Nat} (hn : n ≤ 61) : bts P n < 2 ^ 62 := Nat.lt_of_lt_of_le (bts_lt P n) (Nat.le_of_lt (wb_lt2 (show n < 62 by omega)))
def sprI (N : Nat → Int32) (S : Nat → Bool) (i : Nat) : Nat → Bool := fun q => S q || anyN (fun c => S c && wy N c q) i
/-- a set, and what is one step off -/
def spr (N : Nat → Int32) (S : Nat → Bool) : Nat → Bool := sprI N S 10
/-- PLACES within k steps of a -/
def rc (N : Nat → Int32) (a : Nat) : Nat → Nat → Bool
  | 0 => fun q => decide (a = q)
  | k + 1 => spr N (rc N a k)
/-- a SAYING's own reach -/
def arS (N : Nat → Int32) (s : Nat) : Nat → Bool := rc N (sF N s 3) (reachK (sF N s 0) (sF N s 2))
def haS (N : Nat → Int32) (s p D : Nat) : Bool := hdS N s D && arS N s p
theorem reachK_le (k l : Nat) (h : l ≤ 9) : reachK k l ≤ 5 := by
  unfold reachK
  split
  · omega
  · split <;> omega
theorem lastK_le (k l : Nat) (h : l ≤ 20) : lastK k l ≤ 40 := by
  unfold lastK
  split
  · omega
  · split
    · omega
    · split <;> omega
theorem rs_le (N : Nat → Int32) (hw : Wf N) (a : Nat) : ∀ k, a + k ≤ 100 → rs N a k ≤ k
  | 0, _ => Nat.le_refl _
  | k + 1, h => by
    have := rs_le N hw a k (by omega)
    have := (hw.2.2.2.1 (a + k) (by omega)).2
    show rs N a k + vN N (4 + (a + k)) ≤ k + 1
    omega
section CN
variable {G : xG} {d : Nat} {M : xM} {N : Nat → Int32} {Q : Option Value → xH → Prop}
theorem c_spread (hp : PV 1 N M) {x : Int32} (S : Nat → Bool) (hx : x = nI (bts S 10)) (q : ∀ r, r = nI (bts (spr N S) 10) → Q (some (.int r)) (HH M)) : CW G (d + 1) jX7_spread [.ref 2, .int x] (HH M) Q := by
  subst hx
  have hnear : ∀ p, p < 10 → M 3 p = nI (bts (wy N p) 10) := hp.2.2.2.2.2.1
  refine CW_wp fX7_spread rfl rfl rfl ?_
  have key : ∀ (i : Nat), i ≤ 10 → Ev G (d + 1) jX7_spread 4 [some (.ref 2), some (.int (nI (bts S 10))), some (.int (nI (bts (sprI N S i) 10))), some (.int (nI i))] [] (HH M) 0 0 Q := by
    intro i hi
    refine dn (E := fun i => Ev G (d + 1) jX7_spread 4 [some (.ref 2), some (.int (nI (bts S 10))), some (.int (nI (bts (sprI N S i) 10))), some (.int (nI i))] [] (HH M) 0 0 Q) hi ?_ (fun i _ h2 ih => ?_)
    · refine Ev_wp fX7_spread rfl ?_
      exact q _ rfl
    · refine Ev_wp fX7_spread rfl ?_
      refine xelse (nI_ge h2 (by decide)) ?_
      rw [nI_succ] at ih
      have hb := bts31 S (show 10 ≤ 30 by decide)
      refine c_isIn (bts S 10) i (nI_l hb) (by omega) rfl (by omega) (fun c => ?_) (fun c => ?_)
      · rw [tb_bts] at c
        simp [h2] at c
        refine xelse (nin (n := 10) h2 (by decide)) ?_
        rw [nI_clamp (by omega), hnear i h2]
        have e3 : nI (bts (sprI N S i) 10) ||| nI (bts (wy N i) 10) = nI (bts (sprI N S (i + 1)) 10) := by
          rw [nx_or, bts_or]
          congr 1
          exact bts_congr (fun j _ => by simp [sprI, anyN, c, Bool.or_assoc])
        rw [← e3] at ih
        exact ih
      · rw [tb_bts] at c
        simp [h2] at c
        rw [show sprI N S (i + 1) = sprI N S i by funext j; simp [sprI, anyN, c]] at ih
        exact ih
  have h0 := key 0 (by decide)
  rw [show sprI N S 0 = S by funext j; simp [sprI, anyN]] at h0
  exact h0
theorem c_within (hp : PV 1 N M) {x y : Int32} (a k : Nat) (hx : x = nI a) (hy : y = nI k) (ha : a < 10) (hk : k < 100) (q : ∀ r, r = nI (bts (rc N a k) 10) → Q (some (.int r)) (HH M)) : CW G (d + 2) jX7_within [.ref 2, .int x, .int y] (HH M) Q := by
  subst hx hy
  refine CW_wp fX7_within rfl rfl rfl ?_
  have key : Ev G (d + 2) jX7_within 7 [some (.ref 2), none, some (.int (nI k)), some (.int (nI (bts (rc N a 0) 10))), some (.int (nI 0))] [] (HH M) 0 0 Q := by
    refine dn (E := fun i => Ev G (d + 2) jX7_within 7 [some (.ref 2), none, some (.int (nI k)), some (.int (nI (bts (rc N a i) 10))), some (.int (nI i))] [] (HH M) 0 0 Q) (Nat.zero_le k) ?_ (fun i _ h2 ih => ?_)
    · refine Ev_wp fX7_within rfl ?_
      exact xif (by exact Int32.le_refl _) (by exact q _ rfl)
    · refine Ev_wp fX7_within rfl ?_
      refine xelse (nI_ge h2 (by omega)) ?_
      rw [nI_succ] at ih
      refine c_spread hp (rc N a i) rfl (fun r hr => ?_)
      subst hr
      exact ih
  rw [show bts (rc N a 0) 10 = 2 ^ a from (bts_one a 10 ha).symm, ← nx_shl a (by omega)] at key
  exact key
/-- the fewest steps -/
def fwS (N : Nat → Int32) (a b : Nat) : Option Nat := ff (fun k => rc N a k b) 10 0
theorem c_fewest (hp : PV 1 N M) (a b : Nat) (ha : a < 10) (hb : b < 10) (qs : ∀ k, fwS N a b = some k → Q (some (.int (nI k))) (HH M)) (qn : fwS N a b = none → Q (some (.int (-1))) (HH M)) : CW G (d + 2) jX7_fewestBetween [.ref 2, .int (nI a), .int (nI b)] (HH M) Q := by
  refine CW_wp fX7_fewestBetween rfl rfl rfl ?_
  have key : ff (fun k => rc N a k b) (10 - 0) 0 = fwS N a b → Ev G (d + 2) jX7_fewestBetween 7 [some (.ref 2), none, some (.int (nI b)), some (.int (nI (bts (rc N a 0) 10))), some (.int (nI 0))] [] (HH M) 0 0 Q := by
    refine dn (E := fun i => ff (fun k => rc N a k b) (10 - i) i = fwS N a b → Ev G (d + 2) jX7_fewestBetween 7 [some (.ref 2), none, some (.int (nI b)), some (.int (nI (bts (rc N a i) 10))), some (.int (nI i))] [] (HH M) 0 0 Q) (Nat.zero_le 10) (fun hf => ?_) (fun i _ h2 ih hf => ?_)
    · refine Ev_wp fX7_fewestBetween rfl ?_
      exact qn hf.symm
    · refine Ev_wp fX7_fewestBetween rfl ?_
      refine xelse (nI_ge h2 (by decide)) ?_
      rw [nI_succ] at ih
      rw [ff_step _ h2] at hf
      have hb2 := bts31 (rc N a i) (show 10 ≤ 30 by decide)
      refine c_isIn (bts (rc N a i) 10) b (nI_l hb2) (by omega) rfl (by omega) (fun c => ?_) (fun c => ?_)
      · rw [tb_bts] at c
        simp [hb] at c
        rw [if_pos c] at hf
        exact qs i hf.symm
      · rw [tb_bts] at c
        simp [hb] at c
        rw [if_neg (by simp [c])] at hf
        refine c_spread hp (rc N a i) rfl (fun r hr => ?_)
        subst hr
        exact ih hf
  have k2 := key rfl
  rw [show bts (rc N a 0) 10 = 2 ^ a from (bts_one a 10 ha).symm, ← nx_shl a (by omega)] at k2
  exact k2
theorem c_reachOf (hp : PV 1 N M) (hw : Wf N) {x : Int32} (s : Nat) (hs : s < sN N) (hx : x = nI s) (q : ∀ r, r = nI (reachK (sF N s 0) (sF N s 2)) → Q (some (.int r)) (HH M)) : CW G (d + 1) jX3_reachOf [.ref 4, .int x] (HH M) Q := by
  subst hx
  have hn := hw.2.1.2
  have wa := hw.2.2.2.2.2.2.2.1 s hs
  have ra : ∀ f, f < 6 → M (5 + f) s = nI (sF N s f) := fun f hf => hp.say hw hs hf
  refine CW_wp fX3_reachOf rfl rfl rfl ?_
  refine xelse (nin (n := 40) (by omega) (by decide)) ?_
  refine xelse (nin (n := 40) (by omega) (by decide)) ?_
  rw [nI_clamp (by omega)]
  exact c_reachK (HH M) (sF N s 0) (sF N s 2) wa.1 wa.2.2.2.1 (ra 0 (by decide)) (ra 2 (by decide)) q
theorem c_lastsOf (hp : PV 1 N M) (hw : Wf N) {x : Int32} (s : Nat) (hs : s < sN N) (hx : x = nI s) (q : ∀ r, r = nI (lastK (sF N s 0) (vN N 2)) → Q (some (.int r)) (HH M)) : CW G (d + 1) jX5_lastsOf [.ref 1, .int x] (HH M) Q := by
  subst hx
  have hn := hw.2.1.2
  have wa := hw.2.2.2.2.2.2.2.1 s hs
  have ra : ∀ f, f < 6 → M (5 + f) s = nI (sF N s f) := fun f hf => hp.say hw hs hf
  refine CW_wp fX5_lastsOf rfl rfl rfl ?_
  refine xelse (nin (n := 40) (by omega) (by decide)) ?_
  rw [nI_clamp (by omega)]
  exact c_lasting (HH M) (sF N s 0) (vN N 2) wa.1 hw.2.2.1.2 (ra 0 (by decide)) (hp.2.2.1.trans hw.2.2.1.1) q
theorem c_around (hp : PV 1 N M) (hw : Wf N) {x : Int32} (s : Nat) (hs : s < sN N) (hx : x = nI s) (q : ∀ r, r = nI (bts (arS N s) 10) → Q (some (.int r)) (HH M)) : CW G (d + 3) jX5_around [.ref 1, .int x] (HH M) Q := by
  subst hx
  have hn := hw.2.1.2
  have wa := hw.2.2.2.2.2.2.2.1 s hs
  have ra : ∀ f, f < 6 → M (5 + f) s = nI (sF N s f) := fun f hf => hp.say hw hs hf
  refine CW_wp fX5_around rfl rfl rfl ?_
  refine xelse (nin (n := 40) (by omega) (by decide)) ?_
  rw [nI_clamp (by omega)]
  refine c_reachOf hp hw s hs rfl (fun r hr => ?_)
  have := reachK_le (sF N s 0) (sF N s 2) wa.2.2.2.1
  exact c_within hp (sF N s 3) (reachK (sF N s 0) (sF N s 2)) (ra 3 (by decide)) hr wa.2.2.2.2.1 (by omega) q
theorem c_firstOver (hp : PV 1 N M) (hw : Wf N) {x : Int32} (s : Nat) (hs : s < sN N) (hx : x = nI s) (qs : ∀ k, foS N s = some k → Q (some (.int (nI k))) (HH M)) (qn : foS N s = none → Q (some (.int (-1))) (HH M)) : CW G (d + 2) jX3_firstOver [.ref 4, .int x] (HH M) Q := by
  subst hx
  have hn := hw.2.1.2
  have e1 : M 4 0 = nI (sN N) := hp.2.1.trans hw.2.1.1
  refine CW_wp fX3_firstOver rfl rfl rfl ?_
  have key : ff (ovS N s) (sN N - (s + 1)) (s + 1) = foS N s → Ev G (d + 2) jX3_firstOver 4 [some (.ref 4), some (.int (nI s)), some (.int (nI (s + 1)))] [] (HH M) 0 0 Q := by
    refine dn (E := fun i => ff (ovS N s) (sN N - i) i = foS N s → Ev G (d + 2) jX3_firstOver 4 [some (.ref 4), some (.int (nI s)), some (.int (nI i))] [] (HH M) 0 0 Q) (show s + 1 ≤ sN N by omega) (fun hf => ?_) (fun i h1 h2 ih hf => ?_)
    · refine Ev_wp fX3_firstOver rfl ?_
      exact xif (by rw [e1]; exact Int32.le_refl _) (by exact qn (by rw [← hf, ff_end _ (Nat.le_refl _)]))
    · refine Ev_wp fX3_firstOver rfl ?_
      refine xelse (by rw [e1]; exact nI_ge h2 (by omega)) ?_
      rw [nI_succ] at ih
      rw [ff_step _ h2] at hf
      refine c_isOver hp hw i s h2 hs rfl rfl (fun c => ?_) (fun c => ?_)
      · rw [if_pos c] at hf
        exact qs i hf.symm
      · rw [if_neg (by simp [c])] at hf
        exact ih hf
  rw [nI_succ] at key
  exact key rfl
theorem foS_lt {s k : Nat} (h : foS N s = some k) : s < k ∧ k < sN N := by
  obtain ⟨h1, h2, h3, h4⟩ := ff_some h
  omega
theorem c_isHeard (hp : PV 1 N M) (hw : Wf N) {x y : Int32} (s D : Nat) (hs : s < sN N) (hD : D ≤ 100) (hx : x = nI s) (hy : y = nI D) (q1 : hdS N s D = true → Q (some (.int 1)) (HH M)) (q0 : hdS N s D = false → Q (some (.int 0)) (HH M)) : CW G (d + 3) jX5_isHeard [.ref 1, .int x, .int y] (HH M) Q := by
  subst hx hy
  have hn := hw.2.1.2
  have wa := hw.2.2.2.2.2.2.2.1 s hs
  have w0 := hw.1.2
  have ra : ∀ f, f < 6 → M (5 + f) s = nI (sF N s f) := fun f hf => hp.say hw hs hf
  refine CW_wp fX5_isHeard rfl rfl rfl ?_
  refine xelse (nin (n := 40) (by omega) (by decide)) ?_
  rw [nI_clamp (by omega)]
  refine xle D (sF N s 5) rfl (ra 5 (by decide)) (by omega) (by omega) (fun c => q0 (by simp [hdS, show ¬ sF N s 5 < D by omega])) (fun c => ?_)
  refine c_isDay _ (fun p hp' e => ?_) (fun e => q0 (by simp [hdS, show ¬ D < 100 from fun z => e D z rfl]))
  rw [nI_eq (by omega) (by omega)] at e
  subst e
  refine c_ageOf hp hw (sF N s 5) D (ra 5 (by decide)) rfl (by omega) (by omega) (fun r hr => ?_)
  refine c_lastsOf hp hw s hs rfl (fun r2 hr2 => ?_)
  have h5 := rs_le N hw (sF N s 5 + 1) (D - sF N s 5) (by omega)
  have h6 := lastK_le (sF N s 0) (vN N 2) hw.2.2.1.2.2
  refine xle _ _ hr hr2 (by omega) (by omega) (fun c2 => ?_) (fun c2 => q0 (by simp [hdS, ageS, show ¬ (D - sF N s 5 + rs N (sF N s 5 + 1) (D - sF N s 5) ≤ lastK (sF N s 0) (vN N 2)) by omega]))
  refine c_firstOver hp hw s hs rfl (fun k hk => ?_) (fun hk => ?_)
  · have hk2 := foS_lt hk
    refine xelse (nI_pos (by omega)) ?_
    refine xelse (nin (n := 40) (by omega) (by decide)) ?_
    rw [nI_clamp (by omega)]
    have wk := hw.2.2.2.2.2.2.2.1 k hk2.2
    refine xle (sF N k 5) D (hp.say hw hk2.2 (show 5 < 6 by decide)) rfl (by omega) (by omega) (fun c3 => q0 ?_) (fun c3 => q1 ?_)
    · simp [hdS, hk, show ¬ D < sF N k 5 by omega]
    · simp [hdS, hk, ageS, c, c2, c3, hp']
  · exact q1 (by simp [hdS, hk, ageS, c, c2, hp'])
theorem c_isHeardAt (hp : PV 1 N M) (hw : Wf N) {x y z : Int32} (s p D : Nat) (hs : s < sN N) (hpl : p < 10) (hD : D ≤ 100) (hx : x = nI s) (hz : z = nI p) (hy : y = nI D) (q1 : haS N s p D = true → Q (some (.int 1)) (HH M)) (q0 : haS N s p D = false → Q (some (.int 0)) (HH M)) : CW G (d + 4) jX5_isHeardAt [.ref 1, .int x, .int z, .int y] (HH M) Q := by
  subst hx hy hz
  refine CW_wp fX5_isHeardAt rfl rfl rfl ?_
  refine c_isHeard hp hw s D hs hD rfl rfl (fun c => ?_) (fun c => q0 (by simp [haS, c]))
  refine c_around hp hw s hs rfl (fun r hr => ?_)
  subst hr
  have hb := bts31 (arS N s) (show 10 ≤ 30 by decide)
  refine c_isIn (bts (arS N s) 10) p (nI_l hb) (by omega) rfl (by omega) (fun c2 => ?_) (fun c2 => ?_)
  · rw [tb_bts] at c2
    simp [hpl] at c2
    exact q1 (by simp [haS, c, c2])
  · rw [tb_bts] at c2
    simp [hpl] at c2
    exact q0 (by simp [haS, c2])
/-- HEARD at a PLACE, in an HOUR -/
def htS (N : Nat → Int32) (p D t s : Nat) : Bool := decide (sF N s 4 = t) && haS N s p D
theorem c_heardSet (hp : PV 1 N M) (hw : Wf N) {x z : Int32} (p D t : Nat) (hpl : p < 10) (hD : D < 100) (ht : t < 24) (hz : z = nI p) (hx : x = nI (100 * D + t)) (q : ∀ r, r = lN (bts (htS N p D t) (sN N)) → Q (some (.long r)) (HH M)) : CW G (d + 5) jX5_heardSet [.ref 1, .int z, .int x] (HH M) Q := by
  subst hx hz
  have hn := hw.2.1.2
  have e1 : M 4 0 = nI (sN N) := hp.2.1.trans hw.2.1.1
  obtain ⟨w1, w2⟩ := when_div D t hD ht
  refine CW_wp fX5_heardSet rfl rfl rfl ?_
  have key : Ev G (d + 5) jX5_heardSet 5 [some (.ref 1), some (.int (nI p)), some (.int (nI (100 * D + t))), some (.long (lN (bts (htS N p D t) 0))), none, some (.int (nI 0))] [] (HH M) 0 0 Q := by
    refine dn (E := fun i => Ev G (d + 5) jX5_heardSet 5 [some (.ref 1), some (.int (nI p)), some (.int (nI (100 * D + t))), some (.long (lN (bts (htS N p D t) i))), none, some (.int (nI i))] [] (HH M) 0 0 Q) (Nat.zero_le (sN N)) ?_ (fun i _ h2 ih => ?_)
    · refine Ev_wp fX5_heardSet rfl ?_
      exact xif (by rw [e1]; exact Int32.le_refl _) (by exact q _ rfl)
    · refine Ev_wp fX5_heardSet rfl ?_
      refine xelse (by rw [e1]; exact nI_ge h2 (by omega)) ?_
      rw [nI_succ, bts] at ih
      refine xelse (nin (n := 40) (by omega) (by decide)) ?_
      rw [nI_clamp (by omega)]
      have wa := hw.2.2.2.2.2.2.2.1 i h2
      refine c_hourOf _ ?_
      rw [w2]
      refine xeq (sF N i 4) t (hp.say hw h2 (show 4 < 6 by decide)) rfl (by omega) (by omega) (fun c => ?_) (fun c => ?_)
      · refine c_dayOf _ ?_
        rw [w1]
        refine c_isHeardAt hp hw i p D h2 hpl (by omega) rfl rfl rfl (fun c2 => ?_) (fun c2 => ?_)
        · rw [if_pos (by simp [htS, c, c2])] at ih
          have b1 := bts62 (htS N p D t) (show i ≤ 61 by omega)
          have b2 := wb_lt2 (show i < 64 by omega)
          have e3 : lN (bts (htS N p D t) i) ||| (1 : Int64) <<< ((nI i).toInt64 &&& 63) = lN (bts (htS N p D t) i ||| 2 ^ i) := by
            rw [show (1 : Int64) = lN 1 from rfl, wb_shl 1 (by omega), Nat.one_mul, wb_or (by omega) b2]
          rw [← e3] at ih
          exact ih
        · rw [if_neg (by simp [htS, c2]), Nat.or_zero] at ih
          exact ih
      · rw [if_neg (by simp [htS, c]), Nat.or_zero] at ih
        exact ih
  exact key
end CN
