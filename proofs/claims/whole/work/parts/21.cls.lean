/-! Small questions of numbers: the class's and the model's. -/
theorem xnin {x : Int32} {n : Nat} (h : vp_in x n) : ¬ (x < 0 ∨ n ≤ x.toNatClampNeg) := h
theorem nin {k n : Nat} (h : k < n) (hn : n < 2 ^ 31) : ¬ (nI k < 0 ∨ n ≤ (nI k).toNatClampNeg) := nI_in h hn
/-- a number is one from 0 to n - 1, or not -/
theorem n_ix (x : Int32) (n : Nat) (hn : n < 2 ^ 31) : (∃ p : Nat, p < n ∧ x = nI p) ∨ ((x < 0 ∨ nI n ≤ x) ∧ ∀ p : Nat, p < n → x ≠ nI p) := by
  rcases pk_ix x hn with h | h | ⟨j, h1, h2⟩
  · exact Or.inr ⟨Or.inl h, fun p hp e => by subst e; exact nI_pos (by omega) h⟩
  · exact Or.inr ⟨Or.inr h, fun p hp e => by subst e; exact nI_ge hp hn h⟩
  · exact Or.inl ⟨j, h1, h2⟩
section CL
variable {G : xG} {d : Nat} {h : xH} {Q : Option Value → xH → Prop}
theorem c_isPlace (x : Int32) (q1 : ∀ p : Nat, p < 10 → x = nI p → Q (some (.int 1)) h) (q0 : (∀ p : Nat, p < 10 → x ≠ nI p) → Q (some (.int 0)) h) : CW G d jX8_isPlace [.int x] h Q := by
  refine CW_wp fX8_isPlace rfl rfl rfl ?_
  rcases n_ix x 10 (by decide) with ⟨p, hp, rfl⟩ | ⟨hx, hn⟩
  · refine xelse (nI_pos (by omega)) ?_
    refine xelse (nI_ge hp (by decide)) ?_
    exact q1 p hp rfl
  · refine xite (fun c => q0 hn) (fun c => ?_)
    exact xif (hx.resolve_left c) (q0 hn)
theorem c_isDay (x : Int32) (q1 : ∀ p : Nat, p < 100 → x = nI p → Q (some (.int 1)) h) (q0 : (∀ p : Nat, p < 100 → x ≠ nI p) → Q (some (.int 0)) h) : CW G d jX8_isDay [.int x] h Q := by
  refine CW_wp fX8_isDay rfl rfl rfl ?_
  rcases n_ix x 100 (by decide) with ⟨p, hp, rfl⟩ | ⟨hx, hn⟩
  · refine xelse (nI_pos (by omega)) ?_
    refine xelse (nI_ge hp (by decide)) ?_
    exact q1 p hp rfl
  · refine xite (fun c => q0 hn) (fun c => ?_)
    exact xif (hx.resolve_left c) (q0 hn)
theorem c_isHour (x : Int32) (q1 : ∀ p : Nat, p < 24 → x = nI p → Q (some (.int 1)) h) (q0 : (∀ p : Nat, p < 24 → x ≠ nI p) → Q (some (.int 0)) h) : CW G d jX8_isHour [.int x] h Q := by
  refine CW_wp fX8_isHour rfl rfl rfl ?_
  rcases n_ix x 24 (by decide) with ⟨p, hp, rfl⟩ | ⟨hx, hn⟩
  · refine xelse (nI_pos (by omega)) ?_
    refine xelse (nI_ge hp (by decide)) ?_
    exact q1 p hp rfl
  · refine xite (fun c => q0 hn) (fun c => ?_)
    exact xif (hx.resolve_left c) (q0 hn)
theorem c_isWord (x : Int32) (q1 : ∀ p : Nat, p < 16 → x = nI p → Q (some (.int 1)) h) (q0 : (∀ p : Nat, p < 16 → x ≠ nI p) → Q (some (.int 0)) h) : CW G d jX8_isWord [.int x] h Q := by
  refine CW_wp fX8_isWord rfl rfl rfl ?_
  rcases n_ix x 16 (by decide) with ⟨p, hp, rfl⟩ | ⟨hx, hn⟩
  · refine xelse (nI_pos (by omega)) ?_
    refine xelse (nI_ge hp (by decide)) ?_
    exact q1 p hp rfl
  · refine xite (fun c => q0 hn) (fun c => ?_)
    exact xif (hx.resolve_left c) (q0 hn)
theorem c_isPerson (x : Int32) (q1 : ∀ p : Nat, p < 6 → x = nI p → Q (some (.int 1)) h) (q0 : (∀ p : Nat, p < 6 → x ≠ nI p) → Q (some (.int 0)) h) : CW G d jX8_isPerson [.int x] h Q := by
  refine CW_wp fX8_isPerson rfl rfl rfl ?_
  rcases n_ix x 6 (by decide) with ⟨p, hp, rfl⟩ | ⟨hx, hn⟩
  · refine xelse (nI_pos (by omega)) ?_
    refine xelse (nI_ge hp (by decide)) ?_
    exact q1 p hp rfl
  · refine xite (fun c => q0 hn) (fun c => ?_)
    exact xif (hx.resolve_left c) (q0 hn)
theorem c_isSpot (x : Int32) (q1 : ∀ p : Nat, p < 10 → x = nI p → Q (some (.int 1)) h) (q0 : (∀ p : Nat, p < 10 → x ≠ nI p) → Q (some (.int 0)) h) : CW G d jX8_isSpot [.int x] h Q := by
  refine CW_wp fX8_isSpot rfl rfl rfl ?_
  rcases n_ix x 10 (by decide) with ⟨p, hp, rfl⟩ | ⟨hx, hn⟩
  · refine xelse (nI_pos (by omega)) ?_
    refine xelse (nI_ge hp (by decide)) ?_
    exact q1 p hp rfl
  · refine xite (fun c => q0 hn) (fun c => ?_)
    exact xif (hx.resolve_left c) (q0 hn)
theorem c_isSheet (x : Int32) (q1 : ∀ p : Nat, p < 4 → x = nI p → Q (some (.int 1)) h) (q0 : (∀ p : Nat, p < 4 → x ≠ nI p) → Q (some (.int 0)) h) : CW G d jX8_isSheet [.int x] h Q := by
  refine CW_wp fX8_isSheet rfl rfl rfl ?_
  rcases n_ix x 4 (by decide) with ⟨p, hp, rfl⟩ | ⟨hx, hn⟩
  · refine xelse (nI_pos (by omega)) ?_
    refine xelse (nI_ge hp (by decide)) ?_
    exact q1 p hp rfl
  · refine xite (fun c => q0 hn) (fun c => ?_)
    exact xif (hx.resolve_left c) (q0 hn)
/-- a number is one from 1 to n, or not -/
theorem n_i1 (x : Int32) (n : Nat) (hn : n < 2 ^ 31) : (∃ p : Nat, 1 ≤ p ∧ p ≤ n ∧ x = nI p) ∨ ((x < 1 ∨ nI n < x) ∧ ∀ p : Nat, 1 ≤ p → p ≤ n → x ≠ nI p) := by
  by_cases h1 : x < 1
  · exact Or.inr ⟨Or.inl h1, fun p hp hp2 e => by
      subst e
      rw [show (1 : Int32) = nI 1 from rfl, nI_ltI (by omega) (by omega)] at h1
      omega⟩
  · by_cases h2 : nI n < x
    · exact Or.inr ⟨Or.inr h2, fun p hp hp2 e => by
        subst e
        rw [nI_ltI (by omega) (by omega)] at h2
        omega⟩
    · have h3 : ¬ x < 0 := fun z => h1 (Int32.lt_trans z (by decide))
      obtain ⟨j, hj, rfl⟩ := nI_of h3
      rw [show (1 : Int32) = nI 1 from rfl, nI_ltI (by omega) (by omega)] at h1
      rw [nI_ltI (by omega) (by omega)] at h2
      exact Or.inl ⟨j, by omega, by omega, rfl⟩
theorem c_isLoud (x : Int32) (q1 : ∀ p : Nat, 1 ≤ p → p ≤ 9 → x = nI p → Q (some (.int 1)) h) (q0 : (∀ p : Nat, 1 ≤ p → p ≤ 9 → x ≠ nI p) → Q (some (.int 0)) h) : CW G d jX8_isLoud [.int x] h Q := by
  refine CW_wp fX8_isLoud rfl rfl rfl ?_
  rcases n_i1 x 9 (by decide) with ⟨p, hp, hp2, rfl⟩ | ⟨hx, hn⟩
  · refine xelse (by rw [show (1 : Int32) = nI 1 from rfl, nI_ltI (by omega) (by omega)]; omega) ?_
    refine xelse (by rw [show (9 : Int32) = nI 9 from rfl, nI_ltI (by omega) (by omega)]; omega) ?_
    exact q1 p hp hp2 rfl
  · refine xite (fun c => q0 hn) (fun c => ?_)
    exact xif (hx.resolve_left c) (q0 hn)
theorem c_dayOf (x : Int32) (q : Q (some (.int (x / 100))) h) : CW G d jX8_dayOf [.int x] h Q := by
  refine CW_wp fX8_dayOf rfl rfl rfl ?_
  exact q
theorem c_hourOf (x : Int32) (q : Q (some (.int (x - x / 100 * 100))) h) : CW G d jX8_hourOf [.int x] h Q := by
  refine CW_wp fX8_hourOf rfl rfl rfl ?_
  exact q
/-- a 'when': 100 times a DAY, and an HOUR -/
theorem when_div (D t : Nat) (hD : D < 100) (ht : t < 24) : nI (100 * D + t) / 100 = nI D ∧ nI (100 * D + t) - nI (100 * D + t) / 100 * 100 = nI t := by
  have h1 : nI (100 * D + t) / 100 = nI D := by
    rw [show (100 : Int32) = nI 100 from rfl, pk_div (by omega) (by omega) (by omega)]
    congr 1; omega
  refine ⟨h1, ?_⟩
  rw [show (100 : Int32) = nI 100 from rfl, pk_rem (by omega) (by omega) (by omega)]
  congr 1; omega
theorem c_isWhen (x : Int32) (q1 : ∀ D t : Nat, D < 100 → t < 24 → x = nI (100 * D + t) → Q (some (.int 1)) h) (q0 : (∀ D t : Nat, D < 100 → t < 24 → x ≠ nI (100 * D + t)) → Q (some (.int 0)) h) : CW G (d + 1) jX8_isWhen [.int x] h Q := by
  refine CW_wp fX8_isWhen rfl rfl rfl ?_
  refine xite (fun c => q0 (fun D t hD ht e => by subst e; exact nI_pos (by omega) c)) (fun c => ?_)
  obtain ⟨w, hw, rfl⟩ := nI_of c
  have e1 : nI w / 100 = nI (w / 100) := by
    rw [show (100 : Int32) = nI 100 from rfl, pk_div (by omega) (by omega) (by omega)]
  have e2 : nI w - nI w / 100 * 100 = nI (w % 100) := by
    rw [show (100 : Int32) = nI 100 from rfl, pk_rem (by omega) (by omega) (by omega)]
  have no : (¬ (w / 100 < 100 ∧ w % 100 < 24)) → ∀ D t : Nat, D < 100 → t < 24 → nI w ≠ nI (100 * D + t) := fun hn D t hD ht e => by
    rw [nI_eq (by omega) (by omega)] at e
    exact hn ⟨by omega, by omega⟩
  refine c_dayOf _ ?_
  rw [e1]
  refine c_isDay _ (fun p hp e => ?_) (fun hn => ?_)
  · rw [nI_eq (by omega) (by omega)] at e
    refine c_hourOf _ ?_
    rw [e2]
    refine c_isHour _ (fun t ht e' => ?_) (fun hn => ?_)
    · rw [nI_eq (by omega) (by omega)] at e'
      exact q1 (w / 100) (w % 100) (by omega) (by omega) (by congr 1; omega)
    · exact q0 (no (fun z => hn _ z.2 rfl))
  · exact q0 (no (fun z => hn _ z.1 rfl))
/-- the model's 'within', by the ends as it stands there -/
theorem m_within (x lo hi : Int32) (q1 : lo ≤ x → x ≤ hi → Q (some (.int 1)) h) (q0 : ¬ (lo ≤ x ∧ x ≤ hi) → Q (some (.int 0)) h) : CW G d jX9_within [.int x, .int lo, .int hi] h Q := by
  refine CW_wp fX9_within rfl rfl rfl ?_
  refine xite (fun c => q0 (fun z => absurd z.1 (Int32.not_le.mpr c))) (fun c => ?_)
  refine xite (fun c2 => q0 (fun z => absurd z.2 (Int32.not_le.mpr c2))) (fun c2 => ?_)
  exact q1 (Int32.not_lt.mp c) (Int32.not_lt.mp c2)
theorem w_ix {x : Int32} {n : Nat} (hn : n + 1 < 2 ^ 31) (h1 : 0 ≤ x) (h2 : x ≤ nI n) : ∃ p : Nat, p < n + 1 ∧ x = nI p := by
  obtain ⟨j, hj, rfl⟩ := nI_of (Int32.not_lt.mpr h1)
  rw [nI_leI (by omega) (by omega)] at h2
  exact ⟨j, by omega, rfl⟩
theorem w_no {x : Int32} {n : Nat} (hn : n + 1 < 2 ^ 31) (h : ¬ (0 ≤ x ∧ x ≤ nI n)) : ∀ p : Nat, p < n + 1 → x ≠ nI p := fun p hp e => by
  subst e
  exact h ⟨nI_pos' (by omega), nI_le (by omega) (by omega)⟩
theorem m_isPlace (x : Int32) (q1 : ∀ p : Nat, p < 10 → x = nI p → Q (some (.int 1)) h) (q0 : (∀ p : Nat, p < 10 → x ≠ nI p) → Q (some (.int 0)) h) : CW G (d + 1) jX9_isPlace [.int x] h Q := by
  refine CW_wp fX9_isPlace rfl rfl rfl ?_
  refine m_within _ _ _ (fun c1 c2 => ?_) (fun c => ?_)
  · obtain ⟨p, hp, e⟩ := w_ix (n := 9) (by decide) c1 c2
    exact q1 p hp e
  · exact q0 (w_no (n := 9) (by decide) c)
theorem m_isDay (x : Int32) (q1 : ∀ p : Nat, p < 100 → x = nI p → Q (some (.int 1)) h) (q0 : (∀ p : Nat, p < 100 → x ≠ nI p) → Q (some (.int 0)) h) : CW G (d + 1) jX9_isDay [.int x] h Q := by
  refine CW_wp fX9_isDay rfl rfl rfl ?_
  refine m_within _ _ _ (fun c1 c2 => ?_) (fun c => ?_)
  · obtain ⟨p, hp, e⟩ := w_ix (n := 99) (by decide) c1 c2
    exact q1 p hp e
  · exact q0 (w_no (n := 99) (by decide) c)
theorem m_isHour (x : Int32) (q1 : ∀ p : Nat, p < 24 → x = nI p → Q (some (.int 1)) h) (q0 : (∀ p : Nat, p < 24 → x ≠ nI p) → Q (some (.int 0)) h) : CW G (d + 1) jX9_isHour [.int x] h Q := by
  refine CW_wp fX9_isHour rfl rfl rfl ?_
  refine m_within _ _ _ (fun c1 c2 => ?_) (fun c => ?_)
  · obtain ⟨p, hp, e⟩ := w_ix (n := 23) (by decide) c1 c2
    exact q1 p hp e
  · exact q0 (w_no (n := 23) (by decide) c)
theorem m_isPerson (x : Int32) (q1 : ∀ p : Nat, p < 6 → x = nI p → Q (some (.int 1)) h) (q0 : (∀ p : Nat, p < 6 → x ≠ nI p) → Q (some (.int 0)) h) : CW G (d + 1) jX9_isPerson [.int x] h Q := by
  refine CW_wp fX9_isPerson rfl rfl rfl ?_
  refine m_within _ _ _ (fun c1 c2 => ?_) (fun c => ?_)
  · obtain ⟨p, hp, e⟩ := w_ix (n := 5) (by decide) c1 c2
    exact q1 p hp e
  · exact q0 (w_no (n := 5) (by decide) c)
theorem m_isSheet (x : Int32) (q1 : ∀ p : Nat, p < 4 → x = nI p → Q (some (.int 1)) h) (q0 : (∀ p : Nat, p < 4 → x ≠ nI p) → Q (some (.int 0)) h) : CW G (d + 1) jX9_isSheet [.int x] h Q := by
  refine CW_wp fX9_isSheet rfl rfl rfl ?_
  refine m_within _ _ _ (fun c1 c2 => ?_) (fun c => ?_)
  · obtain ⟨p, hp, e⟩ := w_ix (n := 3) (by decide) c1 c2
    exact q1 p hp e
  · exact q0 (w_no (n := 3) (by decide) c)
theorem m_isWhen (x : Int32) (q1 : ∀ D t : Nat, D < 100 → t < 24 → x = nI (100 * D + t) → Q (some (.int 1)) h) (q0 : (∀ D t : Nat, D < 100 → t < 24 → x ≠ nI (100 * D + t)) → Q (some (.int 0)) h) : CW G (d + 2) jX9_isWhen [.int x] h Q := by
  refine CW_wp fX9_isWhen rfl rfl rfl ?_
  refine xite (fun c => q0 (fun D t hD ht e => by subst e; exact nI_pos (by omega) c)) (fun c => ?_)
  obtain ⟨w, hw, rfl⟩ := nI_of c
  have e1 : nI w / 100 = nI (w / 100) := by
    rw [show (100 : Int32) = nI 100 from rfl, pk_div (by omega) (by omega) (by omega)]
  have e2 : nI w - nI w / 100 * 100 = nI (w % 100) := by
    rw [show (100 : Int32) = nI 100 from rfl, pk_rem (by omega) (by omega) (by omega)]
  have no : (¬ (w / 100 < 100 ∧ w % 100 < 24)) → ∀ D t : Nat, D < 100 → t < 24 → nI w ≠ nI (100 * D + t) := fun hn D t hD ht e => by
    rw [nI_eq (by omega) (by omega)] at e
    exact hn ⟨by omega, by omega⟩
  refine m_isDay (nI w / 100) (fun p hp e => ?_) (fun hn => ?_)
  · rw [e1, nI_eq (by omega) (by omega)] at e
    refine m_isHour (nI w - nI w / 100 * 100) (fun t ht e' => ?_) (fun hn => ?_)
    · rw [e2, nI_eq (by omega) (by omega)] at e'
      exact q1 (w / 100) (w % 100) (by omega) (by omega) (by congr 1; omega)
    · rw [e2] at hn
      exact q0 (no (fun z => hn _ z.2 rfl))
  · rw [e1] at hn
    exact q0 (no (fun z => hn _ z.1 rfl))
end CL
