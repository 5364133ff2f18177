/-! as, judge: the class beside the model. -/
section Q6
variable {G : xG} {M : xM} {Q : Option Value → xH → Prop}
/-- a KIND is that one, or under it -/
def unS (k a : Nat) : Bool := decide (k = a) || decide (a = 0) || (decide (k = 4) && decide (a = 1)) || (decide (k = 5) && decide (a = 3)) || (decide (k = 6) && decide (a = 2))
theorem c_und0 {d : Nat} {y : Int32} (a i : Nat) (hi : i < 6) (ha : a < 7) (hy : y = nI a) (q1 : a = 0 → Q (some (.int 1)) (HH M)) (q0 : a ≠ 0 → Q (some (.int 0)) (HH M)) : Ev G (d + 1) jX0_isUnder 4 [none, some (.int y), some (.int 0), some (.int (nI i))] [] (HH M) 0 0 Q := by
  have hm : Ev G (d + 1) jX0_isUnder 4 [none, some (.int y), some (.int (-1)), some (.int (nI (i + 1)))] [] (HH M) 0 0 Q ∨ a = 0 := by
    by_cases z : a = 0
    · exact Or.inr z
    · refine Or.inl ?_
      refine Ev_wp fX0_isUnder rfl ?_
      refine xelse (nI_ge (b := 7) (by omega) (by decide)) ?_
      refine c_isKind _ (fun p hp e => absurd e.symm (nm1 (by omega))) (fun _ => q0 z)
  refine Ev_wp fX0_isUnder rfl ?_
  refine xelse (nI_ge (b := 7) (by omega) (by decide)) ?_
  refine c_isKind _ (fun p hp e => ?_) (fun h => absurd rfl (h 0 (by decide)))
  refine xeq 0 a rfl hy (by decide) (by omega) (fun c => q1 c.symm) (fun c => ?_)
  rcases hm with hm | hm
  · rw [nI_succ] at hm
    exact hm
  · exact absurd hm.symm c
theorem c_und1 {d : Nat} {y : Int32} (k a i : Nat) (hi : i < 5) (hk : 1 ≤ k ∧ k ≤ 3) (ha : a < 7) (hy : y = nI a) (q1 : k = a ∨ a = 0 → Q (some (.int 1)) (HH M)) (q0 : ¬ (k = a ∨ a = 0) → Q (some (.int 0)) (HH M)) : Ev G (d + 1) jX0_isUnder 4 [none, some (.int y), some (.int (nI k)), some (.int (nI i))] [] (HH M) 0 0 Q := by
  have h0 := c_und0 (G := G) (M := M) (Q := Q) (d := d) (y := y) a (i + 1) (by omega) ha hy
  refine Ev_wp fX0_isUnder rfl ?_
  refine xelse (nI_ge (b := 7) (by omega) (by decide)) ?_
  refine c_isKind _ (fun p hp e => ?_) (fun h => absurd rfl (h k (by omega)))
  refine xeq k a rfl hy (by omega) (by omega) (fun c => q1 (Or.inl c)) (fun c => ?_)
  have h1 := h0 (fun z => q1 (Or.inr z)) (fun z => q0 (by omega))
  rw [nI_succ] at h1
  match k, hk with
  | 1, _ => exact h1
  | 2, _ => exact h1
  | 3, _ => exact h1
theorem c_isUnder {d : Nat} {x y : Int32} (k a : Nat) (hk : k < 7) (ha : a < 7) (hx : x = nI k) (hy : y = nI a) (q1 : unS k a = true → Q (some (.int 1)) (HH M)) (q0 : unS k a = false → Q (some (.int 0)) (HH M)) : CW G (d + 1) jX0_isUnder [.int x, .int y] (HH M) Q := by
  subst hx
  refine CW_wp fX0_isUnder rfl rfl rfl ?_
  by_cases c0 : k = 0
  · subst c0
    exact c_und0 a 0 (by decide) ha hy (fun z => q1 (by simp [unS, z])) (fun z => q0 (by simp [unS, z]; omega))
  by_cases c1 : k ≤ 3
  · exact c_und1 k a 0 (by decide) (by omega) ha hy (fun z => q1 (by rcases z with z | z <;> simp [unS, z])) (fun z => q0 (by simp [unS]; omega))
  have up : ∀ u, 1 ≤ u → u ≤ 3 → (k = 4 ∧ u = 1 ∨ k = 5 ∧ u = 3 ∨ k = 6 ∧ u = 2) → k ≠ a → Ev G (d + 1) jX0_isUnder 4 [none, some (.int y), some (.int (nI u)), some (.int (nI 1))] [] (HH M) 0 0 Q := fun u h1 h2 h3 h4 => c_und1 u a 1 (by decide) ⟨h1, h2⟩ ha hy (fun z => q1 (by simp [unS]; omega)) (fun z => q0 (by simp [unS]; omega))
  have hd : Ev G (d + 1) jX0_isUnder 4 [none, some (.int y), some (.int (nI k)), some (.int (nI 0))] [] (HH M) 0 0 Q := by
    refine Ev_wp fX0_isUnder rfl ?_
    refine c_isKind _ (fun p hp e => ?_) (fun h => absurd rfl (h k (by omega)))
    refine xeq k a rfl hy (by omega) (by omega) (fun c => q1 (by simp [unS, c])) (fun c => ?_)
    match k, hk, c0, c1, c, up with
    | 4, _, _, _, c, up => exact up 1 (by decide) (by decide) (Or.inl ⟨rfl, rfl⟩) c
    | 5, _, _, _, c, up => exact up 3 (by decide) (by decide) (Or.inr (Or.inl ⟨rfl, rfl⟩)) c
    | 6, _, _, _, c, up => exact up 2 (by decide) (by decide) (Or.inr (Or.inr ⟨rfl, rfl⟩)) c
    | k + 7, hk, _, _, _, _ => exact absurd hk (by omega)
  exact hd
/-- the model's way up -/
def abS (k : Nat) : Nat := if k = 4 then 1 else if k = 5 then 3 else if k = 6 then 2 else 0
theorem m_above {d : Nat} {h : xH} {x : Int32} (k : Nat) (hk : k < 7) (hx : x = nI k) (q0 : k = 0 → Q (some (.int (-1))) h) (q1 : k ≠ 0 → Q (some (.int (nI (abS k)))) h) : CW G d jX9_above [.int x] h Q := by
  subst hx
  match k, hk, q0, q1 with
  | 0, _, q0, q1 => exact CW_wp fX9_above rfl rfl rfl (q0 rfl)
  | 1, _, q0, q1 => exact CW_wp fX9_above rfl rfl rfl (q1 (by decide))
  | 2, _, q0, q1 => exact CW_wp fX9_above rfl rfl rfl (q1 (by decide))
  | 3, _, q0, q1 => exact CW_wp fX9_above rfl rfl rfl (q1 (by decide))
  | 4, _, q0, q1 => exact CW_wp fX9_above rfl rfl rfl (q1 (by decide))
  | 5, _, q0, q1 => exact CW_wp fX9_above rfl rfl rfl (q1 (by decide))
  | 6, _, q0, q1 => exact CW_wp fX9_above rfl rfl rfl (q1 (by decide))
  | k + 7, hk, _, _ => exact absurd hk (by omega)
theorem m_asL {y sv : Int32} {M0 : xM} (a s : Nat) (ha : a < 7) (hy : y = nI a) (hs : sv = nI s) (hs2 : s < 40) : ∀ (n k : Nat), k < 7 → (abS k < k ∨ k = 0) → k ≤ n → (unS k a = true → Q (some (.int sv)) (HH M0)) → (unS k a = false → Iv 3 M0 ∧ ∀ M2, Iv 0 M2 → Q (some (.int (nF 2))) (HH M2)) → Ev G 11 jX9_as 58 [some (.ref 59), none, some (.int y), some (.int sv), some (.int (nI k))] [] (HH M0) 0 0 Q := by
  intro n
  induction n with
  | zero =>
    intro k hk _ hkn q1 q0
    have e : k = 0 := by omega
    subst e
    have fin : ¬ a = 0 → Ev G 11 jX9_as 58 [some (.ref 59), none, some (.int y), some (.int sv), some (.int (-1))] [] (HH M0) 0 0 Q := fun z => by
      have h3 := q0 (by simp [unS]; omega)
      refine Ev_wp fX9_as rfl ?_
      exact m_fin2 h3.1 h3.2
    refine Ev_wp fX9_as rfl ?_
    refine xeq 0 a rfl hy (by decide) (by omega) (fun c => ?_) (fun c => ?_)
    · exact q1 (by simp [unS, c])
    · refine m_above 0 (by decide) rfl (fun _ => ?_) (fun z => absurd rfl z)
      exact fin (fun z => c z.symm)
  | succ n ih =>
    intro k hk hab hkn q1 q0
    by_cases c0 : k = 0
    · exact ih k hk hab (by omega) q1 q0
    refine Ev_wp fX9_as rfl ?_
    refine xelse (nI_pos (by omega)) ?_
    refine xeq k a rfl hy (by omega) (by omega) (fun c => ?_) (fun c => ?_)
    · refine xif (nI_pos' (by omega)) ?_
      exact q1 (by simp [unS, c])
    · refine m_above k hk rfl (fun z => absurd z c0) (fun _ => ?_)
      have hu : unS (abS k) a = unS k a := by
        match k, hk, c0, c with
        | 0, _, c0, _ => exact absurd rfl c0
        | 1, _, _, c => by_cases z : a = 0 <;> simp [unS, abS, z] <;> omega
        | 2, _, _, c => by_cases z : a = 0 <;> simp [unS, abS, z] <;> omega
        | 3, _, _, c => by_cases z : a = 0 <;> simp [unS, abS, z] <;> omega
        | 4, _, _, c => match a, ha, c with
          | 0, _, _ => rfl
          | 1, _, _ => rfl
          | 2, _, _ => rfl
          | 3, _, _ => rfl
          | 4, _, c => exact absurd rfl c
          | 5, _, _ => rfl
          | 6, _, _ => rfl
        | 5, _, _, c => match a, ha, c with
          | 0, _, _ => rfl
          | 1, _, _ => rfl
          | 2, _, _ => rfl
          | 3, _, _ => rfl
          | 4, _, _ => rfl
          | 5, _, c => exact absurd rfl c
          | 6, _, _ => rfl
        | 6, _, _, c => match a, ha, c with
          | 0, _, _ => rfl
          | 1, _, _ => rfl
          | 2, _, _ => rfl
          | 3, _, _ => rfl
          | 4, _, _ => rfl
          | 5, _, _ => rfl
          | 6, _, c => exact absurd rfl c
        | k + 7, hk, _, _ => exact absurd hk (by omega)
      have hlt : abS k < k := by rcases hab with h | h <;> omega
      refine ih (abS k) (by omega) ?_ (by omega) (by rw [hu]; exact q1) (by rw [hu]; exact q0)
      unfold abS
      split
      · left; decide
      · split
        · left; decide
        · split
          · left; decide
          · right; rfl
theorem st_as (I : Iv 0 M) (x y : Int32) (q : ∀ r M1, Aft G jX9_as [.ref 59, .int x, .int y] r M1 → Q (some (.int r)) (HH M1)) : CW G 11 jX8_as [.ref 0, .int x, .int y] (HH M) Q := by
  have hw := I.1
  have hp := I.2.1
  have hsr := I.2.2.2.2.1
  have h40 := hw.2.1.2
  have hn : M 60 = M 60 := rfl
  refine CW_wp fX8_as rfl rfl rfl ?_
  refine c_isSpot x (fun j hj ej => ?_) (fun nj => ?_)
  · refine c_isKind y (fun a ha ea => ?_) (fun na => ?_)
    · have e14 : ∀ j, j < 10 → M 14 j = M 60 (588 + j) := hp.2.2.2.2.2.2.2.2
      refine xix (n := 10) j ej hj (by decide) (fun e => ?_)
      rw [e, e14 j hj]
      have hab : ∀ k, k < 7 → (abS k < k ∨ k = 0) := by decide
      rcases hw.2.2.2.2.2.2.2.2.2.2 j hj with es | ⟨s, hs, es⟩
      · rw [es]
        refine c_isSaying hp hw _ (fun s hs z => absurd z.symm (nm1 (by omega))) (fun _ => ?_)
        refine c_fin5 ?_
        refine q _ _ (fun Q1 q1 => ?_)
        refine CW_wp fX9_as rfl rfl rfl ?_
        refine m_within_t j 0 9 ej rfl rfl (Nat.zero_le _) (by omega) (by decide) ?_
        refine m_within_t a 0 6 ea rfl rfl (Nat.zero_le _) (by omega) (by decide) ?_
        refine xix (n := 598) (588 + j) (ia rfl ej) (by omega) (by decide) (fun e => ?_)
        rw [e, show fc 5 M 60 (588 + j) = -1 from es]
        exact m_fin5 (iv_fc I) q1
      · rw [es]
        have wa := hw.2.2.2.2.2.2.2.1 s hs
        refine c_isSaying hp hw _ (fun s' hs' z => ?_) (fun z => absurd rfl (z s hs))
        refine xix (n := 40) s rfl (by omega) (by decide) (fun e => ?_)
        rw [e, show M 5 s = nI (sF (M 60) s 0) from hp.say hw hs (show 0 < 6 by decide)]
        refine c_isUnder (sF (M 60) s 0) a wa.1 ha rfl ea (fun c => ?_) (fun c => ?_)
        · refine q _ _ (fun Q1 q1 => ?_)
          refine CW_wp fX9_as rfl rfl rfl ?_
          refine m_within_t j 0 9 ej rfl rfl (Nat.zero_le _) (by omega) (by decide) ?_
          refine m_within_t a 0 6 ea rfl rfl (Nat.zero_le _) (by omega) (by decide) ?_
          refine xix (n := 598) (588 + j) (ia rfl ej) (by omega) (by decide) (fun e => ?_)
          rw [e, es]
          refine xif (nI_pos' (by omega)) ?_
          refine m_of hn hw s 0 hs (by decide) rfl rfl (fun r hr => ?_)
          subst hr
          exact m_asL a s ha ea rfl (by omega) 7 (sF (M 60) s 0) wa.1 (hab _ wa.1) (by omega) (fun _ => q1 _ I) (fun z => by rw [c] at z; cases z)
        · refine c_fin2 ?_
          refine q _ _ (fun Q1 q1 => ?_)
          refine CW_wp fX9_as rfl rfl rfl ?_
          refine m_within_t j 0 9 ej rfl rfl (Nat.zero_le _) (by omega) (by decide) ?_
          refine m_within_t a 0 6 ea rfl rfl (Nat.zero_le _) (by omega) (by decide) ?_
          refine xix (n := 598) (588 + j) (ia rfl ej) (by omega) (by decide) (fun e => ?_)
          rw [e, show fc 2 M 60 (588 + j) = nI s from es]
          refine xif (nI_pos' (by omega)) ?_
          refine m_of (show fc 2 M 60 = M 60 from rfl) hw s 0 hs (by decide) rfl rfl (fun r hr => ?_)
          subst hr
          exact m_asL a s ha ea rfl (by omega) 7 (sF (M 60) s 0) wa.1 (hab _ wa.1) (by omega) (fun z => by rw [c] at z; cases z) (fun _ => ⟨iv_fc I, q1⟩)
    · refine c_fin0 ?_
      refine q _ _ (fun Q1 q1 => ?_)
      refine CW_wp fX9_as rfl rfl rfl ?_
      refine m_within_t j 0 9 ej rfl rfl (Nat.zero_le _) (by omega) (by decide) ?_
      refine m_within_f 0 6 rfl rfl (by decide) (by decide) (fun k _ hk => na k (by omega)) ?_
      exact m_fin0 (iv_fc I) q1
  · refine c_fin0 ?_
    refine q _ _ (fun Q1 q1 => ?_)
    refine CW_wp fX9_as rfl rfl rfl ?_
    refine m_within_f 0 9 rfl rfl (by decide) (by decide) (fun k _ hk => nj k (by omega)) ?_
    exact m_fin0 (iv_fc I) q1
end Q6
