/-! needs, count, status, as: the class beside the model. -/
section Q5
variable {G : xG} {M : xM} {Q : Option Value → xH → Prop}
/-- the last DAY on which what is said on L is HEARD is L' -/
def NxS (N : Nat → Int32) (L L' : Nat) : Prop := L ≤ L' ∧ L' < 100 ∧ (∀ D, L < D → D ≤ L' → agO N L D ≤ vN N 2) ∧ (L' = 99 ∨ ¬ agO N L (L' + 1) ≤ vN N 2)
theorem m_needs1 {N : Nat → Int32} (hw : Wf N) {M0 : xM} (hn0 : M0 60 = N) {x n : Int32} (e L L' : Nat) (he : e < 100) (hL : L < e) (hx : x = nI e) (hN : NxS N L L') (qs : L < L' → Ev G 11 jX9_needs 40 [some (.ref 59), some (.int x), some (.int (n + 1)), some (.int (nI (min L' e))), none, none] [] (HH M0) 0 0 Q) (qn : L' = L → Iv 4 M0 ∧ ∀ M2, Iv 0 M2 → Q (some (.int (nF 3))) (HH M2)) : Ev G 11 jX9_needs 40 [some (.ref 59), some (.int x), some (.int n), some (.int (nI L)), none, none] [] (HH M0) 0 0 Q := by
  obtain ⟨h1, h2, h3, h4⟩ := hN
  have hk := hw.2.2.1
  have e2 : M0 60 2 = nI (vN N 2) := by rw [hn0]; exact hk.1
  have fin : ∀ v, Ev G 11 jX9_needs 40 [some (.ref 59), some (.int x), some (.int (n + 1)), some (.int (nI (min L' e))), none, none] [] (HH M0) 0 0 Q ∨ L' = L → v = nI (min L' e) → (if v = nI L then L' = L else Ev G 11 jX9_needs 40 [some (.ref 59), some (.int x), some (.int (n + 1)), some (.int v), none, none] [] (HH M0) 0 0 Q) := fun v h hv => by
    subst hv
    by_cases c : min L' e = L
    · rw [if_pos (by rw [c])]; omega
    · rw [if_neg (by rw [nI_eq (by omega) (by omega)]; exact c)]
      rcases h with h | h
      · exact h
      · omega
  refine Ev_wp fX9_needs rfl ?_
  refine xelse (by rw [hx]; exact nI_ge hL (by omega)) ?_
  have key : Ev G 11 jX9_needs 51 [some (.ref 59), some (.int x), some (.int n), some (.int (nI L)), some (.int (nI (agO N L L))), some (.int (nI L))] [] (HH M0) 0 0 Q := by
    refine dn (E := fun t => Ev G 11 jX9_needs 51 [some (.ref 59), some (.int x), some (.int n), some (.int (nI L)), some (.int (nI (agO N L t))), some (.int (nI t))] [] (HH M0) 0 0 Q) (show L ≤ min L' e by omega) ?_ (fun t ht1 ht2 ih => ?_)
    · have tl : ∀ (P : Prop), (L' = L → Iv 4 M0 ∧ ∀ M2, Iv 0 M2 → Q (some (.int (nF 3))) (HH M2)) → True := fun _ _ => trivial
      refine Ev_wp fX9_needs rfl ?_
      by_cases c : e ≤ L'
      · have em : min L' e = e := by omega
        rw [em] at qs ⊢
        refine xif (by rw [hx]; exact nI_le (Nat.le_refl _) (by omega)) ?_
        refine xelse (by rw [nI_eq (by omega) (by omega)]; omega) ?_
        exact qs (by omega)
      · have em : min L' e = L' := by omega
        rw [em] at qs ⊢
        refine xelse (by rw [hx]; exact nI_ge (by omega) (by omega)) ?_
        have hz := agO_s N h1
        have hr := (hw.2.2.2.1 (L' + 1) (by omega)).1
        refine xix (n := 598) (4 + L' + 1) (ia (ia rfl rfl) rfl) (by omega) (by decide) (fun ei => ?_)
        rw [ei, hn0, Nat.add_assoc, hr]
        have hb := agO_le N hw (own := L) (D := L' + 1) (by omega) (by omega)
        refine xlt (vN N 2) (agO N L (L' + 1)) e2 (by rw [hz]; exact ia (ia rfl rfl) rfl) (by omega) (by omega) (fun c2 => ?_) (fun c2 => ?_)
        · refine xeq L' L rfl rfl (by omega) (by omega) (fun c3 => ?_) (fun c3 => ?_)
          · exact m_fin3 (qn c3).1 (qn c3).2
          · exact qs (by omega)
        · rcases h4 with h4 | h4
          · omega
          · exact absurd c2 h4
    · refine Ev_wp fX9_needs rfl ?_
      refine xelse (by rw [hx]; exact nI_ge (by omega) (by omega)) ?_
      have hz := agO_s N ht1
      have hr := (hw.2.2.2.1 (t + 1) (by omega)).1
      refine xix (n := 598) (4 + t + 1) (ia (ia rfl rfl) rfl) (by omega) (by decide) (fun ei => ?_)
      rw [ei, hn0, Nat.add_assoc, hr]
      have hb := agO_le N hw (own := L) (D := t + 1) (by omega) (by omega)
      refine xlt (vN N 2) (agO N L (t + 1)) e2 (by rw [hz]; exact ia (ia rfl rfl) rfl) (by omega) (by omega) (fun c2 => absurd (h3 (t + 1) (by omega) (by omega)) (by omega)) (fun c2 => ?_)
      refine xix (n := 598) (4 + (t + 1)) (ia rfl (ia rfl rfl)) (by omega) (by decide) (fun ei => ?_)
      rw [ei, hn0, hr]
      rw [hz, nI_succ t, Nat.add_assoc, ← nI_add, ← nI_add] at ih
      exact ih
  rw [show agO N L L = 0 by unfold agO; rw [Nat.sub_self]; rfl] at key
  exact key
theorem st_needs (I : Iv 0 M) (x : Int32) (q : ∀ r M1, Aft G jX9_needs [.ref 59, .int x] r M1 → Q (some (.int r)) (HH M1)) : CW G 11 jX8_needs [.ref 0, .int x] (HH M) Q := by
  have hw := I.1
  have hp := I.2.1
  have hsr := I.2.2.2.2.1
  have h40 := hw.2.1.2
  have hn : M 60 = M 60 := rfl
  refine CW_wp fX8_needs rfl rfl rfl ?_
  refine c_isDay x (fun e he ee => ?_) (fun ne => ?_)
  · have hT := hw.1.2
    have e5 : M 1 5 = nI (vN (M 60) 0) := hp.1.trans hw.1.1
    refine xlt (vN (M 60) 0) e e5 ee (by omega) (by omega) (fun c => ?_) (fun c => ?_)
    · have start : ∀ (M1 : xM), M1 60 = M 60 → ∀ Q1 : Option Value → xH → Prop, Ev G 11 jX9_needs 40 [some (.ref 59), some (.int x), some (.int (nI 0)), some (.int (nI (vN (M 60) 0))), none, none] [] (HH M1) 0 0 Q1 → CW G 11 jX9_needs [.ref 59, .int x] (HH M1) Q1 := fun M1 hn1 Q1 h1 => by
        have e0 : M1 60 0 = nI (vN (M 60) 0) := by rw [hn1]; exact hw.1.1
        refine CW_wp fX9_needs rfl rfl rfl ?_
        refine m_isDay_t e he ee ?_
        refine xlt (vN (M 60) 0) e e0 ee (by omega) (by omega) (fun c => ?_) (fun c2 => absurd c (by omega))
        rw [← e0] at h1
        exact h1
      have key : ∀ k L n, k + L = 100 → vN (M 60) 0 ≤ L → L < e → n ≤ L - vN (M 60) 0 → (∀ (M1 : xM), M1 60 = M 60 → ∀ Q1 : Option Value → xH → Prop, Ev G 11 jX9_needs 40 [some (.ref 59), some (.int x), some (.int (nI n)), some (.int (nI L)), none, none] [] (HH M1) 0 0 Q1 → CW G 11 jX9_needs [.ref 59, .int x] (HH M1) Q1) → Ev G 11 jX8_needs 42 [some (.ref 0), some (.int x), some (.int (nI L)), some (.int (nI n)), none] [] (HH M) 0 0 Q := by
        intro k
        induction k using Nat.strongRecOn with
        | _ k ih =>
          intro L n hk hTL hLe hnL lift
          refine Ev_wp fX8_needs rfl ?_
          refine xelse (by rw [ee]; exact nI_ge hLe (by omega)) ?_
          refine xelse (nI_ge (b := 100) (by omega) (by decide)) ?_
          refine c_lastDayOfOnce hp hw L (by omega) rfl (fun L' h1 h2 h3 h4 => ?_)
          have hN : NxS (M 60) L L' := ⟨h1, h2, h3, h4⟩
          refine xlt L L' rfl rfl (by omega) (by omega) (fun c2 => ?_) (fun c2 => ?_)
          · by_cases c3 : L' < e
            · have h5 := ih (100 - L') (by omega) L' (n + 1) (by omega) (by omega) c3 (by omega) (fun M1 hn1 Q1 h6 => lift M1 hn1 Q1 (m_needs1 hw hn1 e L L' he hLe ee hN (fun _ => by
                rw [show min L' e = L' by omega, ← nI_succ]; exact h6) (fun z => by omega)))
              rw [nI_succ] at h5
              exact h5
            · have h7 : Ev G 11 jX8_needs 42 [some (.ref 0), some (.int x), some (.int (nI L')), some (.int (nI n + 1)), none] [] (HH M) 0 0 Q := by
                refine Ev_wp fX8_needs rfl ?_
                refine xif (by rw [ee]; exact nI_le (by omega) (by omega)) ?_
                refine q _ _ (fun Q1 q1 => lift M rfl Q1 (m_needs1 hw rfl e L L' he hLe ee hN (fun _ => ?_) (fun z => by omega)))
                rw [show min L' e = e by omega]
                refine Ev_wp fX9_needs rfl ?_
                refine xif (by rw [ee]; exact Int32.le_refl _) ?_
                exact q1 _ I
              exact h7
          · refine c_fin3 ?_
            exact q _ _ (fun Q1 q1 => lift (fc 3 M) rfl Q1 (m_needs1 hw (M0 := fc 3 M) rfl e L L' he hLe ee hN (fun z => by omega) (fun _ => ⟨iv_fc I, q1⟩)))
      have k2 := key (100 - vN (M 60) 0) (vN (M 60) 0) 0 (by omega) (Nat.le_refl _) c (Nat.zero_le _) start
      rw [← e5] at k2
      exact k2
    · refine c_fin4 ?_
      refine q _ _ (fun Q1 q1 => ?_)
      refine CW_wp fX9_needs rfl rfl rfl ?_
      refine m_isDay_t e he ee ?_
      refine xlt (vN (M 60) 0) e (show fc 4 M 60 0 = nI (vN (M 60) 0) from hw.1.1) ee (by omega) (by omega) (fun c2 => absurd c2 (by omega)) (fun c2 => ?_)
      exact m_fin4 (iv_fc I) q1
  · refine c_fin0 ?_
    refine q _ _ (fun Q1 q1 => ?_)
    refine CW_wp fX9_needs rfl rfl rfl ?_
    refine m_isDay_f ne ?_
    exact m_fin0 (iv_fc I) q1
theorem cn_mat (N : Nat → Int32) : ∀ p, p ≤ 10 → cn (fun k => wy N (k / 10) (k % 10)) (10 * p + 10) = cn (fun k => wy N (k / 10) (k % 10)) (10 * p) + cn (wy N p) 10 := fun p _ => by
  rw [cn_add]
  congr 1
  exact cn_congr (fun i hi => by
    show wy N ((10 * p + i) / 10) ((10 * p + i) % 10) = wy N p i
    rw [show (10 * p + i) / 10 = p by omega, show (10 * p + i) % 10 = i by omega])
theorem c_total {d : Nat} {N : Nat → Int32} (hp : PV 1 N M) (q : ∀ r, r = nI (cn (fun k => wy N (k / 10) (k % 10)) 100 / 2) → Q (some (.int r)) (HH M)) : CW G (d + 1) jX7_total [.ref 2] (HH M) Q := by
  have hnear : ∀ p, p < 10 → M 3 p = nI (bts (wy N p) 10) := hp.2.2.2.2.2.1
  refine CW_wp fX7_total rfl rfl rfl ?_
  refine dn (E := fun p => Ev G (d + 1) jX7_total 4 [some (.ref 2), some (.int (nI (cn (fun k => wy N (k / 10) (k % 10)) (10 * p)))), some (.int (nI p))] [] (HH M) 0 0 Q) (Nat.zero_le 10) ?_ (fun p _ h2 ih => ?_)
  · refine Ev_wp fX7_total rfl ?_
    have hb := cn_le (fun k => wy N (k / 10) (k % 10)) 100
    exact q _ (idv rfl rfl (by omega) (by decide) (by decide))
  · refine Ev_wp fX7_total rfl ?_
    refine xelse (nI_ge (b := 10) h2 (by decide)) ?_
    refine xix (n := 10) p rfl h2 (by decide) (fun e => ?_)
    rw [e, hnear p h2]
    refine c_bitI (wy N p) 10 (by decide) rfl ?_
    rw [nI_succ p, show 10 * (p + 1) = 10 * p + 10 by omega, cn_mat N p (by omega), ← nI_add] at ih
    exact ih
theorem st_count (I : Iv 0 M) (x : Int32) (q : ∀ r M1, Aft G jX9_count [.ref 59, .int x] r M1 → Q (some (.int r)) (HH M1)) : CW G 11 jX8_count [.ref 0, .int x] (HH M) Q := by
  have hw := I.1
  have hp := I.2.1
  have hsr := I.2.2.2.2.1
  have h40 := hw.2.1.2
  have hn : M 60 = M 60 := rfl
  refine CW_wp fX8_count rfl rfl rfl ?_
  have e0 : M 60 0 = nI (vN (M 60) 0) := hw.1.1
  have hT := hw.1.2
  have e5 : M 1 5 = nI (vN (M 60) 0) := hp.1.trans hw.1.1
  rcases n_ix x 8 (by decide) with ⟨w, hw8, ex⟩ | ⟨hx, nx⟩
  · match w, hw8, ex with
    | 0, _, ex =>
      subst ex
      refine (show Q (some (.int (M 1 5))) (HH M) from ?_)
      rw [show M 1 5 = M 60 0 from hp.1]
      refine q _ _ (fun Q1 q1 => ?_)
      refine CW_wp fX9_count rfl rfl rfl ?_
      exact q1 _ I
    | 1, _, ex =>
      subst ex
      refine (show Q (some (.int (M 4 0))) (HH M) from ?_)
      rw [show M 4 0 = M 60 1 from hp.2.1]
      refine q _ _ (fun Q1 q1 => ?_)
      refine CW_wp fX9_count rfl rfl rfl ?_
      exact q1 _ I
    | 2, _, ex =>
      subst ex
      refine c_total hp (fun r hr => ?_)
      refine q _ _ (fun Q1 q1 => ?_)
      refine CW_wp fX9_count rfl rfl rfl ?_
      have key : Ev G 11 jX9_count 57 [some (.ref 59), none, some (.int (nI (cn (fun k => wy (M 60) (k / 10) (k % 10)) 0))), some (.int (nI 0))] [] (HH M) 0 0 Q1 := by
        refine dn (E := fun k => Ev G 11 jX9_count 57 [some (.ref 59), none, some (.int (nI (cn (fun k => wy (M 60) (k / 10) (k % 10)) k))), some (.int (nI k))] [] (HH M) 0 0 Q1) (Nat.zero_le 100) ?_ (fun k _ h2 ih => ?_)
        · refine Ev_wp fX9_count rfl ?_
          have hb := cn_le (fun k => wy (M 60) (k / 10) (k % 10)) 100
          have e : nI (cn (fun k => wy (M 60) (k / 10) (k % 10)) 100) / 2 = r := by rw [hr]; exact idv rfl rfl (by omega) (by decide) (by decide)
          rw [← e] at q1
          exact q1 _ I
        · refine Ev_wp fX9_count rfl ?_
          refine xelse (nI_ge (b := 100) h2 (by decide)) ?_
          refine xix (n := 598) (104 + k) (ia rfl rfl) (by omega) (by decide) (fun e => ?_)
          have hv := hw.2.2.2.2.1 (k / 10) (k % 10) (by omega) (by omega)
          rw [show 104 + 10 * (k / 10) + k % 10 = 104 + k by omega] at hv
          rw [e, hv.1]
          rw [nI_succ k, cn] at ih
          have e3 : (if wy (M 60) (k / 10) (k % 10) = true then 1 else 0) = vN (M 60) (104 + k) := by
            unfold wy
            rw [show 104 + 10 * (k / 10) + k % 10 = 104 + k by omega]
            by_cases z : vN (M 60) (104 + k) = 1
            · rw [if_pos (decide_eq_true z), z]
            · rw [if_neg (by simp [z])]; omega
          rw [e3, ← nI_add] at ih
          exact ih
      exact key
    | 3, _, ex =>
      subst ex
      refine c_rainy hp hw 0 99 rfl rfl (by decide) (by decide) (fun r hr => ?_)
      refine q _ _ (fun Q1 q1 => ?_)
      refine CW_wp fX9_count rfl rfl rfl ?_
      have hr2 : r = nI (rs (M 60) 0 100) := hr
      rw [hr2] at q1
      refine dn (E := fun k => Ev G 11 jX9_count 87 [some (.ref 59), none, some (.int (nI (rs (M 60) 0 k))), some (.int (nI k))] [] (HH M) 0 0 Q1) (Nat.zero_le 100) ?_ (fun k _ h2 ih => ?_)
      · refine Ev_wp fX9_count rfl ?_
        exact q1 _ I
      · refine Ev_wp fX9_count rfl ?_
        refine xelse (nI_ge (b := 100) h2 (by decide)) ?_
        refine xix (n := 598) (4 + k) (ia rfl rfl) (by omega) (by decide) (fun e => ?_)
        rw [e, (hw.2.2.2.1 k h2).1]
        rw [nI_succ k, rs, Nat.zero_add, ← nI_add] at ih
        exact ih
    | 4, _, ex =>
      subst ex
      refine (show Q (some (.int (M 1 6))) (HH M) from ?_)
      rw [show M 1 6 = M 60 2 from hp.2.2.1]
      refine q _ _ (fun Q1 q1 => ?_)
      refine CW_wp fX9_count rfl rfl rfl ?_
      exact q1 _ I
    | 5, _, ex =>
      subst ex
      obtain ⟨T, t1, t2, t3, t4⟩ := I.2.2.2.2.2.2.1
      refine (show Q (some (.int (M 43 0))) (HH M) from ?_)
      rw [show M 43 0 = M 59 10 from t2.trans t3.symm]
      refine q _ _ (fun Q1 q1 => ?_)
      refine CW_wp fX9_count rfl rfl rfl ?_
      exact q1 _ I
    | 6, _, ex =>
      subst ex
      refine (show Q (some (.int (M 1 7))) (HH M) from ?_)
      rw [show M 1 7 = M 60 3 from hp.2.2.2.1]
      refine q _ _ (fun Q1 q1 => ?_)
      refine CW_wp fX9_count rfl rfl rfl ?_
      exact q1 _ I
    | 7, _, ex =>
      subst ex
      refine c_heardOn hp hw (vN (M 60) 0) hT e5 (fun r hr => ?_)
      refine q _ _ (fun Q1 q1 => ?_)
      refine CW_wp fX9_count rfl rfl rfl ?_
      have e1 : M 60 1 = nI (sN (M 60)) := hw.2.1.1
      rw [hr] at q1
      refine dn (E := fun s => Ev G 11 jX9_count 133 [some (.ref 59), none, some (.int (nI (cn (fun s => hdS (M 60) s (vN (M 60) 0)) s))), some (.int (nI s))] [] (HH M) 0 0 Q1) (Nat.zero_le (sN (M 60))) ?_ (fun s _ h2 ih => ?_)
      · refine Ev_wp fX9_count rfl ?_
        refine xif (show M 60 1 ≤ nI (sN (M 60)) by rw [e1]; exact Int32.le_refl _) ?_
        exact q1 _ I
      · refine Ev_wp fX9_count rfl ?_
        refine xelse (show ¬ M 60 1 ≤ nI s by rw [e1]; exact nI_ge h2 (by omega)) ?_
        rw [nI_succ s, cn] at ih
        refine m_isHeard hn hw s (vN (M 60) 0) h2 hT rfl e0 (fun c => ?_) (fun c => ?_)
        · rw [if_pos c, nI_succ] at ih
          exact ih
        · rw [if_neg (by simp [c]), ← nI_add] at ih
          exact ih
    | w + 8, hw8, _ => exact absurd hw8 (by omega)
  · have hz : x.toInt < 0 ∨ (7 : Int) < x.toInt := ts_out (n := 7) (by decide) hx
    refine xif hz ?_
    refine c_fin0 ?_
    refine q _ _ (fun Q1 q1 => ?_)
    refine CW_wp fX9_count rfl rfl rfl ?_
    refine xif hz ?_
    exact m_fin0 (iv_fc I) q1
def sumS (M : xM) : Nat → Int32
  | 0 => 0
  | k + 1 => sumS M k + M 50 k
theorem st_status (I : Iv 0 M) (x : Int32) (q : ∀ r M1, Aft G jX9_status [.ref 59, .int x] r M1 → Q (some (.int r)) (HH M1)) : CW G 11 jX8_status [.ref 0, .int x] (HH M) Q := by
  have hw := I.1
  have hp := I.2.1
  have hsr := I.2.2.2.2.1
  have h40 := hw.2.1.2
  have hn : M 60 = M 60 := rfl
  refine CW_wp fX8_status rfl rfl rfl ?_
  have hsf := I.2.2.2.1
  have hs : ∀ i, i < 7 → M 50 i = M 62 (i + 1) := fun i hi => by
    have := hsf.1 i hi
    rw [if_neg (by omega), Int32.add_zero] at this
    exact this
  by_cases c1 : x < -1
  · refine xif c1 ?_
    refine c_fin0 ?_
    refine q _ _ (fun Q1 q1 => ?_)
    refine CW_wp fX9_status rfl rfl rfl ?_
    refine m_within _ _ _ (fun z _ => absurd z (Int32.not_le.mpr c1)) (fun _ => ?_)
    exact m_fin0 (iv_fc I) q1
  · refine xelse c1 ?_
    by_cases c2 : x < 7
    · refine xif c2 ?_
      have w1 : (-1 : Int32) ≤ x := Int32.not_lt.mp c1
      have w2 : x ≤ 6 := by
        rw [Int32.le_iff_toInt_le]
        rw [Int32.lt_iff_toInt_lt] at c2
        have e7 : (7 : Int32).toInt = 7 := by decide
        have e6 : (6 : Int32).toInt = 6 := by decide
        omega
      by_cases c3 : x < 0
      · refine xif c3 ?_
        have ex : x = -1 := by
          rw [Int32.le_iff_toInt_le] at w1
          rw [Int32.lt_iff_toInt_lt] at c3
          have e1 : (-1 : Int32).toInt = -1 := by decide
          have e0 : (0 : Int32).toInt = 0 := by decide
          exact Int32.toInt_inj.mp (by omega)
        subst ex
        have key : Ev G 11 jX8_status 33 [some (.ref 0), none, some (.int 0), some (.int (nI 0))] [] (HH M) 0 0 Q := by
          refine dn (E := fun k => Ev G 11 jX8_status 33 [some (.ref 0), none, some (.int (sumS M k)), some (.int (nI k))] [] (HH M) 0 0 Q) (Nat.zero_le 7) ?_ (fun k _ h2 ih => ?_)
          · refine Ev_wp fX8_status rfl ?_
            have e : sumS M 7 = M 62 0 := by
              rw [hsf.2]
              show 0 + M 50 0 + M 50 1 + M 50 2 + M 50 3 + M 50 4 + M 50 5 + M 50 6 = _
              rw [hs 0 (by decide), hs 1 (by decide), hs 2 (by decide), hs 3 (by decide), hs 4 (by decide), hs 5 (by decide), hs 6 (by decide), Int32.zero_add]
            rw [e]
            refine q _ _ (fun Q1 q1 => ?_)
            refine CW_wp fX9_status rfl rfl rfl ?_
            refine m_within _ _ _ (fun _ _ => ?_) (fun z => absurd ⟨by decide, by decide⟩ z)
            exact q1 _ I
          · refine Ev_wp fX8_status rfl ?_
            refine xelse (nI_ge (b := 7) h2 (by decide)) ?_
            refine xix (n := 7) k rfl h2 (by decide) (fun e => ?_)
            rw [e]
            rw [nI_succ] at ih
            exact ih
        exact key
      · refine xelse c3 ?_
        obtain ⟨i, hi, rfl⟩ := w_ix (n := 6) (by decide) (Int32.not_lt.mp c3) w2
        refine xix (n := 7) i rfl (by omega) (by decide) (fun e => ?_)
        rw [e, hs i (by omega)]
        refine q _ _ (fun Q1 q1 => ?_)
        refine CW_wp fX9_status rfl rfl rfl ?_
        refine m_within _ _ _ (fun _ _ => ?_) (fun z => absurd ⟨w1, w2⟩ z)
        refine xix (n := 8) (i + 1) (ia rfl rfl) (by omega) (by decide) (fun e => ?_)
        rw [e]
        exact q1 _ I
    · refine xelse c2 ?_
      refine c_fin0 ?_
      refine q _ _ (fun Q1 q1 => ?_)
      refine CW_wp fX9_status rfl rfl rfl ?_
      refine m_within _ _ _ (fun _ z => ?_) (fun _ => ?_)
      · exact absurd (Int32.lt_of_le_of_lt z (by decide)) c2
      · exact m_fin0 (iv_fc I) q1
end Q5
