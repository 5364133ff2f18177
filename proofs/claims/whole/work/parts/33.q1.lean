/-! Questions about SAYINGS and places: the class beside the model. -/
section Q1
variable {G : xG} {M : xM} {Q : Option Value → xH → Prop}
theorem say_f (hw : Wf (M 60)) (hp : PV 1 (M 60) M) {s : Nat} (hs : s < sN (M 60)) (f : Nat) (hf : f < 6) : M (5 + f) s = nI (sF (M 60) s f) := hp.say hw hs hf
theorem c_fewestX {d : Nat} {N : Nat → Int32} (hp : PV 1 N M) {x y : Int32} (a b : Nat) (ha : a < 10) (hb : b < 10) (hx : x = nI a) (hy : y = nI b) (qs : ∀ k, fwS N a b = some k → Q (some (.int (nI k))) (HH M)) (qn : fwS N a b = none → Q (some (.int (-1))) (HH M)) : CW G (d + 2) jX7_fewestBetween [.ref 2, .int x, .int y] (HH M) Q := by
  subst hx hy
  exact c_fewest hp a b ha hb qs qn
theorem st_steps (I : Iv 0 M) (x y : Int32) (q : ∀ r M1, Aft G jX9_steps [.ref 59, .int x, .int y] r M1 → Q (some (.int r)) (HH M1)) : CW G 11 jX8_steps [.ref 0, .int x, .int y] (HH M) Q := by
  have hw := I.1
  have hp := I.2.1
  have hsr := I.2.2.2.2.1
  have h40 := hw.2.1.2
  have hn : M 60 = M 60 := rfl
  refine CW_wp fX8_steps rfl rfl rfl ?_
  refine c_isPlace x (fun a ha ea => ?_) (fun na => ?_)
  · refine c_isPlace y (fun b hb eb => ?_) (fun nb => ?_)
    · refine c_fewestX hp a b ha hb ea eb (fun k hk => ?_) (fun hk => ?_)
      · have hk9 := (ff_some hk).2.1
        refine xif (nI_pos' (show k < 2 ^ 31 by omega)) ?_
        refine q _ _ (fun Q1 q1 => ?_)
        refine CW_wp fX9_steps rfl rfl rfl ?_
        refine m_isPlace_t a ha ea ?_
        refine m_isPlace_t b hb eb ?_
        refine m_farOf hn hw hsr a b ha hb ea eb (fun M' hm D hD hd r hr => ?_)
        have e := far_some hk hd
        refine xlt D 99 hr rfl (by omega) (by decide) (fun c => ?_) (fun c => absurd c (by omega))
        refine m_farOf (hm.n hn) hw hm.2.2 a b ha hb ea eb (fun M'' hm2 D2 hD2 hd2 r2 hr2 => ?_)
        have e2 := far_some hk hd2
        have e3 : r2 = nI k := by rw [hr2, e2]
        subst e3
        exact q1 _ (I.rm (hm.trans hm2))
      · refine c_fin3 ?_
        refine q _ _ (fun Q1 q1 => ?_)
        refine CW_wp fX9_steps rfl rfl rfl ?_
        refine m_isPlace_t a ha ea ?_
        refine m_isPlace_t b hb eb ?_
        refine m_farOf (show fc 3 M 60 = M 60 from rfl) hw (iv_fc (k := 3) I).2.2.2.2.1 a b ha hb ea eb (fun M' hm D hD hd r hr => ?_)
        have e := far_none ha hb hk hd
        refine xlt D 99 hr rfl (by omega) (by decide) (fun c => absurd c (by omega)) (fun c => ?_)
        exact m_fin3 ((iv_fc (k := 3) I).rm hm) q1
    · refine c_fin0 ?_
      refine q _ _ (fun Q1 q1 => ?_)
      refine CW_wp fX9_steps rfl rfl rfl ?_
      refine m_isPlace_t a ha ea ?_
      refine m_isPlace_f nb ?_
      exact m_fin0 (iv_fc I) q1
  · refine c_fin0 ?_
    refine q _ _ (fun Q1 q1 => ?_)
    refine CW_wp fX9_steps rfl rfl rfl ?_
    refine m_isPlace_f na ?_
    exact m_fin0 (iv_fc I) q1
theorem st_sayingOf (I : Iv 0 M) (x y : Int32) (q : ∀ r M1, Aft G jX9_sayingOf [.ref 59, .int x, .int y] r M1 → Q (some (.int r)) (HH M1)) : CW G 11 jX8_sayingOf [.ref 0, .int x, .int y] (HH M) Q := by
  have hw := I.1
  have hp := I.2.1
  have hsr := I.2.2.2.2.1
  have h40 := hw.2.1.2
  have hn : M 60 = M 60 := rfl
  refine CW_wp fX8_sayingOf rfl rfl rfl ?_
  refine c_isSaying hp hw x (fun s hs es => ?_) (fun ns => ?_)
  · rcases n_ix y 8 (by decide) with ⟨w, hw8, ey⟩ | ⟨hy, ny⟩
    · match w, hw8, ey with
      | 0, _, ey =>
        subst ey
        refine xix (n := 40) s es (by omega) (by decide) (fun e => ?_)
        rw [e, show M 5 s = nI (sF (M 60) s 0) from say_f hw hp hs 0 (by decide)]
        refine q _ _ (fun Q1 q1 => ?_)
        refine CW_wp fX9_sayingOf rfl rfl rfl ?_
        refine m_isSaying_t hn hw s hs es ?_
        refine m_within_t 0 0 7 rfl rfl rfl (by decide) (by decide) (by decide) ?_
        refine m_of hn hw s 0 hs (by decide) es rfl (fun r hr => ?_)
        subst hr
        exact q1 _ I
      | 1, _, ey =>
        subst ey
        refine xix (n := 40) s es (by omega) (by decide) (fun e => ?_)
        rw [e, show M 6 s = nI (sF (M 60) s 1) from say_f hw hp hs 1 (by decide)]
        refine q _ _ (fun Q1 q1 => ?_)
        refine CW_wp fX9_sayingOf rfl rfl rfl ?_
        refine m_isSaying_t hn hw s hs es ?_
        refine m_within_t 1 0 7 rfl rfl rfl (by decide) (by decide) (by decide) ?_
        refine m_of hn hw s 1 hs (by decide) es rfl (fun r hr => ?_)
        subst hr
        exact q1 _ I
      | 2, _, ey =>
        subst ey
        refine xix (n := 40) s es (by omega) (by decide) (fun e => ?_)
        rw [e, show M 7 s = nI (sF (M 60) s 2) from say_f hw hp hs 2 (by decide)]
        refine q _ _ (fun Q1 q1 => ?_)
        refine CW_wp fX9_sayingOf rfl rfl rfl ?_
        refine m_isSaying_t hn hw s hs es ?_
        refine m_within_t 2 0 7 rfl rfl rfl (by decide) (by decide) (by decide) ?_
        refine m_of hn hw s 2 hs (by decide) es rfl (fun r hr => ?_)
        subst hr
        exact q1 _ I
      | 3, _, ey =>
        subst ey
        refine xix (n := 40) s es (by omega) (by decide) (fun e => ?_)
        rw [e, show M 8 s = nI (sF (M 60) s 3) from say_f hw hp hs 3 (by decide)]
        refine q _ _ (fun Q1 q1 => ?_)
        refine CW_wp fX9_sayingOf rfl rfl rfl ?_
        refine m_isSaying_t hn hw s hs es ?_
        refine m_within_t 3 0 7 rfl rfl rfl (by decide) (by decide) (by decide) ?_
        refine m_of hn hw s 3 hs (by decide) es rfl (fun r hr => ?_)
        subst hr
        exact q1 _ I
      | 4, _, ey =>
        subst ey
        refine xix (n := 40) s es (by omega) (by decide) (fun e => ?_)
        rw [e, show M 9 s = nI (sF (M 60) s 4) from say_f hw hp hs 4 (by decide)]
        refine q _ _ (fun Q1 q1 => ?_)
        refine CW_wp fX9_sayingOf rfl rfl rfl ?_
        refine m_isSaying_t hn hw s hs es ?_
        refine m_within_t 4 0 7 rfl rfl rfl (by decide) (by decide) (by decide) ?_
        refine m_of hn hw s 4 hs (by decide) es rfl (fun r hr => ?_)
        subst hr
        exact q1 _ I
      | 5, _, ey =>
        subst ey
        refine xix (n := 40) s es (by omega) (by decide) (fun e => ?_)
        rw [e, show M 10 s = nI (sF (M 60) s 5) from say_f hw hp hs 5 (by decide)]
        refine q _ _ (fun Q1 q1 => ?_)
        refine CW_wp fX9_sayingOf rfl rfl rfl ?_
        refine m_isSaying_t hn hw s hs es ?_
        refine m_within_t 5 0 7 rfl rfl rfl (by decide) (by decide) (by decide) ?_
        refine m_of hn hw s 5 hs (by decide) es rfl (fun r hr => ?_)
        subst hr
        exact q1 _ I
      | 6, _, ey =>
        subst ey
        refine c_lastsOf hp hw s hs es (fun r hr => ?_)
        refine q _ _ (fun Q1 q1 => ?_)
        refine CW_wp fX9_sayingOf rfl rfl rfl ?_
        refine m_isSaying_t hn hw s hs es ?_
        refine m_within_t 6 0 7 rfl rfl rfl (by decide) (by decide) (by decide) ?_
        refine m_lasts hn hw s hs es (fun r2 hr2 => ?_)
        rw [← hr] at hr2
        subst hr2
        exact q1 _ I
      | 7, _, ey =>
        subst ey
        refine c_reachOf hp hw s hs es (fun r hr => ?_)
        refine q _ _ (fun Q1 q1 => ?_)
        refine CW_wp fX9_sayingOf rfl rfl rfl ?_
        refine m_isSaying_t hn hw s hs es ?_
        refine m_within_t 7 0 7 rfl rfl rfl (by decide) (by decide) (by decide) ?_
        refine m_reach hn hw s hs es (fun r2 hr2 => ?_)
        rw [← hr] at hr2
        subst hr2
        exact q1 _ I
      | w + 8, hw8, _ => exact absurd hw8 (by omega)
    · have hz : y.toInt < 0 ∨ (7 : Int) < y.toInt := ts_out (n := 7) (by decide) hy
      refine xif hz ?_
      refine c_fin0 ?_
      refine q _ _ (fun Q1 q1 => ?_)
      refine CW_wp fX9_sayingOf rfl rfl rfl ?_
      refine m_isSaying_t (show fc 0 M 60 = M 60 from rfl) hw s hs es ?_
      refine m_within_f 0 7 rfl rfl (by decide) (by decide) (fun k _ hk => ny k (by omega)) ?_
      exact m_fin0 (iv_fc I) q1
  · refine c_fin0 ?_
    refine q _ _ (fun Q1 q1 => ?_)
    refine CW_wp fX9_sayingOf rfl rfl rfl ?_
    refine m_isSaying_f (show fc 0 M 60 = M 60 from rfl) hw ns ?_
    exact m_fin0 (iv_fc I) q1
theorem st_age (I : Iv 0 M) (x y : Int32) (q : ∀ r M1, Aft G jX9_age [.ref 59, .int x, .int y] r M1 → Q (some (.int r)) (HH M1)) : CW G 11 jX8_age [.ref 0, .int x, .int y] (HH M) Q := by
  have hw := I.1
  have hp := I.2.1
  have hsr := I.2.2.2.2.1
  have h40 := hw.2.1.2
  have hn : M 60 = M 60 := rfl
  refine CW_wp fX8_age rfl rfl rfl ?_
  refine c_isSaying hp hw x (fun s hs es => ?_) (fun ns => ?_)
  · refine c_isDay y (fun a ha ea => ?_) (fun na => ?_)
    · have hl := (hw.2.2.2.2.2.2.2.1 s hs).2.2.2.2.2.2
      refine xix (n := 40) s es (by omega) (by decide) (fun e => ?_)
      rw [e, show M 10 s = nI (sF (M 60) s 5) from say_f hw hp hs 5 (by decide)]
      have h0 := hw.1.2
      refine xlt (sF (M 60) s 5) a rfl ea (by omega) (by omega) (fun c => ?_) (fun c => ?_)
      · refine xix (n := 40) s es (by omega) (by decide) (fun e2 => ?_)
        rw [e2, show M 10 s = nI (sF (M 60) s 5) from say_f hw hp hs 5 (by decide)]
        refine c_ageOf hp hw (sF (M 60) s 5) a rfl ea (by omega) (by omega) (fun r hr => ?_)
        refine q _ _ (fun Q1 q1 => ?_)
        refine CW_wp fX9_age rfl rfl rfl ?_
        refine m_isSaying_t hn hw s hs es ?_
        refine m_isDay_t a ha ea ?_
        refine m_of hn hw s 5 hs (by decide) es rfl (fun r1 hr1 => ?_)
        refine xle a (sF (M 60) s 5) ea hr1 (by omega) (by omega) (fun c2 => absurd c2 (by omega)) (fun c2 => ?_)
        refine m_ageOf hn hw s a hs ha (by omega) es ea (fun r2 hr2 => ?_)
        have e3 : r2 = r := hr2.trans hr.symm
        subst e3
        exact q1 _ I
      · refine c_fin4 ?_
        refine q _ _ (fun Q1 q1 => ?_)
        refine CW_wp fX9_age rfl rfl rfl ?_
        refine m_isSaying_t (show fc 4 M 60 = M 60 from rfl) hw s hs es ?_
        refine m_isDay_t a ha ea ?_
        refine m_of (show fc 4 M 60 = M 60 from rfl) hw s 5 hs (by decide) es rfl (fun r1 hr1 => ?_)
        refine xle a (sF (M 60) s 5) ea hr1 (by omega) (by omega) (fun c2 => ?_) (fun c2 => absurd c2 (by omega))
        exact m_fin4 (iv_fc I) q1
    · refine c_fin0 ?_
      refine q _ _ (fun Q1 q1 => ?_)
      refine CW_wp fX9_age rfl rfl rfl ?_
      refine m_isSaying_t (show fc 0 M 60 = M 60 from rfl) hw s hs es ?_
      refine m_isDay_f na ?_
      exact m_fin0 (iv_fc I) q1
  · refine c_fin0 ?_
    refine q _ _ (fun Q1 q1 => ?_)
    refine CW_wp fX9_age rfl rfl rfl ?_
    refine m_isSaying_f (show fc 0 M 60 = M 60 from rfl) hw ns ?_
    exact m_fin0 (iv_fc I) q1
theorem st_over (I : Iv 0 M) (x : Int32) (q : ∀ r M1, Aft G jX9_over [.ref 59, .int x] r M1 → Q (some (.int r)) (HH M1)) : CW G 11 jX8_over [.ref 0, .int x] (HH M) Q := by
  have hw := I.1
  have hp := I.2.1
  have hsr := I.2.2.2.2.1
  have h40 := hw.2.1.2
  have hn : M 60 = M 60 := rfl
  refine CW_wp fX8_over rfl rfl rfl ?_
  refine c_isSaying hp hw x (fun s hs es => ?_) (fun ns => ?_)
  · refine c_firstOver hp hw s hs es (fun k hk => ?_) (fun hk => ?_)
    · have hk2 := foS_lt hk
      refine xif (nI_pos' (show k < 2 ^ 31 by omega)) ?_
      refine q _ _ (fun Q1 q1 => ?_)
      refine CW_wp fX9_over rfl rfl rfl ?_
      refine m_isSaying_t hn hw s hs es ?_
      refine m_overOf hn hw s hs es (fun k2 hk3 => ?_) (fun hk3 => by rw [hk] at hk3; cases hk3)
      have e : k = k2 := by rw [hk] at hk3; exact Option.some.inj hk3
      subst e
      refine xif (nI_pos' (show k < 2 ^ 31 by omega)) ?_
      exact q1 _ I
    · refine c_fin3 ?_
      refine q _ _ (fun Q1 q1 => ?_)
      refine CW_wp fX9_over rfl rfl rfl ?_
      refine m_isSaying_t (show fc 3 M 60 = M 60 from rfl) hw s hs es ?_
      refine m_overOf (show fc 3 M 60 = M 60 from rfl) hw s hs es (fun k2 hk3 => by rw [hk] at hk3; cases hk3) (fun hk3 => ?_)
      exact m_fin3 (iv_fc I) q1
  · refine c_fin0 ?_
    refine q _ _ (fun Q1 q1 => ?_)
    refine CW_wp fX9_over rfl rfl rfl ?_
    refine m_isSaying_f (show fc 0 M 60 = M 60 from rfl) hw ns ?_
    exact m_fin0 (iv_fc I) q1
theorem st_until (I : Iv 0 M) (x : Int32) (q : ∀ r M1, Aft G jX9_until [.ref 59, .int x] r M1 → Q (some (.int r)) (HH M1)) : CW G 11 jX8_until [.ref 0, .int x] (HH M) Q := by
  have hw := I.1
  have hp := I.2.1
  have hsr := I.2.2.2.2.1
  have h40 := hw.2.1.2
  have hn : M 60 = M 60 := rfl
  refine CW_wp fX8_until rfl rfl rfl ?_
  refine c_isSaying hp hw x (fun s hs es => ?_) (fun ns => ?_)
  · refine c_lastDayOf hp hw s hs es (fun L h1 h2 h3 h4 r hr => ?_)
    have hno : ∀ i, L < i → i < 100 → hdS (M 60) s i = false := fun i hi hi2 => by
      rcases h4 with h4 | h4
      · omega
      · cases hz : hdS (M 60) s i with
        | false => rfl
        | true => rw [hd_mono hz (show sF (M 60) s 5 < L + 1 by omega) (by omega)] at h4; cases h4
    by_cases c : L = sF (M 60) s 5
    · rw [if_pos c] at hr
      subst hr
      refine c_fin3 ?_
      refine q _ _ (fun Q1 q1 => ?_)
      refine CW_wp fX9_until rfl rfl rfl ?_
      refine m_isSaying_t (show fc 3 M 60 = M 60 from rfl) hw s hs es ?_
      have key : ∀ k, k ≤ 100 → Ev G 11 jX9_until 18 [some (.ref 59), some (.int x), some (.int (nI k + (-1)))] [] (HH (fc 3 M)) 0 0 Q1 := by
        intro k
        induction k with
        | zero =>
          intro _
          refine Ev_wp fX9_until rfl ?_
          exact m_fin3 (iv_fc I) q1
        | succ k ih =>
          intro hk
          rw [pk_m1]
          refine Ev_wp fX9_until rfl ?_
          refine xelse (nI_pos (by omega)) ?_
          refine m_isHeard (show fc 3 M 60 = M 60 from rfl) hw s k hs (by omega) es rfl (fun c2 => ?_) (fun c2 => ?_)
          · have h5 := hd_lt c2
            rw [hno k (by omega) (by omega)] at c2; cases c2
          · exact ih (by omega)
      exact key 100 (by decide)
    · rw [if_neg c] at hr
      subst hr
      refine xif (nI_pos' (show L < 2 ^ 31 by omega)) ?_
      refine q _ _ (fun Q1 q1 => ?_)
      refine CW_wp fX9_until rfl rfl rfl ?_
      refine m_isSaying_t hn hw s hs es ?_
      have key : ∀ k, k ≤ 100 → L < k → Ev G 11 jX9_until 18 [some (.ref 59), some (.int x), some (.int (nI k + (-1)))] [] (HH M) 0 0 Q1 := by
        intro k
        induction k with
        | zero => intro _ h; omega
        | succ k ih =>
          intro hk hLk
          rw [pk_m1]
          refine Ev_wp fX9_until rfl ?_
          refine xelse (nI_pos (by omega)) ?_
          refine m_isHeard hn hw s k hs (by omega) es rfl (fun c2 => ?_) (fun c2 => ?_)
          · have e : k = L := by
              by_cases z : L < k
              · rw [hno k z (by omega)] at c2; cases c2
              · omega
            subst e
            exact q1 _ I
          · refine ih (by omega) ?_
            by_cases z : k = L
            · subst z
              rw [h3 k (by omega) (Nat.le_refl _)] at c2; cases c2
            · omega
      exact key 100 (by decide) (by omega)
  · refine c_fin0 ?_
    refine q _ _ (fun Q1 q1 => ?_)
    refine CW_wp fX9_until rfl rfl rfl ?_
    refine m_isSaying_f (show fc 0 M 60 = M 60 from rfl) hw ns ?_
    exact m_fin0 (iv_fc I) q1
theorem st_reaches (I : Iv 0 M) (x y : Int32) (q : ∀ r M1, Aft G jX9_reaches [.ref 59, .int x, .int y] r M1 → Q (some (.int r)) (HH M1)) : CW G 11 jX8_reaches [.ref 0, .int x, .int y] (HH M) Q := by
  have hw := I.1
  have hp := I.2.1
  have hsr := I.2.2.2.2.1
  have h40 := hw.2.1.2
  have hn : M 60 = M 60 := rfl
  refine CW_wp fX8_reaches rfl rfl rfl ?_
  refine c_isSaying hp hw x (fun s hs es => ?_) (fun ns => ?_)
  · refine c_isDay y (fun a ha ea => ?_) (fun na => ?_)
    · refine c_isHeard hp hw s a hs (by omega) es ea (fun c => ?_) (fun c => ?_)
      · refine c_around hp hw s hs es (fun r hr => ?_)
        refine q _ _ (fun Q1 q1 => ?_)
        refine CW_wp fX9_reaches rfl rfl rfl ?_
        refine m_isSaying_t hn hw s hs es ?_
        refine m_isDay_t a ha ea ?_
        refine m_isHeard hn hw s a hs ha es ea (fun c2 => ?_) (fun c2 => by rw [c] at c2; cases c2)
        refine m_reachesOf hn hw hsr s hs es (fun M' hm r2 hr2 => ?_)
        have e3 : r2 = r := hr2.trans hr.symm
        subst e3
        exact q1 _ (I.rm hm)
      · refine q _ _ (fun Q1 q1 => ?_)
        refine CW_wp fX9_reaches rfl rfl rfl ?_
        refine m_isSaying_t hn hw s hs es ?_
        refine m_isDay_t a ha ea ?_
        refine m_isHeard hn hw s a hs ha es ea (fun c2 => by rw [c] at c2; cases c2) (fun c2 => ?_)
        exact q1 _ I
    · refine c_fin0 ?_
      refine q _ _ (fun Q1 q1 => ?_)
      refine CW_wp fX9_reaches rfl rfl rfl ?_
      refine m_isSaying_t (show fc 0 M 60 = M 60 from rfl) hw s hs es ?_
      refine m_isDay_f na ?_
      exact m_fin0 (iv_fc I) q1
  · refine c_fin0 ?_
    refine q _ _ (fun Q1 q1 => ?_)
    refine CW_wp fX9_reaches rfl rfl rfl ?_
    refine m_isSaying_f (show fc 0 M 60 = M 60 from rfl) hw ns ?_
    exact m_fin0 (iv_fc I) q1
theorem st_drowns (I : Iv 0 M) (x : Int32) (q : ∀ r M1, Aft G jX9_drowns [.ref 59, .int x] r M1 → Q (some (.int r)) (HH M1)) : CW G 11 jX8_drowns [.ref 0, .int x] (HH M) Q := by
  have hw := I.1
  have hp := I.2.1
  have hsr := I.2.2.2.2.1
  have h40 := hw.2.1.2
  have hn : M 60 = M 60 := rfl
  refine CW_wp fX8_drowns rfl rfl rfl ?_
  refine c_isSaying hp hw x (fun s hs es => ?_) (fun ns => ?_)
  · have wa := hw.2.2.2.2.2.2.2.1 s hs
    refine xix (n := 40) s es (by omega) (by decide) (fun e => ?_)
    rw [e, show M 5 s = nI (sF (M 60) s 0) from say_f hw hp hs 0 (by decide)]
    refine c_canYield (HH M) (sF (M 60) s 0) 0 wa.1 (by decide) rfl rfl (fun c => ?_) (fun c => ?_)
    · refine xix (n := 40) s es (by omega) (by decide) (fun e => ?_)
      rw [e, show M 7 s = nI (sF (M 60) s 2) from say_f hw hp hs 2 (by decide)]
      refine q _ _ (fun Q1 q1 => ?_)
      refine CW_wp fX9_drowns rfl rfl rfl ?_
      refine m_isSaying_t hn hw s hs es ?_
      refine m_of hn hw s 0 hs (by decide) es rfl (fun r1 hr1 => ?_)
      refine xeq (sF (M 60) s 0) 5 hr1 rfl (by omega) (by decide) (fun z => by simp [yieldK, z] at c) (fun z => ?_)
      refine m_of hn hw s 2 hs (by decide) es rfl (fun r2 hr2 => ?_)
      subst hr2
      exact q1 _ I
    · refine c_fin3 ?_
      refine q _ _ (fun Q1 q1 => ?_)
      refine CW_wp fX9_drowns rfl rfl rfl ?_
      refine m_isSaying_t (show fc 3 M 60 = M 60 from rfl) hw s hs es ?_
      refine m_of (show fc 3 M 60 = M 60 from rfl) hw s 0 hs (by decide) es rfl (fun r1 hr1 => ?_)
      refine xeq (sF (M 60) s 0) 5 hr1 rfl (by omega) (by decide) (fun z => ?_) (fun z => by simp [yieldK, z] at c)
      exact m_fin3 (iv_fc I) q1
  · refine c_fin0 ?_
    refine q _ _ (fun Q1 q1 => ?_)
    refine CW_wp fX9_drowns rfl rfl rfl ?_
    refine m_isSaying_f (show fc 0 M 60 = M 60 from rfl) hw ns ?_
    exact m_fin0 (iv_fc I) q1
end Q1
