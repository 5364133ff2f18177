/-! rain, keep, seed, days, hold, turn, tear, wipe: the class beside the model. -/
section S2
variable {G : xG} {M : xM} {Q : Option Value → xH → Prop}
theorem m_become {d : Nat} {x v : Int32} (k : Nat) (hk : k < 598) (hx : x = nI k) (q : Q (some (.int (M 60 k))) (HH (xup M 60 k v))) : CW G d jX9_become [.ref 59, .int x, .int v] (HH M) Q := by
  refine CW_wp fX9_become rfl rfl rfl ?_
  refine xix (n := 598) k hx hk (by decide) (fun e => ?_)
  refine xix (n := 598) k hx hk (by decide) (fun e2 => ?_)
  rw [e]
  exact q
theorem st_rain (I : Iv 0 M) (x y : Int32) (hy : y = 0 ∨ y = 1) (q : ∀ r M1, Aft G jX9_rain [.ref 59, .int x, .int y] r M1 → Q (some (.int r)) (HH M1)) : CW G 11 jX8_rain [.ref 0, .int x, .int y] (HH M) Q := by
  have hw := I.1
  have hp := I.2.1
  have hsr := I.2.2.2.2.1
  have h40 := hw.2.1.2
  have hn : M 60 = M 60 := rfl
  refine CW_wp fX8_rain rfl rfl rfl ?_
  refine c_isDay x (fun D hD eD => ?_) (fun nD => ?_)
  · rcases hy with rfl | rfl
    · refine xix (n := 100) D eD hD (by decide) (fun e => ?_)
      refine xix (n := 100) D eD hD (by decide) (fun e2 => ?_)
      rw [e, show M 13 D = M 60 (4 + D) from hp.2.2.2.2.1 D hD]
      refine q _ _ (fun Q1 q1 => ?_)
      refine CW_wp fX9_rain rfl rfl rfl ?_
      refine m_isDay_t D hD eD ?_
      refine m_become (4 + D) (by omega) (ia rfl eD) ?_
      exact q1 _ (iv_rain I D hD 0 (by decide) 0 rfl)
    · refine xix (n := 100) D eD hD (by decide) (fun e => ?_)
      refine xix (n := 100) D eD hD (by decide) (fun e2 => ?_)
      rw [e, show M 13 D = M 60 (4 + D) from hp.2.2.2.2.1 D hD]
      refine q _ _ (fun Q1 q1 => ?_)
      refine CW_wp fX9_rain rfl rfl rfl ?_
      refine m_isDay_t D hD eD ?_
      refine m_become (4 + D) (by omega) (ia rfl eD) ?_
      exact q1 _ (iv_rain I D hD 1 (by decide) 1 rfl)
  · refine c_fin0 ?_
    refine q _ _ (fun Q1 q1 => ?_)
    refine CW_wp fX9_rain rfl rfl rfl ?_
    refine m_isDay_f nD ?_
    exact m_fin0 (iv_fc I) q1
theorem st_keep (I : Iv 0 M) (x : Int32) (q : ∀ r M1, Aft G jX9_keep [.ref 59, .int x] r M1 → Q (some (.int r)) (HH M1)) : CW G 11 jX8_keep [.ref 0, .int x] (HH M) Q := by
  have hw := I.1
  have hp := I.2.1
  have hsr := I.2.2.2.2.1
  have h40 := hw.2.1.2
  have hn : M 60 = M 60 := rfl
  refine CW_wp fX8_keep rfl rfl rfl ?_
  rcases n_i1 x 20 (by decide) with ⟨u, hu1, hu2, ex⟩ | ⟨hx, nx⟩
  · refine xelse (by rw [ex]; exact nI_nlt (b := 1) hu1 (by omega)) ?_
    refine xif (by rw [ex]; exact nI_le (b := 20) hu2 (by decide)) ?_
    refine (show Q (some (.int (M 1 6))) (HH (xup M 1 6 x)) from ?_)
    rw [show M 1 6 = M 60 2 from hp.2.2.1]
    refine q _ _ (fun Q1 q1 => ?_)
    refine CW_wp fX9_keep rfl rfl rfl ?_
    refine m_within_t u 1 20 ex rfl rfl hu1 hu2 (by decide) ?_

    refine m_become 2 (by decide) rfl ?_
    exact q1 _ (iv_keep I u ⟨hu1, hu2⟩ x ex)
  · refine xite (fun c => ?_) (fun c => ?_)
    · refine c_fin0 ?_
      refine q _ _ (fun Q1 q1 => ?_)
      refine CW_wp fX9_keep rfl rfl rfl ?_
      refine m_within_f 1 20 rfl rfl (by decide) (by decide) nx ?_
      exact m_fin0 (iv_fc I) q1
    · refine xelse (by exact Int32.not_le.mpr (hx.resolve_left c)) ?_
      refine c_fin0 ?_
      refine q _ _ (fun Q1 q1 => ?_)
      refine CW_wp fX9_keep rfl rfl rfl ?_
      refine m_within_f 1 20 rfl rfl (by decide) (by decide) nx ?_
      exact m_fin0 (iv_fc I) q1
theorem st_seed (I : Iv 0 M) (x : Int32) (q : ∀ r M1, Aft G jX9_seed [.ref 59, .int x] r M1 → Q (some (.int r)) (HH M1)) : CW G 11 jX8_seed [.ref 0, .int x] (HH M) Q := by
  have hw := I.1
  have hp := I.2.1
  have hsr := I.2.2.2.2.1
  have h40 := hw.2.1.2
  have hn : M 60 = M 60 := rfl
  refine CW_wp fX8_seed rfl rfl rfl ?_
  refine (show Q (some (.int (M 1 7))) (HH (xup M 1 7 x)) from ?_)
  rw [show M 1 7 = M 60 3 from hp.2.2.2.1]
  refine q _ _ (fun Q1 q1 => ?_)
  refine CW_wp fX9_seed rfl rfl rfl ?_
  refine m_become 3 (by decide) rfl ?_
  exact q1 _ (iv_seed I x)
theorem st_days (I : Iv 0 M) (x : Int32) (q : ∀ r M1, Aft G jX9_days [.ref 59, .int x] r M1 → Q (some (.int r)) (HH M1)) : CW G 11 jX8_days [.ref 0, .int x] (HH M) Q := by
  have hw := I.1
  have hp := I.2.1
  have hsr := I.2.2.2.2.1
  have h40 := hw.2.1.2
  have hn : M 60 = M 60 := rfl
  refine CW_wp fX8_days rfl rfl rfl ?_
  rcases n_i1 x 20 (by decide) with ⟨u, hu1, hu2, ex⟩ | ⟨hx, nx⟩
  · refine xelse (by rw [ex]; exact nI_nlt (b := 1) hu1 (by omega)) ?_
    refine xif (by rw [ex]; exact nI_le (b := 20) hu2 (by decide)) ?_
    have hT := hw.1.2
    have e5 : M 1 5 = nI (vN (M 60) 0) := hp.1.trans hw.1.1
    refine xlt (vN (M 60) 0 + u) 100 (ia e5 ex) rfl (by omega) (by decide) (fun c => ?_) (fun c => ?_)
    · refine q _ _ (fun Q1 q1 => ?_)
      refine CW_wp fX9_days rfl rfl rfl ?_
      refine m_within_t u 1 20 ex rfl rfl hu1 hu2 (by decide) ?_

      refine xlt (vN (M 60) 0 + u) 100 (show M 60 0 + x = nI (vN (M 60) 0 + u) from ia hw.1.1 ex) rfl (by omega) (by decide) (fun c2 => ?_) (fun c2 => absurd c2 (by omega))
      rw [show M 1 5 = M 60 0 from hp.1] at q1
      refine q1 _ ?_
      show Iv 0 (xup (xup M 1 5 (M 1 5 + x)) 60 0 (M 60 0 + x))
      rw [show M 1 5 = M 60 0 from hp.1]
      exact iv_days I (vN (M 60) 0 + u) c (by omega) (M 60 0 + x) (ia hw.1.1 ex)
    · refine c_fin4 ?_
      refine q _ _ (fun Q1 q1 => ?_)
      refine CW_wp fX9_days rfl rfl rfl ?_
      refine m_within_t u 1 20 ex rfl rfl hu1 hu2 (by decide) ?_

      refine xlt (vN (M 60) 0 + u) 100 (show M 60 0 + x = nI (vN (M 60) 0 + u) from ia hw.1.1 ex) rfl (by omega) (by decide) (fun c2 => absurd c2 (by omega)) (fun c2 => ?_)
      exact m_fin4 (iv_fc I) q1
  · refine xite (fun c => ?_) (fun c => ?_)
    · refine c_fin0 ?_
      refine q _ _ (fun Q1 q1 => ?_)
      refine CW_wp fX9_days rfl rfl rfl ?_
      refine m_within_f 1 20 rfl rfl (by decide) (by decide) nx ?_
      exact m_fin0 (iv_fc I) q1
    · refine xelse (by exact Int32.not_le.mpr (hx.resolve_left c)) ?_
      refine c_fin0 ?_
      refine q _ _ (fun Q1 q1 => ?_)
      refine CW_wp fX9_days rfl rfl rfl ?_
      refine m_within_f 1 20 rfl rfl (by decide) (by decide) nx ?_
      exact m_fin0 (iv_fc I) q1
theorem st_hold (I : Iv 0 M) (x y : Int32) (q : ∀ r M1, Aft G jX9_hold [.ref 59, .int x, .int y] r M1 → Q (some (.int r)) (HH M1)) : CW G 11 jX8_hold [.ref 0, .int x, .int y] (HH M) Q := by
  have hw := I.1
  have hp := I.2.1
  have hsr := I.2.2.2.2.1
  have h40 := hw.2.1.2
  have hn : M 60 = M 60 := rfl
  refine CW_wp fX8_hold rfl rfl rfl ?_
  refine c_isSpot x (fun j hj ej => ?_) (fun nj => ?_)
  · refine c_isSaying hp hw y (fun s hs es => ?_) (fun ns => ?_)
    · refine xix (n := 10) j ej hj (by decide) (fun e => ?_)
      rw [e]
      refine q _ _ (fun Q1 q1 => ?_)
      refine CW_wp fX9_hold rfl rfl rfl ?_
      refine m_within_t j 0 9 ej rfl rfl (Nat.zero_le _) (by omega) (by decide) ?_
      refine xelse (by rw [es]; exact nm1 (by omega)) ?_
      refine m_isSaying_t (show (xup M 14 j y) 60 = M 60 from rfl) hw s hs es ?_
      refine xix (n := 598) (588 + j) (ia rfl ej) (by omega) (by decide) (fun e => ?_)
      rw [e]
      exact q1 _ (iv_hold I j hj y (Or.inr ⟨s, hs, es⟩))
    · refine xite (fun c => ?_) (fun c => ?_)
      · refine xix (n := 10) j ej hj (by decide) (fun e => ?_)
        rw [e]
        refine q _ _ (fun Q1 q1 => ?_)
        refine CW_wp fX9_hold rfl rfl rfl ?_
        refine m_within_t j 0 9 ej rfl rfl (Nat.zero_le _) (by omega) (by decide) ?_
        refine xif c ?_
        refine xix (n := 598) (588 + j) (ia rfl ej) (by omega) (by decide) (fun e => ?_)
        rw [e]
        exact q1 _ (iv_hold I j hj y (Or.inl c))
      · refine c_fin0 ?_
        refine q _ _ (fun Q1 q1 => ?_)
        refine CW_wp fX9_hold rfl rfl rfl ?_
        refine m_within_t j 0 9 ej rfl rfl (Nat.zero_le _) (by omega) (by decide) ?_
        refine xelse c ?_
        refine m_isSaying_f (show fc 0 M 60 = M 60 from rfl) hw ns ?_
        exact m_fin0 (iv_fc I) q1
  · refine c_fin0 ?_
    refine q _ _ (fun Q1 q1 => ?_)
    refine CW_wp fX9_hold rfl rfl rfl ?_
    refine m_within_f 0 9 rfl rfl (by decide) (by decide) (fun k _ hk => nj k (by omega)) ?_
    exact m_fin0 (iv_fc I) q1
theorem st_turn (I : Iv 0 M) (x y : Int32) (q : ∀ r M1, Aft G jX9_turn [.ref 59, .int x, .int y] r M1 → Q (some (.int r)) (HH M1)) : CW G 11 jX8_turn [.ref 0, .int x, .int y] (HH M) Q := by
  have hw := I.1
  have hp := I.2.1
  have hsr := I.2.2.2.2.1
  have h40 := hw.2.1.2
  have hn : M 60 = M 60 := rfl
  refine CW_wp fX8_turn rfl rfl rfl ?_
  refine c_isSaying hp hw x (fun s hs es => ?_) (fun ns => ?_)
  · refine c_isKind y (fun u hu eu => ?_) (fun nu => ?_)
    · refine xix (n := 40) s es (by omega) (by decide) (fun e => ?_)
      refine xix (n := 40) s es (by omega) (by decide) (fun e2 => ?_)
      rw [e, show M 5 s = M 60 (204 + 6 * s + 0) from hp.2.2.2.2.2.2.1 s hs 0 (by decide)]
      refine q _ _ (fun Q1 q1 => ?_)
      refine CW_wp fX9_turn rfl rfl rfl ?_
      refine m_isSaying_t (show (xup M 5 s y) 60 = M 60 from rfl) hw s hs es ?_
      refine m_within_t u 0 6 eu rfl rfl (Nat.zero_le _) (by omega) (by decide) ?_
      refine m_become (204 + 6 * s + 0) (by omega) (ia (ia rfl (im rfl es)) rfl) ?_
      exact q1 _ (iv_turn I s hs u hu y eu)
    · refine c_fin0 ?_
      refine q _ _ (fun Q1 q1 => ?_)
      refine CW_wp fX9_turn rfl rfl rfl ?_
      refine m_isSaying_t (show fc 0 M 60 = M 60 from rfl) hw s hs es ?_
      refine m_within_f 0 6 rfl rfl (by decide) (by decide) (fun k _ hk => nu k (by omega)) ?_
      exact m_fin0 (iv_fc I) q1
  · refine c_fin0 ?_
    refine q _ _ (fun Q1 q1 => ?_)
    refine CW_wp fX9_turn rfl rfl rfl ?_
    refine m_isSaying_f (show fc 0 M 60 = M 60 from rfl) hw ns ?_
    exact m_fin0 (iv_fc I) q1
theorem iv_tear (I : Iv 0 M) : Iv 0 (xup (xup M 0 3 0) 59 2 0) := by
  obtain ⟨i1, i2, i3, i4, i5, i6, i7, i8⟩ := I
  exact ⟨i1, (i2.up (by decide)).up (by decide), Or.inl ⟨rfl, rfl⟩, i4, i5, i6, i7, i8⟩
theorem iv_wipe (I : Iv 0 M) : Iv 0 (xup (xup M 43 0 0) 59 10 0) := by
  obtain ⟨i1, i2, i3, i4, i5, i6, i7, i8⟩ := I
  refine ⟨i1, (i2.up (by decide)).up (by decide), ?_, i4, i5, i6, ⟨0, by decide, rfl, rfl, fun i hi => absurd hi (Nat.not_lt_zero _)⟩, i8⟩
  rcases i3 with i3 | ⟨a, b, c, d⟩
  · exact Or.inl i3
  · exact Or.inr ⟨a, b, c, (d.up (by decide)).up (by decide)⟩
theorem st_tear (I : Iv 0 M) (q : ∀ r M1, Aft G jX9_tear [.ref 59] r M1 → Q (some (.int r)) (HH M1)) : CW G 11 jX8_tear [.ref 0] (HH M) Q := by
  have hw := I.1
  have hp := I.2.1
  have hsr := I.2.2.2.2.1
  have h40 := hw.2.1.2
  have hn : M 60 = M 60 := rfl
  refine CW_wp fX8_tear rfl rfl rfl ?_
  have i3 := I.2.2.1
  have hcl : ∀ (v : Int32), M 0 3 = v → M 59 2 = v → (v = 0 ∨ v = 1) → Q (some (.int (if v = 0 then 0 else 1))) (HH (xup M 0 3 0)) := fun v h1 h2 h3 => by
    refine q _ _ (fun Q1 q1 => ?_)
    refine CW_wp fX9_tear rfl rfl rfl ?_
    refine xite (fun c => ?_) (fun c => ?_)
    · rw [if_pos (by rw [← h2]; exact c)] at q1
      exact q1 _ (iv_tear I)
    · rw [if_neg (by rw [← h2]; exact c)] at q1
      exact q1 _ (iv_tear I)
  rcases i3 with ⟨h1, h2⟩ | ⟨h1, h2, -⟩
  · refine xif h1 ?_
    have h3 := hcl 0 h1 h2 (Or.inl rfl)
    exact h3
  · refine xelse (b1 h1) ?_
    have h3 := hcl 1 h1 h2 (Or.inr rfl)
    exact h3
theorem c_clear {d : Nat} (q : Q (some (.int (M 43 0))) (HH (xup M 43 0 0))) : CW G d jX2_clear [.ref 43] (HH M) Q := by
  refine CW_wp fX2_clear rfl rfl rfl ?_
  exact q
theorem st_wipe (I : Iv 0 M) (q : ∀ r M1, Aft G jX9_wipe [.ref 59] r M1 → Q (some (.int r)) (HH M1)) : CW G 11 jX8_wipe [.ref 0] (HH M) Q := by
  have hw := I.1
  have hp := I.2.1
  have hsr := I.2.2.2.2.1
  have h40 := hw.2.1.2
  have hn : M 60 = M 60 := rfl
  refine CW_wp fX8_wipe rfl rfl rfl ?_
  obtain ⟨T, t1, t2, t3, t4⟩ := I.2.2.2.2.2.2.1
  refine c_clear ?_
  rw [show M 43 0 = M 59 10 from t2.trans t3.symm]
  refine q _ _ (fun Q1 q1 => ?_)
  refine CW_wp fX9_wipe rfl rfl rfl ?_
  exact q1 _ (iv_wipe I)
end S2
